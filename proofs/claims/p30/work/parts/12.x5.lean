set_option maxHeartbeats 4000000 in
set_option maxRecDepth 100000 in
theorem t_X5_size (l : Launch) (Y : Yt) (σ : Mem) (k : Nat) (P : List Pt) (hk : isRow Y k) (hR : RowIs σ k P) : MXi l LX Y yX5_size wsX5_size { frames := 0, cells := 0, slots := 0, locals := 0 } [.ref (Y.2.1 (k))] σ (fun z u => u = σ ∧ (z = P.length)) := by
  obtain ⟨hn, h12, hP⟩ := id hR
  refine g_starti (rty := .int) (fun _ _ _ => rfl) (cc := cX5_size) (nL := 1) (own := RX5) (by decide) rfl rfl (Nat.le_of_ble_eq_true rfl) ?_
  intro pp ee ss mm bw mt cd AA ZZ ls G hret X hl
  have hl : lv_has ls 1 [(0, .ref (Y.2.1 (k)))] := hl
  have hx := G.1
  have hb := G.2.1
  have hts := G.2.2.2.2.1
  have l_f21 := hts (.fieldLink RX5 21 "ShapeFits$PointRow" "count" "I") (List.mem_of_getElem? (i := 1) rfl)
  have in_X5 : ∀ w ∈ u_ws RX5 TX5 4, w ∈ wsX5_size := by decide +kernel
  refine lv_aload_n hx hb dX5_size_0 rfl (lv_at hl 0 rfl) ?_
  refine g_get G X (k := k) (fs := fRow k Y) hk.k0 hk.2.1 rfl in_X5 3 (by decide) l_f21 rfl (v := .int (iI ((σ k 3)))) rfl dX5_size_1 ?_
  exact hret _ _ _ _ _ _ (⟨rfl, by omega⟩) X dX5_size_4

set_option maxHeartbeats 4000000 in
set_option maxRecDepth 100000 in
theorem t_X5_has (l : Launch) (Y : Yt) (σ : Mem) (k : Nat) (P : List Pt) (x : Int) (hk : isRow Y k) (hR : RowIs σ k P) (hx0 : -2147483648 ≤ x ∧ x ≤ 2147483647) : MXi l LX Y yX5_has wsX5_has { frames := 0, cells := 0, slots := 0, locals := 0 } [.ref (Y.2.1 (k)), .int (iI (x))] σ (fun z u => u = σ ∧ ((z = 1 ∧ 0 ≤ x ∧ x < P.length) ∨ (z = 0 ∧ ¬ (0 ≤ x ∧ x < P.length)))) := by
  obtain ⟨hn, h12, hP⟩ := id hR
  refine g_starti (rty := .boolean) (fun z u h => nrZ (by have := h.2; omega)) (cc := cX5_has) (nL := 2) (own := RX5) (by decide) rfl rfl (Nat.le_of_ble_eq_true rfl) ?_
  intro pp ee ss mm bw mt cd AA ZZ ls G hret X hl
  have hl : lv_has ls 2 [(0, .ref (Y.2.1 (k))), (1, .int (iI (x)))] := hl
  have hx := G.1
  have hb := G.2.1
  have hts := G.2.2.2.2.1
  have l_f21 := hts (.fieldLink RX5 21 "ShapeFits$PointRow" "count" "I") (List.mem_of_getElem? (i := 1) rfl)
  have in_X5 : ∀ w ∈ u_ws RX5 TX5 4, w ∈ wsX5_has := by decide +kernel
  refine lv_iload_n hx hb dX5_has_0 rfl (lv_at hl 1 rfl) ?_
  refine g_if_lt (tgt := 16) G dX5_has_1 (by decide) (by omega) (fun h1 => ?_) (fun h1 => ?_)
  ·
    refine lv_iconst (v := iI 0) hx hb dX5_has_16 rfl ?_
    exact hret _ _ _ _ _ _ (⟨rfl, by omega⟩) X dX5_has_17
  ·
    refine lv_iload_n hx hb dX5_has_4 rfl (lv_at hl 1 rfl) ?_
    refine lv_aload_n hx hb dX5_has_5 rfl (lv_at hl 0 rfl) ?_
    refine g_get G X (k := k) (fs := fRow k Y) hk.k0 hk.2.1 rfl in_X5 3 (by decide) l_f21 rfl (v := .int (iI ((σ k 3)))) rfl dX5_has_6 ?_
    refine g_icmp_ge (tgt := 16) G dX5_has_9 (by decide) (by omega) (by omega) (fun h9 => ?_) (fun h9 => ?_)
    ·
      refine lv_iconst (v := iI 0) hx hb dX5_has_16 rfl ?_
      exact hret _ _ _ _ _ _ (⟨rfl, by omega⟩) X dX5_has_17
    ·
      refine lv_iconst (v := iI 1) hx hb dX5_has_12 rfl ?_
      refine lv_goto (tgt := 17) hx hb dX5_has_13 (by decide) ?_
      exact hret _ _ _ _ _ _ (⟨rfl, by omega⟩) X dX5_has_17

set_option maxHeartbeats 4000000 in
set_option maxRecDepth 100000 in
theorem t_X5_positionOf (l : Launch) (Y : Yt) (σ : Mem) (k : Nat) (P : List Pt) (x : Int) (hk : isRow Y k) (hR : RowIs σ k P) (hx0 : -2147483648 ≤ x ∧ x ≤ 2147483647) : MXi l LX Y yX5_positionOf wsX5_positionOf { frames := 1, cells := 0, slots := 0, locals := 21 } [.ref (Y.2.1 (k)), .int (iI (x))] σ (fun z u => u = σ ∧ ((0 ≤ x ∧ x < P.length → z = px P x) ∧ (¬ (0 ≤ x ∧ x < P.length) → z = 0))) := by
  obtain ⟨hn, h12, hP⟩ := id hR
  refine g_starti (rty := .int) (fun _ _ _ => rfl) (cc := cX5_positionOf) (nL := 2) (own := RX5) (by decide) rfl rfl (Nat.le_of_ble_eq_true rfl) ?_
  intro pp ee ss mm bw mt cd AA ZZ ls G hret X hl
  have hl : lv_has ls 2 [(0, .ref (Y.2.1 (k))), (1, .int (iI (x)))] := hl
  have hx := G.1
  have hb := G.2.1
  have hts := G.2.2.2.2.1
  have l_f9 := hts (.fieldLink RX5 9 "ShapeFits$PointRow" "position" "[I") (List.mem_of_getElem? (i := 1) rfl)
  have in_X5 : ∀ w ∈ u_ws RX5 TX5 4, w ∈ wsX5_positionOf := by decide +kernel
  refine lv_aload_n hx hb dX5_positionOf_0 rfl (lv_at hl 0 rfl) ?_
  refine lv_iload_n hx hb dX5_positionOf_1 rfl (lv_at hl 1 rfl) ?_
  refine g_callVi G X (rest := []) (As := [.int (iI (x))]) (t_X5_has l Y (σ) (k) P (x) (by first | assumption | omega) (by first | assumption | omega) (by first | assumption | omega)) (cwV 1 hts gX5_positionOf_X5_has rfl rfl rfl (by decide +kernel) ⟨Nat.le_of_ble_eq_true rfl, Nat.le_of_ble_eq_true rfl⟩) (k := k) hk.k0 rfl (hk.2.1 _) rfl rfl hl.1 rfl (Nat.le_of_ble_eq_true rfl) dX5_positionOf_2 ⟨Nat.le_refl _, Nat.le_refl _⟩ (fun z2 u2 H locs hq2 X => ?_)
  rw [hq2.1] at X
  have hq2 := hq2.2
  try dsimp only at hq2
  refine g_if_eq (tgt := 17) G dX5_positionOf_5 (by decide) (by omega) (fun h5 => ?_) (fun h5 => ?_)
  ·
    refine lv_iconst (v := iI 0) hx hb dX5_positionOf_17 rfl ?_
    exact hret _ _ _ _ _ _ (⟨rfl, by have hh := hP x; omega⟩) X dX5_positionOf_18
  ·
    refine lv_aload_n hx hb dX5_positionOf_8 rfl (lv_at hl 0 rfl) ?_
    refine g_get G X (k := k) (fs := fRow k Y) hk.k0 hk.2.1 rfl in_X5 0 (by decide) l_f9 rfl (v := .ref (Y.2.1 ((k + 1)))) rfl dX5_positionOf_9 ?_
    refine lv_iload_n hx hb dX5_positionOf_12 rfl (lv_at hl 1 rfl) ?_
    refine g_iald G X (k := (k + 1)) (n := 12) hk.k1 hk.2.2.1 (by decide) (z := x) (by omega) dX5_positionOf_13 ?_
    refine lv_goto (tgt := 18) hx hb dX5_positionOf_14 (by decide) ?_
    exact hret _ _ _ _ _ _ (⟨rfl, by have hh := hP x; omega⟩) X dX5_positionOf_18

set_option maxHeartbeats 4000000 in
set_option maxRecDepth 100000 in
theorem t_X5_valueOf (l : Launch) (Y : Yt) (σ : Mem) (k : Nat) (P : List Pt) (x : Int) (hk : isRow Y k) (hR : RowIs σ k P) (hx0 : -2147483648 ≤ x ∧ x ≤ 2147483647) : MXi l LX Y yX5_valueOf wsX5_valueOf { frames := 1, cells := 0, slots := 0, locals := 21 } [.ref (Y.2.1 (k)), .int (iI (x))] σ (fun z u => u = σ ∧ ((0 ≤ x ∧ x < P.length → z = pv P x) ∧ (¬ (0 ≤ x ∧ x < P.length) → z = 0))) := by
  obtain ⟨hn, h12, hP⟩ := id hR
  refine g_starti (rty := .int) (fun _ _ _ => rfl) (cc := cX5_valueOf) (nL := 2) (own := RX5) (by decide) rfl rfl (Nat.le_of_ble_eq_true rfl) ?_
  intro pp ee ss mm bw mt cd AA ZZ ls G hret X hl
  have hl : lv_has ls 2 [(0, .ref (Y.2.1 (k))), (1, .int (iI (x)))] := hl
  have hx := G.1
  have hb := G.2.1
  have hts := G.2.2.2.2.1
  have l_f15 := hts (.fieldLink RX5 15 "ShapeFits$PointRow" "value" "[I") (List.mem_of_getElem? (i := 1) rfl)
  have in_X5 : ∀ w ∈ u_ws RX5 TX5 4, w ∈ wsX5_valueOf := by decide +kernel
  refine lv_aload_n hx hb dX5_valueOf_0 rfl (lv_at hl 0 rfl) ?_
  refine lv_iload_n hx hb dX5_valueOf_1 rfl (lv_at hl 1 rfl) ?_
  refine g_callVi G X (rest := []) (As := [.int (iI (x))]) (t_X5_has l Y (σ) (k) P (x) (by first | assumption | omega) (by first | assumption | omega) (by first | assumption | omega)) (cwV 1 hts gX5_valueOf_X5_has rfl rfl rfl (by decide +kernel) ⟨Nat.le_of_ble_eq_true rfl, Nat.le_of_ble_eq_true rfl⟩) (k := k) hk.k0 rfl (hk.2.1 _) rfl rfl hl.1 rfl (Nat.le_of_ble_eq_true rfl) dX5_valueOf_2 ⟨Nat.le_refl _, Nat.le_refl _⟩ (fun z2 u2 H locs hq2 X => ?_)
  rw [hq2.1] at X
  have hq2 := hq2.2
  try dsimp only at hq2
  refine g_if_eq (tgt := 17) G dX5_valueOf_5 (by decide) (by omega) (fun h5 => ?_) (fun h5 => ?_)
  ·
    refine lv_iconst (v := iI 0) hx hb dX5_valueOf_17 rfl ?_
    exact hret _ _ _ _ _ _ (⟨rfl, by have hh := hP x; omega⟩) X dX5_valueOf_18
  ·
    refine lv_aload_n hx hb dX5_valueOf_8 rfl (lv_at hl 0 rfl) ?_
    refine g_get G X (k := k) (fs := fRow k Y) hk.k0 hk.2.1 rfl in_X5 1 (by decide) l_f15 rfl (v := .ref (Y.2.1 ((k + 2)))) rfl dX5_valueOf_9 ?_
    refine lv_iload_n hx hb dX5_valueOf_12 rfl (lv_at hl 1 rfl) ?_
    refine g_iald G X (k := (k + 2)) (n := 12) hk.k2 hk.2.2.2.1 (by decide) (z := x) (by omega) dX5_valueOf_13 ?_
    refine lv_goto (tgt := 18) hx hb dX5_valueOf_14 (by decide) ?_
    exact hret _ _ _ _ _ _ (⟨rfl, by have hh := hP x; omega⟩) X dX5_valueOf_18

set_option maxHeartbeats 4000000 in
set_option maxRecDepth 100000 in
theorem t_X5_weightOf (l : Launch) (Y : Yt) (σ : Mem) (k : Nat) (P : List Pt) (x : Int) (hk : isRow Y k) (hR : RowIs σ k P) (hx0 : -2147483648 ≤ x ∧ x ≤ 2147483647) : MXi l LX Y yX5_weightOf wsX5_weightOf { frames := 1, cells := 0, slots := 0, locals := 21 } [.ref (Y.2.1 (k)), .int (iI (x))] σ (fun z u => u = σ ∧ ((0 ≤ x ∧ x < P.length → z = pw P x) ∧ (¬ (0 ≤ x ∧ x < P.length) → z = 0))) := by
  obtain ⟨hn, h12, hP⟩ := id hR
  refine g_starti (rty := .int) (fun _ _ _ => rfl) (cc := cX5_weightOf) (nL := 2) (own := RX5) (by decide) rfl rfl (Nat.le_of_ble_eq_true rfl) ?_
  intro pp ee ss mm bw mt cd AA ZZ ls G hret X hl
  have hl : lv_has ls 2 [(0, .ref (Y.2.1 (k))), (1, .int (iI (x)))] := hl
  have hx := G.1
  have hb := G.2.1
  have hts := G.2.2.2.2.1
  have l_f18 := hts (.fieldLink RX5 18 "ShapeFits$PointRow" "weight" "[I") (List.mem_of_getElem? (i := 1) rfl)
  have in_X5 : ∀ w ∈ u_ws RX5 TX5 4, w ∈ wsX5_weightOf := by decide +kernel
  refine lv_aload_n hx hb dX5_weightOf_0 rfl (lv_at hl 0 rfl) ?_
  refine lv_iload_n hx hb dX5_weightOf_1 rfl (lv_at hl 1 rfl) ?_
  refine g_callVi G X (rest := []) (As := [.int (iI (x))]) (t_X5_has l Y (σ) (k) P (x) (by first | assumption | omega) (by first | assumption | omega) (by first | assumption | omega)) (cwV 1 hts gX5_weightOf_X5_has rfl rfl rfl (by decide +kernel) ⟨Nat.le_of_ble_eq_true rfl, Nat.le_of_ble_eq_true rfl⟩) (k := k) hk.k0 rfl (hk.2.1 _) rfl rfl hl.1 rfl (Nat.le_of_ble_eq_true rfl) dX5_weightOf_2 ⟨Nat.le_refl _, Nat.le_refl _⟩ (fun z2 u2 H locs hq2 X => ?_)
  rw [hq2.1] at X
  have hq2 := hq2.2
  try dsimp only at hq2
  refine g_if_eq (tgt := 17) G dX5_weightOf_5 (by decide) (by omega) (fun h5 => ?_) (fun h5 => ?_)
  ·
    refine lv_iconst (v := iI 0) hx hb dX5_weightOf_17 rfl ?_
    exact hret _ _ _ _ _ _ (⟨rfl, by have hh := hP x; omega⟩) X dX5_weightOf_18
  ·
    refine lv_aload_n hx hb dX5_weightOf_8 rfl (lv_at hl 0 rfl) ?_
    refine g_get G X (k := k) (fs := fRow k Y) hk.k0 hk.2.1 rfl in_X5 2 (by decide) l_f18 rfl (v := .ref (Y.2.1 ((k + 3)))) rfl dX5_weightOf_9 ?_
    refine lv_iload_n hx hb dX5_weightOf_12 rfl (lv_at hl 1 rfl) ?_
    refine g_iald G X (k := (k + 3)) (n := 12) hk.k3 hk.2.2.2.2 (by decide) (z := x) (by omega) dX5_weightOf_13 ?_
    refine lv_goto (tgt := 18) hx hb dX5_weightOf_14 (by decide) ?_
    exact hret _ _ _ _ _ _ (⟨rfl, by have hh := hP x; omega⟩) X dX5_weightOf_18

set_option maxHeartbeats 4000000 in
set_option maxRecDepth 100000 in
theorem t_X5_empty (l : Launch) (Y : Yt) (σ : Mem) (k : Nat) (hk : isRow Y k) : MXv l LX Y yX5_empty wsX5_empty { frames := 0, cells := 0, slots := 0, locals := 0 } [.ref (Y.2.1 (k))] σ (fun u => RowIs u k [] ∧ Same4 σ u k) := by
  refine g_startv (cc := cX5_empty) (nL := 1) (own := RX5) (by decide) rfl rfl (Nat.le_of_ble_eq_true rfl) ?_
  intro pp ee ss mm bw mt cd AA ZZ ls G hret X hl
  have hl : lv_has ls 1 [(0, .ref (Y.2.1 (k)))] := hl
  have hx := G.1
  have hb := G.2.1
  have hts := G.2.2.2.2.1
  have l_f21 := hts (.fieldLink RX5 21 "ShapeFits$PointRow" "count" "I") (List.mem_of_getElem? (i := 1) rfl)
  have in_X5 : ∀ w ∈ u_ws RX5 TX5 4, w ∈ wsX5_empty := by decide +kernel
  refine lv_aload_n hx hb dX5_empty_0 rfl (lv_at hl 0 rfl) ?_
  refine lv_iconst (v := iI 0) hx hb dX5_empty_1 rfl ?_
  refine g_puti G X (k := k) (fs := fRow k Y) (z := 0) hk.k0 hk.2.1 rfl in_X5 tyX5 tyX5_ok nmX5 3 3 (by decide) l_f21 rfl rfl (by decide +kernel) (Nat.le_of_ble_eq_true rfl) (fun _ => rfl) dX5_empty_2 (fun H locs X => ?_)
  exact hret _ _ _ _ _ (rowEmpty) X dX5_empty_5

set_option maxHeartbeats 4000000 in
set_option maxRecDepth 100000 in
theorem t_X5_append (l : Launch) (Y : Yt) (σ : Mem) (k : Nat) (P : List Pt) (x : Int) (y : Int) (w : Int) (hk : isRow Y k) (hR : RowIs σ k P) (hlen : P.length < 12) : MXv l LX Y yX5_append wsX5_append { frames := 0, cells := 0, slots := 0, locals := 0 } [.ref (Y.2.1 (k)), .int (iI (x)), .int (iI (y)), .int (iI (w))] σ (fun u => RowIs u k (P ++ [(x, y, w)]) ∧ Same4 σ u k) := by
  obtain ⟨hn, h12, hP⟩ := id hR
  refine g_startv (cc := cX5_append) (nL := 4) (own := RX5) (by decide) rfl rfl (Nat.le_of_ble_eq_true rfl) ?_
  intro pp ee ss mm bw mt cd AA ZZ ls G hret X hl
  have hl : lv_has ls 4 [(0, .ref (Y.2.1 (k))), (1, .int (iI (x))), (2, .int (iI (y))), (3, .int (iI (w)))] := hl
  have hx := G.1
  have hb := G.2.1
  have hts := G.2.2.2.2.1
  have l_f9 := hts (.fieldLink RX5 9 "ShapeFits$PointRow" "position" "[I") (List.mem_of_getElem? (i := 2) rfl)
  have l_f15 := hts (.fieldLink RX5 15 "ShapeFits$PointRow" "value" "[I") (List.mem_of_getElem? (i := 3) rfl)
  have l_f18 := hts (.fieldLink RX5 18 "ShapeFits$PointRow" "weight" "[I") (List.mem_of_getElem? (i := 4) rfl)
  have l_f21 := hts (.fieldLink RX5 21 "ShapeFits$PointRow" "count" "I") (List.mem_of_getElem? (i := 1) rfl)
  have in_X5 : ∀ w ∈ u_ws RX5 TX5 4, w ∈ wsX5_append := by decide +kernel
  refine lv_aload_n hx hb dX5_append_0 rfl (lv_at hl 0 rfl) ?_
  refine g_get G X (k := k) (fs := fRow k Y) hk.k0 hk.2.1 rfl in_X5 3 (by decide) l_f21 rfl (v := .int (iI ((σ k 3)))) rfl dX5_append_1 ?_
  refine lv_bipush (v := iI 12) hx hb dX5_append_4 (by decide +kernel) ?_
  refine g_icmp_lt (tgt := 10) G dX5_append_6 (by decide) (by omega) (by omega) (fun h6 => ?_) (fun h6 => ?_)
  ·
    refine lv_aload_n hx hb dX5_append_10 rfl (lv_at hl 0 rfl) ?_
    refine g_get G X (k := k) (fs := fRow k Y) hk.k0 hk.2.1 rfl in_X5 0 (by decide) l_f9 rfl (v := .ref (Y.2.1 ((k + 1)))) rfl dX5_append_11 ?_
    refine lv_aload_n hx hb dX5_append_14 rfl (lv_at hl 0 rfl) ?_
    refine g_get G X (k := k) (fs := fRow k Y) hk.k0 hk.2.1 rfl in_X5 3 (by decide) l_f21 rfl (v := .int (iI ((σ k 3)))) rfl dX5_append_15 ?_
    refine lv_iload_n hx hb dX5_append_18 rfl (lv_at hl 1 rfl) ?_
    refine g_iast G X (k := (k + 1)) (n := 12) hk.k1 hk.2.2.1 (by decide) (z := (σ k 3)) (v := x) (by omega) dX5_append_19 (fun H locs X => ?_)
    refine lv_aload_n hx hb dX5_append_20 rfl (lv_at hl 0 rfl) ?_
    refine g_get G X (k := k) (fs := fRow k Y) hk.k0 hk.2.1 rfl in_X5 1 (by decide) l_f15 rfl (v := .ref (Y.2.1 ((k + 2)))) rfl dX5_append_21 ?_
    refine lv_aload_n hx hb dX5_append_24 rfl (lv_at hl 0 rfl) ?_
    refine g_get G X (k := k) (fs := fRow k Y) hk.k0 hk.2.1 rfl in_X5 3 (by decide) l_f21 rfl (v := .int (iI ((σ k 3)))) (by simp [up, fRow, fHull]) dX5_append_25 ?_
    refine lv_iload_n hx hb dX5_append_28 rfl (lv_at hl 2 rfl) ?_
    refine g_iast G X (k := (k + 2)) (n := 12) hk.k2 hk.2.2.2.1 (by decide) (z := (σ k 3)) (v := y) (by omega) dX5_append_29 (fun H locs X => ?_)
    refine lv_aload_n hx hb dX5_append_30 rfl (lv_at hl 0 rfl) ?_
    refine g_get G X (k := k) (fs := fRow k Y) hk.k0 hk.2.1 rfl in_X5 2 (by decide) l_f18 rfl (v := .ref (Y.2.1 ((k + 3)))) rfl dX5_append_31 ?_
    refine lv_aload_n hx hb dX5_append_34 rfl (lv_at hl 0 rfl) ?_
    refine g_get G X (k := k) (fs := fRow k Y) hk.k0 hk.2.1 rfl in_X5 3 (by decide) l_f21 rfl (v := .int (iI ((σ k 3)))) (by simp [up, fRow, fHull]) dX5_append_35 ?_
    refine lv_iload_n hx hb dX5_append_38 rfl (lv_at hl 3 rfl) ?_
    refine g_iast G X (k := (k + 3)) (n := 12) hk.k3 hk.2.2.2.2 (by decide) (z := (σ k 3)) (v := w) (by omega) dX5_append_39 (fun H locs X => ?_)
    refine lv_aload_n hx hb dX5_append_40 rfl (lv_at hl 0 rfl) ?_
    refine lv_dup hx hb dX5_append_41 rfl ?_
    refine g_get G X (k := k) (fs := fRow k Y) hk.k0 hk.2.1 rfl in_X5 3 (by decide) l_f21 rfl (v := .int (iI ((σ k 3)))) (by simp [up, fRow, fHull]) dX5_append_42 ?_
    refine lv_iconst (v := iI 1) hx hb dX5_append_45 rfl ?_
    refine g_iadd G dX5_append_46 ?_
    refine g_puti G X (k := k) (fs := fRow k Y) (z := ((σ k 3) + 1)) hk.k0 hk.2.1 rfl in_X5 tyX5 tyX5_ok nmX5 3 3 (by decide) l_f21 rfl rfl (by decide +kernel) (Nat.le_of_ble_eq_true rfl) (fun _ => rfl) dX5_append_47 (fun H locs X => ?_)
    exact hret _ _ _ _ _ (rowAppend hR hlen) X dX5_append_50
  ·
    exact absurd hlen (by omega)

set_option maxHeartbeats 4000000 in
set_option maxRecDepth 100000 in
theorem t_X5_positionBehind (l : Launch) (Y : Yt) (σ : Mem) (k : Nat) (P : List Pt) (x : Int) (hk : isRow Y k) (hR : RowIs σ k P) (hx0 : -2147483648 ≤ x ∧ x ≤ 2147483647) (hok : ptsOk P) : MXi l LX Y yX5_positionBehind wsX5_positionBehind { frames := 0, cells := 0, slots := 0, locals := 0 } [.ref (Y.2.1 (k)), .int (iI (x))] σ (fun z u => u = σ ∧ (Behind P x P.length z ∧ -1 ≤ z ∧ z ≤ 40)) := by
  obtain ⟨hn, h12, hP⟩ := id hR
  refine g_starti (rty := .int) (fun _ _ _ => rfl) (cc := cX5_positionBehind) (nL := 5) (own := RX5) (by decide) rfl rfl (Nat.le_of_ble_eq_true rfl) ?_
  intro pp ee ss mm bw mt cd AA ZZ ls G hret X hl
  have hl : lv_has ls 5 [(0, .ref (Y.2.1 (k))), (1, .int (iI (x)))] := hl
  have hx := G.1
  have hb := G.2.1
  have hts := G.2.2.2.2.1
  have l_f9 := hts (.fieldLink RX5 9 "ShapeFits$PointRow" "position" "[I") (List.mem_of_getElem? (i := 2) rfl)
  have l_f21 := hts (.fieldLink RX5 21 "ShapeFits$PointRow" "count" "I") (List.mem_of_getElem? (i := 1) rfl)
  have in_X5 : ∀ w ∈ u_ws RX5 TX5 4, w ∈ wsX5_positionBehind := by decide +kernel
  refine lv_iconst (v := iI (-1)) hx hb dX5_positionBehind_0 rfl ?_
  refine lv_istore_n (lv' := [(2, .int (iI ((-1)))), (0, .ref (Y.2.1 (k))), (1, .int (iI (x)))]) hx hb dX5_positionBehind_1 rfl hl (by decide) rfl (fun ls hl => ?_)
  refine lv_iconst (v := iI 0) hx hb dX5_positionBehind_2 rfl ?_
  refine lv_istore_n (lv' := [(3, .int (iI (0))), (2, .int (iI ((-1)))), (0, .ref (Y.2.1 (k))), (1, .int (iI (x)))]) hx hb dX5_positionBehind_3 rfl hl (by decide) rfl (fun ls hl => ?_)
  have lp_4 : ∀ (nn : Nat) (near pt : Int), ∀ hp : 0 ≤ pt ∧ pt ≤ P.length, ∀ hB : Behind P x pt near, ∀ hz : -1 ≤ near ∧ near ≤ 40, ∀ hdec : (P.length - pt) < (nn : Int), ∀ (H : Heap) (locs : List Loc) (ls : Array Slot), wx LX Y σ ss AA H locs → lv_has ls 5 [(0, .ref (Y.2.1 (k))), (1, .int (iI (x))), (2, .int (iI (near))), (3, .int (iI (pt)))] → W pp l ee { frames := 0, cells := 0, slots := 0, locals := 0 } ss mm ([.ref (Y.2.1 (k)), .int (iI (x))] : List Value).toArray bw mt cd H locs 0 0 ZZ (F0 mm 4 ls []) := by
    intro nn
    induction nn with
    | zero =>
      intro near pt hp hB hz hdec
      exact absurd hdec (by omega)
    | succ nn ih_4 =>
      intro near pt hp hB hz hdec H locs ls X hl
      refine lv_iload_n hx hb dX5_positionBehind_4 rfl (lv_at hl 3 rfl) ?_
      refine lv_aload_n hx hb dX5_positionBehind_5 rfl (lv_at hl 0 rfl) ?_
      refine g_get G X (k := k) (fs := fRow k Y) hk.k0 hk.2.1 rfl in_X5 3 (by decide) l_f21 rfl (v := .int (iI ((σ k 3)))) rfl dX5_positionBehind_6 ?_
      refine g_icmp_ge (tgt := 46) G dX5_positionBehind_9 (by decide) (by omega) (by omega) (fun h9 => ?_) (fun h9 => ?_)
      ·
        refine lv_iload_n hx hb dX5_positionBehind_46 rfl (lv_at hl 2 rfl) ?_
        exact hret _ _ _ _ _ _ (⟨rfl, by rw [show (P.length : Int) = pt by omega]; exact hB, hz⟩) X dX5_positionBehind_47
      ·
        have hpx := (hP pt (by omega) (by omega)).1
        have hrg := px_ok hok (i := pt) (by omega) (by omega)
        refine lv_aload_n hx hb dX5_positionBehind_12 rfl (lv_at hl 0 rfl) ?_
        refine g_get G X (k := k) (fs := fRow k Y) hk.k0 hk.2.1 rfl in_X5 0 (by decide) l_f9 rfl (v := .ref (Y.2.1 ((k + 1)))) rfl dX5_positionBehind_13 ?_
        refine lv_iload_n hx hb dX5_positionBehind_16 rfl (lv_at hl 3 rfl) ?_
        refine g_iald G X (k := (k + 1)) (n := 12) hk.k1 hk.2.2.1 (by decide) (z := pt) (by omega) dX5_positionBehind_17 ?_
        refine lv_istore (lv' := [(4, .int (iI ((σ (k + 1) pt)))), (0, .ref (Y.2.1 (k))), (1, .int (iI (x))), (2, .int (iI (near))), (3, .int (iI (pt)))]) hx hb dX5_positionBehind_18 hl (by decide) rfl (fun ls hl => ?_)
        refine lv_iload hx hb dX5_positionBehind_20 (lv_at hl 0 rfl) ?_
        refine lv_iload_n hx hb dX5_positionBehind_22 rfl (lv_at hl 2 rfl) ?_
        refine g_icmp_le (tgt := 40) G dX5_positionBehind_23 (by decide) (by omega) (by omega) (fun h23 => ?_) (fun h23 => ?_)
        ·
          refine lv_iinc (v := iI (pt + 1)) (lv' := [(3, .int (iI ((pt + 1)))), (4, .int (iI ((σ (k + 1) pt)))), (0, .ref (Y.2.1 (k))), (1, .int (iI (x))), (2, .int (iI (near)))]) hx hb dX5_positionBehind_40 hl (k := 4) rfl (iI_add _ _) (by decide) rfl (fun ls hl => ?_)
          refine lv_goto (tgt := 4) hx hb dX5_positionBehind_43 (by decide) ?_
          exact ih_4 (near) ((pt + 1)) (by omega) (by first | exact behind_skip hB hz.1 hrg.1 (by omega) | (rw [hpx]; exact behind_take hB (fun i a b => (px_ok hok a (by omega)).1) hp.1 (by omega) (by omega))) (by omega) (by omega) _ _ _ X (lv_sub hl [2, 3, 4, 0] rfl)
        ·
          refine lv_iload_n hx hb dX5_positionBehind_26 rfl (lv_at hl 3 rfl) ?_
          refine lv_iconst (v := iI (-1)) hx hb dX5_positionBehind_27 rfl ?_
          refine g_icmp_eq (tgt := 37) G dX5_positionBehind_28 (by decide) (by omega) (by omega) (fun h28 => ?_) (fun h28 => ?_)
          ·
            refine lv_iload hx hb dX5_positionBehind_37 (lv_at hl 0 rfl) ?_
            refine lv_istore_n (lv' := [(2, .int (iI ((σ (k + 1) pt)))), (4, .int (iI ((σ (k + 1) pt)))), (0, .ref (Y.2.1 (k))), (1, .int (iI (x))), (3, .int (iI (pt)))]) hx hb dX5_positionBehind_39 rfl hl (by decide) rfl (fun ls hl => ?_)
            refine lv_iinc (v := iI (pt + 1)) (lv' := [(3, .int (iI ((pt + 1)))), (2, .int (iI ((σ (k + 1) pt)))), (4, .int (iI ((σ (k + 1) pt)))), (0, .ref (Y.2.1 (k))), (1, .int (iI (x)))]) hx hb dX5_positionBehind_40 hl (k := 4) rfl (iI_add _ _) (by decide) rfl (fun ls hl => ?_)
            refine lv_goto (tgt := 4) hx hb dX5_positionBehind_43 (by decide) ?_
            exact ih_4 ((σ (k + 1) pt)) ((pt + 1)) (by omega) (by first | exact behind_skip hB hz.1 hrg.1 (by omega) | (rw [hpx]; exact behind_take hB (fun i a b => (px_ok hok a (by omega)).1) hp.1 (by omega) (by omega))) (by omega) (by omega) _ _ _ X (lv_sub hl [3, 4, 1, 0] rfl)
          ·
            refine lv_iload hx hb dX5_positionBehind_31 (lv_at hl 0 rfl) ?_
            refine lv_iload_n hx hb dX5_positionBehind_33 rfl (lv_at hl 3 rfl) ?_
            refine g_icmp_ge (tgt := 40) G dX5_positionBehind_34 (by decide) (by omega) (by omega) (fun h34 => ?_) (fun h34 => ?_)
            ·
              refine lv_iinc (v := iI (pt + 1)) (lv' := [(3, .int (iI ((pt + 1)))), (4, .int (iI ((σ (k + 1) pt)))), (0, .ref (Y.2.1 (k))), (1, .int (iI (x))), (2, .int (iI (near)))]) hx hb dX5_positionBehind_40 hl (k := 4) rfl (iI_add _ _) (by decide) rfl (fun ls hl => ?_)
              refine lv_goto (tgt := 4) hx hb dX5_positionBehind_43 (by decide) ?_
              exact ih_4 (near) ((pt + 1)) (by omega) (by first | exact behind_skip hB hz.1 hrg.1 (by omega) | (rw [hpx]; exact behind_take hB (fun i a b => (px_ok hok a (by omega)).1) hp.1 (by omega) (by omega))) (by omega) (by omega) _ _ _ X (lv_sub hl [2, 3, 4, 0] rfl)
            ·
              refine lv_iload hx hb dX5_positionBehind_37 (lv_at hl 0 rfl) ?_
              refine lv_istore_n (lv' := [(2, .int (iI ((σ (k + 1) pt)))), (4, .int (iI ((σ (k + 1) pt)))), (0, .ref (Y.2.1 (k))), (1, .int (iI (x))), (3, .int (iI (pt)))]) hx hb dX5_positionBehind_39 rfl hl (by decide) rfl (fun ls hl => ?_)
              refine lv_iinc (v := iI (pt + 1)) (lv' := [(3, .int (iI ((pt + 1)))), (2, .int (iI ((σ (k + 1) pt)))), (4, .int (iI ((σ (k + 1) pt)))), (0, .ref (Y.2.1 (k))), (1, .int (iI (x)))]) hx hb dX5_positionBehind_40 hl (k := 4) rfl (iI_add _ _) (by decide) rfl (fun ls hl => ?_)
              refine lv_goto (tgt := 4) hx hb dX5_positionBehind_43 (by decide) ?_
              exact ih_4 ((σ (k + 1) pt)) ((pt + 1)) (by omega) (by first | exact behind_skip hB hz.1 hrg.1 (by omega) | (rw [hpx]; exact behind_take hB (fun i a b => (px_ok hok a (by omega)).1) hp.1 (by omega) (by omega))) (by omega) (by omega) _ _ _ X (lv_sub hl [3, 4, 1, 0] rfl)
  exact lp_4 ((((P.length - (0)) : Int).toNat + 1)) ((-1)) (0) (by omega) (Or.inl ⟨rfl, fun i h0 h1 => by omega⟩) (by omega) (by omega) _ _ _ X (lv_sub hl [2, 3, 1, 0] rfl)

set_option maxHeartbeats 4000000 in
set_option maxRecDepth 100000 in
theorem t_X5_drop (l : Launch) (Y : Yt) (σ : Mem) (k : Nat) (P : List Pt) (x : Int) (hk : isRow Y k) (hR : RowIs σ k P) (hx0 : 0 ≤ x ∧ x < P.length) : MXv l LX Y yX5_drop wsX5_drop { frames := 1, cells := 0, slots := 0, locals := 21 } [.ref (Y.2.1 (k)), .int (iI (x))] σ (fun u => RowIs u k (P.eraseIdx x.toNat) ∧ Same4 σ u k) := by
  obtain ⟨hn, h12, hP⟩ := id hR
  refine g_startv (cc := cX5_drop) (nL := 3) (own := RX5) (by decide) rfl rfl (Nat.le_of_ble_eq_true rfl) ?_
  intro pp ee ss mm bw mt cd AA ZZ ls G hret X hl
  have hl : lv_has ls 3 [(0, .ref (Y.2.1 (k))), (1, .int (iI (x)))] := hl
  have hx := G.1
  have hb := G.2.1
  have hts := G.2.2.2.2.1
  have l_f9 := hts (.fieldLink RX5 9 "ShapeFits$PointRow" "position" "[I") (List.mem_of_getElem? (i := 2) rfl)
  have l_f15 := hts (.fieldLink RX5 15 "ShapeFits$PointRow" "value" "[I") (List.mem_of_getElem? (i := 3) rfl)
  have l_f18 := hts (.fieldLink RX5 18 "ShapeFits$PointRow" "weight" "[I") (List.mem_of_getElem? (i := 4) rfl)
  have l_f21 := hts (.fieldLink RX5 21 "ShapeFits$PointRow" "count" "I") (List.mem_of_getElem? (i := 1) rfl)
  have in_X5 : ∀ w ∈ u_ws RX5 TX5 4, w ∈ wsX5_drop := by decide +kernel
  refine lv_aload_n hx hb dX5_drop_0 rfl (lv_at hl 0 rfl) ?_
  refine lv_iload_n hx hb dX5_drop_1 rfl (lv_at hl 1 rfl) ?_
  refine g_callVi G X (rest := []) (As := [.int (iI (x))]) (t_X5_has l Y (σ) (k) P (x) (by first | assumption | omega) (by first | assumption | omega) (by first | assumption | omega)) (cwV 1 hts gX5_drop_X5_has rfl rfl rfl (by decide +kernel) ⟨Nat.le_of_ble_eq_true rfl, Nat.le_of_ble_eq_true rfl⟩) (k := k) hk.k0 rfl (hk.2.1 _) rfl rfl hl.1 rfl (Nat.le_of_ble_eq_true rfl) dX5_drop_2 ⟨Nat.le_refl _, Nat.le_refl _⟩ (fun z2 u2 H locs hq2 X => ?_)
  rw [hq2.1] at X
  have hq2 := hq2.2
  try dsimp only at hq2
  refine g_if_ne (tgt := 9) G dX5_drop_5 (by decide) (by omega) (fun h5 => ?_) (fun h5 => ?_)
  ·
    refine lv_iload_n hx hb dX5_drop_9 rfl (lv_at hl 1 rfl) ?_
    refine lv_iconst (v := iI 1) hx hb dX5_drop_10 rfl ?_
    refine g_iadd G dX5_drop_11 ?_
    refine lv_istore_n (lv' := [(2, .int (iI ((x + 1)))), (0, .ref (Y.2.1 (k))), (1, .int (iI (x)))]) hx hb dX5_drop_12 rfl hl (by decide) rfl (fun ls hl => ?_)
    have lp_13 : ∀ (nn : Nat) (later : Int) (τ : Mem), ∀ hp : x < later ∧ later ≤ P.length, ∀ hD : DropInv σ τ k P x later, ∀ hdec : (P.length - later) < (nn : Int), ∀ (H : Heap) (locs : List Loc) (ls : Array Slot), wx LX Y τ ss AA H locs → lv_has ls 3 [(0, .ref (Y.2.1 (k))), (1, .int (iI (x))), (2, .int (iI (later)))] → W pp l ee { frames := 1, cells := 0, slots := 0, locals := 21 } ss mm ([.ref (Y.2.1 (k)), .int (iI (x))] : List Value).toArray bw mt cd H locs 0 0 ZZ (F0 mm 13 ls []) := by
      intro nn
      induction nn with
      | zero =>
        intro later τ hp hD hdec
        exact absurd hdec (by omega)
      | succ nn ih_13 =>
        intro later τ hp hD hdec H locs ls X hl
        have hc : τ k 3 = P.length := by rw [hD.1]; exact hn
        refine lv_iload_n hx hb dX5_drop_13 rfl (lv_at hl 2 rfl) ?_
        refine lv_aload_n hx hb dX5_drop_14 rfl (lv_at hl 0 rfl) ?_
        refine g_get G X (k := k) (fs := fRow k Y) hk.k0 hk.2.1 rfl in_X5 3 (by decide) l_f21 rfl (v := .int (iI ((τ k 3)))) rfl dX5_drop_15 ?_
        refine g_icmp_ge (tgt := 69) G dX5_drop_18 (by decide) (by omega) (by omega) (fun h18 => ?_) (fun h18 => ?_)
        ·
          refine lv_aload_n hx hb dX5_drop_69 rfl (lv_at hl 0 rfl) ?_
          refine lv_dup hx hb dX5_drop_70 rfl ?_
          refine g_get G X (k := k) (fs := fRow k Y) hk.k0 hk.2.1 rfl in_X5 3 (by decide) l_f21 rfl (v := .int (iI ((τ k 3)))) rfl dX5_drop_71 ?_
          refine lv_iconst (v := iI 1) hx hb dX5_drop_74 rfl ?_
          refine g_isub G dX5_drop_75 ?_
          refine g_puti G X (k := k) (fs := fRow k Y) (z := ((τ k 3) - 1)) hk.k0 hk.2.1 rfl in_X5 tyX5 tyX5_ok nmX5 3 3 (by decide) l_f21 rfl rfl (by decide +kernel) (Nat.le_of_ble_eq_true rfl) (fun _ => rfl) dX5_drop_76 (fun H locs X => ?_)
          exact hret _ _ _ _ _ (drop_e hR hD hx0.1 hx0.2 (by omega)) X dX5_drop_79
        ·
          refine lv_aload_n hx hb dX5_drop_21 rfl (lv_at hl 0 rfl) ?_
          refine g_get G X (k := k) (fs := fRow k Y) hk.k0 hk.2.1 rfl in_X5 0 (by decide) l_f9 rfl (v := .ref (Y.2.1 ((k + 1)))) rfl dX5_drop_22 ?_
          refine lv_iload_n hx hb dX5_drop_25 rfl (lv_at hl 2 rfl) ?_
          refine lv_iconst (v := iI 1) hx hb dX5_drop_26 rfl ?_
          refine g_isub G dX5_drop_27 ?_
          refine lv_aload_n hx hb dX5_drop_28 rfl (lv_at hl 0 rfl) ?_
          refine g_get G X (k := k) (fs := fRow k Y) hk.k0 hk.2.1 rfl in_X5 0 (by decide) l_f9 rfl (v := .ref (Y.2.1 ((k + 1)))) rfl dX5_drop_29 ?_
          refine lv_iload_n hx hb dX5_drop_32 rfl (lv_at hl 2 rfl) ?_
          refine g_iald G X (k := (k + 1)) (n := 12) hk.k1 hk.2.2.1 (by decide) (z := later) (by omega) dX5_drop_33 ?_
          refine g_iast G X (k := (k + 1)) (n := 12) hk.k1 hk.2.2.1 (by decide) (z := (later - 1)) (v := (τ (k + 1) later)) (by omega) dX5_drop_34 (fun H locs X => ?_)
          refine lv_aload_n hx hb dX5_drop_35 rfl (lv_at hl 0 rfl) ?_
          refine g_get G X (k := k) (fs := fRow k Y) hk.k0 hk.2.1 rfl in_X5 1 (by decide) l_f15 rfl (v := .ref (Y.2.1 ((k + 2)))) rfl dX5_drop_36 ?_
          refine lv_iload_n hx hb dX5_drop_39 rfl (lv_at hl 2 rfl) ?_
          refine lv_iconst (v := iI 1) hx hb dX5_drop_40 rfl ?_
          refine g_isub G dX5_drop_41 ?_
          refine lv_aload_n hx hb dX5_drop_42 rfl (lv_at hl 0 rfl) ?_
          refine g_get G X (k := k) (fs := fRow k Y) hk.k0 hk.2.1 rfl in_X5 1 (by decide) l_f15 rfl (v := .ref (Y.2.1 ((k + 2)))) rfl dX5_drop_43 ?_
          refine lv_iload_n hx hb dX5_drop_46 rfl (lv_at hl 2 rfl) ?_
          refine g_iald G X (k := (k + 2)) (n := 12) hk.k2 hk.2.2.2.1 (by decide) (z := later) (by omega) dX5_drop_47 ?_
          refine g_topi (z' := (τ (k + 2) later)) (by simp [up]) ?_
          refine g_iast G X (k := (k + 2)) (n := 12) hk.k2 hk.2.2.2.1 (by decide) (z := (later - 1)) (v := (τ (k + 2) later)) (by omega) dX5_drop_48 (fun H locs X => ?_)
          refine lv_aload_n hx hb dX5_drop_49 rfl (lv_at hl 0 rfl) ?_
          refine g_get G X (k := k) (fs := fRow k Y) hk.k0 hk.2.1 rfl in_X5 2 (by decide) l_f18 rfl (v := .ref (Y.2.1 ((k + 3)))) rfl dX5_drop_50 ?_
          refine lv_iload_n hx hb dX5_drop_53 rfl (lv_at hl 2 rfl) ?_
          refine lv_iconst (v := iI 1) hx hb dX5_drop_54 rfl ?_
          refine g_isub G dX5_drop_55 ?_
          refine lv_aload_n hx hb dX5_drop_56 rfl (lv_at hl 0 rfl) ?_
          refine g_get G X (k := k) (fs := fRow k Y) hk.k0 hk.2.1 rfl in_X5 2 (by decide) l_f18 rfl (v := .ref (Y.2.1 ((k + 3)))) rfl dX5_drop_57 ?_
          refine lv_iload_n hx hb dX5_drop_60 rfl (lv_at hl 2 rfl) ?_
          refine g_iald G X (k := (k + 3)) (n := 12) hk.k3 hk.2.2.2.2 (by decide) (z := later) (by omega) dX5_drop_61 ?_
          refine g_topi (z' := (τ (k + 3) later)) (by simp [up]) ?_
          refine g_iast G X (k := (k + 3)) (n := 12) hk.k3 hk.2.2.2.2 (by decide) (z := (later - 1)) (v := (τ (k + 3) later)) (by omega) dX5_drop_62 (fun H locs X => ?_)
          refine lv_iinc (v := iI (later + 1)) (lv' := [(2, .int (iI ((later + 1)))), (0, .ref (Y.2.1 (k))), (1, .int (iI (x)))]) hx hb dX5_drop_63 hl (k := 2) rfl (iI_add _ _) (by decide) rfl (fun ls hl => ?_)
          refine lv_goto (tgt := 13) hx hb dX5_drop_66 (by decide) ?_
          exact ih_13 ((later + 1)) ((up (up (up τ (k + 1) (later - 1) (τ (k + 1) later)) (k + 2) (later - 1) (τ (k + 2) later)) (k + 3) (later - 1) (τ (k + 3) later))) (by omega) (drop_s hD hx0.1 hp.1 (by omega)) (by omega) _ _ _ X (lv_sub hl [1, 2, 0] rfl)
    exact lp_13 ((((P.length - ((x + 1))) : Int).toNat + 1)) ((x + 1)) (σ) (by omega) (drop_0 hR) (by omega) _ _ _ X (lv_sub hl [1, 2, 0] rfl)
  ·
    exact absurd hx0 (by omega)

set_option maxHeartbeats 4000000 in
set_option maxRecDepth 100000 in
theorem t_X5_mirrorPositions (l : Launch) (Y : Yt) (σ : Mem) (k : Nat) (P : List Pt) (hk : isRow Y k) (hR : RowIs σ k P) : MXv l LX Y yX5_mirrorPositions wsX5_mirrorPositions { frames := 0, cells := 0, slots := 0, locals := 0 } [.ref (Y.2.1 (k))] σ (fun u => RowIs u k (mirP P) ∧ Same4 σ u k) := by
  obtain ⟨hn, h12, hP⟩ := id hR
  refine g_startv (cc := cX5_mirrorPositions) (nL := 2) (own := RX5) (by decide) rfl rfl (Nat.le_of_ble_eq_true rfl) ?_
  intro pp ee ss mm bw mt cd AA ZZ ls G hret X hl
  have hl : lv_has ls 2 [(0, .ref (Y.2.1 (k)))] := hl
  have hx := G.1
  have hb := G.2.1
  have hts := G.2.2.2.2.1
  have l_f9 := hts (.fieldLink RX5 9 "ShapeFits$PointRow" "position" "[I") (List.mem_of_getElem? (i := 2) rfl)
  have l_f21 := hts (.fieldLink RX5 21 "ShapeFits$PointRow" "count" "I") (List.mem_of_getElem? (i := 1) rfl)
  have in_X5 : ∀ w ∈ u_ws RX5 TX5 4, w ∈ wsX5_mirrorPositions := by decide +kernel
  refine lv_iconst (v := iI 0) hx hb dX5_mirrorPositions_0 rfl ?_
  refine lv_istore_n (lv' := [(1, .int (iI (0))), (0, .ref (Y.2.1 (k)))]) hx hb dX5_mirrorPositions_1 rfl hl (by decide) rfl (fun ls hl => ?_)
  have lp_2 : ∀ (nn : Nat) (pt : Int) (τ : Mem), ∀ hp : 0 ≤ pt ∧ pt ≤ P.length, ∀ hM : MapInv σ τ (k + 1) (fun i => 40 - σ (k + 1) i) pt, ∀ hdec : (P.length - pt) < (nn : Int), ∀ (H : Heap) (locs : List Loc) (ls : Array Slot), wx LX Y τ ss AA H locs → lv_has ls 2 [(0, .ref (Y.2.1 (k))), (1, .int (iI (pt)))] → W pp l ee { frames := 0, cells := 0, slots := 0, locals := 0 } ss mm ([.ref (Y.2.1 (k))] : List Value).toArray bw mt cd H locs 0 0 ZZ (F0 mm 2 ls []) := by
    intro nn
    induction nn with
    | zero =>
      intro pt τ hp hM hdec
      exact absurd hdec (by omega)
    | succ nn ih_2 =>
      intro pt τ hp hM hdec H locs ls X hl
      have hc : τ k 3 = P.length := by rw [hM.2.2 k (by omega)]; exact hn
      refine lv_iload_n hx hb dX5_mirrorPositions_2 rfl (lv_at hl 1 rfl) ?_
      refine lv_aload_n hx hb dX5_mirrorPositions_3 rfl (lv_at hl 0 rfl) ?_
      refine g_get G X (k := k) (fs := fRow k Y) hk.k0 hk.2.1 rfl in_X5 3 (by decide) l_f21 rfl (v := .int (iI ((τ k 3)))) rfl dX5_mirrorPositions_4 ?_
      refine g_icmp_ge (tgt := 31) G dX5_mirrorPositions_7 (by decide) (by omega) (by omega) (fun h7 => ?_) (fun h7 => ?_)
      ·
        exact hret _ _ _ _ _ (rowMirP hR hM (by omega)) X dX5_mirrorPositions_31
      ·
        refine lv_aload_n hx hb dX5_mirrorPositions_10 rfl (lv_at hl 0 rfl) ?_
        refine g_get G X (k := k) (fs := fRow k Y) hk.k0 hk.2.1 rfl in_X5 0 (by decide) l_f9 rfl (v := .ref (Y.2.1 ((k + 1)))) rfl dX5_mirrorPositions_11 ?_
        refine lv_iload_n hx hb dX5_mirrorPositions_14 rfl (lv_at hl 1 rfl) ?_
        refine lv_bipush (v := iI 40) hx hb dX5_mirrorPositions_15 (by decide +kernel) ?_
        refine lv_aload_n hx hb dX5_mirrorPositions_17 rfl (lv_at hl 0 rfl) ?_
        refine g_get G X (k := k) (fs := fRow k Y) hk.k0 hk.2.1 rfl in_X5 0 (by decide) l_f9 rfl (v := .ref (Y.2.1 ((k + 1)))) rfl dX5_mirrorPositions_18 ?_
        refine lv_iload_n hx hb dX5_mirrorPositions_21 rfl (lv_at hl 1 rfl) ?_
        refine g_iald G X (k := (k + 1)) (n := 12) hk.k1 hk.2.2.1 (by decide) (z := pt) (by omega) dX5_mirrorPositions_22 ?_
        refine g_isub G dX5_mirrorPositions_23 ?_
        refine g_iast G X (k := (k + 1)) (n := 12) hk.k1 hk.2.2.1 (by decide) (z := pt) (v := (40 - (τ (k + 1) pt))) (by omega) dX5_mirrorPositions_24 (fun H locs X => ?_)
        refine lv_iinc (v := iI (pt + 1)) (lv' := [(1, .int (iI ((pt + 1)))), (0, .ref (Y.2.1 (k)))]) hx hb dX5_mirrorPositions_25 hl (k := 1) rfl (iI_add _ _) (by decide) rfl (fun ls hl => ?_)
        refine lv_goto (tgt := 2) hx hb dX5_mirrorPositions_28 (by decide) ?_
        exact ih_2 ((pt + 1)) ((up τ (k + 1) pt (40 - (τ (k + 1) pt)))) (by omega) (map_s hM (by rw [hM.2.1 pt (Int.le_refl _)])) (by omega) _ _ _ X (lv_sub hl [1, 0] rfl)
  exact lp_2 ((((P.length - (0)) : Int).toNat + 1)) (0) (σ) (by omega) map_0 (by omega) _ _ _ X (lv_sub hl [1, 0] rfl)

set_option maxHeartbeats 4000000 in
set_option maxRecDepth 100000 in
theorem t_X5_mirrorValues (l : Launch) (Y : Yt) (σ : Mem) (k : Nat) (P : List Pt) (hk : isRow Y k) (hR : RowIs σ k P) : MXv l LX Y yX5_mirrorValues wsX5_mirrorValues { frames := 0, cells := 0, slots := 0, locals := 0 } [.ref (Y.2.1 (k))] σ (fun u => RowIs u k (mirV P) ∧ Same4 σ u k) := by
  obtain ⟨hn, h12, hP⟩ := id hR
  refine g_startv (cc := cX5_mirrorValues) (nL := 2) (own := RX5) (by decide) rfl rfl (Nat.le_of_ble_eq_true rfl) ?_
  intro pp ee ss mm bw mt cd AA ZZ ls G hret X hl
  have hl : lv_has ls 2 [(0, .ref (Y.2.1 (k)))] := hl
  have hx := G.1
  have hb := G.2.1
  have hts := G.2.2.2.2.1
  have l_f15 := hts (.fieldLink RX5 15 "ShapeFits$PointRow" "value" "[I") (List.mem_of_getElem? (i := 2) rfl)
  have l_f21 := hts (.fieldLink RX5 21 "ShapeFits$PointRow" "count" "I") (List.mem_of_getElem? (i := 1) rfl)
  have in_X5 : ∀ w ∈ u_ws RX5 TX5 4, w ∈ wsX5_mirrorValues := by decide +kernel
  refine lv_iconst (v := iI 0) hx hb dX5_mirrorValues_0 rfl ?_
  refine lv_istore_n (lv' := [(1, .int (iI (0))), (0, .ref (Y.2.1 (k)))]) hx hb dX5_mirrorValues_1 rfl hl (by decide) rfl (fun ls hl => ?_)
  have lp_2 : ∀ (nn : Nat) (pt : Int) (τ : Mem), ∀ hp : 0 ≤ pt ∧ pt ≤ P.length, ∀ hM : MapInv σ τ (k + 2) (fun i => -σ (k + 2) i) pt, ∀ hdec : (P.length - pt) < (nn : Int), ∀ (H : Heap) (locs : List Loc) (ls : Array Slot), wx LX Y τ ss AA H locs → lv_has ls 2 [(0, .ref (Y.2.1 (k))), (1, .int (iI (pt)))] → W pp l ee { frames := 0, cells := 0, slots := 0, locals := 0 } ss mm ([.ref (Y.2.1 (k))] : List Value).toArray bw mt cd H locs 0 0 ZZ (F0 mm 2 ls []) := by
    intro nn
    induction nn with
    | zero =>
      intro pt τ hp hM hdec
      exact absurd hdec (by omega)
    | succ nn ih_2 =>
      intro pt τ hp hM hdec H locs ls X hl
      have hc : τ k 3 = P.length := by rw [hM.2.2 k (by omega)]; exact hn
      refine lv_iload_n hx hb dX5_mirrorValues_2 rfl (lv_at hl 1 rfl) ?_
      refine lv_aload_n hx hb dX5_mirrorValues_3 rfl (lv_at hl 0 rfl) ?_
      refine g_get G X (k := k) (fs := fRow k Y) hk.k0 hk.2.1 rfl in_X5 3 (by decide) l_f21 rfl (v := .int (iI ((τ k 3)))) rfl dX5_mirrorValues_4 ?_
      refine g_icmp_ge (tgt := 29) G dX5_mirrorValues_7 (by decide) (by omega) (by omega) (fun h7 => ?_) (fun h7 => ?_)
      ·
        exact hret _ _ _ _ _ (rowMirV hR hM (by omega)) X dX5_mirrorValues_29
      ·
        refine lv_aload_n hx hb dX5_mirrorValues_10 rfl (lv_at hl 0 rfl) ?_
        refine g_get G X (k := k) (fs := fRow k Y) hk.k0 hk.2.1 rfl in_X5 1 (by decide) l_f15 rfl (v := .ref (Y.2.1 ((k + 2)))) rfl dX5_mirrorValues_11 ?_
        refine lv_iload_n hx hb dX5_mirrorValues_14 rfl (lv_at hl 1 rfl) ?_
        refine lv_aload_n hx hb dX5_mirrorValues_15 rfl (lv_at hl 0 rfl) ?_
        refine g_get G X (k := k) (fs := fRow k Y) hk.k0 hk.2.1 rfl in_X5 1 (by decide) l_f15 rfl (v := .ref (Y.2.1 ((k + 2)))) rfl dX5_mirrorValues_16 ?_
        refine lv_iload_n hx hb dX5_mirrorValues_19 rfl (lv_at hl 1 rfl) ?_
        refine g_iald G X (k := (k + 2)) (n := 12) hk.k2 hk.2.2.2.1 (by decide) (z := pt) (by omega) dX5_mirrorValues_20 ?_
        refine g_ineg G dX5_mirrorValues_21 ?_
        refine g_iast G X (k := (k + 2)) (n := 12) hk.k2 hk.2.2.2.1 (by decide) (z := pt) (v := (-(τ (k + 2) pt))) (by omega) dX5_mirrorValues_22 (fun H locs X => ?_)
        refine lv_iinc (v := iI (pt + 1)) (lv' := [(1, .int (iI ((pt + 1)))), (0, .ref (Y.2.1 (k)))]) hx hb dX5_mirrorValues_23 hl (k := 1) rfl (iI_add _ _) (by decide) rfl (fun ls hl => ?_)
        refine lv_goto (tgt := 2) hx hb dX5_mirrorValues_26 (by decide) ?_
        exact ih_2 ((pt + 1)) ((up τ (k + 2) pt (-(τ (k + 2) pt)))) (by omega) (map_s hM (by rw [hM.2.1 pt (Int.le_refl _)])) (by omega) _ _ _ X (lv_sub hl [1, 0] rfl)
  exact lp_2 ((((P.length - (0)) : Int).toNat + 1)) (0) (σ) (by omega) map_0 (by omega) _ _ _ X (lv_sub hl [1, 0] rfl)

set_option maxHeartbeats 4000000 in
set_option maxRecDepth 100000 in
theorem t_X5_copyTo (l : Launch) (Y : Yt) (σ : Mem) (k : Nat) (P : List Pt) (k2 : Nat) (hk : isRow Y k) (hR : RowIs σ k P) (hk2 : isRow Y k2) (hR2 : k + 3 < k2 ∨ k2 + 3 < k) : MXv l LX Y yX5_copyTo wsX5_copyTo { frames := 1, cells := 0, slots := 0, locals := 23 } [.ref (Y.2.1 (k)), .ref (Y.2.1 (k2))] σ (fun u => RowIs u k2 P ∧ Same4 σ u k2) := by
  obtain ⟨hn, h12, hP⟩ := id hR
  refine g_startv (cc := cX5_copyTo) (nL := 3) (own := RX5) (by decide) rfl rfl (Nat.le_of_ble_eq_true rfl) ?_
  intro pp ee ss mm bw mt cd AA ZZ ls G hret X hl
  have hl : lv_has ls 3 [(0, .ref (Y.2.1 (k))), (1, .ref (Y.2.1 (k2)))] := hl
  have hx := G.1
  have hb := G.2.1
  have hts := G.2.2.2.2.1
  have l_f9 := hts (.fieldLink RX5 9 "ShapeFits$PointRow" "position" "[I") (List.mem_of_getElem? (i := 2) rfl)
  have l_f15 := hts (.fieldLink RX5 15 "ShapeFits$PointRow" "value" "[I") (List.mem_of_getElem? (i := 3) rfl)
  have l_f18 := hts (.fieldLink RX5 18 "ShapeFits$PointRow" "weight" "[I") (List.mem_of_getElem? (i := 4) rfl)
  have l_f21 := hts (.fieldLink RX5 21 "ShapeFits$PointRow" "count" "I") (List.mem_of_getElem? (i := 1) rfl)
  have in_X5 : ∀ w ∈ u_ws RX5 TX5 4, w ∈ wsX5_copyTo := by decide +kernel
  refine lv_aload_n hx hb dX5_copyTo_0 rfl (lv_at hl 1 rfl) ?_
  refine lv_ifnonnull (tgt := 5) hx hb dX5_copyTo_1 (by decide) ?_
  refine lv_aload_n hx hb dX5_copyTo_5 rfl (lv_at hl 1 rfl) ?_
  refine g_callVv G X (rest := []) (As := []) (t_X5_empty l Y (σ) (k2) (by first | assumption | omega)) (cwV 0 hts gX5_copyTo_X5_empty rfl rfl rfl (by decide +kernel) ⟨Nat.le_of_ble_eq_true rfl, Nat.le_of_ble_eq_true rfl⟩) (k := k2) hk2.k0 rfl (hk2.2.1 _) rfl rfl hl.1 rfl (Nat.le_of_ble_eq_true rfl) dX5_copyTo_6 ⟨Nat.le_refl _, Nat.le_refl _⟩ (fun u6 H locs hq6 X => ?_)
  have hRk := hR.of_same hq6.2 hR2
  refine lv_iconst (v := iI 0) hx hb dX5_copyTo_9 rfl ?_
  refine lv_istore_n (lv' := [(2, .int (iI (0))), (0, .ref (Y.2.1 (k))), (1, .ref (Y.2.1 (k2)))]) hx hb dX5_copyTo_10 rfl hl (by decide) rfl (fun ls hl => ?_)
  have lp_11 : ∀ (nn : Nat) (pt : Int) (τ : Mem), ∀ hp : 0 ≤ pt ∧ pt ≤ P.length, ∀ hRk : RowIs τ k P, ∀ hT : RowIs τ k2 (P.take pt.toNat), ∀ hS : Same4 σ τ k2, ∀ hdec : (P.length - pt) < (nn : Int), ∀ (H : Heap) (locs : List Loc) (ls : Array Slot), wx LX Y τ ss AA H locs → lv_has ls 3 [(0, .ref (Y.2.1 (k))), (1, .ref (Y.2.1 (k2))), (2, .int (iI (pt)))] → W pp l ee { frames := 1, cells := 0, slots := 0, locals := 23 } ss mm ([.ref (Y.2.1 (k)), .ref (Y.2.1 (k2))] : List Value).toArray bw mt cd H locs 0 0 ZZ (F0 mm 11 ls []) := by
    intro nn
    induction nn with
    | zero =>
      intro pt τ hp hRk hT hS hdec
      exact absurd hdec (by omega)
    | succ nn ih_11 =>
      intro pt τ hp hRk hT hS hdec H locs ls X hl
      have hc : τ k 3 = P.length := hRk.1
      refine lv_iload_n hx hb dX5_copyTo_11 rfl (lv_at hl 2 rfl) ?_
      refine lv_aload_n hx hb dX5_copyTo_12 rfl (lv_at hl 0 rfl) ?_
      refine g_get G X (k := k) (fs := fRow k Y) hk.k0 hk.2.1 rfl in_X5 3 (by decide) l_f21 rfl (v := .int (iI ((τ k 3)))) rfl dX5_copyTo_13 ?_
      refine g_icmp_ge (tgt := 47) G dX5_copyTo_16 (by decide) (by omega) (by omega) (fun h16 => ?_) (fun h16 => ?_)
      ·
        exact hret _ _ _ _ _ (⟨(show P.take pt.toNat = P from List.take_of_length_le (by omega)) ▸ hT, hS⟩) X dX5_copyTo_47
      ·
        refine lv_aload_n hx hb dX5_copyTo_19 rfl (lv_at hl 1 rfl) ?_
        refine lv_aload_n hx hb dX5_copyTo_20 rfl (lv_at hl 0 rfl) ?_
        refine g_get G X (k := k) (fs := fRow k Y) hk.k0 hk.2.1 rfl in_X5 0 (by decide) l_f9 rfl (v := .ref (Y.2.1 ((k + 1)))) rfl dX5_copyTo_21 ?_
        refine lv_iload_n hx hb dX5_copyTo_24 rfl (lv_at hl 2 rfl) ?_
        refine g_iald G X (k := (k + 1)) (n := 12) hk.k1 hk.2.2.1 (by decide) (z := pt) (by omega) dX5_copyTo_25 ?_
        refine lv_aload_n hx hb dX5_copyTo_26 rfl (lv_at hl 0 rfl) ?_
        refine g_get G X (k := k) (fs := fRow k Y) hk.k0 hk.2.1 rfl in_X5 1 (by decide) l_f15 rfl (v := .ref (Y.2.1 ((k + 2)))) rfl dX5_copyTo_27 ?_
        refine lv_iload_n hx hb dX5_copyTo_30 rfl (lv_at hl 2 rfl) ?_
        refine g_iald G X (k := (k + 2)) (n := 12) hk.k2 hk.2.2.2.1 (by decide) (z := pt) (by omega) dX5_copyTo_31 ?_
        refine lv_aload_n hx hb dX5_copyTo_32 rfl (lv_at hl 0 rfl) ?_
        refine g_get G X (k := k) (fs := fRow k Y) hk.k0 hk.2.1 rfl in_X5 2 (by decide) l_f18 rfl (v := .ref (Y.2.1 ((k + 3)))) rfl dX5_copyTo_33 ?_
        refine lv_iload_n hx hb dX5_copyTo_36 rfl (lv_at hl 2 rfl) ?_
        refine g_iald G X (k := (k + 3)) (n := 12) hk.k3 hk.2.2.2.2 (by decide) (z := pt) (by omega) dX5_copyTo_37 ?_
        refine g_callVv G X (rest := []) (As := [.int (iI ((τ (k + 1) pt))), .int (iI ((τ (k + 2) pt))), .int (iI ((τ (k + 3) pt)))]) (t_X5_append l Y (τ) (k2) (P.take pt.toNat) ((τ (k + 1) pt)) ((τ (k + 2) pt)) ((τ (k + 3) pt)) (by first | assumption | omega) (by first | assumption | omega) (by rw [List.length_take]; omega)) (cwV 3 hts gX5_copyTo_X5_append rfl rfl rfl (by decide +kernel) ⟨Nat.le_of_ble_eq_true rfl, Nat.le_of_ble_eq_true rfl⟩) (k := k2) hk2.k0 rfl (hk2.2.1 _) rfl rfl hl.1 rfl (Nat.le_of_ble_eq_true rfl) dX5_copyTo_38 ⟨Nat.le_refl _, Nat.le_refl _⟩ (fun u38 H locs hq38 X => ?_)
        have hRk2 := hRk.of_same hq38.2 hR2
        refine lv_iinc (v := iI (pt + 1)) (lv' := [(2, .int (iI ((pt + 1)))), (0, .ref (Y.2.1 (k))), (1, .ref (Y.2.1 (k2)))]) hx hb dX5_copyTo_41 hl (k := 2) rfl (iI_add _ _) (by decide) rfl (fun ls hl => ?_)
        refine lv_goto (tgt := 11) hx hb dX5_copyTo_44 (by decide) ?_
        exact ih_11 ((pt + 1)) (u38) (by omega) hRk2 (by have e := hRk.2.2 pt (by omega) (by omega); rw [← take_succ (by omega) (by omega), ← e.1, ← e.2.1, ← e.2.2]; exact hq38.1) (fun a q0 q1 q2 q3 => (hq38.2 a q0 q1 q2 q3).trans (hS a q0 q1 q2 q3)) (by omega) _ _ _ X (lv_sub hl [1, 2, 0] rfl)
  exact lp_11 ((((P.length - (0)) : Int).toNat + 1)) (0) (u6) (by omega) hRk hq6.1 hq6.2 (by omega) _ _ _ X (lv_sub hl [1, 2, 0] rfl)

