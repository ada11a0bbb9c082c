set_option maxHeartbeats 4000000 in
set_option maxRecDepth 100000 in
theorem t_X7_add (l : Launch) (Y : Yt) (σ : Mem) (P : List Pt) (hs : List (List Pt)) (tx : List Int) (ch : List Int) (x : Int) (v : Int) (w : Int) (hI : XInv σ P hs tx ch) (h_x : -2147483648 ≤ x ∧ x ≤ 2147483647) (h_v : -2147483648 ≤ v ∧ v ≤ 2147483647) (h_w : -2147483648 ≤ w ∧ w ≤ 2147483647) : MXi l LX Y yX7_add wsX7_add { frames := 4, cells := 0, slots := 0, locals := 92 } [.ref (Y.2.1 (0)), .int (iI (x)), .int (iI (v)), .int (iI (w))] σ (fun z u => z = (stAdd P hs x v w).1 ∧ XInv u (stAdd P hs x v w).2.1 (stAdd P hs x v w).2.2 tx ch) := by
  obtain ⟨⟨hR, hok⟩, hTab, ⟨hH, hHok⟩, ⟨hTx, htok⟩, ⟨hC, hC3⟩, hs45, hs47⟩ := id hI
  have hPf := prof_of hok hR.2.1
  have hT : Tb σ (ng P) (gX P) (gC P) (gW P) (gM P) (gQ P) := hTab
  have hq0 := gQ_rg hok hR.2.1
  have hr1 : isRow Y 1 := isRow_of Y (by omega)
  have h12 := hR.2.1
  obtain ⟨⟨hn0, hn12, -⟩, -⟩ := id hPf
  have hh6 := hH.2.1
  have hk45 := isHull_of Y (k := 45) (Or.inl rfl)
  have hk47 := isHull_of Y (k := 47) (Or.inr rfl)
  have h90 := htok.1
  refine g_starti (rty := .int) (fun _ _ _ => rfl) (cc := cX7_add) (nL := 4) (own := RX7) (by decide) rfl rfl (Nat.le_of_ble_eq_true rfl) ?_
  intro pp ee ss mm bw mt cd AA ZZ ls G hret X hl
  have hl : lv_has ls 4 [(0, .ref (Y.2.1 (0))), (1, .int (iI (x))), (2, .int (iI (v))), (3, .int (iI (w)))] := hl
  have hx := G.1
  have hb := G.2.1
  have hts := G.2.2.2.2.1
  have l_f10 := hts (.fieldLink RX7 10 "ShapeFits" "row" "LShapeFits$PointRow;") (List.mem_of_getElem? (i := 2) rfl)
  have l_f26 := hts (.fieldLink RX7 26 "ShapeFits" "history" "LShapeFits$History;") (List.mem_of_getElem? (i := 4) rfl)
  have l_f33 := hts (.fieldLink RX7 33 "ShapeFits" "table" "LShapeFits$GroupTable;") (List.mem_of_getElem? (i := 5) rfl)
  have l_c73 := hts (.constant RX7 73 (-1000001)) (List.mem_of_getElem? (i := 1) rfl)
  have l_c78 := hts (.constant RX7 78 (-1000003)) (List.mem_of_getElem? (i := 3) rfl)
  have in_X7 : ∀ w ∈ u_ws RX7 TX7 8, w ∈ wsX7_add := by decide +kernel
  refine lv_iload_n hx hb dX7_add_0 rfl (lv_at hl 1 rfl) ?_
  refine lv_iconst (v := iI 0) hx hb dX7_add_1 rfl ?_
  refine lv_bipush (v := iI 40) hx hb dX7_add_2 (by decide +kernel) ?_
  refine g_callSi G X (rest := []) (As := [.int (iI (x)), .int (iI (0)), .int (iI (40))]) (t_X7_outside l Y (σ) (x) (0) (40) (by first | assumption | omega) (by first | assumption | omega) (by first | assumption | omega)) (va_cwS 3 hts gX7_add_X7_outside rfl rfl rfl (by decide +kernel) ⟨Nat.le_of_ble_eq_true rfl, Nat.le_of_ble_eq_true rfl⟩) rfl hl.1 rfl (Nat.le_of_ble_eq_true rfl) dX7_add_4 ⟨Nat.le_refl _, Nat.le_refl _⟩ (fun z4 u4 H locs hq4 X => ?_)
  rw [hq4.1] at X
  have hq4 := hq4.2
  try dsimp only at hq4
  refine g_if_ne (tgt := 18) G dX7_add_7 (by decide) (by omega) (fun h7 => ?_) (fun h7 => ?_)
  ·
    refine g_ldc G (z := (-1000001)) l_c73 (by decide +kernel) dX7_add_18 ?_
    exact hret _ _ _ _ _ _ ((by have e : stAdd P hs x v w = (-1000001, P, hs) := by { unfold stAdd; exact if_pos (by omega) }; rw [e]; exact ⟨rfl, hI⟩)) X dX7_add_20
  ·
    refine lv_iload_n hx hb dX7_add_10 rfl (lv_at hl 2 rfl) ?_
    refine lv_iload_n hx hb dX7_add_11 rfl (lv_at hl 3 rfl) ?_
    refine g_callSi G X (rest := []) (As := [.int (iI (v)), .int (iI (w))]) (t_X7_wrongValueOrWeight l Y (σ) (v) (w) (by first | assumption | omega) (by first | assumption | omega)) (va_cwS 2 hts gX7_add_X7_wrongValueOrWeight rfl rfl rfl (by decide +kernel) ⟨Nat.le_of_ble_eq_true rfl, Nat.le_of_ble_eq_true rfl⟩) rfl hl.1 rfl (Nat.le_of_ble_eq_true rfl) dX7_add_12 ⟨Nat.le_refl _, Nat.le_refl _⟩ (fun z12 u12 H locs hq12 X => ?_)
    rw [hq12.1] at X
    have hq12 := hq12.2
    try dsimp only at hq12
    refine g_if_eq (tgt := 21) G dX7_add_15 (by decide) (by omega) (fun h15 => ?_) (fun h15 => ?_)
    ·
      refine lv_aload_n hx hb dX7_add_21 rfl (lv_at hl 0 rfl) ?_
      refine g_get G X (k := 0) (fs := fX Y) (Nat.le_of_ble_eq_true rfl) (fun _ => rfl) rfl in_X7 0 (by decide) l_f10 rfl (v := .ref (Y.2.1 (1))) rfl dX7_add_22 ?_
      refine g_callVi G X (rest := []) (As := []) (t_X5_size l Y (σ) (1) P (by first | assumption | omega) (by first | assumption | omega)) (cwV 0 hts gX7_add_X5_size rfl rfl rfl (by decide +kernel) ⟨Nat.le_of_ble_eq_true rfl, Nat.le_of_ble_eq_true rfl⟩) (k := 1) (Nat.le_of_ble_eq_true rfl) rfl rfl rfl rfl hl.1 rfl (Nat.le_of_ble_eq_true rfl) dX7_add_25 ⟨Nat.le_refl _, Nat.le_refl _⟩ (fun z25 u25 H locs hq25 X => ?_)
      rw [hq25.1] at X
      have hq25 := hq25.2
      try dsimp only at hq25
      refine lv_bipush (v := iI 12) hx hb dX7_add_28 (by decide +kernel) ?_
      refine g_icmp_lt (tgt := 36) G dX7_add_30 (by decide) (by omega) (by omega) (fun h30 => ?_) (fun h30 => ?_)
      ·
        refine lv_aload_n hx hb dX7_add_36 rfl (lv_at hl 0 rfl) ?_
        refine g_get G X (k := 0) (fs := fX Y) (Nat.le_of_ble_eq_true rfl) (fun _ => rfl) rfl in_X7 2 (by decide) l_f26 rfl (v := .ref (Y.2.1 (12))) rfl dX7_add_37 ?_
        refine lv_aload_n hx hb dX7_add_40 rfl (lv_at hl 0 rfl) ?_
        refine g_get G X (k := 0) (fs := fX Y) (Nat.le_of_ble_eq_true rfl) (fun _ => rfl) rfl in_X7 0 (by decide) l_f10 rfl (v := .ref (Y.2.1 (1))) rfl dX7_add_41 ?_
        refine g_callVv G X (rest := []) (As := [.ref (Y.2.1 (1))]) (t_X2_record l Y (σ) hs (P) (by first | assumption | omega) (by first | assumption | omega)) (cwV 1 hts gX7_add_X2_record rfl rfl rfl (by decide +kernel) ⟨Nat.le_of_ble_eq_true rfl, Nat.le_of_ble_eq_true rfl⟩) (k := 12) (Nat.le_of_ble_eq_true rfl) rfl rfl rfl rfl hl.1 rfl (Nat.le_of_ble_eq_true rfl) dX7_add_44 ⟨Nat.le_refl _, Nat.le_refl _⟩ (fun u44 H locs hq44 X => ?_)
        refine lv_aload_n hx hb dX7_add_47 rfl (lv_at hl 0 rfl) ?_
        refine g_get G X (k := 0) (fs := fX Y) (Nat.le_of_ble_eq_true rfl) (fun _ => rfl) rfl in_X7 0 (by decide) l_f10 rfl (v := .ref (Y.2.1 (1))) rfl dX7_add_48 ?_
        refine lv_iload_n hx hb dX7_add_51 rfl (lv_at hl 1 rfl) ?_
        refine lv_iload_n hx hb dX7_add_52 rfl (lv_at hl 2 rfl) ?_
        refine lv_iload_n hx hb dX7_add_53 rfl (lv_at hl 3 rfl) ?_
        refine g_callVv G X (rest := []) (As := [.int (iI (x)), .int (iI (v)), .int (iI (w))]) (t_X5_append l Y (u44) (1) (P) (x) (v) (w) (by first | assumption | omega) (hR.eq (hq44.2 1 (by omega)) (hq44.2 2 (by omega)) (hq44.2 3 (by omega)) (hq44.2 4 (by omega))) (by omega)) (cwV 3 hts gX7_add_X5_append rfl rfl rfl (by decide +kernel) ⟨Nat.le_of_ble_eq_true rfl, Nat.le_of_ble_eq_true rfl⟩) (k := 1) (Nat.le_of_ble_eq_true rfl) rfl rfl rfl rfl hl.1 rfl (Nat.le_of_ble_eq_true rfl) dX7_add_54 ⟨Nat.le_refl _, Nat.le_refl _⟩ (fun u54 H locs hq54 X => ?_)
        have hok2 : ptsOk (P ++ [(x, v, w)]) := ptsOk_app hok (ptOk_mk (by omega) (by omega) (by omega))
        refine lv_aload_n hx hb dX7_add_57 rfl (lv_at hl 0 rfl) ?_
        refine g_get G X (k := 0) (fs := fX Y) (Nat.le_of_ble_eq_true rfl) (fun _ => rfl) rfl in_X7 3 (by decide) l_f33 rfl (v := .ref (Y.2.1 (38))) rfl dX7_add_58 ?_
        refine lv_aload_n hx hb dX7_add_61 rfl (lv_at hl 0 rfl) ?_
        refine g_get G X (k := 0) (fs := fX Y) (Nat.le_of_ble_eq_true rfl) (fun _ => rfl) rfl in_X7 0 (by decide) l_f10 rfl (v := .ref (Y.2.1 (1))) rfl dX7_add_62 ?_
        refine g_callVv G X (rest := []) (As := [.ref (Y.2.1 (1))]) (t_X1_gather l Y (u54) (P ++ [(x, v, w)]) hq54.1 hok2 ⟨by rw [hq54.2 41 (by omega) (by omega) (by omega) (by omega), hq44.2 41 (by omega)]; exact hI.t0.1, by rw [hq54.2 42 (by omega) (by omega) (by omega) (by omega), hq44.2 42 (by omega)]; exact hI.t0.2⟩) (cwV 1 hts gX7_add_X1_gather rfl rfl rfl (by decide +kernel) ⟨Nat.le_of_ble_eq_true rfl, Nat.le_of_ble_eq_true rfl⟩) (k := 38) (Nat.le_of_ble_eq_true rfl) rfl rfl rfl rfl hl.1 rfl (Nat.le_of_ble_eq_true rfl) dX7_add_65 ⟨Nat.le_refl _, Nat.le_refl _⟩ (fun u65 H locs hq65 X => ?_)
        have hfin := xinv_change hI hq44 hq54 hq65 hok2 (recd_ok hHok hok)
        refine lv_aload_n hx hb dX7_add_68 rfl (lv_at hl 0 rfl) ?_
        refine g_get G X (k := 0) (fs := fX Y) (Nat.le_of_ble_eq_true rfl) (fun _ => rfl) rfl in_X7 0 (by decide) l_f10 rfl (v := .ref (Y.2.1 (1))) rfl dX7_add_69 ?_
        refine g_callVi G X (rest := []) (As := []) (t_X5_size l Y (u65) (1) (P ++ [(x, v, w)]) (by first | assumption | omega) hfin.1.1) (cwV 0 hts gX7_add_X5_size rfl rfl rfl (by decide +kernel) ⟨Nat.le_of_ble_eq_true rfl, Nat.le_of_ble_eq_true rfl⟩) (k := 1) (Nat.le_of_ble_eq_true rfl) rfl rfl rfl rfl hl.1 rfl (Nat.le_of_ble_eq_true rfl) dX7_add_72 ⟨Nat.le_refl _, Nat.le_refl _⟩ (fun z72 u72 H locs hq72 X => ?_)
        rw [hq72.1] at X
        have hq72 := hq72.2
        try dsimp only at hq72
        refine lv_iconst (v := iI 1) hx hb dX7_add_75 rfl ?_
        refine g_isub G dX7_add_76 ?_
        exact hret _ _ _ _ _ _ ((by have e : stAdd P hs x v w = ((P.length : Int), P ++ [(x, v, w)], recd hs P) := by { unfold stAdd; exact (if_neg (by omega)).trans (if_neg (by omega)) }; rw [e]; exact ⟨by rw [hq72, List.length_append, List.length_singleton]; show _ = (P.length : Int); omega, hfin⟩)) X dX7_add_77
      ·
        refine g_ldc G (z := (-1000003)) l_c78 (by decide +kernel) dX7_add_33 ?_
        exact hret _ _ _ _ _ _ ((by have e : stAdd P hs x v w = (-1000003, P, hs) := by { unfold stAdd; exact (if_neg (by omega)).trans (if_pos (by omega)) }; rw [e]; exact ⟨rfl, hI⟩)) X dX7_add_35
    ·
      refine g_ldc G (z := (-1000001)) l_c73 (by decide +kernel) dX7_add_18 ?_
      exact hret _ _ _ _ _ _ ((by have e : stAdd P hs x v w = (-1000001, P, hs) := by { unfold stAdd; exact if_pos (by omega) }; rw [e]; exact ⟨rfl, hI⟩)) X dX7_add_20

set_option maxHeartbeats 4000000 in
set_option maxRecDepth 100000 in
theorem t_X7_remove (l : Launch) (Y : Yt) (σ : Mem) (P : List Pt) (hs : List (List Pt)) (tx : List Int) (ch : List Int) (p : Int) (hI : XInv σ P hs tx ch) (h_p : -2147483648 ≤ p ∧ p ≤ 2147483647) : MXi l LX Y yX7_remove wsX7_remove { frames := 4, cells := 0, slots := 0, locals := 92 } [.ref (Y.2.1 (0)), .int (iI (p))] σ (fun z u => z = (stRem P hs p).1 ∧ XInv u (stRem P hs p).2.1 (stRem P hs p).2.2 tx ch) := by
  obtain ⟨⟨hR, hok⟩, hTab, ⟨hH, hHok⟩, ⟨hTx, htok⟩, ⟨hC, hC3⟩, hs45, hs47⟩ := id hI
  have hPf := prof_of hok hR.2.1
  have hT : Tb σ (ng P) (gX P) (gC P) (gW P) (gM P) (gQ P) := hTab
  have hq0 := gQ_rg hok hR.2.1
  have hr1 : isRow Y 1 := isRow_of Y (by omega)
  have h12 := hR.2.1
  obtain ⟨⟨hn0, hn12, -⟩, -⟩ := id hPf
  have hh6 := hH.2.1
  have hk45 := isHull_of Y (k := 45) (Or.inl rfl)
  have hk47 := isHull_of Y (k := 47) (Or.inr rfl)
  have h90 := htok.1
  refine g_starti (rty := .int) (fun _ _ _ => rfl) (cc := cX7_remove) (nL := 2) (own := RX7) (by decide) rfl rfl (Nat.le_of_ble_eq_true rfl) ?_
  intro pp ee ss mm bw mt cd AA ZZ ls G hret X hl
  have hl : lv_has ls 2 [(0, .ref (Y.2.1 (0))), (1, .int (iI (p)))] := hl
  have hx := G.1
  have hb := G.2.1
  have hts := G.2.2.2.2.1
  have l_f10 := hts (.fieldLink RX7 10 "ShapeFits" "row" "LShapeFits$PointRow;") (List.mem_of_getElem? (i := 1) rfl)
  have l_f26 := hts (.fieldLink RX7 26 "ShapeFits" "history" "LShapeFits$History;") (List.mem_of_getElem? (i := 3) rfl)
  have l_f33 := hts (.fieldLink RX7 33 "ShapeFits" "table" "LShapeFits$GroupTable;") (List.mem_of_getElem? (i := 4) rfl)
  have l_c73 := hts (.constant RX7 73 (-1000001)) (List.mem_of_getElem? (i := 2) rfl)
  have in_X7 : ∀ w ∈ u_ws RX7 TX7 8, w ∈ wsX7_remove := by decide +kernel
  refine lv_aload_n hx hb dX7_remove_0 rfl (lv_at hl 0 rfl) ?_
  refine g_get G X (k := 0) (fs := fX Y) (Nat.le_of_ble_eq_true rfl) (fun _ => rfl) rfl in_X7 0 (by decide) l_f10 rfl (v := .ref (Y.2.1 (1))) rfl dX7_remove_1 ?_
  refine lv_iload_n hx hb dX7_remove_4 rfl (lv_at hl 1 rfl) ?_
  refine g_callVi G X (rest := []) (As := [.int (iI (p))]) (t_X5_has l Y (σ) (1) P (p) (by first | assumption | omega) (by first | assumption | omega) (by first | assumption | omega)) (cwV 1 hts gX7_remove_X5_has rfl rfl rfl (by decide +kernel) ⟨Nat.le_of_ble_eq_true rfl, Nat.le_of_ble_eq_true rfl⟩) (k := 1) (Nat.le_of_ble_eq_true rfl) rfl rfl rfl rfl hl.1 rfl (Nat.le_of_ble_eq_true rfl) dX7_remove_5 ⟨Nat.le_refl _, Nat.le_refl _⟩ (fun z5 u5 H locs hq5 X => ?_)
  rw [hq5.1] at X
  have hq5 := hq5.2
  try dsimp only at hq5
  refine g_if_ne (tgt := 14) G dX7_remove_8 (by decide) (by omega) (fun h8 => ?_) (fun h8 => ?_)
  ·
    refine lv_aload_n hx hb dX7_remove_14 rfl (lv_at hl 0 rfl) ?_
    refine g_get G X (k := 0) (fs := fX Y) (Nat.le_of_ble_eq_true rfl) (fun _ => rfl) rfl in_X7 2 (by decide) l_f26 rfl (v := .ref (Y.2.1 (12))) rfl dX7_remove_15 ?_
    refine lv_aload_n hx hb dX7_remove_18 rfl (lv_at hl 0 rfl) ?_
    refine g_get G X (k := 0) (fs := fX Y) (Nat.le_of_ble_eq_true rfl) (fun _ => rfl) rfl in_X7 0 (by decide) l_f10 rfl (v := .ref (Y.2.1 (1))) rfl dX7_remove_19 ?_
    refine g_callVv G X (rest := []) (As := [.ref (Y.2.1 (1))]) (t_X2_record l Y (σ) hs (P) (by first | assumption | omega) (by first | assumption | omega)) (cwV 1 hts gX7_remove_X2_record rfl rfl rfl (by decide +kernel) ⟨Nat.le_of_ble_eq_true rfl, Nat.le_of_ble_eq_true rfl⟩) (k := 12) (Nat.le_of_ble_eq_true rfl) rfl rfl rfl rfl hl.1 rfl (Nat.le_of_ble_eq_true rfl) dX7_remove_22 ⟨Nat.le_refl _, Nat.le_refl _⟩ (fun u22 H locs hq22 X => ?_)
    refine lv_aload_n hx hb dX7_remove_25 rfl (lv_at hl 0 rfl) ?_
    refine g_get G X (k := 0) (fs := fX Y) (Nat.le_of_ble_eq_true rfl) (fun _ => rfl) rfl in_X7 0 (by decide) l_f10 rfl (v := .ref (Y.2.1 (1))) rfl dX7_remove_26 ?_
    refine lv_iload_n hx hb dX7_remove_29 rfl (lv_at hl 1 rfl) ?_
    refine g_callVv G X (rest := []) (As := [.int (iI (p))]) (t_X5_drop l Y (u22) (1) (P) (p) (by first | assumption | omega) (hR.eq (hq22.2 1 (by omega)) (hq22.2 2 (by omega)) (hq22.2 3 (by omega)) (hq22.2 4 (by omega))) (by first | assumption | omega)) (cwV 1 hts gX7_remove_X5_drop rfl rfl rfl (by decide +kernel) ⟨Nat.le_of_ble_eq_true rfl, Nat.le_of_ble_eq_true rfl⟩) (k := 1) (Nat.le_of_ble_eq_true rfl) rfl rfl rfl rfl hl.1 rfl (Nat.le_of_ble_eq_true rfl) dX7_remove_30 ⟨Nat.le_refl _, Nat.le_refl _⟩ (fun u30 H locs hq30 X => ?_)
    have hok2 := ptsOk_era hok p.toNat
    refine lv_aload_n hx hb dX7_remove_33 rfl (lv_at hl 0 rfl) ?_
    refine g_get G X (k := 0) (fs := fX Y) (Nat.le_of_ble_eq_true rfl) (fun _ => rfl) rfl in_X7 3 (by decide) l_f33 rfl (v := .ref (Y.2.1 (38))) rfl dX7_remove_34 ?_
    refine lv_aload_n hx hb dX7_remove_37 rfl (lv_at hl 0 rfl) ?_
    refine g_get G X (k := 0) (fs := fX Y) (Nat.le_of_ble_eq_true rfl) (fun _ => rfl) rfl in_X7 0 (by decide) l_f10 rfl (v := .ref (Y.2.1 (1))) rfl dX7_remove_38 ?_
    refine g_callVv G X (rest := []) (As := [.ref (Y.2.1 (1))]) (t_X1_gather l Y (u30) (P.eraseIdx p.toNat) hq30.1 hok2 ⟨by rw [hq30.2 41 (by omega) (by omega) (by omega) (by omega), hq22.2 41 (by omega)]; exact hI.t0.1, by rw [hq30.2 42 (by omega) (by omega) (by omega) (by omega), hq22.2 42 (by omega)]; exact hI.t0.2⟩) (cwV 1 hts gX7_remove_X1_gather rfl rfl rfl (by decide +kernel) ⟨Nat.le_of_ble_eq_true rfl, Nat.le_of_ble_eq_true rfl⟩) (k := 38) (Nat.le_of_ble_eq_true rfl) rfl rfl rfl rfl hl.1 rfl (Nat.le_of_ble_eq_true rfl) dX7_remove_41 ⟨Nat.le_refl _, Nat.le_refl _⟩ (fun u41 H locs hq41 X => ?_)
    have hfin := xinv_change hI hq22 hq30 hq41 hok2 (recd_ok hHok hok)
    refine lv_aload_n hx hb dX7_remove_44 rfl (lv_at hl 0 rfl) ?_
    refine g_get G X (k := 0) (fs := fX Y) (Nat.le_of_ble_eq_true rfl) (fun _ => rfl) rfl in_X7 0 (by decide) l_f10 rfl (v := .ref (Y.2.1 (1))) rfl dX7_remove_45 ?_
    refine g_callVi G X (rest := []) (As := []) (t_X5_size l Y (u41) (1) (P.eraseIdx p.toNat) (by first | assumption | omega) hfin.1.1) (cwV 0 hts gX7_remove_X5_size rfl rfl rfl (by decide +kernel) ⟨Nat.le_of_ble_eq_true rfl, Nat.le_of_ble_eq_true rfl⟩) (k := 1) (Nat.le_of_ble_eq_true rfl) rfl rfl rfl rfl hl.1 rfl (Nat.le_of_ble_eq_true rfl) dX7_remove_48 ⟨Nat.le_refl _, Nat.le_refl _⟩ (fun z48 u48 H locs hq48 X => ?_)
    rw [hq48.1] at X
    have hq48 := hq48.2
    try dsimp only at hq48
    exact hret _ _ _ _ _ _ ((by have e : stRem P hs p = ((P.length : Int) - 1, P.eraseIdx p.toNat, recd hs P) := by { unfold stRem; exact if_neg (by omega) }; rw [e]; exact ⟨by rw [hq48, List.length_eraseIdx_of_lt (by omega)]; show _ = (P.length : Int) - 1; omega, hfin⟩)) X dX7_remove_51
  ·
    refine g_ldc G (z := (-1000001)) l_c73 (by decide +kernel) dX7_remove_11 ?_
    exact hret _ _ _ _ _ _ ((by have e : stRem P hs p = (-1000001, P, hs) := by { unfold stRem; exact if_pos (by omega) }; rw [e]; exact ⟨rfl, hI⟩)) X dX7_remove_13

set_option maxHeartbeats 4000000 in
set_option maxRecDepth 100000 in
theorem t_X7_mirror (l : Launch) (Y : Yt) (σ : Mem) (P : List Pt) (hs : List (List Pt)) (tx : List Int) (ch : List Int) (w : Int) (hI : XInv σ P hs tx ch) (h_w : -2147483648 ≤ w ∧ w ≤ 2147483647) : MXi l LX Y yX7_mirror wsX7_mirror { frames := 4, cells := 0, slots := 0, locals := 92 } [.ref (Y.2.1 (0)), .int (iI (w))] σ (fun z u => z = (stMir P hs w).1 ∧ XInv u (stMir P hs w).2.1 (stMir P hs w).2.2 tx ch) := by
  obtain ⟨⟨hR, hok⟩, hTab, ⟨hH, hHok⟩, ⟨hTx, htok⟩, ⟨hC, hC3⟩, hs45, hs47⟩ := id hI
  have hPf := prof_of hok hR.2.1
  have hT : Tb σ (ng P) (gX P) (gC P) (gW P) (gM P) (gQ P) := hTab
  have hq0 := gQ_rg hok hR.2.1
  have hr1 : isRow Y 1 := isRow_of Y (by omega)
  have h12 := hR.2.1
  obtain ⟨⟨hn0, hn12, -⟩, -⟩ := id hPf
  have hh6 := hH.2.1
  have hk45 := isHull_of Y (k := 45) (Or.inl rfl)
  have hk47 := isHull_of Y (k := 47) (Or.inr rfl)
  have h90 := htok.1
  refine g_starti (rty := .int) (fun _ _ _ => rfl) (cc := cX7_mirror) (nL := 2) (own := RX7) (by decide) rfl rfl (Nat.le_of_ble_eq_true rfl) ?_
  intro pp ee ss mm bw mt cd AA ZZ ls G hret X hl
  have hl : lv_has ls 2 [(0, .ref (Y.2.1 (0))), (1, .int (iI (w)))] := hl
  have hx := G.1
  have hb := G.2.1
  have hts := G.2.2.2.2.1
  have l_f10 := hts (.fieldLink RX7 10 "ShapeFits" "row" "LShapeFits$PointRow;") (List.mem_of_getElem? (i := 3) rfl)
  have l_f26 := hts (.fieldLink RX7 26 "ShapeFits" "history" "LShapeFits$History;") (List.mem_of_getElem? (i := 2) rfl)
  have l_f33 := hts (.fieldLink RX7 33 "ShapeFits" "table" "LShapeFits$GroupTable;") (List.mem_of_getElem? (i := 4) rfl)
  have l_c73 := hts (.constant RX7 73 (-1000001)) (List.mem_of_getElem? (i := 1) rfl)
  have in_X7 : ∀ w ∈ u_ws RX7 TX7 8, w ∈ wsX7_mirror := by decide +kernel
  refine lv_iload_n hx hb dX7_mirror_0 rfl (lv_at hl 1 rfl) ?_
  refine lv_iconst (v := iI 0) hx hb dX7_mirror_1 rfl ?_
  refine lv_iconst (v := iI 1) hx hb dX7_mirror_2 rfl ?_
  refine g_callSi G X (rest := []) (As := [.int (iI (w)), .int (iI (0)), .int (iI (1))]) (t_X7_outside l Y (σ) (w) (0) (1) (by first | assumption | omega) (by first | assumption | omega) (by first | assumption | omega)) (va_cwS 3 hts gX7_mirror_X7_outside rfl rfl rfl (by decide +kernel) ⟨Nat.le_of_ble_eq_true rfl, Nat.le_of_ble_eq_true rfl⟩) rfl hl.1 rfl (Nat.le_of_ble_eq_true rfl) dX7_mirror_3 ⟨Nat.le_refl _, Nat.le_refl _⟩ (fun z3 u3 H locs hq3 X => ?_)
  rw [hq3.1] at X
  have hq3 := hq3.2
  try dsimp only at hq3
  refine g_if_eq (tgt := 12) G dX7_mirror_6 (by decide) (by omega) (fun h6 => ?_) (fun h6 => ?_)
  ·
    refine lv_aload_n hx hb dX7_mirror_12 rfl (lv_at hl 0 rfl) ?_
    refine g_get G X (k := 0) (fs := fX Y) (Nat.le_of_ble_eq_true rfl) (fun _ => rfl) rfl in_X7 2 (by decide) l_f26 rfl (v := .ref (Y.2.1 (12))) rfl dX7_mirror_13 ?_
    refine lv_aload_n hx hb dX7_mirror_16 rfl (lv_at hl 0 rfl) ?_
    refine g_get G X (k := 0) (fs := fX Y) (Nat.le_of_ble_eq_true rfl) (fun _ => rfl) rfl in_X7 0 (by decide) l_f10 rfl (v := .ref (Y.2.1 (1))) rfl dX7_mirror_17 ?_
    refine g_callVv G X (rest := []) (As := [.ref (Y.2.1 (1))]) (t_X2_record l Y (σ) hs (P) (by first | assumption | omega) (by first | assumption | omega)) (cwV 1 hts gX7_mirror_X2_record rfl rfl rfl (by decide +kernel) ⟨Nat.le_of_ble_eq_true rfl, Nat.le_of_ble_eq_true rfl⟩) (k := 12) (Nat.le_of_ble_eq_true rfl) rfl rfl rfl rfl hl.1 rfl (Nat.le_of_ble_eq_true rfl) dX7_mirror_20 ⟨Nat.le_refl _, Nat.le_refl _⟩ (fun u20 H locs hq20 X => ?_)
    refine lv_iload_n hx hb dX7_mirror_23 rfl (lv_at hl 1 rfl) ?_
    refine g_if_ne (tgt := 37) G dX7_mirror_24 (by decide) (by omega) (fun h24 => ?_) (fun h24 => ?_)
    ·
      refine lv_aload_n hx hb dX7_mirror_37 rfl (lv_at hl 0 rfl) ?_
      refine g_get G X (k := 0) (fs := fX Y) (Nat.le_of_ble_eq_true rfl) (fun _ => rfl) rfl in_X7 0 (by decide) l_f10 rfl (v := .ref (Y.2.1 (1))) rfl dX7_mirror_38 ?_
      refine g_callVv G X (rest := []) (As := []) (t_X5_mirrorValues l Y (u20) (1) (P) (by first | assumption | omega) (hR.eq (hq20.2 1 (by omega)) (hq20.2 2 (by omega)) (hq20.2 3 (by omega)) (hq20.2 4 (by omega)))) (cwV 0 hts gX7_mirror_X5_mirrorValues rfl rfl rfl (by decide +kernel) ⟨Nat.le_of_ble_eq_true rfl, Nat.le_of_ble_eq_true rfl⟩) (k := 1) (Nat.le_of_ble_eq_true rfl) rfl rfl rfl rfl hl.1 rfl (Nat.le_of_ble_eq_true rfl) dX7_mirror_41 ⟨Nat.le_refl _, Nat.le_refl _⟩ (fun u41 H locs hq41 X => ?_)
      obtain ⟨P', hP', hrow, hok2⟩ : ∃ P', (if w = 0 then mirP P else mirV P) = P' ∧ (RowIs u41 1 P' ∧ Same4 u20 u41 1) ∧ ptsOk P' := ⟨mirV P, if_neg (by omega), hq41, ptsOk_mirV hok⟩
      have hl2 : P'.length = P.length := by { rw [← hP']; by_cases h9 : w = 0; (rw [if_pos h9]; exact mirP_len P); (rw [if_neg h9]; exact mirV_len P) }
      refine lv_aload_n hx hb dX7_mirror_44 rfl (lv_at hl 0 rfl) ?_
      refine g_get G X (k := 0) (fs := fX Y) (Nat.le_of_ble_eq_true rfl) (fun _ => rfl) rfl in_X7 3 (by decide) l_f33 rfl (v := .ref (Y.2.1 (38))) rfl dX7_mirror_45 ?_
      refine lv_aload_n hx hb dX7_mirror_48 rfl (lv_at hl 0 rfl) ?_
      refine g_get G X (k := 0) (fs := fX Y) (Nat.le_of_ble_eq_true rfl) (fun _ => rfl) rfl in_X7 0 (by decide) l_f10 rfl (v := .ref (Y.2.1 (1))) rfl dX7_mirror_49 ?_
      refine g_callVv G X (rest := []) (As := [.ref (Y.2.1 (1))]) (t_X1_gather l Y (u41) (P') hrow.1 hok2 ⟨by rw [hrow.2 41 (by omega) (by omega) (by omega) (by omega), hq20.2 41 (by omega)]; exact hI.t0.1, by rw [hrow.2 42 (by omega) (by omega) (by omega) (by omega), hq20.2 42 (by omega)]; exact hI.t0.2⟩) (cwV 1 hts gX7_mirror_X1_gather rfl rfl rfl (by decide +kernel) ⟨Nat.le_of_ble_eq_true rfl, Nat.le_of_ble_eq_true rfl⟩) (k := 38) (Nat.le_of_ble_eq_true rfl) rfl rfl rfl rfl hl.1 rfl (Nat.le_of_ble_eq_true rfl) dX7_mirror_52 ⟨Nat.le_refl _, Nat.le_refl _⟩ (fun u52 H locs hq52 X => ?_)
      have hfin := xinv_change hI hq20 hrow hq52 hok2 (recd_ok hHok hok)
      refine lv_aload_n hx hb dX7_mirror_55 rfl (lv_at hl 0 rfl) ?_
      refine g_get G X (k := 0) (fs := fX Y) (Nat.le_of_ble_eq_true rfl) (fun _ => rfl) rfl in_X7 0 (by decide) l_f10 rfl (v := .ref (Y.2.1 (1))) rfl dX7_mirror_56 ?_
      refine g_callVi G X (rest := []) (As := []) (t_X5_size l Y (u52) (1) (P') (by first | assumption | omega) hfin.1.1) (cwV 0 hts gX7_mirror_X5_size rfl rfl rfl (by decide +kernel) ⟨Nat.le_of_ble_eq_true rfl, Nat.le_of_ble_eq_true rfl⟩) (k := 1) (Nat.le_of_ble_eq_true rfl) rfl rfl rfl rfl hl.1 rfl (Nat.le_of_ble_eq_true rfl) dX7_mirror_59 ⟨Nat.le_refl _, Nat.le_refl _⟩ (fun z59 u59 H locs hq59 X => ?_)
      rw [hq59.1] at X
      have hq59 := hq59.2
      try dsimp only at hq59
      exact hret _ _ _ _ _ _ ((by have e : stMir P hs w = ((P.length : Int), if w = 0 then mirP P else mirV P, recd hs P) := by { unfold stMir; exact if_neg (by omega) }; rw [e]; exact ⟨by rw [hq59, hl2], by rw [hP']; exact hfin⟩)) X dX7_mirror_62
    ·
      refine lv_aload_n hx hb dX7_mirror_27 rfl (lv_at hl 0 rfl) ?_
      refine g_get G X (k := 0) (fs := fX Y) (Nat.le_of_ble_eq_true rfl) (fun _ => rfl) rfl in_X7 0 (by decide) l_f10 rfl (v := .ref (Y.2.1 (1))) rfl dX7_mirror_28 ?_
      refine g_callVv G X (rest := []) (As := []) (t_X5_mirrorPositions l Y (u20) (1) (P) (by first | assumption | omega) (hR.eq (hq20.2 1 (by omega)) (hq20.2 2 (by omega)) (hq20.2 3 (by omega)) (hq20.2 4 (by omega)))) (cwV 0 hts gX7_mirror_X5_mirrorPositions rfl rfl rfl (by decide +kernel) ⟨Nat.le_of_ble_eq_true rfl, Nat.le_of_ble_eq_true rfl⟩) (k := 1) (Nat.le_of_ble_eq_true rfl) rfl rfl rfl rfl hl.1 rfl (Nat.le_of_ble_eq_true rfl) dX7_mirror_31 ⟨Nat.le_refl _, Nat.le_refl _⟩ (fun u31 H locs hq31 X => ?_)
      obtain ⟨P', hP', hrow, hok2⟩ : ∃ P', (if w = 0 then mirP P else mirV P) = P' ∧ (RowIs u31 1 P' ∧ Same4 u20 u31 1) ∧ ptsOk P' := ⟨mirP P, if_pos (by omega), hq31, ptsOk_mirP hok⟩
      have hl2 : P'.length = P.length := by { rw [← hP']; by_cases h9 : w = 0; (rw [if_pos h9]; exact mirP_len P); (rw [if_neg h9]; exact mirV_len P) }
      refine lv_goto (tgt := 44) hx hb dX7_mirror_34 (by decide) ?_
      refine lv_aload_n hx hb dX7_mirror_44 rfl (lv_at hl 0 rfl) ?_
      refine g_get G X (k := 0) (fs := fX Y) (Nat.le_of_ble_eq_true rfl) (fun _ => rfl) rfl in_X7 3 (by decide) l_f33 rfl (v := .ref (Y.2.1 (38))) rfl dX7_mirror_45 ?_
      refine lv_aload_n hx hb dX7_mirror_48 rfl (lv_at hl 0 rfl) ?_
      refine g_get G X (k := 0) (fs := fX Y) (Nat.le_of_ble_eq_true rfl) (fun _ => rfl) rfl in_X7 0 (by decide) l_f10 rfl (v := .ref (Y.2.1 (1))) rfl dX7_mirror_49 ?_
      refine g_callVv G X (rest := []) (As := [.ref (Y.2.1 (1))]) (t_X1_gather l Y (u31) (P') hrow.1 hok2 ⟨by rw [hrow.2 41 (by omega) (by omega) (by omega) (by omega), hq20.2 41 (by omega)]; exact hI.t0.1, by rw [hrow.2 42 (by omega) (by omega) (by omega) (by omega), hq20.2 42 (by omega)]; exact hI.t0.2⟩) (cwV 1 hts gX7_mirror_X1_gather rfl rfl rfl (by decide +kernel) ⟨Nat.le_of_ble_eq_true rfl, Nat.le_of_ble_eq_true rfl⟩) (k := 38) (Nat.le_of_ble_eq_true rfl) rfl rfl rfl rfl hl.1 rfl (Nat.le_of_ble_eq_true rfl) dX7_mirror_52 ⟨Nat.le_refl _, Nat.le_refl _⟩ (fun u52 H locs hq52 X => ?_)
      have hfin := xinv_change hI hq20 hrow hq52 hok2 (recd_ok hHok hok)
      refine lv_aload_n hx hb dX7_mirror_55 rfl (lv_at hl 0 rfl) ?_
      refine g_get G X (k := 0) (fs := fX Y) (Nat.le_of_ble_eq_true rfl) (fun _ => rfl) rfl in_X7 0 (by decide) l_f10 rfl (v := .ref (Y.2.1 (1))) rfl dX7_mirror_56 ?_
      refine g_callVi G X (rest := []) (As := []) (t_X5_size l Y (u52) (1) (P') (by first | assumption | omega) hfin.1.1) (cwV 0 hts gX7_mirror_X5_size rfl rfl rfl (by decide +kernel) ⟨Nat.le_of_ble_eq_true rfl, Nat.le_of_ble_eq_true rfl⟩) (k := 1) (Nat.le_of_ble_eq_true rfl) rfl rfl rfl rfl hl.1 rfl (Nat.le_of_ble_eq_true rfl) dX7_mirror_59 ⟨Nat.le_refl _, Nat.le_refl _⟩ (fun z59 u59 H locs hq59 X => ?_)
      rw [hq59.1] at X
      have hq59 := hq59.2
      try dsimp only at hq59
      exact hret _ _ _ _ _ _ ((by have e : stMir P hs w = ((P.length : Int), if w = 0 then mirP P else mirV P, recd hs P) := by { unfold stMir; exact if_neg (by omega) }; rw [e]; exact ⟨by rw [hq59, hl2], by rw [hP']; exact hfin⟩)) X dX7_mirror_62
  ·
    refine g_ldc G (z := (-1000001)) l_c73 (by decide +kernel) dX7_mirror_9 ?_
    exact hret _ _ _ _ _ _ ((by have e : stMir P hs w = (-1000001, P, hs) := by { unfold stMir; exact if_pos (by omega) }; rw [e]; exact ⟨rfl, hI⟩)) X dX7_mirror_11

set_option maxHeartbeats 4000000 in
set_option maxRecDepth 100000 in
theorem t_X7_undo (l : Launch) (Y : Yt) (σ : Mem) (P : List Pt) (hs : List (List Pt)) (tx : List Int) (ch : List Int) (hI : XInv σ P hs tx ch) : MXi l LX Y yX7_undo wsX7_undo { frames := 4, cells := 0, slots := 0, locals := 92 } [.ref (Y.2.1 (0))] σ (fun z u => z = (stUndo P hs).1 ∧ XInv u (stUndo P hs).2.1 (stUndo P hs).2.2 tx ch) := by
  obtain ⟨⟨hR, hok⟩, hTab, ⟨hH, hHok⟩, ⟨hTx, htok⟩, ⟨hC, hC3⟩, hs45, hs47⟩ := id hI
  have hPf := prof_of hok hR.2.1
  have hT : Tb σ (ng P) (gX P) (gC P) (gW P) (gM P) (gQ P) := hTab
  have hq0 := gQ_rg hok hR.2.1
  have hr1 : isRow Y 1 := isRow_of Y (by omega)
  have h12 := hR.2.1
  obtain ⟨⟨hn0, hn12, -⟩, -⟩ := id hPf
  have hh6 := hH.2.1
  have hk45 := isHull_of Y (k := 45) (Or.inl rfl)
  have hk47 := isHull_of Y (k := 47) (Or.inr rfl)
  have h90 := htok.1
  refine g_starti (rty := .int) (fun _ _ _ => rfl) (cc := cX7_undo) (nL := 1) (own := RX7) (by decide) rfl rfl (Nat.le_of_ble_eq_true rfl) ?_
  intro pp ee ss mm bw mt cd AA ZZ ls G hret X hl
  have hl : lv_has ls 1 [(0, .ref (Y.2.1 (0)))] := hl
  have hx := G.1
  have hb := G.2.1
  have hts := G.2.2.2.2.1
  have l_f10 := hts (.fieldLink RX7 10 "ShapeFits" "row" "LShapeFits$PointRow;") (List.mem_of_getElem? (i := 3) rfl)
  have l_f26 := hts (.fieldLink RX7 26 "ShapeFits" "history" "LShapeFits$History;") (List.mem_of_getElem? (i := 1) rfl)
  have l_f33 := hts (.fieldLink RX7 33 "ShapeFits" "table" "LShapeFits$GroupTable;") (List.mem_of_getElem? (i := 4) rfl)
  have l_c117 := hts (.constant RX7 117 (-1000002)) (List.mem_of_getElem? (i := 2) rfl)
  have in_X7 : ∀ w ∈ u_ws RX7 TX7 8, w ∈ wsX7_undo := by decide +kernel
  refine lv_aload_n hx hb dX7_undo_0 rfl (lv_at hl 0 rfl) ?_
  refine g_get G X (k := 0) (fs := fX Y) (Nat.le_of_ble_eq_true rfl) (fun _ => rfl) rfl in_X7 2 (by decide) l_f26 rfl (v := .ref (Y.2.1 (12))) rfl dX7_undo_1 ?_
  refine g_callVi G X (rest := []) (As := []) (t_X2_size l Y (σ) hs (by first | assumption | omega)) (cwV 0 hts gX7_undo_X2_size rfl rfl rfl (by decide +kernel) ⟨Nat.le_of_ble_eq_true rfl, Nat.le_of_ble_eq_true rfl⟩) (k := 12) (Nat.le_of_ble_eq_true rfl) rfl rfl rfl rfl hl.1 rfl (Nat.le_of_ble_eq_true rfl) dX7_undo_4 ⟨Nat.le_refl _, Nat.le_refl _⟩ (fun z4 u4 H locs hq4 X => ?_)
  rw [hq4.1] at X
  have hq4 := hq4.2
  try dsimp only at hq4
  refine g_topi (z' := (hs.length : Int)) hq4 ?_
  refine g_if_ne (tgt := 13) G dX7_undo_7 (by decide) (by omega) (fun h7 => ?_) (fun h7 => ?_)
  ·
    refine lv_aload_n hx hb dX7_undo_13 rfl (lv_at hl 0 rfl) ?_
    refine g_get G X (k := 0) (fs := fX Y) (Nat.le_of_ble_eq_true rfl) (fun _ => rfl) rfl in_X7 2 (by decide) l_f26 rfl (v := .ref (Y.2.1 (12))) rfl dX7_undo_14 ?_
    refine lv_aload_n hx hb dX7_undo_17 rfl (lv_at hl 0 rfl) ?_
    refine g_get G X (k := 0) (fs := fX Y) (Nat.le_of_ble_eq_true rfl) (fun _ => rfl) rfl in_X7 0 (by decide) l_f10 rfl (v := .ref (Y.2.1 (1))) rfl dX7_undo_18 ?_
    refine g_callVv G X (rest := []) (As := [.ref (Y.2.1 (1))]) (t_X2_restore l Y (σ) hs (P) (by first | assumption | omega) (by first | assumption | omega) (by first | assumption | omega)) (cwV 1 hts gX7_undo_X2_restore rfl rfl rfl (by decide +kernel) ⟨Nat.le_of_ble_eq_true rfl, Nat.le_of_ble_eq_true rfl⟩) (k := 12) (Nat.le_of_ble_eq_true rfl) rfl rfl rfl rfl hl.1 rfl (Nat.le_of_ble_eq_true rfl) dX7_undo_21 ⟨Nat.le_refl _, Nat.le_refl _⟩ (fun u21 H locs hq21 X => ?_)
    have hok2 := hAt_ok hHok (i := (hs.length : Int) - 1) (by omega) (by omega)
    have hdl : ∀ Q ∈ hs.dropLast, ptsOk Q := fun Q hQ => hHok Q (List.dropLast_subset hs hQ)
    refine lv_aload_n hx hb dX7_undo_24 rfl (lv_at hl 0 rfl) ?_
    refine g_get G X (k := 0) (fs := fX Y) (Nat.le_of_ble_eq_true rfl) (fun _ => rfl) rfl in_X7 3 (by decide) l_f33 rfl (v := .ref (Y.2.1 (38))) rfl dX7_undo_25 ?_
    refine lv_aload_n hx hb dX7_undo_28 rfl (lv_at hl 0 rfl) ?_
    refine g_get G X (k := 0) (fs := fX Y) (Nat.le_of_ble_eq_true rfl) (fun _ => rfl) rfl in_X7 0 (by decide) l_f10 rfl (v := .ref (Y.2.1 (1))) rfl dX7_undo_29 ?_
    refine g_callVv G X (rest := []) (As := [.ref (Y.2.1 (1))]) (t_X1_gather l Y (u21) (hAt hs ((hs.length : Int) - 1)) hq21.2.1 hok2 ⟨by rw [hq21.2.2 41 (by omega)]; exact hI.t0.1, by rw [hq21.2.2 42 (by omega)]; exact hI.t0.2⟩) (cwV 1 hts gX7_undo_X1_gather rfl rfl rfl (by decide +kernel) ⟨Nat.le_of_ble_eq_true rfl, Nat.le_of_ble_eq_true rfl⟩) (k := 38) (Nat.le_of_ble_eq_true rfl) rfl rfl rfl rfl hl.1 rfl (Nat.le_of_ble_eq_true rfl) dX7_undo_32 ⟨Nat.le_refl _, Nat.le_refl _⟩ (fun u32 H locs hq32 X => ?_)
    have hfin := xinv_undo hI hq21 hq32 hok2 hdl
    refine lv_aload_n hx hb dX7_undo_35 rfl (lv_at hl 0 rfl) ?_
    refine g_get G X (k := 0) (fs := fX Y) (Nat.le_of_ble_eq_true rfl) (fun _ => rfl) rfl in_X7 2 (by decide) l_f26 rfl (v := .ref (Y.2.1 (12))) rfl dX7_undo_36 ?_
    refine g_callVi G X (rest := []) (As := []) (t_X2_size l Y (u32) (hs.dropLast) hfin.2.2.1.1) (cwV 0 hts gX7_undo_X2_size rfl rfl rfl (by decide +kernel) ⟨Nat.le_of_ble_eq_true rfl, Nat.le_of_ble_eq_true rfl⟩) (k := 12) (Nat.le_of_ble_eq_true rfl) rfl rfl rfl rfl hl.1 rfl (Nat.le_of_ble_eq_true rfl) dX7_undo_39 ⟨Nat.le_refl _, Nat.le_refl _⟩ (fun z39 u39 H locs hq39 X => ?_)
    rw [hq39.1] at X
    have hq39 := hq39.2
    try dsimp only at hq39
    exact hret _ _ _ _ _ _ ((by have e : stUndo P hs = ((hs.length : Int) - 1, hAt hs (hs.length - 1), hs.dropLast) := by { unfold stUndo; exact if_neg (by omega) }; rw [e]; exact ⟨by rw [hq39, List.length_dropLast]; show _ = (hs.length : Int) - 1; omega, hfin⟩)) X dX7_undo_42
  ·
    refine g_ldc G (z := (-1000002)) l_c117 (by decide +kernel) dX7_undo_10 ?_
    exact hret _ _ _ _ _ _ ((by have e : stUndo P hs = (-1000002, P, hs) := by { unfold stUndo; exact if_pos (by omega) }; rw [e]; exact ⟨rfl, hI⟩)) X dX7_undo_12

set_option maxHeartbeats 4000000 in
set_option maxRecDepth 100000 in
theorem t_X7_points (l : Launch) (Y : Yt) (σ : Mem) (P : List Pt) (hs : List (List Pt)) (tx : List Int) (ch : List Int) (hI : XInv σ P hs tx ch) : MXi l LX Y yX7_points wsX7_points { frames := 1, cells := 0, slots := 0, locals := 20 } [.ref (Y.2.1 (0))] σ (fun z u => u = σ ∧ (z = P.length)) := by
  obtain ⟨⟨hR, hok⟩, hTab, ⟨hH, hHok⟩, ⟨hTx, htok⟩, ⟨hC, hC3⟩, hs45, hs47⟩ := id hI
  have hPf := prof_of hok hR.2.1
  have hT : Tb σ (ng P) (gX P) (gC P) (gW P) (gM P) (gQ P) := hTab
  have hq0 := gQ_rg hok hR.2.1
  have hr1 : isRow Y 1 := isRow_of Y (by omega)
  have h12 := hR.2.1
  obtain ⟨⟨hn0, hn12, -⟩, -⟩ := id hPf
  have hh6 := hH.2.1
  have hk45 := isHull_of Y (k := 45) (Or.inl rfl)
  have hk47 := isHull_of Y (k := 47) (Or.inr rfl)
  have h90 := htok.1
  refine g_starti (rty := .int) (fun _ _ _ => rfl) (cc := cX7_points) (nL := 1) (own := RX7) (by decide) rfl rfl (Nat.le_of_ble_eq_true rfl) ?_
  intro pp ee ss mm bw mt cd AA ZZ ls G hret X hl
  have hl : lv_has ls 1 [(0, .ref (Y.2.1 (0)))] := hl
  have hx := G.1
  have hb := G.2.1
  have hts := G.2.2.2.2.1
  have l_f10 := hts (.fieldLink RX7 10 "ShapeFits" "row" "LShapeFits$PointRow;") (List.mem_of_getElem? (i := 1) rfl)
  have in_X7 : ∀ w ∈ u_ws RX7 TX7 8, w ∈ wsX7_points := by decide +kernel
  refine lv_aload_n hx hb dX7_points_0 rfl (lv_at hl 0 rfl) ?_
  refine g_get G X (k := 0) (fs := fX Y) (Nat.le_of_ble_eq_true rfl) (fun _ => rfl) rfl in_X7 0 (by decide) l_f10 rfl (v := .ref (Y.2.1 (1))) rfl dX7_points_1 ?_
  refine g_callVi G X (rest := []) (As := []) (t_X5_size l Y (σ) (1) P (by first | assumption | omega) (by first | assumption | omega)) (cwV 0 hts gX7_points_X5_size rfl rfl rfl (by decide +kernel) ⟨Nat.le_of_ble_eq_true rfl, Nat.le_of_ble_eq_true rfl⟩) (k := 1) (Nat.le_of_ble_eq_true rfl) rfl rfl rfl rfl hl.1 rfl (Nat.le_of_ble_eq_true rfl) dX7_points_4 ⟨Nat.le_refl _, Nat.le_refl _⟩ (fun z4 u4 H locs hq4 X => ?_)
  rw [hq4.1] at X
  have hq4 := hq4.2
  try dsimp only at hq4
  exact hret _ _ _ _ _ _ (⟨rfl, hq4⟩) X dX7_points_7

set_option maxHeartbeats 4000000 in
set_option maxRecDepth 100000 in
theorem t_X7_groups (l : Launch) (Y : Yt) (σ : Mem) (P : List Pt) (hs : List (List Pt)) (tx : List Int) (ch : List Int) (hI : XInv σ P hs tx ch) : MXi l LX Y yX7_groups wsX7_groups { frames := 1, cells := 0, slots := 0, locals := 20 } [.ref (Y.2.1 (0))] σ (fun z u => u = σ ∧ (z = ng P)) := by
  obtain ⟨⟨hR, hok⟩, hTab, ⟨hH, hHok⟩, ⟨hTx, htok⟩, ⟨hC, hC3⟩, hs45, hs47⟩ := id hI
  have hPf := prof_of hok hR.2.1
  have hT : Tb σ (ng P) (gX P) (gC P) (gW P) (gM P) (gQ P) := hTab
  have hq0 := gQ_rg hok hR.2.1
  have hr1 : isRow Y 1 := isRow_of Y (by omega)
  have h12 := hR.2.1
  obtain ⟨⟨hn0, hn12, -⟩, -⟩ := id hPf
  have hh6 := hH.2.1
  have hk45 := isHull_of Y (k := 45) (Or.inl rfl)
  have hk47 := isHull_of Y (k := 47) (Or.inr rfl)
  have h90 := htok.1
  refine g_starti (rty := .int) (fun _ _ _ => rfl) (cc := cX7_groups) (nL := 1) (own := RX7) (by decide) rfl rfl (Nat.le_of_ble_eq_true rfl) ?_
  intro pp ee ss mm bw mt cd AA ZZ ls G hret X hl
  have hl : lv_has ls 1 [(0, .ref (Y.2.1 (0)))] := hl
  have hx := G.1
  have hb := G.2.1
  have hts := G.2.2.2.2.1
  have l_f33 := hts (.fieldLink RX7 33 "ShapeFits" "table" "LShapeFits$GroupTable;") (List.mem_of_getElem? (i := 1) rfl)
  have in_X7 : ∀ w ∈ u_ws RX7 TX7 8, w ∈ wsX7_groups := by decide +kernel
  refine lv_aload_n hx hb dX7_groups_0 rfl (lv_at hl 0 rfl) ?_
  refine g_get G X (k := 0) (fs := fX Y) (Nat.le_of_ble_eq_true rfl) (fun _ => rfl) rfl in_X7 3 (by decide) l_f33 rfl (v := .ref (Y.2.1 (38))) rfl dX7_groups_1 ?_
  refine g_callVi G X (rest := []) (As := []) (t_X1_size l Y (σ) (ng P) (gX P) (gC P) (gW P) (gM P) (gQ P) (by first | assumption | omega) (by first | assumption | omega)) (cwV 0 hts gX7_groups_X1_size rfl rfl rfl (by decide +kernel) ⟨Nat.le_of_ble_eq_true rfl, Nat.le_of_ble_eq_true rfl⟩) (k := 38) (Nat.le_of_ble_eq_true rfl) rfl rfl rfl rfl hl.1 rfl (Nat.le_of_ble_eq_true rfl) dX7_groups_4 ⟨Nat.le_refl _, Nat.le_refl _⟩ (fun z4 u4 H locs hq4 X => ?_)
  rw [hq4.1] at X
  have hq4 := hq4.2
  try dsimp only at hq4
  exact hret _ _ _ _ _ _ (⟨rfl, hq4⟩) X dX7_groups_7

set_option maxHeartbeats 4000000 in
set_option maxRecDepth 100000 in
theorem t_X7_groupInfo (l : Launch) (Y : Yt) (σ : Mem) (P : List Pt) (hs : List (List Pt)) (tx : List Int) (ch : List Int) (g : Int) (w : Int) (hI : XInv σ P hs tx ch) (h_g : -2147483648 ≤ g ∧ g ≤ 2147483647) (h_w : -2147483648 ≤ w ∧ w ≤ 2147483647) : MXi l LX Y yX7_groupInfo wsX7_groupInfo { frames := 2, cells := 0, slots := 0, locals := 42 } [.ref (Y.2.1 (0)), .int (iI (g)), .int (iI (w))] σ (fun z u => u = σ ∧ (z = ginA P g w)) := by
  obtain ⟨⟨hR, hok⟩, hTab, ⟨hH, hHok⟩, ⟨hTx, htok⟩, ⟨hC, hC3⟩, hs45, hs47⟩ := id hI
  have hPf := prof_of hok hR.2.1
  have hT : Tb σ (ng P) (gX P) (gC P) (gW P) (gM P) (gQ P) := hTab
  have hq0 := gQ_rg hok hR.2.1
  have hr1 : isRow Y 1 := isRow_of Y (by omega)
  have h12 := hR.2.1
  obtain ⟨⟨hn0, hn12, -⟩, -⟩ := id hPf
  have hh6 := hH.2.1
  have hk45 := isHull_of Y (k := 45) (Or.inl rfl)
  have hk47 := isHull_of Y (k := 47) (Or.inr rfl)
  have h90 := htok.1
  refine g_starti (rty := .int) (fun _ _ _ => rfl) (cc := cX7_groupInfo) (nL := 3) (own := RX7) (by decide) rfl rfl (Nat.le_of_ble_eq_true rfl) ?_
  intro pp ee ss mm bw mt cd AA ZZ ls G hret X hl
  have hl : lv_has ls 3 [(0, .ref (Y.2.1 (0))), (1, .int (iI (g))), (2, .int (iI (w)))] := hl
  have hx := G.1
  have hb := G.2.1
  have hts := G.2.2.2.2.1
  have l_f33 := hts (.fieldLink RX7 33 "ShapeFits" "table" "LShapeFits$GroupTable;") (List.mem_of_getElem? (i := 1) rfl)
  have l_c73 := hts (.constant RX7 73 (-1000001)) (List.mem_of_getElem? (i := 2) rfl)
  have in_X7 : ∀ w ∈ u_ws RX7 TX7 8, w ∈ wsX7_groupInfo := by decide +kernel
  refine lv_aload_n hx hb dX7_groupInfo_0 rfl (lv_at hl 0 rfl) ?_
  refine g_get G X (k := 0) (fs := fX Y) (Nat.le_of_ble_eq_true rfl) (fun _ => rfl) rfl in_X7 3 (by decide) l_f33 rfl (v := .ref (Y.2.1 (38))) rfl dX7_groupInfo_1 ?_
  refine lv_iload_n hx hb dX7_groupInfo_4 rfl (lv_at hl 1 rfl) ?_
  refine g_callVi G X (rest := []) (As := [.int (iI (g))]) (t_X1_has l Y (σ) (ng P) (gX P) (gC P) (gW P) (gM P) (gQ P) (g) (by first | assumption | omega) (by first | assumption | omega) (by first | assumption | omega)) (cwV 1 hts gX7_groupInfo_X1_has rfl rfl rfl (by decide +kernel) ⟨Nat.le_of_ble_eq_true rfl, Nat.le_of_ble_eq_true rfl⟩) (k := 38) (Nat.le_of_ble_eq_true rfl) rfl rfl rfl rfl hl.1 rfl (Nat.le_of_ble_eq_true rfl) dX7_groupInfo_5 ⟨Nat.le_refl _, Nat.le_refl _⟩ (fun z5 u5 H locs hq5 X => ?_)
  rw [hq5.1] at X
  have hq5 := hq5.2
  try dsimp only at hq5
  refine g_if_eq (tgt := 20) G dX7_groupInfo_8 (by decide) (by omega) (fun h8 => ?_) (fun h8 => ?_)
  ·
    refine g_ldc G (z := (-1000001)) l_c73 (by decide +kernel) dX7_groupInfo_20 ?_
    exact hret _ _ _ _ _ _ (⟨rfl, by unfold ginA; exact (if_pos (by omega)).symm⟩) X dX7_groupInfo_22
  ·
    refine lv_iload_n hx hb dX7_groupInfo_11 rfl (lv_at hl 2 rfl) ?_
    refine lv_iconst (v := iI 0) hx hb dX7_groupInfo_12 rfl ?_
    refine lv_iconst (v := iI 3) hx hb dX7_groupInfo_13 rfl ?_
    refine g_callSi G X (rest := []) (As := [.int (iI (w)), .int (iI (0)), .int (iI (3))]) (t_X7_outside l Y (σ) (w) (0) (3) (by first | assumption | omega) (by first | assumption | omega) (by first | assumption | omega)) (va_cwS 3 hts gX7_groupInfo_X7_outside rfl rfl rfl (by decide +kernel) ⟨Nat.le_of_ble_eq_true rfl, Nat.le_of_ble_eq_true rfl⟩) rfl hl.1 rfl (Nat.le_of_ble_eq_true rfl) dX7_groupInfo_14 ⟨Nat.le_refl _, Nat.le_refl _⟩ (fun z14 u14 H locs hq14 X => ?_)
    rw [hq14.1] at X
    have hq14 := hq14.2
    try dsimp only at hq14
    refine g_if_eq (tgt := 23) G dX7_groupInfo_17 (by decide) (by omega) (fun h17 => ?_) (fun h17 => ?_)
    ·
      refine lv_iload_n hx hb dX7_groupInfo_23 rfl (lv_at hl 2 rfl) ?_
      rcases (show w = 0 ∨ w = 1 ∨ w = 2 ∨ (w < 0 ∨ 2 < w) by omega) with hsw24 | hsw24 | hsw24 | hsw24
      ·
        refine g_topi (z' := 0) hsw24 ?_
        refine lv_tableIn (off := 28) (tgt := 52) hx hb dX7_groupInfo_24 (by decide +kernel) (by decide +kernel) (by decide +kernel) (by decide) ?_
        refine lv_aload_n hx hb dX7_groupInfo_52 rfl (lv_at hl 0 rfl) ?_
        refine g_get G X (k := 0) (fs := fX Y) (Nat.le_of_ble_eq_true rfl) (fun _ => rfl) rfl in_X7 3 (by decide) l_f33 rfl (v := .ref (Y.2.1 (38))) rfl dX7_groupInfo_53 ?_
        refine lv_iload_n hx hb dX7_groupInfo_56 rfl (lv_at hl 1 rfl) ?_
        refine g_callVi G X (rest := []) (As := [.int (iI (g))]) (t_X1_positionOf l Y (σ) (ng P) (gX P) (gC P) (gW P) (gM P) (gQ P) (g) (by first | assumption | omega) (by first | assumption | omega) (by first | assumption | omega)) (cwV 1 hts gX7_groupInfo_X1_positionOf rfl rfl rfl (by decide +kernel) ⟨Nat.le_of_ble_eq_true rfl, Nat.le_of_ble_eq_true rfl⟩) (k := 38) (Nat.le_of_ble_eq_true rfl) rfl rfl rfl rfl hl.1 rfl (Nat.le_of_ble_eq_true rfl) dX7_groupInfo_57 ⟨Nat.le_refl _, Nat.le_refl _⟩ (fun z57 u57 H locs hq57 X => ?_)
        rw [hq57.1] at X
        have hq57 := hq57.2
        try dsimp only at hq57
        exact hret _ _ _ _ _ _ (⟨rfl, by unfold ginA; rw [if_neg (by omega), if_pos (by omega)]; exact hq57.1 (by omega)⟩) X dX7_groupInfo_60
      ·
        refine g_topi (z' := 1) hsw24 ?_
        refine lv_tableIn (off := 37) (tgt := 61) hx hb dX7_groupInfo_24 (by decide +kernel) (by decide +kernel) (by decide +kernel) (by decide) ?_
        refine lv_aload_n hx hb dX7_groupInfo_61 rfl (lv_at hl 0 rfl) ?_
        refine g_get G X (k := 0) (fs := fX Y) (Nat.le_of_ble_eq_true rfl) (fun _ => rfl) rfl in_X7 3 (by decide) l_f33 rfl (v := .ref (Y.2.1 (38))) rfl dX7_groupInfo_62 ?_
        refine lv_iload_n hx hb dX7_groupInfo_65 rfl (lv_at hl 1 rfl) ?_
        refine lv_iload_n hx hb dX7_groupInfo_66 rfl (lv_at hl 1 rfl) ?_
        refine g_callVi G X (rest := []) (As := [.int (iI (g)), .int (iI (g))]) (t_X1_weightOf l Y (σ) (ng P) (gX P) (gC P) (gW P) (gM P) (gQ P) (g) (g) (by first | assumption | omega) (by first | assumption | omega) (by first | assumption | omega) (by first | assumption | omega)) (cwV 2 hts gX7_groupInfo_X1_weightOf rfl rfl rfl (by decide +kernel) ⟨Nat.le_of_ble_eq_true rfl, Nat.le_of_ble_eq_true rfl⟩) (k := 38) (Nat.le_of_ble_eq_true rfl) rfl rfl rfl rfl hl.1 rfl (Nat.le_of_ble_eq_true rfl) dX7_groupInfo_67 ⟨Nat.le_refl _, Nat.le_refl _⟩ (fun z67 u67 H locs hq67 X => ?_)
        rw [hq67.1] at X
        have hq67 := hq67.2
        try dsimp only at hq67
        exact hret _ _ _ _ _ _ (⟨rfl, by unfold ginA; rw [if_neg (by omega), if_neg (by omega), if_pos (by omega)]; exact hq67.1 (by omega)⟩) X dX7_groupInfo_70
      ·
        refine g_topi (z' := 2) hsw24 ?_
        refine lv_tableIn (off := 47) (tgt := 71) hx hb dX7_groupInfo_24 (by decide +kernel) (by decide +kernel) (by decide +kernel) (by decide) ?_
        refine lv_aload_n hx hb dX7_groupInfo_71 rfl (lv_at hl 0 rfl) ?_
        refine g_get G X (k := 0) (fs := fX Y) (Nat.le_of_ble_eq_true rfl) (fun _ => rfl) rfl in_X7 3 (by decide) l_f33 rfl (v := .ref (Y.2.1 (38))) rfl dX7_groupInfo_72 ?_
        refine lv_iload_n hx hb dX7_groupInfo_75 rfl (lv_at hl 1 rfl) ?_
        refine lv_iload_n hx hb dX7_groupInfo_76 rfl (lv_at hl 1 rfl) ?_
        refine g_callVi G X (rest := []) (As := [.int (iI (g)), .int (iI (g))]) (t_X1_momentOf l Y (σ) (ng P) (gX P) (gC P) (gW P) (gM P) (gQ P) (g) (g) (by first | assumption | omega) (by first | assumption | omega) (by first | assumption | omega) (by first | assumption | omega)) (cwV 2 hts gX7_groupInfo_X1_momentOf rfl rfl rfl (by decide +kernel) ⟨Nat.le_of_ble_eq_true rfl, Nat.le_of_ble_eq_true rfl⟩) (k := 38) (Nat.le_of_ble_eq_true rfl) rfl rfl rfl rfl hl.1 rfl (Nat.le_of_ble_eq_true rfl) dX7_groupInfo_77 ⟨Nat.le_refl _, Nat.le_refl _⟩ (fun z77 u77 H locs hq77 X => ?_)
        rw [hq77.1] at X
        have hq77 := hq77.2
        try dsimp only at hq77
        exact hret _ _ _ _ _ _ (⟨rfl, by unfold ginA; rw [if_neg (by omega), if_neg (by omega), if_neg (by omega), if_pos (by omega)]; exact hq77.1 (by omega)⟩) X dX7_groupInfo_80
      ·
        refine lv_tableOut (tgt := 81) hx hb dX7_groupInfo_24 (by rw [iI_toInt (by omega)]; omega) (by decide) ?_
        refine lv_aload_n hx hb dX7_groupInfo_81 rfl (lv_at hl 0 rfl) ?_
        refine g_get G X (k := 0) (fs := fX Y) (Nat.le_of_ble_eq_true rfl) (fun _ => rfl) rfl in_X7 3 (by decide) l_f33 rfl (v := .ref (Y.2.1 (38))) rfl dX7_groupInfo_82 ?_
        refine lv_iload_n hx hb dX7_groupInfo_85 rfl (lv_at hl 1 rfl) ?_
        refine g_callVi G X (rest := []) (As := [.int (iI (g))]) (t_X1_membersOf l Y (σ) (ng P) (gX P) (gC P) (gW P) (gM P) (gQ P) (g) (by first | assumption | omega) (by first | assumption | omega) (by first | assumption | omega)) (cwV 1 hts gX7_groupInfo_X1_membersOf rfl rfl rfl (by decide +kernel) ⟨Nat.le_of_ble_eq_true rfl, Nat.le_of_ble_eq_true rfl⟩) (k := 38) (Nat.le_of_ble_eq_true rfl) rfl rfl rfl rfl hl.1 rfl (Nat.le_of_ble_eq_true rfl) dX7_groupInfo_86 ⟨Nat.le_refl _, Nat.le_refl _⟩ (fun z86 u86 H locs hq86 X => ?_)
        rw [hq86.1] at X
        have hq86 := hq86.2
        try dsimp only at hq86
        exact hret _ _ _ _ _ _ (⟨rfl, by unfold ginA; rw [if_neg (by omega), if_neg (by omega), if_neg (by omega), if_neg (by omega)]; exact hq86.1 (by omega)⟩) X dX7_groupInfo_89
    ·
      refine g_ldc G (z := (-1000001)) l_c73 (by decide +kernel) dX7_groupInfo_20 ?_
      exact hret _ _ _ _ _ _ (⟨rfl, by unfold ginA; exact (if_pos (by omega)).symm⟩) X dX7_groupInfo_22

