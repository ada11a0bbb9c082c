set_option maxHeartbeats 4000000 in
set_option maxRecDepth 100000 in
theorem t_X7_fit (l : Launch) (Y : Yt) (σ : Mem) (P : List Pt) (hs : List (List Pt)) (tx : List Int) (ch : List Int) (kind : Int) (g : Int) (w : Int) (hI : XInv σ P hs tx ch) (h_kind : -2147483648 ≤ kind ∧ kind ≤ 2147483647) (h_g : -2147483648 ≤ g ∧ g ≤ 2147483647) (h_w : -2147483648 ≤ w ∧ w ≤ 2147483647) : MXl l LX Y yX7_fit wsX7_fit { frames := 6, cells := 0, slots := 0, locals := 144 } [.ref (Y.2.1 (0)), .int (iI (kind)), .int (iI (g)), .int (iI (w))] σ (fun z u => z = fitA P kind g w ∧ XInv u P hs tx ch) := by
  obtain ⟨⟨hR, hok⟩, hTab, ⟨hH, hHok⟩, ⟨hTx, htok⟩, ⟨hC, hC3⟩, hs45, hs47⟩ := id hI
  have hPf := prof_of hok hR.2.1
  have hT : Tb σ (ng P) (gX P) (gC P) (gW P) (gM P) (gQ P) := hTab
  have hq0 := gQ_rg hok hR.2.1
  have hr1 : isRow Y 1 := isRow_of Y (by omega)
  have h12 := hR.2.1
  obtain ⟨⟨hn0, hn12, -⟩, -⟩ := id hPf
  have hh6 := hH.2.1
  have hk45 := isHull_of Y (k := 45) (Or.inl rfl)
  have hk47 := isHull_of Y (k := 47) (Or.inr rfl)
  have h90 := htok.1
  refine g_startl (cc := cX7_fit) (nL := 7) (own := RX7) (by decide) rfl rfl (Nat.le_of_ble_eq_true rfl) ?_
  intro pp ee ss mm bw mt cd AA ZZ ls G hret X hl
  have hl : lv_has ls 7 [(0, .ref (Y.2.1 (0))), (1, .int (iI (kind))), (2, .int (iI (g))), (3, .int (iI (w)))] := hl
  have hx := G.1
  have hb := G.2.1
  have hts := G.2.2.2.2.1
  have l_f33 := hts (.fieldLink RX7 33 "ShapeFits" "table" "LShapeFits$GroupTable;") (List.mem_of_getElem? (i := 1) rfl)
  have l_f42 := hts (.fieldLink RX7 42 "ShapeFits" "blockFit" "LShapeFits$BlockFit;") (List.mem_of_getElem? (i := 3) rfl)
  have l_k146 := hts (.constantLong RX7 146 (-1000001)) (List.mem_of_getElem? (i := 2) rfl)
  have in_X7 : ∀ w ∈ u_ws RX7 TX7 8, w ∈ wsX7_fit := by decide +kernel
  refine lv_iload_n hx hb dX7_fit_0 rfl (lv_at hl 1 rfl) ?_
  refine lv_iconst (v := iI 0) hx hb dX7_fit_1 rfl ?_
  refine lv_iconst (v := iI 5) hx hb dX7_fit_2 rfl ?_
  refine g_callSi G X (rest := []) (As := [.int (iI (kind)), .int (iI (0)), .int (iI (5))]) (t_X7_outside l Y (σ) (kind) (0) (5) (by first | assumption | omega) (by first | assumption | omega) (by first | assumption | omega)) (va_cwS 3 hts gX7_fit_X7_outside rfl rfl rfl (by decide +kernel) ⟨Nat.le_of_ble_eq_true rfl, Nat.le_of_ble_eq_true rfl⟩) rfl hl.1 rfl (Nat.le_of_ble_eq_true rfl) dX7_fit_3 ⟨Nat.le_refl _, Nat.le_refl _⟩ (fun z3 u3 H locs hq3 X => ?_)
  rw [hq3.1] at X
  have hq3 := hq3.2
  try dsimp only at hq3
  refine g_if_ne (tgt := 27) G dX7_fit_6 (by decide) (by omega) (fun h6 => ?_) (fun h6 => ?_)
  ·
    refine g_ldc2 G (z := (-1000001)) l_k146 (by decide +kernel) dX7_fit_27 ?_
    exact hret _ _ _ _ _ _ (⟨by unfold fitA; rw [if_pos (by omega)], hI⟩) X dX7_fit_30
  ·
    refine lv_aload_n hx hb dX7_fit_9 rfl (lv_at hl 0 rfl) ?_
    refine g_get G X (k := 0) (fs := fX Y) (Nat.le_of_ble_eq_true rfl) (fun _ => rfl) rfl in_X7 3 (by decide) l_f33 rfl (v := .ref (Y.2.1 (38))) rfl dX7_fit_10 ?_
    refine lv_iload_n hx hb dX7_fit_13 rfl (lv_at hl 2 rfl) ?_
    refine g_callVi G X (rest := []) (As := [.int (iI (g))]) (t_X1_has l Y (σ) (ng P) (gX P) (gC P) (gW P) (gM P) (gQ P) (g) (by first | assumption | omega) (by first | assumption | omega) (by first | assumption | omega)) (cwV 1 hts gX7_fit_X1_has rfl rfl rfl (by decide +kernel) ⟨Nat.le_of_ble_eq_true rfl, Nat.le_of_ble_eq_true rfl⟩) (k := 38) (Nat.le_of_ble_eq_true rfl) rfl rfl rfl rfl hl.1 rfl (Nat.le_of_ble_eq_true rfl) dX7_fit_14 ⟨Nat.le_refl _, Nat.le_refl _⟩ (fun z14 u14 H locs hq14 X => ?_)
    rw [hq14.1] at X
    have hq14 := hq14.2
    try dsimp only at hq14
    refine g_if_eq (tgt := 27) G dX7_fit_17 (by decide) (by omega) (fun h17 => ?_) (fun h17 => ?_)
    ·
      refine g_ldc2 G (z := (-1000001)) l_k146 (by decide +kernel) dX7_fit_27 ?_
      exact hret _ _ _ _ _ _ (⟨by unfold fitA; rw [if_pos (by omega)], hI⟩) X dX7_fit_30
    ·
      refine lv_iload_n hx hb dX7_fit_20 rfl (lv_at hl 3 rfl) ?_
      refine g_callSi G X (rest := []) (As := [.int (iI (w))]) (t_X7_notFractionPart l Y (σ) (w) (by first | assumption | omega)) (va_cwS 1 hts gX7_fit_X7_notFractionPart rfl rfl rfl (by decide +kernel) ⟨Nat.le_of_ble_eq_true rfl, Nat.le_of_ble_eq_true rfl⟩) rfl hl.1 rfl (Nat.le_of_ble_eq_true rfl) dX7_fit_21 ⟨Nat.le_refl _, Nat.le_refl _⟩ (fun z21 u21 H locs hq21 X => ?_)
      rw [hq21.1] at X
      have hq21 := hq21.2
      try dsimp only at hq21
      refine g_if_eq (tgt := 31) G dX7_fit_24 (by decide) (by omega) (fun h24 => ?_) (fun h24 => ?_)
      ·
        refine lv_iload_n hx hb dX7_fit_31 rfl (lv_at hl 1 rfl) ?_
        refine lv_iconst (v := iI 4) hx hb dX7_fit_32 rfl ?_
        refine g_icmp_lt (tgt := 65) G dX7_fit_33 (by decide) (by omega) (by omega) (fun h33 => ?_) (fun h33 => ?_)
        ·
          refine lv_aload_n hx hb dX7_fit_65 rfl (lv_at hl 0 rfl) ?_
          refine g_get G X (k := 0) (fs := fX Y) (Nat.le_of_ble_eq_true rfl) (fun _ => rfl) rfl in_X7 4 (by decide) l_f42 rfl (v := .ref (Y.2.1 (43))) rfl dX7_fit_66 ?_
          refine lv_iload_n hx hb dX7_fit_69 rfl (lv_at hl 1 rfl) ?_
          refine g_callVv G X (rest := []) (As := [.int (iI (kind))]) (t_X0_shape l Y (σ) (ng P) (gX P) (gC P) (gW P) (gM P) (gQ P) (kind) (by first | assumption | omega) (by first | assumption | omega) (by first | assumption | omega) (by first | assumption | omega)) (cwV 1 hts gX7_fit_X0_shape rfl rfl rfl (by decide +kernel) ⟨Nat.le_of_ble_eq_true rfl, Nat.le_of_ble_eq_true rfl⟩) (k := 43) (Nat.le_of_ble_eq_true rfl) rfl rfl rfl rfl hl.1 rfl (Nat.le_of_ble_eq_true rfl) dX7_fit_70 ⟨Nat.le_refl _, Nat.le_refl _⟩ (fun u70 H locs hq70 X => ?_)
          have hT3 : Tb u70 (ng P) (gX P) (gC P) (gW P) (gM P) (gQ P) := hT.same hq70.2.2
          refine lv_aload_n hx hb dX7_fit_73 rfl (lv_at hl 0 rfl) ?_
          refine g_get G X (k := 0) (fs := fX Y) (Nat.le_of_ble_eq_true rfl) (fun _ => rfl) rfl in_X7 4 (by decide) l_f42 rfl (v := .ref (Y.2.1 (43))) rfl dX7_fit_74 ?_
          refine lv_iload_n hx hb dX7_fit_77 rfl (lv_at hl 2 rfl) ?_
          refine g_callVi G X (rest := []) (As := [.int (iI (g))]) (t_X0_blockWith l Y (u70) (ng P) (gX P) (gC P) (gW P) (gM P) (gQ P) (g) ((kdB P kind)) hT3 (by first | assumption | omega) hq70.1 hq70.2.1 (by first | assumption | omega)) (cwV 1 hts gX7_fit_X0_blockWith rfl rfl rfl (by decide +kernel) ⟨Nat.le_of_ble_eq_true rfl, Nat.le_of_ble_eq_true rfl⟩) (k := 43) (Nat.le_of_ble_eq_true rfl) rfl rfl rfl rfl hl.1 rfl (Nat.le_of_ble_eq_true rfl) dX7_fit_78 ⟨Nat.le_refl _, Nat.le_refl _⟩ (fun z78 u78 H locs hq78 X => ?_)
          rw [hq78.1] at X
          have hq78 := hq78.2
          try dsimp only at hq78
          have hbk : blkA (kdB P kind) (ng P) g = z78 := blkA_eq hq70.2.1 hq78
          have hbr := bEnd_rg hq70.2.1 (j := z78) hq78.1 hq78.2.1
          have hz0 := hq78
          refine lv_istore (lv' := [(4, .int (iI (z78))), (0, .ref (Y.2.1 (0))), (1, .int (iI (kind))), (2, .int (iI (g))), (3, .int (iI (w)))]) hx hb dX7_fit_81 hl (by decide) rfl (fun ls hl => ?_)
          refine lv_aload_n hx hb dX7_fit_83 rfl (lv_at hl 1 rfl) ?_
          refine g_get G X (k := 0) (fs := fX Y) (Nat.le_of_ble_eq_true rfl) (fun _ => rfl) rfl in_X7 4 (by decide) l_f42 rfl (v := .ref (Y.2.1 (43))) rfl dX7_fit_84 ?_
          refine lv_iload hx hb dX7_fit_87 (lv_at hl 0 rfl) ?_
          refine g_callVi G X (rest := []) (As := [.int (iI (z78))]) (t_X0_firstOf l Y (u70) (ng P) (gX P) (gC P) (gW P) (gM P) (gQ P) (z78) ((kdB P kind)) hT3 (by first | assumption | omega) hq70.1 hq70.2.1 ⟨hz0.1, hz0.2.1⟩) (cwV 1 hts gX7_fit_X0_firstOf rfl rfl rfl (by decide +kernel) ⟨Nat.le_of_ble_eq_true rfl, Nat.le_of_ble_eq_true rfl⟩) (k := 43) (Nat.le_of_ble_eq_true rfl) rfl rfl rfl rfl hl.1 rfl (Nat.le_of_ble_eq_true rfl) dX7_fit_89 ⟨Nat.le_refl _, Nat.le_refl _⟩ (fun z89 u89 H locs hq89 X => ?_)
          rw [hq89.1] at X
          have hq89 := hq89.2
          try dsimp only at hq89
          refine g_topi (z' := at0 (kdB P kind) z78) hq89 ?_
          refine lv_istore (lv' := [(5, .int (iI ((at0 (kdB P kind) z78)))), (4, .int (iI (z78))), (0, .ref (Y.2.1 (0))), (1, .int (iI (kind))), (2, .int (iI (g))), (3, .int (iI (w)))]) hx hb dX7_fit_92 hl (by decide) rfl (fun ls hl => ?_)
          refine lv_aload_n hx hb dX7_fit_94 rfl (lv_at hl 2 rfl) ?_
          refine g_get G X (k := 0) (fs := fX Y) (Nat.le_of_ble_eq_true rfl) (fun _ => rfl) rfl in_X7 4 (by decide) l_f42 rfl (v := .ref (Y.2.1 (43))) rfl dX7_fit_95 ?_
          refine lv_iload hx hb dX7_fit_98 (lv_at hl 1 rfl) ?_
          refine g_callVi G X (rest := []) (As := [.int (iI (z78))]) (t_X0_lastOf l Y (u70) (ng P) (gX P) (gC P) (gW P) (gM P) (gQ P) (z78) ((kdB P kind)) hT3 (by first | assumption | omega) hq70.1 hq70.2.1 ⟨hz0.1, hz0.2.1⟩) (cwV 1 hts gX7_fit_X0_lastOf rfl rfl rfl (by decide +kernel) ⟨Nat.le_of_ble_eq_true rfl, Nat.le_of_ble_eq_true rfl⟩) (k := 43) (Nat.le_of_ble_eq_true rfl) rfl rfl rfl rfl hl.1 rfl (Nat.le_of_ble_eq_true rfl) dX7_fit_100 ⟨Nat.le_refl _, Nat.le_refl _⟩ (fun z100 u100 H locs hq100 X => ?_)
          rw [hq100.1] at X
          have hq100 := hq100.2
          try dsimp only at hq100
          refine g_topi (z' := bEnd (kdB P kind) (ng P) z78) hq100 ?_
          have hbr2 : 0 ≤ at0 (kdB P kind) z78 ∧ at0 (kdB P kind) z78 ≤ bEnd (kdB P kind) (ng P) z78 ∧ bEnd (kdB P kind) (ng P) z78 < ng P := hbr
          refine lv_istore (lv' := [(6, .int (iI ((bEnd (kdB P kind) (ng P) z78)))), (5, .int (iI ((at0 (kdB P kind) z78)))), (4, .int (iI (z78))), (0, .ref (Y.2.1 (0))), (1, .int (iI (kind))), (2, .int (iI (g))), (3, .int (iI (w)))]) hx hb dX7_fit_103 hl (by decide) rfl (fun ls hl => ?_)
          refine lv_aload_n hx hb dX7_fit_105 rfl (lv_at hl 3 rfl) ?_
          refine g_get G X (k := 0) (fs := fX Y) (Nat.le_of_ble_eq_true rfl) (fun _ => rfl) rfl in_X7 3 (by decide) l_f33 rfl (v := .ref (Y.2.1 (38))) rfl dX7_fit_106 ?_
          refine lv_iload hx hb dX7_fit_109 (lv_at hl 1 rfl) ?_
          refine lv_iload hx hb dX7_fit_111 (lv_at hl 0 rfl) ?_
          refine g_callVi G X (rest := []) (As := [.int (iI ((at0 (kdB P kind) z78))), .int (iI ((bEnd (kdB P kind) (ng P) z78)))]) (t_X1_momentOf l Y (u70) (ng P) (gX P) (gC P) (gW P) (gM P) (gQ P) ((at0 (kdB P kind) z78)) ((bEnd (kdB P kind) (ng P) z78)) hT3 (by first | assumption | omega) (by first | assumption | omega) (by first | assumption | omega)) (cwV 2 hts gX7_fit_X1_momentOf rfl rfl rfl (by decide +kernel) ⟨Nat.le_of_ble_eq_true rfl, Nat.le_of_ble_eq_true rfl⟩) (k := 38) (Nat.le_of_ble_eq_true rfl) rfl rfl rfl rfl hl.1 rfl (Nat.le_of_ble_eq_true rfl) dX7_fit_113 ⟨Nat.le_refl _, Nat.le_refl _⟩ (fun z113 u113 H locs hq113 X => ?_)
          rw [hq113.1] at X
          have hq113 := hq113.2
          try dsimp only at hq113
          refine g_topi (z' := gM P (bEnd (kdB P kind) (ng P) z78 + 1) - gM P (at0 (kdB P kind) z78)) (hq113.1 hbr2) ?_
          have hpw := prof_w hPf hbr2.1 (b := bEnd (kdB P kind) (ng P) z78 + 1) (by omega) (by omega)
          have hpw2 := prof_rg hPf hbr2.1 (b := bEnd (kdB P kind) (ng P) z78 + 1) (by omega) (by omega)
          refine g_i2l G (by omega) dX7_fit_116 ?_
          refine lv_aload_n hx hb dX7_fit_117 rfl (lv_at hl 3 rfl) ?_
          refine g_get G X (k := 0) (fs := fX Y) (Nat.le_of_ble_eq_true rfl) (fun _ => rfl) rfl in_X7 3 (by decide) l_f33 rfl (v := .ref (Y.2.1 (38))) rfl dX7_fit_118 ?_
          refine lv_iload hx hb dX7_fit_121 (lv_at hl 1 rfl) ?_
          refine lv_iload hx hb dX7_fit_123 (lv_at hl 0 rfl) ?_
          refine g_callVi G X (rest := [.long (lI ((gM P (bEnd (kdB P kind) (ng P) z78 + 1) - gM P (at0 (kdB P kind) z78))))]) (As := [.int (iI ((at0 (kdB P kind) z78))), .int (iI ((bEnd (kdB P kind) (ng P) z78)))]) (t_X1_weightOf l Y (u70) (ng P) (gX P) (gC P) (gW P) (gM P) (gQ P) ((at0 (kdB P kind) z78)) ((bEnd (kdB P kind) (ng P) z78)) hT3 (by first | assumption | omega) (by first | assumption | omega) (by first | assumption | omega)) (cwV 2 hts gX7_fit_X1_weightOf rfl rfl rfl (by decide +kernel) ⟨Nat.le_of_ble_eq_true rfl, Nat.le_of_ble_eq_true rfl⟩) (k := 38) (Nat.le_of_ble_eq_true rfl) rfl rfl rfl rfl hl.1 rfl (Nat.le_of_ble_eq_true rfl) dX7_fit_125 ⟨Nat.le_refl _, Nat.le_refl _⟩ (fun z125 u125 H locs hq125 X => ?_)
          rw [hq125.1] at X
          have hq125 := hq125.2
          try dsimp only at hq125
          refine g_topi (z' := gW P (bEnd (kdB P kind) (ng P) z78 + 1) - gW P (at0 (kdB P kind) z78)) (hq125.1 hbr2) ?_
          refine g_i2l G (by omega) dX7_fit_128 ?_
          refine lv_iload_n hx hb dX7_fit_129 rfl (lv_at hl 6 rfl) ?_
          refine g_callSl G X (rest := []) (As := [.long (lI ((gM P (bEnd (kdB P kind) (ng P) z78 + 1) - gM P (at0 (kdB P kind) z78)))), .long (lI ((gW P (bEnd (kdB P kind) (ng P) z78 + 1) - gW P (at0 (kdB P kind) z78)))), .int (iI (w))]) (t_X7_lowest l Y (u70) ((gM P (bEnd (kdB P kind) (ng P) z78 + 1) - gM P (at0 (kdB P kind) z78))) ((gW P (bEnd (kdB P kind) (ng P) z78 + 1) - gW P (at0 (kdB P kind) z78))) (w) (by first | assumption | omega) (by first | assumption | omega) (by first | assumption | omega)) (va_cwS 3 hts gX7_fit_X7_lowest rfl rfl rfl (by decide +kernel) ⟨Nat.le_of_ble_eq_true rfl, Nat.le_of_ble_eq_true rfl⟩) rfl hl.1 rfl (Nat.le_of_ble_eq_true rfl) dX7_fit_130 ⟨Nat.le_refl _, Nat.le_refl _⟩ (fun z130 u130 H locs hq130 X => ?_)
          rw [hq130.1] at X
          have hq130 := hq130.2
          try dsimp only at hq130
          exact hret _ _ _ _ _ _ (⟨by unfold fitA; rw [if_neg (by omega), if_neg (by omega), hbk]; exact hq130, xinv_B hI hq70.2.2⟩) X dX7_fit_133
        ·
          refine lv_aload_n hx hb dX7_fit_36 rfl (lv_at hl 0 rfl) ?_
          refine lv_iload_n hx hb dX7_fit_37 rfl (lv_at hl 1 rfl) ?_
          refine g_callVr G X (rest := []) (As := [.int (iI (kind))]) (t_X7_hullOf l Y (σ) (kind) (by first | assumption | omega)) (cwV 1 hts gX7_fit_X7_hullOf rfl rfl rfl (by decide +kernel) ⟨Nat.le_of_ble_eq_true rfl, Nat.le_of_ble_eq_true rfl⟩) (k := 0) (Nat.le_of_ble_eq_true rfl) rfl rfl rfl rfl hl.1 rfl (Nat.le_of_ble_eq_true rfl) dX7_fit_38 ⟨Nat.le_refl _, Nat.le_refl _⟩ (fun z38 u38 H locs hq38 X => ?_)
          have X := (show u38 = σ from hq38.1) ▸ X
          rcases hq38.2 with ⟨hk4, hz⟩ | ⟨hk4, hz⟩
          ·
            refine g_topr hz ?_
            obtain ⟨sd, hsd, hss, hsig⟩ : ∃ sd, sd = hSide kind ∧ (sd = 1 ∨ sd = -1) ∧ σ 45 1 = sd := ⟨_, rfl, by unfold hSide; split <;> omega, by unfold hSide; first | (rw [if_pos hk4]; exact hs45) | (rw [if_neg hk4]; exact hs47)⟩
            refine lv_astore (lv' := [(4, .ref (Y.2.1 (45))), (0, .ref (Y.2.1 (0))), (1, .int (iI (kind))), (2, .int (iI (g))), (3, .int (iI (w)))]) hx hb dX7_fit_41 hl (by decide) rfl (fun ls hl => ?_)
            refine lv_aload hx hb dX7_fit_43 (lv_at hl 0 rfl) ?_
            refine g_callVv G X (rest := []) (As := []) (t_X3_draw l Y (σ) (ng P) (gX P) (gC P) (gW P) (gM P) (gQ P) (45) (sd) (by first | assumption | omega) (by first | assumption | omega) (by first | assumption | omega) (by first | assumption | omega) hsig) (cwV 0 hts gX7_fit_X3_draw rfl rfl rfl (by decide +kernel) ⟨Nat.le_of_ble_eq_true rfl, Nat.le_of_ble_eq_true rfl⟩) (k := 45) (Nat.le_of_ble_eq_true rfl) rfl rfl rfl rfl hl.1 rfl (Nat.le_of_ble_eq_true rfl) dX7_fit_45 ⟨Nat.le_refl _, Nat.le_refl _⟩ (fun u45 H locs hq45 X => ?_)
            obtain ⟨C, hHu, hHl, hSK⟩ := hq45
            have hHl2 : HullI (hulD P sd) (ng P) C := hHl
            have hCe : hulC P (hSide kind) = C := by rw [← hsd]; exact hulC_eq hHl2
            have hT2 : Tb u45 (ng P) (gX P) (gC P) (gW P) (gM P) (gQ P) := hT.sameK (by omega) hSK.1
            refine lv_aload hx hb dX7_fit_48 (lv_at hl 0 rfl) ?_
            refine lv_iload_n hx hb dX7_fit_50 rfl (lv_at hl 3 rfl) ?_
            refine g_callVl G X (rest := []) (As := [.int (iI (g))]) (t_X3_numeratorAt l Y (u45) (ng P) (gX P) (gC P) (gW P) (gM P) (gQ P) (45) (g) ((hulD P sd)) (C) (by first | assumption | omega) (by first | assumption | omega) (by first | assumption | omega) (by first | assumption | omega) (by first | assumption | omega) (by first | assumption | omega)) (cwV 1 hts gX7_fit_X3_numeratorAt rfl rfl rfl (by decide +kernel) ⟨Nat.le_of_ble_eq_true rfl, Nat.le_of_ble_eq_true rfl⟩) (k := 45) (Nat.le_of_ble_eq_true rfl) rfl rfl rfl rfl hl.1 rfl (Nat.le_of_ble_eq_true rfl) dX7_fit_51 ⟨Nat.le_refl _, Nat.le_refl _⟩ (fun z51 u51 H locs hq51 X => ?_)
            rw [hq51.1] at X
            have hq51 := hq51.2
            try dsimp only at hq51
            refine g_topl (z' := hNum (gX P) (gW P) (gM P) C g) hq51 ?_
            refine lv_aload hx hb dX7_fit_54 (lv_at hl 0 rfl) ?_
            refine lv_iload_n hx hb dX7_fit_56 rfl (lv_at hl 3 rfl) ?_
            refine g_callVl G X (rest := [.long (lI ((hNum (gX P) (gW P) (gM P) C g)))]) (As := [.int (iI (g))]) (t_X3_denominatorAt l Y (u45) (ng P) (gX P) (gC P) (gW P) (gM P) (gQ P) (45) (g) ((hulD P sd)) (C) (by first | assumption | omega) (by first | assumption | omega) (by first | assumption | omega) (by first | assumption | omega) (by first | assumption | omega) (by first | assumption | omega)) (cwV 1 hts gX7_fit_X3_denominatorAt rfl rfl rfl (by decide +kernel) ⟨Nat.le_of_ble_eq_true rfl, Nat.le_of_ble_eq_true rfl⟩) (k := 45) (Nat.le_of_ble_eq_true rfl) rfl rfl rfl rfl hl.1 rfl (Nat.le_of_ble_eq_true rfl) dX7_fit_57 ⟨Nat.le_refl _, Nat.le_refl _⟩ (fun z57 u57 H locs hq57 X => ?_)
            rw [hq57.1] at X
            have hq57 := hq57.2
            try dsimp only at hq57
            refine g_topl (z' := hDen (gX P) (gW P) C g) hq57 ?_
            have hrg := h_rg hPf hHl2 (g := g) (by omega)
            refine lv_iload_n hx hb dX7_fit_60 rfl (lv_at hl 4 rfl) ?_
            refine g_callSl G X (rest := []) (As := [.long (lI ((hNum (gX P) (gW P) (gM P) C g))), .long (lI ((hDen (gX P) (gW P) C g))), .int (iI (w))]) (t_X7_lowest l Y (u45) ((hNum (gX P) (gW P) (gM P) C g)) ((hDen (gX P) (gW P) C g)) (w) (by first | assumption | omega) (by first | assumption | omega) (by first | assumption | omega)) (va_cwS 3 hts gX7_fit_X7_lowest rfl rfl rfl (by decide +kernel) ⟨Nat.le_of_ble_eq_true rfl, Nat.le_of_ble_eq_true rfl⟩) rfl hl.1 rfl (Nat.le_of_ble_eq_true rfl) dX7_fit_61 ⟨Nat.le_refl _, Nat.le_refl _⟩ (fun z61 u61 H locs hq61 X => ?_)
            rw [hq61.1] at X
            have hq61 := hq61.2
            try dsimp only at hq61
            exact hret _ _ _ _ _ _ (⟨by unfold fitA; rw [if_neg (by omega), if_pos (by omega), hCe]; exact hq61, xinv_K hI (by omega) hSK⟩) X dX7_fit_64
          ·
            refine g_topr hz ?_
            obtain ⟨sd, hsd, hss, hsig⟩ : ∃ sd, sd = hSide kind ∧ (sd = 1 ∨ sd = -1) ∧ σ 47 1 = sd := ⟨_, rfl, by unfold hSide; split <;> omega, by unfold hSide; first | (rw [if_pos hk4]; exact hs45) | (rw [if_neg hk4]; exact hs47)⟩
            refine lv_astore (lv' := [(4, .ref (Y.2.1 (47))), (0, .ref (Y.2.1 (0))), (1, .int (iI (kind))), (2, .int (iI (g))), (3, .int (iI (w)))]) hx hb dX7_fit_41 hl (by decide) rfl (fun ls hl => ?_)
            refine lv_aload hx hb dX7_fit_43 (lv_at hl 0 rfl) ?_
            refine g_callVv G X (rest := []) (As := []) (t_X3_draw l Y (σ) (ng P) (gX P) (gC P) (gW P) (gM P) (gQ P) (47) (sd) (by first | assumption | omega) (by first | assumption | omega) (by first | assumption | omega) (by first | assumption | omega) hsig) (cwV 0 hts gX7_fit_X3_draw rfl rfl rfl (by decide +kernel) ⟨Nat.le_of_ble_eq_true rfl, Nat.le_of_ble_eq_true rfl⟩) (k := 47) (Nat.le_of_ble_eq_true rfl) rfl rfl rfl rfl hl.1 rfl (Nat.le_of_ble_eq_true rfl) dX7_fit_45 ⟨Nat.le_refl _, Nat.le_refl _⟩ (fun u45 H locs hq45 X => ?_)
            obtain ⟨C, hHu, hHl, hSK⟩ := hq45
            have hHl2 : HullI (hulD P sd) (ng P) C := hHl
            have hCe : hulC P (hSide kind) = C := by rw [← hsd]; exact hulC_eq hHl2
            have hT2 : Tb u45 (ng P) (gX P) (gC P) (gW P) (gM P) (gQ P) := hT.sameK (by omega) hSK.1
            refine lv_aload hx hb dX7_fit_48 (lv_at hl 0 rfl) ?_
            refine lv_iload_n hx hb dX7_fit_50 rfl (lv_at hl 3 rfl) ?_
            refine g_callVl G X (rest := []) (As := [.int (iI (g))]) (t_X3_numeratorAt l Y (u45) (ng P) (gX P) (gC P) (gW P) (gM P) (gQ P) (47) (g) ((hulD P sd)) (C) (by first | assumption | omega) (by first | assumption | omega) (by first | assumption | omega) (by first | assumption | omega) (by first | assumption | omega) (by first | assumption | omega)) (cwV 1 hts gX7_fit_X3_numeratorAt rfl rfl rfl (by decide +kernel) ⟨Nat.le_of_ble_eq_true rfl, Nat.le_of_ble_eq_true rfl⟩) (k := 47) (Nat.le_of_ble_eq_true rfl) rfl rfl rfl rfl hl.1 rfl (Nat.le_of_ble_eq_true rfl) dX7_fit_51 ⟨Nat.le_refl _, Nat.le_refl _⟩ (fun z51 u51 H locs hq51 X => ?_)
            rw [hq51.1] at X
            have hq51 := hq51.2
            try dsimp only at hq51
            refine g_topl (z' := hNum (gX P) (gW P) (gM P) C g) hq51 ?_
            refine lv_aload hx hb dX7_fit_54 (lv_at hl 0 rfl) ?_
            refine lv_iload_n hx hb dX7_fit_56 rfl (lv_at hl 3 rfl) ?_
            refine g_callVl G X (rest := [.long (lI ((hNum (gX P) (gW P) (gM P) C g)))]) (As := [.int (iI (g))]) (t_X3_denominatorAt l Y (u45) (ng P) (gX P) (gC P) (gW P) (gM P) (gQ P) (47) (g) ((hulD P sd)) (C) (by first | assumption | omega) (by first | assumption | omega) (by first | assumption | omega) (by first | assumption | omega) (by first | assumption | omega) (by first | assumption | omega)) (cwV 1 hts gX7_fit_X3_denominatorAt rfl rfl rfl (by decide +kernel) ⟨Nat.le_of_ble_eq_true rfl, Nat.le_of_ble_eq_true rfl⟩) (k := 47) (Nat.le_of_ble_eq_true rfl) rfl rfl rfl rfl hl.1 rfl (Nat.le_of_ble_eq_true rfl) dX7_fit_57 ⟨Nat.le_refl _, Nat.le_refl _⟩ (fun z57 u57 H locs hq57 X => ?_)
            rw [hq57.1] at X
            have hq57 := hq57.2
            try dsimp only at hq57
            refine g_topl (z' := hDen (gX P) (gW P) C g) hq57 ?_
            have hrg := h_rg hPf hHl2 (g := g) (by omega)
            refine lv_iload_n hx hb dX7_fit_60 rfl (lv_at hl 4 rfl) ?_
            refine g_callSl G X (rest := []) (As := [.long (lI ((hNum (gX P) (gW P) (gM P) C g))), .long (lI ((hDen (gX P) (gW P) C g))), .int (iI (w))]) (t_X7_lowest l Y (u45) ((hNum (gX P) (gW P) (gM P) C g)) ((hDen (gX P) (gW P) C g)) (w) (by first | assumption | omega) (by first | assumption | omega) (by first | assumption | omega)) (va_cwS 3 hts gX7_fit_X7_lowest rfl rfl rfl (by decide +kernel) ⟨Nat.le_of_ble_eq_true rfl, Nat.le_of_ble_eq_true rfl⟩) rfl hl.1 rfl (Nat.le_of_ble_eq_true rfl) dX7_fit_61 ⟨Nat.le_refl _, Nat.le_refl _⟩ (fun z61 u61 H locs hq61 X => ?_)
            rw [hq61.1] at X
            have hq61 := hq61.2
            try dsimp only at hq61
            exact hret _ _ _ _ _ _ (⟨by unfold fitA; rw [if_neg (by omega), if_pos (by omega), hCe]; exact hq61, xinv_K hI (by omega) hSK⟩) X dX7_fit_64
      ·
        refine g_ldc2 G (z := (-1000001)) l_k146 (by decide +kernel) dX7_fit_27 ?_
        exact hret _ _ _ _ _ _ (⟨by unfold fitA; rw [if_pos (by omega)], hI⟩) X dX7_fit_30

set_option maxHeartbeats 4000000 in
set_option maxRecDepth 100000 in
theorem t_X7_error (l : Launch) (Y : Yt) (σ : Mem) (P : List Pt) (hs : List (List Pt)) (tx : List Int) (ch : List Int) (kind : Int) (w : Int) (hI : XInv σ P hs tx ch) (h_kind : -2147483648 ≤ kind ∧ kind ≤ 2147483647) (h_w : -2147483648 ≤ w ∧ w ≤ 2147483647) : MXl l LX Y yX7_error wsX7_error { frames := 6, cells := 0, slots := 0, locals := 144 } [.ref (Y.2.1 (0)), .int (iI (kind)), .int (iI (w))] σ (fun z u => z = errA P kind w ∧ XInv u P hs tx ch) := by
  obtain ⟨⟨hR, hok⟩, hTab, ⟨hH, hHok⟩, ⟨hTx, htok⟩, ⟨hC, hC3⟩, hs45, hs47⟩ := id hI
  have hPf := prof_of hok hR.2.1
  have hT : Tb σ (ng P) (gX P) (gC P) (gW P) (gM P) (gQ P) := hTab
  have hq0 := gQ_rg hok hR.2.1
  have hr1 : isRow Y 1 := isRow_of Y (by omega)
  have h12 := hR.2.1
  obtain ⟨⟨hn0, hn12, -⟩, -⟩ := id hPf
  have hh6 := hH.2.1
  have hk45 := isHull_of Y (k := 45) (Or.inl rfl)
  have hk47 := isHull_of Y (k := 47) (Or.inr rfl)
  have h90 := htok.1
  refine g_startl (cc := cX7_error) (nL := 3) (own := RX7) (by decide) rfl rfl (Nat.le_of_ble_eq_true rfl) ?_
  intro pp ee ss mm bw mt cd AA ZZ ls G hret X hl
  have hl : lv_has ls 3 [(0, .ref (Y.2.1 (0))), (1, .int (iI (kind))), (2, .int (iI (w)))] := hl
  have hx := G.1
  have hb := G.2.1
  have hts := G.2.2.2.2.1
  have l_f33 := hts (.fieldLink RX7 33 "ShapeFits" "table" "LShapeFits$GroupTable;") (List.mem_of_getElem? (i := 2) rfl)
  have l_f42 := hts (.fieldLink RX7 42 "ShapeFits" "blockFit" "LShapeFits$BlockFit;") (List.mem_of_getElem? (i := 4) rfl)
  have l_k146 := hts (.constantLong RX7 146 (-1000001)) (List.mem_of_getElem? (i := 1) rfl)
  have l_k178 := hts (.constantLong RX7 178 (-1000002)) (List.mem_of_getElem? (i := 3) rfl)
  have l_k184 := hts (.constantLong RX7 184 (5354228880)) (List.mem_of_getElem? (i := 5) rfl)
  have in_X7 : ∀ w ∈ u_ws RX7 TX7 8, w ∈ wsX7_error := by decide +kernel
  refine lv_iload_n hx hb dX7_error_0 rfl (lv_at hl 1 rfl) ?_
  refine lv_iconst (v := iI 0) hx hb dX7_error_1 rfl ?_
  refine lv_iconst (v := iI 3) hx hb dX7_error_2 rfl ?_
  refine g_callSi G X (rest := []) (As := [.int (iI (kind)), .int (iI (0)), .int (iI (3))]) (t_X7_outside l Y (σ) (kind) (0) (3) (by first | assumption | omega) (by first | assumption | omega) (by first | assumption | omega)) (va_cwS 3 hts gX7_error_X7_outside rfl rfl rfl (by decide +kernel) ⟨Nat.le_of_ble_eq_true rfl, Nat.le_of_ble_eq_true rfl⟩) rfl hl.1 rfl (Nat.le_of_ble_eq_true rfl) dX7_error_3 ⟨Nat.le_refl _, Nat.le_refl _⟩ (fun z3 u3 H locs hq3 X => ?_)
  rw [hq3.1] at X
  have hq3 := hq3.2
  try dsimp only at hq3
  refine g_if_ne (tgt := 16) G dX7_error_6 (by decide) (by omega) (fun h6 => ?_) (fun h6 => ?_)
  ·
    refine g_ldc2 G (z := (-1000001)) l_k146 (by decide +kernel) dX7_error_16 ?_
    exact hret _ _ _ _ _ _ (⟨by unfold errA; rw [if_pos (by omega)], hI⟩) X dX7_error_19
  ·
    refine lv_iload_n hx hb dX7_error_9 rfl (lv_at hl 2 rfl) ?_
    refine g_callSi G X (rest := []) (As := [.int (iI (w))]) (t_X7_notFractionPart l Y (σ) (w) (by first | assumption | omega)) (va_cwS 1 hts gX7_error_X7_notFractionPart rfl rfl rfl (by decide +kernel) ⟨Nat.le_of_ble_eq_true rfl, Nat.le_of_ble_eq_true rfl⟩) rfl hl.1 rfl (Nat.le_of_ble_eq_true rfl) dX7_error_10 ⟨Nat.le_refl _, Nat.le_refl _⟩ (fun z10 u10 H locs hq10 X => ?_)
    rw [hq10.1] at X
    have hq10 := hq10.2
    try dsimp only at hq10
    refine g_if_eq (tgt := 20) G dX7_error_13 (by decide) (by omega) (fun h13 => ?_) (fun h13 => ?_)
    ·
      refine lv_aload_n hx hb dX7_error_20 rfl (lv_at hl 0 rfl) ?_
      refine g_get G X (k := 0) (fs := fX Y) (Nat.le_of_ble_eq_true rfl) (fun _ => rfl) rfl in_X7 3 (by decide) l_f33 rfl (v := .ref (Y.2.1 (38))) rfl dX7_error_21 ?_
      refine g_callVi G X (rest := []) (As := []) (t_X1_size l Y (σ) (ng P) (gX P) (gC P) (gW P) (gM P) (gQ P) (by first | assumption | omega) (by first | assumption | omega)) (cwV 0 hts gX7_error_X1_size rfl rfl rfl (by decide +kernel) ⟨Nat.le_of_ble_eq_true rfl, Nat.le_of_ble_eq_true rfl⟩) (k := 38) (Nat.le_of_ble_eq_true rfl) rfl rfl rfl rfl hl.1 rfl (Nat.le_of_ble_eq_true rfl) dX7_error_24 ⟨Nat.le_refl _, Nat.le_refl _⟩ (fun z24 u24 H locs hq24 X => ?_)
      rw [hq24.1] at X
      have hq24 := hq24.2
      try dsimp only at hq24
      refine g_topi (z' := ng P) hq24 ?_
      refine g_if_ne (tgt := 34) G dX7_error_27 (by decide) (by omega) (fun h27 => ?_) (fun h27 => ?_)
      ·
        refine lv_aload_n hx hb dX7_error_34 rfl (lv_at hl 0 rfl) ?_
        refine g_get G X (k := 0) (fs := fX Y) (Nat.le_of_ble_eq_true rfl) (fun _ => rfl) rfl in_X7 4 (by decide) l_f42 rfl (v := .ref (Y.2.1 (43))) rfl dX7_error_35 ?_
        refine lv_iload_n hx hb dX7_error_38 rfl (lv_at hl 1 rfl) ?_
        refine g_callVv G X (rest := []) (As := [.int (iI (kind))]) (t_X0_shape l Y (σ) (ng P) (gX P) (gC P) (gW P) (gM P) (gQ P) (kind) (by first | assumption | omega) (by first | assumption | omega) (by first | assumption | omega) (by first | assumption | omega)) (cwV 1 hts gX7_error_X0_shape rfl rfl rfl (by decide +kernel) ⟨Nat.le_of_ble_eq_true rfl, Nat.le_of_ble_eq_true rfl⟩) (k := 43) (Nat.le_of_ble_eq_true rfl) rfl rfl rfl rfl hl.1 rfl (Nat.le_of_ble_eq_true rfl) dX7_error_39 ⟨Nat.le_refl _, Nat.le_refl _⟩ (fun u39 H locs hq39 X => ?_)
        have hT3 : Tb u39 (ng P) (gX P) (gC P) (gW P) (gM P) (gQ P) := hT.same hq39.2.2
        refine lv_aload_n hx hb dX7_error_42 rfl (lv_at hl 0 rfl) ?_
        refine g_get G X (k := 0) (fs := fX Y) (Nat.le_of_ble_eq_true rfl) (fun _ => rfl) rfl in_X7 4 (by decide) l_f42 rfl (v := .ref (Y.2.1 (43))) rfl dX7_error_43 ?_
        refine g_callVl G X (rest := []) (As := []) (t_X0_commonError l Y (u39) (ng P) (gX P) (gC P) (gW P) (gM P) (gQ P) ((kdB P kind)) hT3 (by first | assumption | omega) hq39.1 hq39.2.1 (by first | assumption | omega)) (cwV 0 hts gX7_error_X0_commonError rfl rfl rfl (by decide +kernel) ⟨Nat.le_of_ble_eq_true rfl, Nat.le_of_ble_eq_true rfl⟩) (k := 43) (Nat.le_of_ble_eq_true rfl) rfl rfl rfl rfl hl.1 rfl (Nat.le_of_ble_eq_true rfl) dX7_error_46 ⟨Nat.le_refl _, Nat.le_refl _⟩ (fun z46 u46 H locs hq46 X => ?_)
        rw [hq46.1] at X
        have hq46 := hq46.2
        try dsimp only at hq46
        refine g_topl (z' := Err (ng P) (gW P) (gM P) (gQ P) (kdB P kind)) hq46.1 ?_
        have hz2 := hq46.2
        rw [hq46.1] at hz2
        refine g_ldc2 G (z := 5354228880) l_k184 (by decide +kernel) dX7_error_49 ?_
        refine lv_iload_n hx hb dX7_error_52 rfl (lv_at hl 2 rfl) ?_
        refine g_callSl G X (rest := []) (As := [.long (lI ((Err (ng P) (gW P) (gM P) (gQ P) (kdB P kind)))), .long (lI (5354228880)), .int (iI (w))]) (t_X7_lowest l Y (u39) ((Err (ng P) (gW P) (gM P) (gQ P) (kdB P kind))) (5354228880) (w) (by first | assumption | omega) (by first | assumption | omega) (by first | assumption | omega)) (va_cwS 3 hts gX7_error_X7_lowest rfl rfl rfl (by decide +kernel) ⟨Nat.le_of_ble_eq_true rfl, Nat.le_of_ble_eq_true rfl⟩) rfl hl.1 rfl (Nat.le_of_ble_eq_true rfl) dX7_error_53 ⟨Nat.le_refl _, Nat.le_refl _⟩ (fun z53 u53 H locs hq53 X => ?_)
        rw [hq53.1] at X
        have hq53 := hq53.2
        try dsimp only at hq53
        exact hret _ _ _ _ _ _ (⟨by unfold errA; rw [if_neg (by omega), if_neg (by omega)]; exact hq53, xinv_B hI hq39.2.2⟩) X dX7_error_56
      ·
        refine g_ldc2 G (z := (-1000002)) l_k178 (by decide +kernel) dX7_error_30 ?_
        exact hret _ _ _ _ _ _ (⟨by unfold errA; rw [if_neg (by omega), if_pos (by omega)], hI⟩) X dX7_error_33
    ·
      refine g_ldc2 G (z := (-1000001)) l_k146 (by decide +kernel) dX7_error_16 ?_
      exact hret _ _ _ _ _ _ (⟨by unfold errA; rw [if_pos (by omega)], hI⟩) X dX7_error_19

set_option maxHeartbeats 4000000 in
set_option maxRecDepth 100000 in
theorem t_X7_turn (l : Launch) (Y : Yt) (σ : Mem) (P : List Pt) (hs : List (List Pt)) (tx : List Int) (ch : List Int) (kind : Int) (hI : XInv σ P hs tx ch) (h_kind : -2147483648 ≤ kind ∧ kind ≤ 2147483647) : MXi l LX Y yX7_turn wsX7_turn { frames := 5, cells := 0, slots := 0, locals := 123 } [.ref (Y.2.1 (0)), .int (iI (kind))] σ (fun z u => z = turnA P kind ∧ XInv u P hs tx ch) := by
  obtain ⟨⟨hR, hok⟩, hTab, ⟨hH, hHok⟩, ⟨hTx, htok⟩, ⟨hC, hC3⟩, hs45, hs47⟩ := id hI
  have hPf := prof_of hok hR.2.1
  have hT : Tb σ (ng P) (gX P) (gC P) (gW P) (gM P) (gQ P) := hTab
  have hq0 := gQ_rg hok hR.2.1
  have hr1 : isRow Y 1 := isRow_of Y (by omega)
  have h12 := hR.2.1
  obtain ⟨⟨hn0, hn12, -⟩, -⟩ := id hPf
  have hh6 := hH.2.1
  have hk45 := isHull_of Y (k := 45) (Or.inl rfl)
  have hk47 := isHull_of Y (k := 47) (Or.inr rfl)
  have h90 := htok.1
  refine g_starti (rty := .int) (fun _ _ _ => rfl) (cc := cX7_turn) (nL := 2) (own := RX7) (by decide) rfl rfl (Nat.le_of_ble_eq_true rfl) ?_
  intro pp ee ss mm bw mt cd AA ZZ ls G hret X hl
  have hl : lv_has ls 2 [(0, .ref (Y.2.1 (0))), (1, .int (iI (kind)))] := hl
  have hx := G.1
  have hb := G.2.1
  have hts := G.2.2.2.2.1
  have l_f33 := hts (.fieldLink RX7 33 "ShapeFits" "table" "LShapeFits$GroupTable;") (List.mem_of_getElem? (i := 2) rfl)
  have l_f42 := hts (.fieldLink RX7 42 "ShapeFits" "blockFit" "LShapeFits$BlockFit;") (List.mem_of_getElem? (i := 4) rfl)
  have l_c73 := hts (.constant RX7 73 (-1000001)) (List.mem_of_getElem? (i := 1) rfl)
  have l_c117 := hts (.constant RX7 117 (-1000002)) (List.mem_of_getElem? (i := 3) rfl)
  have in_X7 : ∀ w ∈ u_ws RX7 TX7 8, w ∈ wsX7_turn := by decide +kernel
  refine lv_iload_n hx hb dX7_turn_0 rfl (lv_at hl 1 rfl) ?_
  refine lv_iconst (v := iI 2) hx hb dX7_turn_1 rfl ?_
  refine lv_iconst (v := iI 3) hx hb dX7_turn_2 rfl ?_
  refine g_callSi G X (rest := []) (As := [.int (iI (kind)), .int (iI (2)), .int (iI (3))]) (t_X7_outside l Y (σ) (kind) (2) (3) (by first | assumption | omega) (by first | assumption | omega) (by first | assumption | omega)) (va_cwS 3 hts gX7_turn_X7_outside rfl rfl rfl (by decide +kernel) ⟨Nat.le_of_ble_eq_true rfl, Nat.le_of_ble_eq_true rfl⟩) rfl hl.1 rfl (Nat.le_of_ble_eq_true rfl) dX7_turn_3 ⟨Nat.le_refl _, Nat.le_refl _⟩ (fun z3 u3 H locs hq3 X => ?_)
  rw [hq3.1] at X
  have hq3 := hq3.2
  try dsimp only at hq3
  refine g_if_eq (tgt := 12) G dX7_turn_6 (by decide) (by omega) (fun h6 => ?_) (fun h6 => ?_)
  ·
    refine lv_aload_n hx hb dX7_turn_12 rfl (lv_at hl 0 rfl) ?_
    refine g_get G X (k := 0) (fs := fX Y) (Nat.le_of_ble_eq_true rfl) (fun _ => rfl) rfl in_X7 3 (by decide) l_f33 rfl (v := .ref (Y.2.1 (38))) rfl dX7_turn_13 ?_
    refine g_callVi G X (rest := []) (As := []) (t_X1_size l Y (σ) (ng P) (gX P) (gC P) (gW P) (gM P) (gQ P) (by first | assumption | omega) (by first | assumption | omega)) (cwV 0 hts gX7_turn_X1_size rfl rfl rfl (by decide +kernel) ⟨Nat.le_of_ble_eq_true rfl, Nat.le_of_ble_eq_true rfl⟩) (k := 38) (Nat.le_of_ble_eq_true rfl) rfl rfl rfl rfl hl.1 rfl (Nat.le_of_ble_eq_true rfl) dX7_turn_16 ⟨Nat.le_refl _, Nat.le_refl _⟩ (fun z16 u16 H locs hq16 X => ?_)
    rw [hq16.1] at X
    have hq16 := hq16.2
    try dsimp only at hq16
    refine g_topi (z' := ng P) hq16 ?_
    refine g_if_ne (tgt := 25) G dX7_turn_19 (by decide) (by omega) (fun h19 => ?_) (fun h19 => ?_)
    ·
      refine lv_aload_n hx hb dX7_turn_25 rfl (lv_at hl 0 rfl) ?_
      refine g_get G X (k := 0) (fs := fX Y) (Nat.le_of_ble_eq_true rfl) (fun _ => rfl) rfl in_X7 4 (by decide) l_f42 rfl (v := .ref (Y.2.1 (43))) rfl dX7_turn_26 ?_
      refine lv_iload_n hx hb dX7_turn_29 rfl (lv_at hl 1 rfl) ?_
      refine g_callVi G X (rest := []) (As := [.int (iI (kind))]) (t_X0_bestTurn l Y (σ) (ng P) (gX P) (gC P) (gW P) (gM P) (gQ P) (kind) ((tSide kind)) (by first | assumption | omega) (by first | assumption | omega) (by first | assumption | omega) rfl (by first | assumption | omega)) (cwV 1 hts gX7_turn_X0_bestTurn rfl rfl rfl (by decide +kernel) ⟨Nat.le_of_ble_eq_true rfl, Nat.le_of_ble_eq_true rfl⟩) (k := 43) (Nat.le_of_ble_eq_true rfl) rfl rfl rfl rfl hl.1 rfl (Nat.le_of_ble_eq_true rfl) dX7_turn_30 ⟨Nat.le_refl _, Nat.le_refl _⟩ (fun z30 u30 H locs hq30 X => ?_)
      exact hret _ _ _ _ _ _ (⟨by unfold turnA; rw [if_neg (by omega), if_neg (by omega)]; exact hq30.1, xinv_B hI hq30.2.1⟩) X dX7_turn_33
    ·
      refine g_ldc G (z := (-1000002)) l_c117 (by decide +kernel) dX7_turn_22 ?_
      exact hret _ _ _ _ _ _ (⟨by unfold turnA; rw [if_neg (by omega), if_pos (by omega)], hI⟩) X dX7_turn_24
  ·
    refine g_ldc G (z := (-1000001)) l_c73 (by decide +kernel) dX7_turn_9 ?_
    exact hret _ _ _ _ _ _ (⟨by unfold turnA; rw [if_pos (by omega)], hI⟩) X dX7_turn_11

set_option maxHeartbeats 4000000 in
set_option maxRecDepth 100000 in
theorem t_X7_turnError (l : Launch) (Y : Yt) (σ : Mem) (P : List Pt) (hs : List (List Pt)) (tx : List Int) (ch : List Int) (kind : Int) (g : Int) (w : Int) (hI : XInv σ P hs tx ch) (h_kind : -2147483648 ≤ kind ∧ kind ≤ 2147483647) (h_g : -2147483648 ≤ g ∧ g ≤ 2147483647) (h_w : -2147483648 ≤ w ∧ w ≤ 2147483647) : MXl l LX Y yX7_turnError wsX7_turnError { frames := 4, cells := 0, slots := 0, locals := 96 } [.ref (Y.2.1 (0)), .int (iI (kind)), .int (iI (g)), .int (iI (w))] σ (fun z u => z = teA P kind g w ∧ XInv u P hs tx ch) := by
  obtain ⟨⟨hR, hok⟩, hTab, ⟨hH, hHok⟩, ⟨hTx, htok⟩, ⟨hC, hC3⟩, hs45, hs47⟩ := id hI
  have hPf := prof_of hok hR.2.1
  have hT : Tb σ (ng P) (gX P) (gC P) (gW P) (gM P) (gQ P) := hTab
  have hq0 := gQ_rg hok hR.2.1
  have hr1 : isRow Y 1 := isRow_of Y (by omega)
  have h12 := hR.2.1
  obtain ⟨⟨hn0, hn12, -⟩, -⟩ := id hPf
  have hh6 := hH.2.1
  have hk45 := isHull_of Y (k := 45) (Or.inl rfl)
  have hk47 := isHull_of Y (k := 47) (Or.inr rfl)
  have h90 := htok.1
  refine g_startl (cc := cX7_turnError) (nL := 4) (own := RX7) (by decide) rfl rfl (Nat.le_of_ble_eq_true rfl) ?_
  intro pp ee ss mm bw mt cd AA ZZ ls G hret X hl
  have hl : lv_has ls 4 [(0, .ref (Y.2.1 (0))), (1, .int (iI (kind))), (2, .int (iI (g))), (3, .int (iI (w)))] := hl
  have hx := G.1
  have hb := G.2.1
  have hts := G.2.2.2.2.1
  have l_f33 := hts (.fieldLink RX7 33 "ShapeFits" "table" "LShapeFits$GroupTable;") (List.mem_of_getElem? (i := 1) rfl)
  have l_f42 := hts (.fieldLink RX7 42 "ShapeFits" "blockFit" "LShapeFits$BlockFit;") (List.mem_of_getElem? (i := 3) rfl)
  have l_k146 := hts (.constantLong RX7 146 (-1000001)) (List.mem_of_getElem? (i := 2) rfl)
  have l_k184 := hts (.constantLong RX7 184 (5354228880)) (List.mem_of_getElem? (i := 4) rfl)
  have in_X7 : ∀ w ∈ u_ws RX7 TX7 8, w ∈ wsX7_turnError := by decide +kernel
  refine lv_iload_n hx hb dX7_turnError_0 rfl (lv_at hl 1 rfl) ?_
  refine lv_iconst (v := iI 2) hx hb dX7_turnError_1 rfl ?_
  refine lv_iconst (v := iI 3) hx hb dX7_turnError_2 rfl ?_
  refine g_callSi G X (rest := []) (As := [.int (iI (kind)), .int (iI (2)), .int (iI (3))]) (t_X7_outside l Y (σ) (kind) (2) (3) (by first | assumption | omega) (by first | assumption | omega) (by first | assumption | omega)) (va_cwS 3 hts gX7_turnError_X7_outside rfl rfl rfl (by decide +kernel) ⟨Nat.le_of_ble_eq_true rfl, Nat.le_of_ble_eq_true rfl⟩) rfl hl.1 rfl (Nat.le_of_ble_eq_true rfl) dX7_turnError_3 ⟨Nat.le_refl _, Nat.le_refl _⟩ (fun z3 u3 H locs hq3 X => ?_)
  rw [hq3.1] at X
  have hq3 := hq3.2
  try dsimp only at hq3
  refine g_if_ne (tgt := 27) G dX7_turnError_6 (by decide) (by omega) (fun h6 => ?_) (fun h6 => ?_)
  ·
    refine g_ldc2 G (z := (-1000001)) l_k146 (by decide +kernel) dX7_turnError_27 ?_
    exact hret _ _ _ _ _ _ (⟨by unfold teA; rw [if_pos (by omega)], hI⟩) X dX7_turnError_30
  ·
    refine lv_aload_n hx hb dX7_turnError_9 rfl (lv_at hl 0 rfl) ?_
    refine g_get G X (k := 0) (fs := fX Y) (Nat.le_of_ble_eq_true rfl) (fun _ => rfl) rfl in_X7 3 (by decide) l_f33 rfl (v := .ref (Y.2.1 (38))) rfl dX7_turnError_10 ?_
    refine lv_iload_n hx hb dX7_turnError_13 rfl (lv_at hl 2 rfl) ?_
    refine g_callVi G X (rest := []) (As := [.int (iI (g))]) (t_X1_has l Y (σ) (ng P) (gX P) (gC P) (gW P) (gM P) (gQ P) (g) (by first | assumption | omega) (by first | assumption | omega) (by first | assumption | omega)) (cwV 1 hts gX7_turnError_X1_has rfl rfl rfl (by decide +kernel) ⟨Nat.le_of_ble_eq_true rfl, Nat.le_of_ble_eq_true rfl⟩) (k := 38) (Nat.le_of_ble_eq_true rfl) rfl rfl rfl rfl hl.1 rfl (Nat.le_of_ble_eq_true rfl) dX7_turnError_14 ⟨Nat.le_refl _, Nat.le_refl _⟩ (fun z14 u14 H locs hq14 X => ?_)
    rw [hq14.1] at X
    have hq14 := hq14.2
    try dsimp only at hq14
    refine g_if_eq (tgt := 27) G dX7_turnError_17 (by decide) (by omega) (fun h17 => ?_) (fun h17 => ?_)
    ·
      refine g_ldc2 G (z := (-1000001)) l_k146 (by decide +kernel) dX7_turnError_27 ?_
      exact hret _ _ _ _ _ _ (⟨by unfold teA; rw [if_pos (by omega)], hI⟩) X dX7_turnError_30
    ·
      refine lv_iload_n hx hb dX7_turnError_20 rfl (lv_at hl 3 rfl) ?_
      refine g_callSi G X (rest := []) (As := [.int (iI (w))]) (t_X7_notFractionPart l Y (σ) (w) (by first | assumption | omega)) (va_cwS 1 hts gX7_turnError_X7_notFractionPart rfl rfl rfl (by decide +kernel) ⟨Nat.le_of_ble_eq_true rfl, Nat.le_of_ble_eq_true rfl⟩) rfl hl.1 rfl (Nat.le_of_ble_eq_true rfl) dX7_turnError_21 ⟨Nat.le_refl _, Nat.le_refl _⟩ (fun z21 u21 H locs hq21 X => ?_)
      rw [hq21.1] at X
      have hq21 := hq21.2
      try dsimp only at hq21
      refine g_if_eq (tgt := 31) G dX7_turnError_24 (by decide) (by omega) (fun h24 => ?_) (fun h24 => ?_)
      ·
        refine lv_aload_n hx hb dX7_turnError_31 rfl (lv_at hl 0 rfl) ?_
        refine g_get G X (k := 0) (fs := fX Y) (Nat.le_of_ble_eq_true rfl) (fun _ => rfl) rfl in_X7 4 (by decide) l_f42 rfl (v := .ref (Y.2.1 (43))) rfl dX7_turnError_32 ?_
        refine lv_iload_n hx hb dX7_turnError_35 rfl (lv_at hl 1 rfl) ?_
        refine lv_iload_n hx hb dX7_turnError_36 rfl (lv_at hl 2 rfl) ?_
        refine g_callVv G X (rest := []) (As := [.int (iI (kind)), .int (iI (g))]) (t_X0_shapeWithTurn l Y (σ) (ng P) (gX P) (gC P) (gW P) (gM P) (gQ P) (kind) (g) ((tSide kind)) (by first | assumption | omega) (by first | assumption | omega) (by first | assumption | omega) rfl (by first | assumption | omega)) (cwV 2 hts gX7_turnError_X0_shapeWithTurn rfl rfl rfl (by decide +kernel) ⟨Nat.le_of_ble_eq_true rfl, Nat.le_of_ble_eq_true rfl⟩) (k := 43) (Nat.le_of_ble_eq_true rfl) rfl rfl rfl rfl hl.1 rfl (Nat.le_of_ble_eq_true rfl) dX7_turnError_37 ⟨Nat.le_refl _, Nat.le_refl _⟩ (fun u37 H locs hq37 X => ?_)
        have hT3 : Tb u37 (ng P) (gX P) (gC P) (gW P) (gM P) (gQ P) := hT.same hq37.2.2
        refine lv_aload_n hx hb dX7_turnError_40 rfl (lv_at hl 0 rfl) ?_
        refine g_get G X (k := 0) (fs := fX Y) (Nat.le_of_ble_eq_true rfl) (fun _ => rfl) rfl in_X7 4 (by decide) l_f42 rfl (v := .ref (Y.2.1 (43))) rfl dX7_turnError_41 ?_
        refine g_callVl G X (rest := []) (As := []) (t_X0_commonError l Y (u37) (ng P) (gX P) (gC P) (gW P) (gM P) (gQ P) (_) hT3 (by first | assumption | omega) hq37.1 hq37.2.1 (by first | assumption | omega)) (cwV 0 hts gX7_turnError_X0_commonError rfl rfl rfl (by decide +kernel) ⟨Nat.le_of_ble_eq_true rfl, Nat.le_of_ble_eq_true rfl⟩) (k := 43) (Nat.le_of_ble_eq_true rfl) rfl rfl rfl rfl hl.1 rfl (Nat.le_of_ble_eq_true rfl) dX7_turnError_44 ⟨Nat.le_refl _, Nat.le_refl _⟩ (fun z44 u44 H locs hq44 X => ?_)
        rw [hq44.1] at X
        have hq44 := hq44.2
        try dsimp only at hq44
        refine g_topl (z' := Err (ng P) (gW P) (gM P) (gQ P) (pkB (ng P) (gW P) (gM P) (tSide kind) g)) hq44.1 ?_
        have hz2 := hq44.2
        rw [hq44.1] at hz2
        refine g_ldc2 G (z := 5354228880) l_k184 (by decide +kernel) dX7_turnError_47 ?_
        refine lv_iload_n hx hb dX7_turnError_50 rfl (lv_at hl 3 rfl) ?_
        refine g_callSl G X (rest := []) (As := [.long (lI ((Err (ng P) (gW P) (gM P) (gQ P) (pkB (ng P) (gW P) (gM P) (tSide kind) g)))), .long (lI (5354228880)), .int (iI (w))]) (t_X7_lowest l Y (u37) ((Err (ng P) (gW P) (gM P) (gQ P) (pkB (ng P) (gW P) (gM P) (tSide kind) g))) (5354228880) (w) (by first | assumption | omega) (by first | assumption | omega) (by first | assumption | omega)) (va_cwS 3 hts gX7_turnError_X7_lowest rfl rfl rfl (by decide +kernel) ⟨Nat.le_of_ble_eq_true rfl, Nat.le_of_ble_eq_true rfl⟩) rfl hl.1 rfl (Nat.le_of_ble_eq_true rfl) dX7_turnError_51 ⟨Nat.le_refl _, Nat.le_refl _⟩ (fun z51 u51 H locs hq51 X => ?_)
        rw [hq51.1] at X
        have hq51 := hq51.2
        try dsimp only at hq51
        exact hret _ _ _ _ _ _ (⟨by unfold teA; rw [if_neg (by omega)]; exact hq51, xinv_B hI hq37.2.2⟩) X dX7_turnError_54
      ·
        refine g_ldc2 G (z := (-1000001)) l_k146 (by decide +kernel) dX7_turnError_27 ?_
        exact hret _ _ _ _ _ _ (⟨by unfold teA; rw [if_pos (by omega)], hI⟩) X dX7_turnError_30

set_option maxHeartbeats 4000000 in
set_option maxRecDepth 100000 in
theorem t_X7_blocks (l : Launch) (Y : Yt) (σ : Mem) (P : List Pt) (hs : List (List Pt)) (tx : List Int) (ch : List Int) (kind : Int) (hI : XInv σ P hs tx ch) (h_kind : -2147483648 ≤ kind ∧ kind ≤ 2147483647) : MXi l LX Y yX7_blocks wsX7_blocks { frames := 6, cells := 0, slots := 0, locals := 144 } [.ref (Y.2.1 (0)), .int (iI (kind))] σ (fun z u => z = blocksA P kind ∧ XInv u P hs tx ch) := by
  obtain ⟨⟨hR, hok⟩, hTab, ⟨hH, hHok⟩, ⟨hTx, htok⟩, ⟨hC, hC3⟩, hs45, hs47⟩ := id hI
  have hPf := prof_of hok hR.2.1
  have hT : Tb σ (ng P) (gX P) (gC P) (gW P) (gM P) (gQ P) := hTab
  have hq0 := gQ_rg hok hR.2.1
  have hr1 : isRow Y 1 := isRow_of Y (by omega)
  have h12 := hR.2.1
  obtain ⟨⟨hn0, hn12, -⟩, -⟩ := id hPf
  have hh6 := hH.2.1
  have hk45 := isHull_of Y (k := 45) (Or.inl rfl)
  have hk47 := isHull_of Y (k := 47) (Or.inr rfl)
  have h90 := htok.1
  refine g_starti (rty := .int) (fun _ _ _ => rfl) (cc := cX7_blocks) (nL := 2) (own := RX7) (by decide) rfl rfl (Nat.le_of_ble_eq_true rfl) ?_
  intro pp ee ss mm bw mt cd AA ZZ ls G hret X hl
  have hl : lv_has ls 2 [(0, .ref (Y.2.1 (0))), (1, .int (iI (kind)))] := hl
  have hx := G.1
  have hb := G.2.1
  have hts := G.2.2.2.2.1
  have l_f42 := hts (.fieldLink RX7 42 "ShapeFits" "blockFit" "LShapeFits$BlockFit;") (List.mem_of_getElem? (i := 2) rfl)
  have l_c73 := hts (.constant RX7 73 (-1000001)) (List.mem_of_getElem? (i := 1) rfl)
  have in_X7 : ∀ w ∈ u_ws RX7 TX7 8, w ∈ wsX7_blocks := by decide +kernel
  refine lv_iload_n hx hb dX7_blocks_0 rfl (lv_at hl 1 rfl) ?_
  refine lv_iconst (v := iI 0) hx hb dX7_blocks_1 rfl ?_
  refine lv_iconst (v := iI 3) hx hb dX7_blocks_2 rfl ?_
  refine g_callSi G X (rest := []) (As := [.int (iI (kind)), .int (iI (0)), .int (iI (3))]) (t_X7_outside l Y (σ) (kind) (0) (3) (by first | assumption | omega) (by first | assumption | omega) (by first | assumption | omega)) (va_cwS 3 hts gX7_blocks_X7_outside rfl rfl rfl (by decide +kernel) ⟨Nat.le_of_ble_eq_true rfl, Nat.le_of_ble_eq_true rfl⟩) rfl hl.1 rfl (Nat.le_of_ble_eq_true rfl) dX7_blocks_3 ⟨Nat.le_refl _, Nat.le_refl _⟩ (fun z3 u3 H locs hq3 X => ?_)
  rw [hq3.1] at X
  have hq3 := hq3.2
  try dsimp only at hq3
  refine g_if_eq (tgt := 12) G dX7_blocks_6 (by decide) (by omega) (fun h6 => ?_) (fun h6 => ?_)
  ·
    refine lv_aload_n hx hb dX7_blocks_12 rfl (lv_at hl 0 rfl) ?_
    refine g_get G X (k := 0) (fs := fX Y) (Nat.le_of_ble_eq_true rfl) (fun _ => rfl) rfl in_X7 4 (by decide) l_f42 rfl (v := .ref (Y.2.1 (43))) rfl dX7_blocks_13 ?_
    refine lv_iload_n hx hb dX7_blocks_16 rfl (lv_at hl 1 rfl) ?_
    refine g_callVv G X (rest := []) (As := [.int (iI (kind))]) (t_X0_shape l Y (σ) (ng P) (gX P) (gC P) (gW P) (gM P) (gQ P) (kind) (by first | assumption | omega) (by first | assumption | omega) (by first | assumption | omega) (by first | assumption | omega)) (cwV 1 hts gX7_blocks_X0_shape rfl rfl rfl (by decide +kernel) ⟨Nat.le_of_ble_eq_true rfl, Nat.le_of_ble_eq_true rfl⟩) (k := 43) (Nat.le_of_ble_eq_true rfl) rfl rfl rfl rfl hl.1 rfl (Nat.le_of_ble_eq_true rfl) dX7_blocks_17 ⟨Nat.le_refl _, Nat.le_refl _⟩ (fun u17 H locs hq17 X => ?_)
    have hT3 : Tb u17 (ng P) (gX P) (gC P) (gW P) (gM P) (gQ P) := hT.same hq17.2.2
    refine lv_aload_n hx hb dX7_blocks_20 rfl (lv_at hl 0 rfl) ?_
    refine g_get G X (k := 0) (fs := fX Y) (Nat.le_of_ble_eq_true rfl) (fun _ => rfl) rfl in_X7 4 (by decide) l_f42 rfl (v := .ref (Y.2.1 (43))) rfl dX7_blocks_21 ?_
    refine g_callVi G X (rest := []) (As := []) (t_X0_size l Y (u17) (ng P) (gX P) (gC P) (gW P) (gM P) (gQ P) ((kdB P kind)) hT3 (by first | assumption | omega) hq17.1 hq17.2.1) (cwV 0 hts gX7_blocks_X0_size rfl rfl rfl (by decide +kernel) ⟨Nat.le_of_ble_eq_true rfl, Nat.le_of_ble_eq_true rfl⟩) (k := 43) (Nat.le_of_ble_eq_true rfl) rfl rfl rfl rfl hl.1 rfl (Nat.le_of_ble_eq_true rfl) dX7_blocks_24 ⟨Nat.le_refl _, Nat.le_refl _⟩ (fun z24 u24 H locs hq24 X => ?_)
    rw [hq24.1] at X
    have hq24 := hq24.2
    try dsimp only at hq24
    exact hret _ _ _ _ _ _ (⟨by unfold blocksA; rw [if_neg (by omega)]; exact hq24, xinv_B hI hq17.2.2⟩) X dX7_blocks_27
  ·
    refine g_ldc G (z := (-1000001)) l_c73 (by decide +kernel) dX7_blocks_9 ?_
    exact hret _ _ _ _ _ _ (⟨by unfold blocksA; rw [if_pos (by omega)], hI⟩) X dX7_blocks_11

set_option maxHeartbeats 4000000 in
set_option maxRecDepth 100000 in
theorem t_X7_kinks (l : Launch) (Y : Yt) (σ : Mem) (P : List Pt) (hs : List (List Pt)) (tx : List Int) (ch : List Int) (kind : Int) (hI : XInv σ P hs tx ch) (h_kind : -2147483648 ≤ kind ∧ kind ≤ 2147483647) : MXi l LX Y yX7_kinks wsX7_kinks { frames := 5, cells := 0, slots := 0, locals := 117 } [.ref (Y.2.1 (0)), .int (iI (kind))] σ (fun z u => z = kinksA P kind ∧ XInv u P hs tx ch) := by
  obtain ⟨⟨hR, hok⟩, hTab, ⟨hH, hHok⟩, ⟨hTx, htok⟩, ⟨hC, hC3⟩, hs45, hs47⟩ := id hI
  have hPf := prof_of hok hR.2.1
  have hT : Tb σ (ng P) (gX P) (gC P) (gW P) (gM P) (gQ P) := hTab
  have hq0 := gQ_rg hok hR.2.1
  have hr1 : isRow Y 1 := isRow_of Y (by omega)
  have h12 := hR.2.1
  obtain ⟨⟨hn0, hn12, -⟩, -⟩ := id hPf
  have hh6 := hH.2.1
  have hk45 := isHull_of Y (k := 45) (Or.inl rfl)
  have hk47 := isHull_of Y (k := 47) (Or.inr rfl)
  have h90 := htok.1
  refine g_starti (rty := .int) (fun _ _ _ => rfl) (cc := cX7_kinks) (nL := 3) (own := RX7) (by decide) rfl rfl (Nat.le_of_ble_eq_true rfl) ?_
  intro pp ee ss mm bw mt cd AA ZZ ls G hret X hl
  have hl : lv_has ls 3 [(0, .ref (Y.2.1 (0))), (1, .int (iI (kind)))] := hl
  have hx := G.1
  have hb := G.2.1
  have hts := G.2.2.2.2.1
  have l_c73 := hts (.constant RX7 73 (-1000001)) (List.mem_of_getElem? (i := 1) rfl)
  refine lv_iload_n hx hb dX7_kinks_0 rfl (lv_at hl 1 rfl) ?_
  refine lv_iconst (v := iI 4) hx hb dX7_kinks_1 rfl ?_
  refine lv_iconst (v := iI 5) hx hb dX7_kinks_2 rfl ?_
  refine g_callSi G X (rest := []) (As := [.int (iI (kind)), .int (iI (4)), .int (iI (5))]) (t_X7_outside l Y (σ) (kind) (4) (5) (by first | assumption | omega) (by first | assumption | omega) (by first | assumption | omega)) (va_cwS 3 hts gX7_kinks_X7_outside rfl rfl rfl (by decide +kernel) ⟨Nat.le_of_ble_eq_true rfl, Nat.le_of_ble_eq_true rfl⟩) rfl hl.1 rfl (Nat.le_of_ble_eq_true rfl) dX7_kinks_3 ⟨Nat.le_refl _, Nat.le_refl _⟩ (fun z3 u3 H locs hq3 X => ?_)
  rw [hq3.1] at X
  have hq3 := hq3.2
  try dsimp only at hq3
  refine g_if_eq (tgt := 12) G dX7_kinks_6 (by decide) (by omega) (fun h6 => ?_) (fun h6 => ?_)
  ·
    refine lv_aload_n hx hb dX7_kinks_12 rfl (lv_at hl 0 rfl) ?_
    refine lv_iload_n hx hb dX7_kinks_13 rfl (lv_at hl 1 rfl) ?_
    refine g_callVr G X (rest := []) (As := [.int (iI (kind))]) (t_X7_hullOf l Y (σ) (kind) (by first | assumption | omega)) (cwV 1 hts gX7_kinks_X7_hullOf rfl rfl rfl (by decide +kernel) ⟨Nat.le_of_ble_eq_true rfl, Nat.le_of_ble_eq_true rfl⟩) (k := 0) (Nat.le_of_ble_eq_true rfl) rfl rfl rfl rfl hl.1 rfl (Nat.le_of_ble_eq_true rfl) dX7_kinks_14 ⟨Nat.le_refl _, Nat.le_refl _⟩ (fun z14 u14 H locs hq14 X => ?_)
    have X := (show u14 = σ from hq14.1) ▸ X
    rcases hq14.2 with ⟨hk4, hz⟩ | ⟨hk4, hz⟩
    ·
      refine g_topr hz ?_
      obtain ⟨sd, hsd, hss, hsig⟩ : ∃ sd, sd = hSide kind ∧ (sd = 1 ∨ sd = -1) ∧ σ 45 1 = sd := ⟨_, rfl, by unfold hSide; split <;> omega, by unfold hSide; first | (rw [if_pos hk4]; exact hs45) | (rw [if_neg hk4]; exact hs47)⟩
      refine lv_astore_n (lv' := [(2, .ref (Y.2.1 (45))), (0, .ref (Y.2.1 (0))), (1, .int (iI (kind)))]) hx hb dX7_kinks_17 rfl hl (by decide) rfl (fun ls hl => ?_)
      refine lv_aload_n hx hb dX7_kinks_18 rfl (lv_at hl 0 rfl) ?_
      refine g_callVv G X (rest := []) (As := []) (t_X3_draw l Y (σ) (ng P) (gX P) (gC P) (gW P) (gM P) (gQ P) (45) (sd) (by first | assumption | omega) (by first | assumption | omega) (by first | assumption | omega) (by first | assumption | omega) hsig) (cwV 0 hts gX7_kinks_X3_draw rfl rfl rfl (by decide +kernel) ⟨Nat.le_of_ble_eq_true rfl, Nat.le_of_ble_eq_true rfl⟩) (k := 45) (Nat.le_of_ble_eq_true rfl) rfl rfl rfl rfl hl.1 rfl (Nat.le_of_ble_eq_true rfl) dX7_kinks_19 ⟨Nat.le_refl _, Nat.le_refl _⟩ (fun u19 H locs hq19 X => ?_)
      obtain ⟨C, hHu, hHl, hSK⟩ := hq19
      have hHl2 : HullI (hulD P sd) (ng P) C := hHl
      have hCe : hulC P (hSide kind) = C := by rw [← hsd]; exact hulC_eq hHl2
      have hT2 : Tb u19 (ng P) (gX P) (gC P) (gW P) (gM P) (gQ P) := hT.sameK (by omega) hSK.1
      refine lv_aload_n hx hb dX7_kinks_22 rfl (lv_at hl 0 rfl) ?_
      refine g_callVi G X (rest := []) (As := []) (t_X3_innerCorners l Y (u19) (ng P) (gX P) (gC P) (gW P) (gM P) (gQ P) (45) ((hulD P sd)) (C) (by first | assumption | omega) (by first | assumption | omega) (by first | assumption | omega) (by first | assumption | omega) (by first | assumption | omega)) (cwV 0 hts gX7_kinks_X3_innerCorners rfl rfl rfl (by decide +kernel) ⟨Nat.le_of_ble_eq_true rfl, Nat.le_of_ble_eq_true rfl⟩) (k := 45) (Nat.le_of_ble_eq_true rfl) rfl rfl rfl rfl hl.1 rfl (Nat.le_of_ble_eq_true rfl) dX7_kinks_23 ⟨Nat.le_refl _, Nat.le_refl _⟩ (fun z23 u23 H locs hq23 X => ?_)
      rw [hq23.1] at X
      have hq23 := hq23.2
      try dsimp only at hq23
      exact hret _ _ _ _ _ _ (⟨by unfold kinksA; rw [if_neg (by omega), hCe]; split <;> omega, xinv_K hI (by omega) hSK⟩) X dX7_kinks_26
    ·
      refine g_topr hz ?_
      obtain ⟨sd, hsd, hss, hsig⟩ : ∃ sd, sd = hSide kind ∧ (sd = 1 ∨ sd = -1) ∧ σ 47 1 = sd := ⟨_, rfl, by unfold hSide; split <;> omega, by unfold hSide; first | (rw [if_pos hk4]; exact hs45) | (rw [if_neg hk4]; exact hs47)⟩
      refine lv_astore_n (lv' := [(2, .ref (Y.2.1 (47))), (0, .ref (Y.2.1 (0))), (1, .int (iI (kind)))]) hx hb dX7_kinks_17 rfl hl (by decide) rfl (fun ls hl => ?_)
      refine lv_aload_n hx hb dX7_kinks_18 rfl (lv_at hl 0 rfl) ?_
      refine g_callVv G X (rest := []) (As := []) (t_X3_draw l Y (σ) (ng P) (gX P) (gC P) (gW P) (gM P) (gQ P) (47) (sd) (by first | assumption | omega) (by first | assumption | omega) (by first | assumption | omega) (by first | assumption | omega) hsig) (cwV 0 hts gX7_kinks_X3_draw rfl rfl rfl (by decide +kernel) ⟨Nat.le_of_ble_eq_true rfl, Nat.le_of_ble_eq_true rfl⟩) (k := 47) (Nat.le_of_ble_eq_true rfl) rfl rfl rfl rfl hl.1 rfl (Nat.le_of_ble_eq_true rfl) dX7_kinks_19 ⟨Nat.le_refl _, Nat.le_refl _⟩ (fun u19 H locs hq19 X => ?_)
      obtain ⟨C, hHu, hHl, hSK⟩ := hq19
      have hHl2 : HullI (hulD P sd) (ng P) C := hHl
      have hCe : hulC P (hSide kind) = C := by rw [← hsd]; exact hulC_eq hHl2
      have hT2 : Tb u19 (ng P) (gX P) (gC P) (gW P) (gM P) (gQ P) := hT.sameK (by omega) hSK.1
      refine lv_aload_n hx hb dX7_kinks_22 rfl (lv_at hl 0 rfl) ?_
      refine g_callVi G X (rest := []) (As := []) (t_X3_innerCorners l Y (u19) (ng P) (gX P) (gC P) (gW P) (gM P) (gQ P) (47) ((hulD P sd)) (C) (by first | assumption | omega) (by first | assumption | omega) (by first | assumption | omega) (by first | assumption | omega) (by first | assumption | omega)) (cwV 0 hts gX7_kinks_X3_innerCorners rfl rfl rfl (by decide +kernel) ⟨Nat.le_of_ble_eq_true rfl, Nat.le_of_ble_eq_true rfl⟩) (k := 47) (Nat.le_of_ble_eq_true rfl) rfl rfl rfl rfl hl.1 rfl (Nat.le_of_ble_eq_true rfl) dX7_kinks_23 ⟨Nat.le_refl _, Nat.le_refl _⟩ (fun z23 u23 H locs hq23 X => ?_)
      rw [hq23.1] at X
      have hq23 := hq23.2
      try dsimp only at hq23
      exact hret _ _ _ _ _ _ (⟨by unfold kinksA; rw [if_neg (by omega), hCe]; split <;> omega, xinv_K hI (by omega) hSK⟩) X dX7_kinks_26
  ·
    refine g_ldc G (z := (-1000001)) l_c73 (by decide +kernel) dX7_kinks_9 ?_
    exact hret _ _ _ _ _ _ (⟨by unfold kinksA; rw [if_pos (by omega)], hI⟩) X dX7_kinks_11

set_option maxHeartbeats 4000000 in
set_option maxRecDepth 100000 in
theorem t_X7_kinkAt (l : Launch) (Y : Yt) (σ : Mem) (P : List Pt) (hs : List (List Pt)) (tx : List Int) (ch : List Int) (kind : Int) (i : Int) (hI : XInv σ P hs tx ch) (h_kind : -2147483648 ≤ kind ∧ kind ≤ 2147483647) (h_i : -2147483648 ≤ i ∧ i ≤ 2147483647) : MXi l LX Y yX7_kinkAt wsX7_kinkAt { frames := 5, cells := 0, slots := 0, locals := 117 } [.ref (Y.2.1 (0)), .int (iI (kind)), .int (iI (i))] σ (fun z u => z = kinkAtA P kind i ∧ XInv u P hs tx ch) := by
  obtain ⟨⟨hR, hok⟩, hTab, ⟨hH, hHok⟩, ⟨hTx, htok⟩, ⟨hC, hC3⟩, hs45, hs47⟩ := id hI
  have hPf := prof_of hok hR.2.1
  have hT : Tb σ (ng P) (gX P) (gC P) (gW P) (gM P) (gQ P) := hTab
  have hq0 := gQ_rg hok hR.2.1
  have hr1 : isRow Y 1 := isRow_of Y (by omega)
  have h12 := hR.2.1
  obtain ⟨⟨hn0, hn12, -⟩, -⟩ := id hPf
  have hh6 := hH.2.1
  have hk45 := isHull_of Y (k := 45) (Or.inl rfl)
  have hk47 := isHull_of Y (k := 47) (Or.inr rfl)
  have h90 := htok.1
  refine g_starti (rty := .int) (fun _ _ _ => rfl) (cc := cX7_kinkAt) (nL := 4) (own := RX7) (by decide) rfl rfl (Nat.le_of_ble_eq_true rfl) ?_
  intro pp ee ss mm bw mt cd AA ZZ ls G hret X hl
  have hl : lv_has ls 4 [(0, .ref (Y.2.1 (0))), (1, .int (iI (kind))), (2, .int (iI (i)))] := hl
  have hx := G.1
  have hb := G.2.1
  have hts := G.2.2.2.2.1
  have l_c73 := hts (.constant RX7 73 (-1000001)) (List.mem_of_getElem? (i := 1) rfl)
  have l_c194 := hts (.constant RX7 194 (-1000004)) (List.mem_of_getElem? (i := 2) rfl)
  refine lv_iload_n hx hb dX7_kinkAt_0 rfl (lv_at hl 1 rfl) ?_
  refine lv_iconst (v := iI 4) hx hb dX7_kinkAt_1 rfl ?_
  refine lv_iconst (v := iI 5) hx hb dX7_kinkAt_2 rfl ?_
  refine g_callSi G X (rest := []) (As := [.int (iI (kind)), .int (iI (4)), .int (iI (5))]) (t_X7_outside l Y (σ) (kind) (4) (5) (by first | assumption | omega) (by first | assumption | omega) (by first | assumption | omega)) (va_cwS 3 hts gX7_kinkAt_X7_outside rfl rfl rfl (by decide +kernel) ⟨Nat.le_of_ble_eq_true rfl, Nat.le_of_ble_eq_true rfl⟩) rfl hl.1 rfl (Nat.le_of_ble_eq_true rfl) dX7_kinkAt_3 ⟨Nat.le_refl _, Nat.le_refl _⟩ (fun z3 u3 H locs hq3 X => ?_)
  rw [hq3.1] at X
  have hq3 := hq3.2
  try dsimp only at hq3
  refine g_if_ne (tgt := 13) G dX7_kinkAt_6 (by decide) (by omega) (fun h6 => ?_) (fun h6 => ?_)
  ·
    refine g_ldc G (z := (-1000001)) l_c73 (by decide +kernel) dX7_kinkAt_13 ?_
    exact hret _ _ _ _ _ _ (⟨by unfold kinkAtA; rw [if_pos (by omega)], hI⟩) X dX7_kinkAt_15
  ·
    refine lv_iload_n hx hb dX7_kinkAt_9 rfl (lv_at hl 2 rfl) ?_
    refine g_if_ge (tgt := 16) G dX7_kinkAt_10 (by decide) (by omega) (fun h10 => ?_) (fun h10 => ?_)
    ·
      refine lv_aload_n hx hb dX7_kinkAt_16 rfl (lv_at hl 0 rfl) ?_
      refine lv_iload_n hx hb dX7_kinkAt_17 rfl (lv_at hl 1 rfl) ?_
      refine g_callVr G X (rest := []) (As := [.int (iI (kind))]) (t_X7_hullOf l Y (σ) (kind) (by first | assumption | omega)) (cwV 1 hts gX7_kinkAt_X7_hullOf rfl rfl rfl (by decide +kernel) ⟨Nat.le_of_ble_eq_true rfl, Nat.le_of_ble_eq_true rfl⟩) (k := 0) (Nat.le_of_ble_eq_true rfl) rfl rfl rfl rfl hl.1 rfl (Nat.le_of_ble_eq_true rfl) dX7_kinkAt_18 ⟨Nat.le_refl _, Nat.le_refl _⟩ (fun z18 u18 H locs hq18 X => ?_)
      have X := (show u18 = σ from hq18.1) ▸ X
      rcases hq18.2 with ⟨hk4, hz⟩ | ⟨hk4, hz⟩
      ·
        refine g_topr hz ?_
        obtain ⟨sd, hsd, hss, hsig⟩ : ∃ sd, sd = hSide kind ∧ (sd = 1 ∨ sd = -1) ∧ σ 45 1 = sd := ⟨_, rfl, by unfold hSide; split <;> omega, by unfold hSide; first | (rw [if_pos hk4]; exact hs45) | (rw [if_neg hk4]; exact hs47)⟩
        refine lv_astore_n (lv' := [(3, .ref (Y.2.1 (45))), (0, .ref (Y.2.1 (0))), (1, .int (iI (kind))), (2, .int (iI (i)))]) hx hb dX7_kinkAt_21 rfl hl (by decide) rfl (fun ls hl => ?_)
        refine lv_aload_n hx hb dX7_kinkAt_22 rfl (lv_at hl 0 rfl) ?_
        refine g_callVv G X (rest := []) (As := []) (t_X3_draw l Y (σ) (ng P) (gX P) (gC P) (gW P) (gM P) (gQ P) (45) (sd) (by first | assumption | omega) (by first | assumption | omega) (by first | assumption | omega) (by first | assumption | omega) hsig) (cwV 0 hts gX7_kinkAt_X3_draw rfl rfl rfl (by decide +kernel) ⟨Nat.le_of_ble_eq_true rfl, Nat.le_of_ble_eq_true rfl⟩) (k := 45) (Nat.le_of_ble_eq_true rfl) rfl rfl rfl rfl hl.1 rfl (Nat.le_of_ble_eq_true rfl) dX7_kinkAt_23 ⟨Nat.le_refl _, Nat.le_refl _⟩ (fun u23 H locs hq23 X => ?_)
        obtain ⟨C, hHu, hHl, hSK⟩ := hq23
        have hHl2 : HullI (hulD P sd) (ng P) C := hHl
        have hCe : hulC P (hSide kind) = C := by rw [← hsd]; exact hulC_eq hHl2
        have hT2 : Tb u23 (ng P) (gX P) (gC P) (gW P) (gM P) (gQ P) := hT.sameK (by omega) hSK.1
        refine lv_iload_n hx hb dX7_kinkAt_26 rfl (lv_at hl 3 rfl) ?_
        refine lv_aload_n hx hb dX7_kinkAt_27 rfl (lv_at hl 0 rfl) ?_
        refine g_callVi G X (rest := [.int (iI (i))]) (As := []) (t_X3_innerCorners l Y (u23) (ng P) (gX P) (gC P) (gW P) (gM P) (gQ P) (45) ((hulD P sd)) (C) (by first | assumption | omega) (by first | assumption | omega) (by first | assumption | omega) (by first | assumption | omega) (by first | assumption | omega)) (cwV 0 hts gX7_kinkAt_X3_innerCorners rfl rfl rfl (by decide +kernel) ⟨Nat.le_of_ble_eq_true rfl, Nat.le_of_ble_eq_true rfl⟩) (k := 45) (Nat.le_of_ble_eq_true rfl) rfl rfl rfl rfl hl.1 rfl (Nat.le_of_ble_eq_true rfl) dX7_kinkAt_28 ⟨Nat.le_refl _, Nat.le_refl _⟩ (fun z28 u28 H locs hq28 X => ?_)
        rw [hq28.1] at X
        have hq28 := hq28.2
        try dsimp only at hq28
        have hcl := hHl2.2.2.2
        refine g_icmp_lt (tgt := 37) G dX7_kinkAt_31 (by decide) (by omega) (by omega) (fun h31 => ?_) (fun h31 => ?_)
        ·
          refine lv_aload_n hx hb dX7_kinkAt_37 rfl (lv_at hl 0 rfl) ?_
          refine lv_iload_n hx hb dX7_kinkAt_38 rfl (lv_at hl 3 rfl) ?_
          refine g_callVi G X (rest := []) (As := [.int (iI (i))]) (t_X3_innerCorner l Y (u23) (ng P) (gX P) (gC P) (gW P) (gM P) (gQ P) (45) (i) ((hulD P sd)) (C) (by first | assumption | omega) (by first | assumption | omega) (by first | assumption | omega) (by first | assumption | omega) (by first | assumption | omega) (by first | assumption | omega)) (cwV 1 hts gX7_kinkAt_X3_innerCorner rfl rfl rfl (by decide +kernel) ⟨Nat.le_of_ble_eq_true rfl, Nat.le_of_ble_eq_true rfl⟩) (k := 45) (Nat.le_of_ble_eq_true rfl) rfl rfl rfl rfl hl.1 rfl (Nat.le_of_ble_eq_true rfl) dX7_kinkAt_39 ⟨Nat.le_refl _, Nat.le_refl _⟩ (fun z39 u39 H locs hq39 X => ?_)
          rw [hq39.1] at X
          have hq39 := hq39.2
          try dsimp only at hq39
          exact hret _ _ _ _ _ _ (⟨by unfold kinkAtA; rw [if_neg (by omega), hCe, if_pos (by omega)]; exact hq39.1 (by omega), xinv_K hI (by omega) hSK⟩) X dX7_kinkAt_42
        ·
          refine g_ldc G (z := (-1000004)) l_c194 (by decide +kernel) dX7_kinkAt_34 ?_
          exact hret _ _ _ _ _ _ (⟨by unfold kinkAtA; rw [if_neg (by omega), hCe, if_neg (by omega)], xinv_K hI (by omega) hSK⟩) X dX7_kinkAt_36
      ·
        refine g_topr hz ?_
        obtain ⟨sd, hsd, hss, hsig⟩ : ∃ sd, sd = hSide kind ∧ (sd = 1 ∨ sd = -1) ∧ σ 47 1 = sd := ⟨_, rfl, by unfold hSide; split <;> omega, by unfold hSide; first | (rw [if_pos hk4]; exact hs45) | (rw [if_neg hk4]; exact hs47)⟩
        refine lv_astore_n (lv' := [(3, .ref (Y.2.1 (47))), (0, .ref (Y.2.1 (0))), (1, .int (iI (kind))), (2, .int (iI (i)))]) hx hb dX7_kinkAt_21 rfl hl (by decide) rfl (fun ls hl => ?_)
        refine lv_aload_n hx hb dX7_kinkAt_22 rfl (lv_at hl 0 rfl) ?_
        refine g_callVv G X (rest := []) (As := []) (t_X3_draw l Y (σ) (ng P) (gX P) (gC P) (gW P) (gM P) (gQ P) (47) (sd) (by first | assumption | omega) (by first | assumption | omega) (by first | assumption | omega) (by first | assumption | omega) hsig) (cwV 0 hts gX7_kinkAt_X3_draw rfl rfl rfl (by decide +kernel) ⟨Nat.le_of_ble_eq_true rfl, Nat.le_of_ble_eq_true rfl⟩) (k := 47) (Nat.le_of_ble_eq_true rfl) rfl rfl rfl rfl hl.1 rfl (Nat.le_of_ble_eq_true rfl) dX7_kinkAt_23 ⟨Nat.le_refl _, Nat.le_refl _⟩ (fun u23 H locs hq23 X => ?_)
        obtain ⟨C, hHu, hHl, hSK⟩ := hq23
        have hHl2 : HullI (hulD P sd) (ng P) C := hHl
        have hCe : hulC P (hSide kind) = C := by rw [← hsd]; exact hulC_eq hHl2
        have hT2 : Tb u23 (ng P) (gX P) (gC P) (gW P) (gM P) (gQ P) := hT.sameK (by omega) hSK.1
        refine lv_iload_n hx hb dX7_kinkAt_26 rfl (lv_at hl 3 rfl) ?_
        refine lv_aload_n hx hb dX7_kinkAt_27 rfl (lv_at hl 0 rfl) ?_
        refine g_callVi G X (rest := [.int (iI (i))]) (As := []) (t_X3_innerCorners l Y (u23) (ng P) (gX P) (gC P) (gW P) (gM P) (gQ P) (47) ((hulD P sd)) (C) (by first | assumption | omega) (by first | assumption | omega) (by first | assumption | omega) (by first | assumption | omega) (by first | assumption | omega)) (cwV 0 hts gX7_kinkAt_X3_innerCorners rfl rfl rfl (by decide +kernel) ⟨Nat.le_of_ble_eq_true rfl, Nat.le_of_ble_eq_true rfl⟩) (k := 47) (Nat.le_of_ble_eq_true rfl) rfl rfl rfl rfl hl.1 rfl (Nat.le_of_ble_eq_true rfl) dX7_kinkAt_28 ⟨Nat.le_refl _, Nat.le_refl _⟩ (fun z28 u28 H locs hq28 X => ?_)
        rw [hq28.1] at X
        have hq28 := hq28.2
        try dsimp only at hq28
        have hcl := hHl2.2.2.2
        refine g_icmp_lt (tgt := 37) G dX7_kinkAt_31 (by decide) (by omega) (by omega) (fun h31 => ?_) (fun h31 => ?_)
        ·
          refine lv_aload_n hx hb dX7_kinkAt_37 rfl (lv_at hl 0 rfl) ?_
          refine lv_iload_n hx hb dX7_kinkAt_38 rfl (lv_at hl 3 rfl) ?_
          refine g_callVi G X (rest := []) (As := [.int (iI (i))]) (t_X3_innerCorner l Y (u23) (ng P) (gX P) (gC P) (gW P) (gM P) (gQ P) (47) (i) ((hulD P sd)) (C) (by first | assumption | omega) (by first | assumption | omega) (by first | assumption | omega) (by first | assumption | omega) (by first | assumption | omega) (by first | assumption | omega)) (cwV 1 hts gX7_kinkAt_X3_innerCorner rfl rfl rfl (by decide +kernel) ⟨Nat.le_of_ble_eq_true rfl, Nat.le_of_ble_eq_true rfl⟩) (k := 47) (Nat.le_of_ble_eq_true rfl) rfl rfl rfl rfl hl.1 rfl (Nat.le_of_ble_eq_true rfl) dX7_kinkAt_39 ⟨Nat.le_refl _, Nat.le_refl _⟩ (fun z39 u39 H locs hq39 X => ?_)
          rw [hq39.1] at X
          have hq39 := hq39.2
          try dsimp only at hq39
          exact hret _ _ _ _ _ _ (⟨by unfold kinkAtA; rw [if_neg (by omega), hCe, if_pos (by omega)]; exact hq39.1 (by omega), xinv_K hI (by omega) hSK⟩) X dX7_kinkAt_42
        ·
          refine g_ldc G (z := (-1000004)) l_c194 (by decide +kernel) dX7_kinkAt_34 ?_
          exact hret _ _ _ _ _ _ (⟨by unfold kinkAtA; rw [if_neg (by omega), hCe, if_neg (by omega)], xinv_K hI (by omega) hSK⟩) X dX7_kinkAt_36
    ·
      refine g_ldc G (z := (-1000001)) l_c73 (by decide +kernel) dX7_kinkAt_13 ?_
      exact hret _ _ _ _ _ _ (⟨by unfold kinkAtA; rw [if_pos (by omega)], hI⟩) X dX7_kinkAt_15

set_option maxHeartbeats 4000000 in
set_option maxRecDepth 100000 in
theorem t_X7_gapNumerator (l : Launch) (Y : Yt) (σ : Mem) (P : List Pt) (g : Int) (hT : Tb σ (ng P) (gX P) (gC P) (gW P) (gM P) (gQ P)) (hPf : Prof (ng P) (gX P) (gW P) (gM P)) (hC1 : HulIs σ 45 (hulC P 1)) (hC2 : HulIs σ 47 (hulC P (-1))) (hH1 : HullI (hulD P 1) (ng P) (hulC P 1)) (hH2 : HullI (hulD P (-1)) (ng P) (hulC P (-1))) (hg : 0 ≤ g ∧ g < ng P) : MXl l LX Y yX7_gapNumerator wsX7_gapNumerator { frames := 4, cells := 0, slots := 0, locals := 87 } [.ref (Y.2.1 (0)), .int (iI (g))] σ (fun z u => u = σ ∧ (z = gapN P g)) := by
  have hk45 := isHull_of Y (k := 45) (Or.inl rfl)
  have hk47 := isHull_of Y (k := 47) (Or.inr rfl)
  obtain ⟨⟨hn0, hn12, -⟩, -⟩ := id hPf
  refine g_startl (cc := cX7_gapNumerator) (nL := 2) (own := RX7) (by decide) rfl rfl (Nat.le_of_ble_eq_true rfl) ?_
  intro pp ee ss mm bw mt cd AA ZZ ls G hret X hl
  have hl : lv_has ls 2 [(0, .ref (Y.2.1 (0))), (1, .int (iI (g)))] := hl
  have hx := G.1
  have hb := G.2.1
  have hts := G.2.2.2.2.1
  have l_f51 := hts (.fieldLink RX7 51 "ShapeFits" "minorant" "LShapeFits$Hull;") (List.mem_of_getElem? (i := 2) rfl)
  have l_f55 := hts (.fieldLink RX7 55 "ShapeFits" "majorant" "LShapeFits$Hull;") (List.mem_of_getElem? (i := 1) rfl)
  have in_X7 : ∀ w ∈ u_ws RX7 TX7 8, w ∈ wsX7_gapNumerator := by decide +kernel
  refine lv_aload_n hx hb dX7_gapNumerator_0 rfl (lv_at hl 0 rfl) ?_
  refine g_get G X (k := 0) (fs := fX Y) (Nat.le_of_ble_eq_true rfl) (fun _ => rfl) rfl in_X7 6 (by decide) l_f55 rfl (v := .ref (Y.2.1 (47))) rfl dX7_gapNumerator_1 ?_
  refine lv_iload_n hx hb dX7_gapNumerator_4 rfl (lv_at hl 1 rfl) ?_
  refine g_callVl G X (rest := []) (As := [.int (iI (g))]) (t_X3_numeratorAt l Y (σ) (ng P) (gX P) (gC P) (gW P) (gM P) (gQ P) (47) (g) ((hulD P (-1))) ((hulC P (-1))) (by first | assumption | omega) (by first | assumption | omega) (by first | assumption | omega) (by first | assumption | omega) (by first | assumption | omega) (by first | assumption | omega)) (cwV 1 hts gX7_gapNumerator_X3_numeratorAt rfl rfl rfl (by decide +kernel) ⟨Nat.le_of_ble_eq_true rfl, Nat.le_of_ble_eq_true rfl⟩) (k := 47) (Nat.le_of_ble_eq_true rfl) rfl rfl rfl rfl hl.1 rfl (Nat.le_of_ble_eq_true rfl) dX7_gapNumerator_5 ⟨Nat.le_refl _, Nat.le_refl _⟩ (fun z5 u5 H locs hq5 X => ?_)
  rw [hq5.1] at X
  have hq5 := hq5.2
  try dsimp only at hq5
  refine g_topl (z' := hNum (gX P) (gW P) (gM P) (hulC P (-1)) g) hq5 ?_
  refine lv_aload_n hx hb dX7_gapNumerator_8 rfl (lv_at hl 0 rfl) ?_
  refine g_get G X (k := 0) (fs := fX Y) (Nat.le_of_ble_eq_true rfl) (fun _ => rfl) rfl in_X7 5 (by decide) l_f51 rfl (v := .ref (Y.2.1 (45))) rfl dX7_gapNumerator_9 ?_
  refine lv_iload_n hx hb dX7_gapNumerator_12 rfl (lv_at hl 1 rfl) ?_
  refine g_callVl G X (rest := [.long (lI ((hNum (gX P) (gW P) (gM P) (hulC P (-1)) g)))]) (As := [.int (iI (g))]) (t_X3_denominatorAt l Y (σ) (ng P) (gX P) (gC P) (gW P) (gM P) (gQ P) (45) (g) ((hulD P 1)) ((hulC P 1)) (by first | assumption | omega) (by first | assumption | omega) (by first | assumption | omega) (by first | assumption | omega) (by first | assumption | omega) (by first | assumption | omega)) (cwV 1 hts gX7_gapNumerator_X3_denominatorAt rfl rfl rfl (by decide +kernel) ⟨Nat.le_of_ble_eq_true rfl, Nat.le_of_ble_eq_true rfl⟩) (k := 45) (Nat.le_of_ble_eq_true rfl) rfl rfl rfl rfl hl.1 rfl (Nat.le_of_ble_eq_true rfl) dX7_gapNumerator_13 ⟨Nat.le_refl _, Nat.le_refl _⟩ (fun z13 u13 H locs hq13 X => ?_)
  rw [hq13.1] at X
  have hq13 := hq13.2
  try dsimp only at hq13
  refine g_topl (z' := hDen (gX P) (gW P) (hulC P 1) g) hq13 ?_
  refine g_lmul G dX7_gapNumerator_16 ?_
  refine lv_aload_n hx hb dX7_gapNumerator_17 rfl (lv_at hl 0 rfl) ?_
  refine g_get G X (k := 0) (fs := fX Y) (Nat.le_of_ble_eq_true rfl) (fun _ => rfl) rfl in_X7 5 (by decide) l_f51 rfl (v := .ref (Y.2.1 (45))) rfl dX7_gapNumerator_18 ?_
  refine lv_iload_n hx hb dX7_gapNumerator_21 rfl (lv_at hl 1 rfl) ?_
  refine g_callVl G X (rest := [.long (lI (((hNum (gX P) (gW P) (gM P) (hulC P (-1)) g) * (hDen (gX P) (gW P) (hulC P 1) g))))]) (As := [.int (iI (g))]) (t_X3_numeratorAt l Y (σ) (ng P) (gX P) (gC P) (gW P) (gM P) (gQ P) (45) (g) ((hulD P 1)) ((hulC P 1)) (by first | assumption | omega) (by first | assumption | omega) (by first | assumption | omega) (by first | assumption | omega) (by first | assumption | omega) (by first | assumption | omega)) (cwV 1 hts gX7_gapNumerator_X3_numeratorAt rfl rfl rfl (by decide +kernel) ⟨Nat.le_of_ble_eq_true rfl, Nat.le_of_ble_eq_true rfl⟩) (k := 45) (Nat.le_of_ble_eq_true rfl) rfl rfl rfl rfl hl.1 rfl (Nat.le_of_ble_eq_true rfl) dX7_gapNumerator_22 ⟨Nat.le_refl _, Nat.le_refl _⟩ (fun z22 u22 H locs hq22 X => ?_)
  rw [hq22.1] at X
  have hq22 := hq22.2
  try dsimp only at hq22
  refine g_topl (z' := hNum (gX P) (gW P) (gM P) (hulC P 1) g) hq22 ?_
  refine lv_aload_n hx hb dX7_gapNumerator_25 rfl (lv_at hl 0 rfl) ?_
  refine g_get G X (k := 0) (fs := fX Y) (Nat.le_of_ble_eq_true rfl) (fun _ => rfl) rfl in_X7 6 (by decide) l_f55 rfl (v := .ref (Y.2.1 (47))) rfl dX7_gapNumerator_26 ?_
  refine lv_iload_n hx hb dX7_gapNumerator_29 rfl (lv_at hl 1 rfl) ?_
  refine g_callVl G X (rest := [.long (lI ((hNum (gX P) (gW P) (gM P) (hulC P 1) g))), .long (lI (((hNum (gX P) (gW P) (gM P) (hulC P (-1)) g) * (hDen (gX P) (gW P) (hulC P 1) g))))]) (As := [.int (iI (g))]) (t_X3_denominatorAt l Y (σ) (ng P) (gX P) (gC P) (gW P) (gM P) (gQ P) (47) (g) ((hulD P (-1))) ((hulC P (-1))) (by first | assumption | omega) (by first | assumption | omega) (by first | assumption | omega) (by first | assumption | omega) (by first | assumption | omega) (by first | assumption | omega)) (cwV 1 hts gX7_gapNumerator_X3_denominatorAt rfl rfl rfl (by decide +kernel) ⟨Nat.le_of_ble_eq_true rfl, Nat.le_of_ble_eq_true rfl⟩) (k := 47) (Nat.le_of_ble_eq_true rfl) rfl rfl rfl rfl hl.1 rfl (Nat.le_of_ble_eq_true rfl) dX7_gapNumerator_30 ⟨Nat.le_refl _, Nat.le_refl _⟩ (fun z30 u30 H locs hq30 X => ?_)
  rw [hq30.1] at X
  have hq30 := hq30.2
  try dsimp only at hq30
  refine g_topl (z' := hDen (gX P) (gW P) (hulC P (-1)) g) hq30 ?_
  refine g_lmul G dX7_gapNumerator_33 ?_
  refine g_lsub G dX7_gapNumerator_34 ?_
  exact hret _ _ _ _ _ _ (⟨rfl, rfl⟩) X dX7_gapNumerator_35

set_option maxHeartbeats 4000000 in
set_option maxRecDepth 100000 in
theorem t_X7_gapDenominator (l : Launch) (Y : Yt) (σ : Mem) (P : List Pt) (g : Int) (hT : Tb σ (ng P) (gX P) (gC P) (gW P) (gM P) (gQ P)) (hPf : Prof (ng P) (gX P) (gW P) (gM P)) (hC1 : HulIs σ 45 (hulC P 1)) (hC2 : HulIs σ 47 (hulC P (-1))) (hH1 : HullI (hulD P 1) (ng P) (hulC P 1)) (hH2 : HullI (hulD P (-1)) (ng P) (hulC P (-1))) (hg : 0 ≤ g ∧ g < ng P) : MXl l LX Y yX7_gapDenominator wsX7_gapDenominator { frames := 4, cells := 0, slots := 0, locals := 87 } [.ref (Y.2.1 (0)), .int (iI (g))] σ (fun z u => u = σ ∧ (z = gapD P g)) := by
  have hk45 := isHull_of Y (k := 45) (Or.inl rfl)
  have hk47 := isHull_of Y (k := 47) (Or.inr rfl)
  obtain ⟨⟨hn0, hn12, -⟩, -⟩ := id hPf
  refine g_startl (cc := cX7_gapDenominator) (nL := 2) (own := RX7) (by decide) rfl rfl (Nat.le_of_ble_eq_true rfl) ?_
  intro pp ee ss mm bw mt cd AA ZZ ls G hret X hl
  have hl : lv_has ls 2 [(0, .ref (Y.2.1 (0))), (1, .int (iI (g)))] := hl
  have hx := G.1
  have hb := G.2.1
  have hts := G.2.2.2.2.1
  have l_f51 := hts (.fieldLink RX7 51 "ShapeFits" "minorant" "LShapeFits$Hull;") (List.mem_of_getElem? (i := 2) rfl)
  have l_f55 := hts (.fieldLink RX7 55 "ShapeFits" "majorant" "LShapeFits$Hull;") (List.mem_of_getElem? (i := 1) rfl)
  have in_X7 : ∀ w ∈ u_ws RX7 TX7 8, w ∈ wsX7_gapDenominator := by decide +kernel
  refine lv_aload_n hx hb dX7_gapDenominator_0 rfl (lv_at hl 0 rfl) ?_
  refine g_get G X (k := 0) (fs := fX Y) (Nat.le_of_ble_eq_true rfl) (fun _ => rfl) rfl in_X7 6 (by decide) l_f55 rfl (v := .ref (Y.2.1 (47))) rfl dX7_gapDenominator_1 ?_
  refine lv_iload_n hx hb dX7_gapDenominator_4 rfl (lv_at hl 1 rfl) ?_
  refine g_callVl G X (rest := []) (As := [.int (iI (g))]) (t_X3_denominatorAt l Y (σ) (ng P) (gX P) (gC P) (gW P) (gM P) (gQ P) (47) (g) ((hulD P (-1))) ((hulC P (-1))) (by first | assumption | omega) (by first | assumption | omega) (by first | assumption | omega) (by first | assumption | omega) (by first | assumption | omega) (by first | assumption | omega)) (cwV 1 hts gX7_gapDenominator_X3_denominatorAt rfl rfl rfl (by decide +kernel) ⟨Nat.le_of_ble_eq_true rfl, Nat.le_of_ble_eq_true rfl⟩) (k := 47) (Nat.le_of_ble_eq_true rfl) rfl rfl rfl rfl hl.1 rfl (Nat.le_of_ble_eq_true rfl) dX7_gapDenominator_5 ⟨Nat.le_refl _, Nat.le_refl _⟩ (fun z5 u5 H locs hq5 X => ?_)
  rw [hq5.1] at X
  have hq5 := hq5.2
  try dsimp only at hq5
  refine g_topl (z' := hDen (gX P) (gW P) (hulC P (-1)) g) hq5 ?_
  refine lv_aload_n hx hb dX7_gapDenominator_8 rfl (lv_at hl 0 rfl) ?_
  refine g_get G X (k := 0) (fs := fX Y) (Nat.le_of_ble_eq_true rfl) (fun _ => rfl) rfl in_X7 5 (by decide) l_f51 rfl (v := .ref (Y.2.1 (45))) rfl dX7_gapDenominator_9 ?_
  refine lv_iload_n hx hb dX7_gapDenominator_12 rfl (lv_at hl 1 rfl) ?_
  refine g_callVl G X (rest := [.long (lI ((hDen (gX P) (gW P) (hulC P (-1)) g)))]) (As := [.int (iI (g))]) (t_X3_denominatorAt l Y (σ) (ng P) (gX P) (gC P) (gW P) (gM P) (gQ P) (45) (g) ((hulD P 1)) ((hulC P 1)) (by first | assumption | omega) (by first | assumption | omega) (by first | assumption | omega) (by first | assumption | omega) (by first | assumption | omega) (by first | assumption | omega)) (cwV 1 hts gX7_gapDenominator_X3_denominatorAt rfl rfl rfl (by decide +kernel) ⟨Nat.le_of_ble_eq_true rfl, Nat.le_of_ble_eq_true rfl⟩) (k := 45) (Nat.le_of_ble_eq_true rfl) rfl rfl rfl rfl hl.1 rfl (Nat.le_of_ble_eq_true rfl) dX7_gapDenominator_13 ⟨Nat.le_refl _, Nat.le_refl _⟩ (fun z13 u13 H locs hq13 X => ?_)
  rw [hq13.1] at X
  have hq13 := hq13.2
  try dsimp only at hq13
  refine g_topl (z' := hDen (gX P) (gW P) (hulC P 1) g) hq13 ?_
  refine g_lmul G dX7_gapDenominator_16 ?_
  exact hret _ _ _ _ _ _ (⟨rfl, rfl⟩) X dX7_gapDenominator_17

set_option maxHeartbeats 4000000 in
set_option maxRecDepth 100000 in
theorem t_X7_widestGap (l : Launch) (Y : Yt) (σ : Mem) (P : List Pt) (hT : Tb σ (ng P) (gX P) (gC P) (gW P) (gM P) (gQ P)) (hPf : Prof (ng P) (gX P) (gW P) (gM P)) (hC1 : HulIs σ 45 (hulC P 1)) (hC2 : HulIs σ 47 (hulC P (-1))) (hH1 : HullI (hulD P 1) (ng P) (hulC P 1)) (hH2 : HullI (hulD P (-1)) (ng P) (hulC P (-1))) (hnp : 0 < ng P) : MXi l LX Y yX7_widestGap wsX7_widestGap { frames := 5, cells := 0, slots := 0, locals := 108 } [.ref (Y.2.1 (0))] σ (fun z u => u = σ ∧ (WdIs (ng P) (gapN P) (gapD P) z)) := by
  have hk45 := isHull_of Y (k := 45) (Or.inl rfl)
  have hk47 := isHull_of Y (k := 47) (Or.inr rfl)
  obtain ⟨⟨hn0, hn12, -⟩, -⟩ := id hPf
  refine g_starti (rty := .int) (fun _ _ _ => rfl) (cc := cX7_widestGap) (nL := 7) (own := RX7) (by decide) rfl rfl (Nat.le_of_ble_eq_true rfl) ?_
  intro pp ee ss mm bw mt cd AA ZZ ls G hret X hl
  have hl : lv_has ls 7 [(0, .ref (Y.2.1 (0)))] := hl
  have hx := G.1
  have hb := G.2.1
  have hts := G.2.2.2.2.1
  have l_f33 := hts (.fieldLink RX7 33 "ShapeFits" "table" "LShapeFits$GroupTable;") (List.mem_of_getElem? (i := 1) rfl)
  have in_X7 : ∀ w ∈ u_ws RX7 TX7 8, w ∈ wsX7_widestGap := by decide +kernel
  refine lv_iconst (v := iI 0) hx hb dX7_widestGap_0 rfl ?_
  refine lv_istore_n (lv' := [(1, .int (iI (0))), (0, .ref (Y.2.1 (0)))]) hx hb dX7_widestGap_1 rfl hl (by decide) rfl (fun ls hl => ?_)
  refine lv_iconst (v := iI 1) hx hb dX7_widestGap_2 rfl ?_
  refine lv_istore_n (lv' := [(2, .int (iI (1))), (1, .int (iI (0))), (0, .ref (Y.2.1 (0)))]) hx hb dX7_widestGap_3 rfl hl (by decide) rfl (fun ls hl => ?_)
  have lp_4 : ∀ (nn : Nat) (wd g : Int), ∀ hg : 1 ≤ g ∧ g ≤ ng P, ∀ hwd : 0 ≤ wd ∧ wd < g, ∀ hW : ∀ j : Int, 0 ≤ j → j < g → gapN P j * gapD P wd ≤ gapN P wd * gapD P j ∧ (j < wd → gapN P j * gapD P wd < gapN P wd * gapD P j), ∀ hdec : (ng P - g) < (nn : Int), ∀ (H : Heap) (locs : List Loc) (ls : Array Slot), wx LX Y σ ss AA H locs → lv_has ls 7 [(0, .ref (Y.2.1 (0))), (1, .int (iI (wd))), (2, .int (iI (g)))] → W pp l ee { frames := 5, cells := 0, slots := 0, locals := 108 } ss mm ([.ref (Y.2.1 (0))] : List Value).toArray bw mt cd H locs 0 0 ZZ (F0 mm 4 ls []) := by
    intro nn
    induction nn with
    | zero =>
      intro wd g hg hwd hW hdec
      exact absurd hdec (by omega)
    | succ nn ih_4 =>
      intro wd g hg hwd hW hdec H locs ls X hl
      refine lv_iload_n hx hb dX7_widestGap_4 rfl (lv_at hl 2 rfl) ?_
      refine lv_aload_n hx hb dX7_widestGap_5 rfl (lv_at hl 0 rfl) ?_
      refine g_get G X (k := 0) (fs := fX Y) (Nat.le_of_ble_eq_true rfl) (fun _ => rfl) rfl in_X7 3 (by decide) l_f33 rfl (v := .ref (Y.2.1 (38))) rfl dX7_widestGap_6 ?_
      refine g_callVi G X (rest := [.int (iI (g))]) (As := []) (t_X1_size l Y (σ) (ng P) (gX P) (gC P) (gW P) (gM P) (gQ P) (by first | assumption | omega) (by first | assumption | omega)) (cwV 0 hts gX7_widestGap_X1_size rfl rfl rfl (by decide +kernel) ⟨Nat.le_of_ble_eq_true rfl, Nat.le_of_ble_eq_true rfl⟩) (k := 38) (Nat.le_of_ble_eq_true rfl) rfl rfl rfl rfl hl.1 rfl (Nat.le_of_ble_eq_true rfl) dX7_widestGap_9 ⟨Nat.le_refl _, Nat.le_refl _⟩ (fun z9 u9 H locs hq9 X => ?_)
      rw [hq9.1] at X
      have hq9 := hq9.2
      try dsimp only at hq9
      refine g_topi (z' := ng P) hq9 ?_
      refine g_icmp_ge (tgt := 55) G dX7_widestGap_12 (by decide) (by omega) (by omega) (fun h12 => ?_) (fun h12 => ?_)
      ·
        refine lv_iload_n hx hb dX7_widestGap_55 rfl (lv_at hl 1 rfl) ?_
        exact hret _ _ _ _ _ _ (⟨rfl, ⟨by omega, by omega⟩, fun j a b => hW j a (by omega)⟩) X dX7_widestGap_56
      ·
        have rg1 := gap_rg hPf hH1 hH2 (g := g) (by omega)
        have rg2 := gap_rg hPf hH1 hH2 (g := wd) (by omega)
        refine lv_aload_n hx hb dX7_widestGap_15 rfl (lv_at hl 0 rfl) ?_
        refine lv_iload_n hx hb dX7_widestGap_16 rfl (lv_at hl 2 rfl) ?_
        refine g_callVl G X (rest := []) (As := [.int (iI (g))]) (t_X7_gapNumerator l Y (σ) P (g) (by first | assumption | omega) (by first | assumption | omega) (by first | assumption | omega) (by first | assumption | omega) (by first | assumption | omega) (by first | assumption | omega) (by first | assumption | omega)) (cwV 1 hts gX7_widestGap_X7_gapNumerator rfl rfl rfl (by decide +kernel) ⟨Nat.le_of_ble_eq_true rfl, Nat.le_of_ble_eq_true rfl⟩) (k := 0) (Nat.le_of_ble_eq_true rfl) rfl rfl rfl rfl hl.1 rfl (Nat.le_of_ble_eq_true rfl) dX7_widestGap_17 ⟨Nat.le_refl _, Nat.le_refl _⟩ (fun z17 u17 H locs hq17 X => ?_)
        rw [hq17.1] at X
        have hq17 := hq17.2
        try dsimp only at hq17
        refine g_topl (z' := gapN P g) hq17 ?_
        refine lv_aload_n hx hb dX7_widestGap_20 rfl (lv_at hl 0 rfl) ?_
        refine lv_iload_n hx hb dX7_widestGap_21 rfl (lv_at hl 1 rfl) ?_
        refine g_callVl G X (rest := [.long (lI ((gapN P g)))]) (As := [.int (iI (wd))]) (t_X7_gapDenominator l Y (σ) P (wd) (by first | assumption | omega) (by first | assumption | omega) (by first | assumption | omega) (by first | assumption | omega) (by first | assumption | omega) (by first | assumption | omega) (by first | assumption | omega)) (cwV 1 hts gX7_widestGap_X7_gapDenominator rfl rfl rfl (by decide +kernel) ⟨Nat.le_of_ble_eq_true rfl, Nat.le_of_ble_eq_true rfl⟩) (k := 0) (Nat.le_of_ble_eq_true rfl) rfl rfl rfl rfl hl.1 rfl (Nat.le_of_ble_eq_true rfl) dX7_widestGap_22 ⟨Nat.le_refl _, Nat.le_refl _⟩ (fun z22 u22 H locs hq22 X => ?_)
        rw [hq22.1] at X
        have hq22 := hq22.2
        try dsimp only at hq22
        refine g_topl (z' := gapD P wd) hq22 ?_
        refine g_lmul G dX7_widestGap_25 ?_
        refine lv_lstore_n (lv' := [(3, .long (lI (((gapN P g) * (gapD P wd))))), (0, .ref (Y.2.1 (0))), (1, .int (iI (wd))), (2, .int (iI (g)))]) hx hb dX7_widestGap_26 rfl hl (by decide) rfl (fun ls hl => ?_)
        refine lv_aload_n hx hb dX7_widestGap_27 rfl (lv_at hl 1 rfl) ?_
        refine lv_iload_n hx hb dX7_widestGap_28 rfl (lv_at hl 2 rfl) ?_
        refine g_callVl G X (rest := []) (As := [.int (iI (wd))]) (t_X7_gapNumerator l Y (σ) P (wd) (by first | assumption | omega) (by first | assumption | omega) (by first | assumption | omega) (by first | assumption | omega) (by first | assumption | omega) (by first | assumption | omega) (by first | assumption | omega)) (cwV 1 hts gX7_widestGap_X7_gapNumerator rfl rfl rfl (by decide +kernel) ⟨Nat.le_of_ble_eq_true rfl, Nat.le_of_ble_eq_true rfl⟩) (k := 0) (Nat.le_of_ble_eq_true rfl) rfl rfl rfl rfl hl.1 rfl (Nat.le_of_ble_eq_true rfl) dX7_widestGap_29 ⟨Nat.le_refl _, Nat.le_refl _⟩ (fun z29 u29 H locs hq29 X => ?_)
        rw [hq29.1] at X
        have hq29 := hq29.2
        try dsimp only at hq29
        refine g_topl (z' := gapN P wd) hq29 ?_
        refine lv_aload_n hx hb dX7_widestGap_32 rfl (lv_at hl 1 rfl) ?_
        refine lv_iload_n hx hb dX7_widestGap_33 rfl (lv_at hl 3 rfl) ?_
        refine g_callVl G X (rest := [.long (lI ((gapN P wd)))]) (As := [.int (iI (g))]) (t_X7_gapDenominator l Y (σ) P (g) (by first | assumption | omega) (by first | assumption | omega) (by first | assumption | omega) (by first | assumption | omega) (by first | assumption | omega) (by first | assumption | omega) (by first | assumption | omega)) (cwV 1 hts gX7_widestGap_X7_gapDenominator rfl rfl rfl (by decide +kernel) ⟨Nat.le_of_ble_eq_true rfl, Nat.le_of_ble_eq_true rfl⟩) (k := 0) (Nat.le_of_ble_eq_true rfl) rfl rfl rfl rfl hl.1 rfl (Nat.le_of_ble_eq_true rfl) dX7_widestGap_34 ⟨Nat.le_refl _, Nat.le_refl _⟩ (fun z34 u34 H locs hq34 X => ?_)
        rw [hq34.1] at X
        have hq34 := hq34.2
        try dsimp only at hq34
        refine g_topl (z' := gapD P g) hq34 ?_
        refine g_lmul G dX7_widestGap_37 ?_
        refine lv_lstore (lv' := [(5, .long (lI (((gapN P wd) * (gapD P g))))), (3, .long (lI (((gapN P g) * (gapD P wd))))), (0, .ref (Y.2.1 (0))), (1, .int (iI (wd))), (2, .int (iI (g)))]) hx hb dX7_widestGap_38 hl (by decide) rfl (fun ls hl => ?_)
        refine lv_lload_n hx hb dX7_widestGap_40 rfl (lv_at hl 1 rfl) ?_
        refine lv_lload hx hb dX7_widestGap_41 (lv_at hl 0 rfl) ?_
        have m1 := mul_rg (a := gapN P g) (b := gapD P wd) (A := 6569164800) (B := 33177600) (by omega) (by omega)
        have m2 := mul_rg (a := gapN P wd) (b := gapD P g) (A := 6569164800) (B := 33177600) (by omega) (by omega)
        refine g_lif_le (tgt := 49) G dX7_widestGap_43 dX7_widestGap_44 (by decide) (by omega) (by omega) (fun h43 => ?_) (fun h43 => ?_)
        ·
          refine lv_iinc (v := iI (g + 1)) (lv' := [(2, .int (iI ((g + 1)))), (5, .long (lI (((gapN P wd) * (gapD P g))))), (3, .long (lI (((gapN P g) * (gapD P wd))))), (0, .ref (Y.2.1 (0))), (1, .int (iI (wd)))]) hx hb dX7_widestGap_49 hl (k := 4) rfl (iI_add _ _) (by decide) rfl (fun ls hl => ?_)
          refine lv_goto (tgt := 4) hx hb dX7_widestGap_52 (by decide) ?_
          exact ih_4 (wd) ((g + 1)) (by omega) (by omega) (by first | exact wd_keep hW (by omega) | exact wd_take hW (by omega) (fun j a b => (gap_rg hPf hH1 hH2 (g := j) (by omega)).1) (by omega)) (by omega) _ _ _ X (lv_sub hl [3, 4, 0] rfl)
        ·
          refine lv_iload_n hx hb dX7_widestGap_47 rfl (lv_at hl 4 rfl) ?_
          refine lv_istore_n (lv' := [(1, .int (iI (g))), (5, .long (lI (((gapN P wd) * (gapD P g))))), (3, .long (lI (((gapN P g) * (gapD P wd))))), (0, .ref (Y.2.1 (0))), (2, .int (iI (g)))]) hx hb dX7_widestGap_48 rfl hl (by decide) rfl (fun ls hl => ?_)
          refine lv_iinc (v := iI (g + 1)) (lv' := [(2, .int (iI ((g + 1)))), (1, .int (iI (g))), (5, .long (lI (((gapN P wd) * (gapD P g))))), (3, .long (lI (((gapN P g) * (gapD P wd))))), (0, .ref (Y.2.1 (0)))]) hx hb dX7_widestGap_49 hl (k := 4) rfl (iI_add _ _) (by decide) rfl (fun ls hl => ?_)
          refine lv_goto (tgt := 4) hx hb dX7_widestGap_52 (by decide) ?_
          exact ih_4 (g) ((g + 1)) (by omega) (by omega) (by first | exact wd_keep hW (by omega) | exact wd_take hW (by omega) (fun j a b => (gap_rg hPf hH1 hH2 (g := j) (by omega)).1) (by omega)) (by omega) _ _ _ X (lv_sub hl [4, 1, 0] rfl)
  exact lp_4 ((((ng P - (1)) : Int).toNat + 1)) (0) (1) (by omega) (by omega) (fun j a b => by rw [show j = 0 by omega]; exact ⟨Int.le_refl _, fun h => by omega⟩) (by omega) _ _ _ X (lv_sub hl [2, 1, 0] rfl)

set_option maxHeartbeats 4000000 in
set_option maxRecDepth 100000 in
theorem t_X7_gap (l : Launch) (Y : Yt) (σ : Mem) (P : List Pt) (hs : List (List Pt)) (tx : List Int) (ch : List Int) (w : Int) (hI : XInv σ P hs tx ch) (h_w : -2147483648 ≤ w ∧ w ≤ 2147483647) : MXl l LX Y yX7_gap wsX7_gap { frames := 6, cells := 0, slots := 0, locals := 134 } [.ref (Y.2.1 (0)), .int (iI (w))] σ (fun z u => z = gapA P w ∧ XInv u P hs tx ch) := by
  obtain ⟨⟨hR, hok⟩, hTab, ⟨hH, hHok⟩, ⟨hTx, htok⟩, ⟨hC, hC3⟩, hs45, hs47⟩ := id hI
  have hPf := prof_of hok hR.2.1
  have hT : Tb σ (ng P) (gX P) (gC P) (gW P) (gM P) (gQ P) := hTab
  have hq0 := gQ_rg hok hR.2.1
  have hr1 : isRow Y 1 := isRow_of Y (by omega)
  have h12 := hR.2.1
  obtain ⟨⟨hn0, hn12, -⟩, -⟩ := id hPf
  have hh6 := hH.2.1
  have hk45 := isHull_of Y (k := 45) (Or.inl rfl)
  have hk47 := isHull_of Y (k := 47) (Or.inr rfl)
  have h90 := htok.1
  refine g_startl (cc := cX7_gap) (nL := 3) (own := RX7) (by decide) rfl rfl (Nat.le_of_ble_eq_true rfl) ?_
  intro pp ee ss mm bw mt cd AA ZZ ls G hret X hl
  have hl : lv_has ls 3 [(0, .ref (Y.2.1 (0))), (1, .int (iI (w)))] := hl
  have hx := G.1
  have hb := G.2.1
  have hts := G.2.2.2.2.1
  have l_f33 := hts (.fieldLink RX7 33 "ShapeFits" "table" "LShapeFits$GroupTable;") (List.mem_of_getElem? (i := 2) rfl)
  have l_f51 := hts (.fieldLink RX7 51 "ShapeFits" "minorant" "LShapeFits$Hull;") (List.mem_of_getElem? (i := 4) rfl)
  have l_f55 := hts (.fieldLink RX7 55 "ShapeFits" "majorant" "LShapeFits$Hull;") (List.mem_of_getElem? (i := 5) rfl)
  have l_k146 := hts (.constantLong RX7 146 (-1000001)) (List.mem_of_getElem? (i := 1) rfl)
  have l_k178 := hts (.constantLong RX7 178 (-1000002)) (List.mem_of_getElem? (i := 3) rfl)
  have in_X7 : ∀ w ∈ u_ws RX7 TX7 8, w ∈ wsX7_gap := by decide +kernel
  refine lv_iload_n hx hb dX7_gap_0 rfl (lv_at hl 1 rfl) ?_
  refine lv_iconst (v := iI 0) hx hb dX7_gap_1 rfl ?_
  refine lv_iconst (v := iI 2) hx hb dX7_gap_2 rfl ?_
  refine g_callSi G X (rest := []) (As := [.int (iI (w)), .int (iI (0)), .int (iI (2))]) (t_X7_outside l Y (σ) (w) (0) (2) (by first | assumption | omega) (by first | assumption | omega) (by first | assumption | omega)) (va_cwS 3 hts gX7_gap_X7_outside rfl rfl rfl (by decide +kernel) ⟨Nat.le_of_ble_eq_true rfl, Nat.le_of_ble_eq_true rfl⟩) rfl hl.1 rfl (Nat.le_of_ble_eq_true rfl) dX7_gap_3 ⟨Nat.le_refl _, Nat.le_refl _⟩ (fun z3 u3 H locs hq3 X => ?_)
  rw [hq3.1] at X
  have hq3 := hq3.2
  try dsimp only at hq3
  refine g_if_eq (tgt := 13) G dX7_gap_6 (by decide) (by omega) (fun h6 => ?_) (fun h6 => ?_)
  ·
    refine lv_aload_n hx hb dX7_gap_13 rfl (lv_at hl 0 rfl) ?_
    refine g_get G X (k := 0) (fs := fX Y) (Nat.le_of_ble_eq_true rfl) (fun _ => rfl) rfl in_X7 3 (by decide) l_f33 rfl (v := .ref (Y.2.1 (38))) rfl dX7_gap_14 ?_
    refine g_callVi G X (rest := []) (As := []) (t_X1_size l Y (σ) (ng P) (gX P) (gC P) (gW P) (gM P) (gQ P) (by first | assumption | omega) (by first | assumption | omega)) (cwV 0 hts gX7_gap_X1_size rfl rfl rfl (by decide +kernel) ⟨Nat.le_of_ble_eq_true rfl, Nat.le_of_ble_eq_true rfl⟩) (k := 38) (Nat.le_of_ble_eq_true rfl) rfl rfl rfl rfl hl.1 rfl (Nat.le_of_ble_eq_true rfl) dX7_gap_17 ⟨Nat.le_refl _, Nat.le_refl _⟩ (fun z17 u17 H locs hq17 X => ?_)
    rw [hq17.1] at X
    have hq17 := hq17.2
    try dsimp only at hq17
    refine g_topi (z' := ng P) hq17 ?_
    refine g_if_ne (tgt := 27) G dX7_gap_20 (by decide) (by omega) (fun h20 => ?_) (fun h20 => ?_)
    ·
      refine lv_aload_n hx hb dX7_gap_27 rfl (lv_at hl 0 rfl) ?_
      refine g_get G X (k := 0) (fs := fX Y) (Nat.le_of_ble_eq_true rfl) (fun _ => rfl) rfl in_X7 5 (by decide) l_f51 rfl (v := .ref (Y.2.1 (45))) rfl dX7_gap_28 ?_
      refine g_callVv G X (rest := []) (As := []) (t_X3_draw l Y (σ) (ng P) (gX P) (gC P) (gW P) (gM P) (gQ P) (45) (1) (by first | assumption | omega) (by first | assumption | omega) (by first | assumption | omega) (Or.inl rfl) (by first | assumption | omega)) (cwV 0 hts gX7_gap_X3_draw rfl rfl rfl (by decide +kernel) ⟨Nat.le_of_ble_eq_true rfl, Nat.le_of_ble_eq_true rfl⟩) (k := 45) (Nat.le_of_ble_eq_true rfl) rfl rfl rfl rfl hl.1 rfl (Nat.le_of_ble_eq_true rfl) dX7_gap_31 ⟨Nat.le_refl _, Nat.le_refl _⟩ (fun u31 H locs hq31 X => ?_)
      obtain ⟨C, hHu, hHl, hSK⟩ := hq31
      have hHl2 : HullI (hulD P 1) (ng P) C := hHl
      have hCe : hulC P 1 = C := hulC_eq hHl2
      have hT2 : Tb u31 (ng P) (gX P) (gC P) (gW P) (gM P) (gQ P) := hT.sameK (by omega) hSK.1
      have hI2 := xinv_K hI (Or.inl rfl) hSK
      refine lv_aload_n hx hb dX7_gap_34 rfl (lv_at hl 0 rfl) ?_
      refine g_get G X (k := 0) (fs := fX Y) (Nat.le_of_ble_eq_true rfl) (fun _ => rfl) rfl in_X7 6 (by decide) l_f55 rfl (v := .ref (Y.2.1 (47))) rfl dX7_gap_35 ?_
      refine g_callVv G X (rest := []) (As := []) (t_X3_draw l Y (u31) (ng P) (gX P) (gC P) (gW P) (gM P) (gQ P) (47) ((-1)) (by first | assumption | omega) (by first | assumption | omega) (by first | assumption | omega) (Or.inr rfl) hI2.2.2.2.2.2.2) (cwV 0 hts gX7_gap_X3_draw rfl rfl rfl (by decide +kernel) ⟨Nat.le_of_ble_eq_true rfl, Nat.le_of_ble_eq_true rfl⟩) (k := 47) (Nat.le_of_ble_eq_true rfl) rfl rfl rfl rfl hl.1 rfl (Nat.le_of_ble_eq_true rfl) dX7_gap_38 ⟨Nat.le_refl _, Nat.le_refl _⟩ (fun u38 H locs hq38 X => ?_)
      obtain ⟨C2, hHu2, hHl3, hSK2⟩ := hq38
      have hHl4 : HullI (hulD P (-1)) (ng P) C2 := hHl3
      have hCe2 : hulC P (-1) = C2 := hulC_eq hHl4
      have hT3 : Tb u38 (ng P) (gX P) (gC P) (gW P) (gM P) (gQ P) := hT2.sameK (by omega) hSK2.1
      have hI3 := xinv_K hI2 (Or.inr rfl) hSK2
      have hG1 : HulIs u38 45 (hulC P 1) := by rw [hCe]; exact hHu.same hSK2 (Or.inl ⟨rfl, rfl⟩)
      have hG2 : HulIs u38 47 (hulC P (-1)) := by rw [hCe2]; exact hHu2
      have hG3 : HullI (hulD P 1) (ng P) (hulC P 1) := by rw [hCe]; exact hHl2
      have hG4 : HullI (hulD P (-1)) (ng P) (hulC P (-1)) := by rw [hCe2]; exact hHl4
      refine lv_aload_n hx hb dX7_gap_41 rfl (lv_at hl 0 rfl) ?_
      refine g_callVi G X (rest := []) (As := []) (t_X7_widestGap l Y (u38) P hT3 (by first | assumption | omega) hG1 hG2 hG3 hG4 (by first | assumption | omega)) (cwV 0 hts gX7_gap_X7_widestGap rfl rfl rfl (by decide +kernel) ⟨Nat.le_of_ble_eq_true rfl, Nat.le_of_ble_eq_true rfl⟩) (k := 0) (Nat.le_of_ble_eq_true rfl) rfl rfl rfl rfl hl.1 rfl (Nat.le_of_ble_eq_true rfl) dX7_gap_42 ⟨Nat.le_refl _, Nat.le_refl _⟩ (fun z42 u42 H locs hq42 X => ?_)
      rw [hq42.1] at X
      have hq42 := hq42.2
      try dsimp only at hq42
      have hwe := wdA_eq hq42
      have hwr := hq42.1
      have rg1 := gap_rg hPf hG3 hG4 (g := z42) (by omega)
      refine lv_istore_n (lv' := [(2, .int (iI (z42))), (0, .ref (Y.2.1 (0))), (1, .int (iI (w)))]) hx hb dX7_gap_45 rfl hl (by decide) rfl (fun ls hl => ?_)
      refine lv_iload_n hx hb dX7_gap_46 rfl (lv_at hl 2 rfl) ?_
      refine lv_iconst (v := iI 2) hx hb dX7_gap_47 rfl ?_
      refine g_icmp_ne (tgt := 54) G dX7_gap_48 (by decide) (by omega) (by omega) (fun h48 => ?_) (fun h48 => ?_)
      ·
        refine lv_aload_n hx hb dX7_gap_54 rfl (lv_at hl 1 rfl) ?_
        refine lv_iload_n hx hb dX7_gap_55 rfl (lv_at hl 0 rfl) ?_
        refine g_callVl G X (rest := []) (As := [.int (iI (z42))]) (t_X7_gapNumerator l Y (u38) P (z42) hT3 (by first | assumption | omega) hG1 hG2 hG3 hG4 (by first | assumption | omega)) (cwV 1 hts gX7_gap_X7_gapNumerator rfl rfl rfl (by decide +kernel) ⟨Nat.le_of_ble_eq_true rfl, Nat.le_of_ble_eq_true rfl⟩) (k := 0) (Nat.le_of_ble_eq_true rfl) rfl rfl rfl rfl hl.1 rfl (Nat.le_of_ble_eq_true rfl) dX7_gap_56 ⟨Nat.le_refl _, Nat.le_refl _⟩ (fun z56 u56 H locs hq56 X => ?_)
        rw [hq56.1] at X
        have hq56 := hq56.2
        try dsimp only at hq56
        refine g_topl (z' := gapN P z42) hq56 ?_
        refine lv_aload_n hx hb dX7_gap_59 rfl (lv_at hl 1 rfl) ?_
        refine lv_iload_n hx hb dX7_gap_60 rfl (lv_at hl 0 rfl) ?_
        refine g_callVl G X (rest := [.long (lI ((gapN P z42)))]) (As := [.int (iI (z42))]) (t_X7_gapDenominator l Y (u38) P (z42) hT3 (by first | assumption | omega) hG1 hG2 hG3 hG4 (by first | assumption | omega)) (cwV 1 hts gX7_gap_X7_gapDenominator rfl rfl rfl (by decide +kernel) ⟨Nat.le_of_ble_eq_true rfl, Nat.le_of_ble_eq_true rfl⟩) (k := 0) (Nat.le_of_ble_eq_true rfl) rfl rfl rfl rfl hl.1 rfl (Nat.le_of_ble_eq_true rfl) dX7_gap_61 ⟨Nat.le_refl _, Nat.le_refl _⟩ (fun z61 u61 H locs hq61 X => ?_)
        rw [hq61.1] at X
        have hq61 := hq61.2
        try dsimp only at hq61
        refine g_topl (z' := gapD P z42) hq61 ?_
        refine lv_iload_n hx hb dX7_gap_64 rfl (lv_at hl 2 rfl) ?_
        refine g_callSl G X (rest := []) (As := [.long (lI ((gapN P z42))), .long (lI ((gapD P z42))), .int (iI (w))]) (t_X7_lowest l Y (u38) ((gapN P z42)) ((gapD P z42)) (w) (by first | assumption | omega) (by first | assumption | omega) (by first | assumption | omega)) (va_cwS 3 hts gX7_gap_X7_lowest rfl rfl rfl (by decide +kernel) ⟨Nat.le_of_ble_eq_true rfl, Nat.le_of_ble_eq_true rfl⟩) rfl hl.1 rfl (Nat.le_of_ble_eq_true rfl) dX7_gap_65 ⟨Nat.le_refl _, Nat.le_refl _⟩ (fun z65 u65 H locs hq65 X => ?_)
        rw [hq65.1] at X
        have hq65 := hq65.2
        try dsimp only at hq65
        exact hret _ _ _ _ _ _ (⟨by unfold gapA; rw [if_neg (by omega), if_neg (by omega), if_neg (by omega), hwe]; exact hq65, hI3⟩) X dX7_gap_68
      ·
        refine lv_iload_n hx hb dX7_gap_51 rfl (lv_at hl 0 rfl) ?_
        refine g_i2l G (by omega) dX7_gap_52 ?_
        exact hret _ _ _ _ _ _ (⟨by unfold gapA; rw [if_neg (by omega), if_neg (by omega), if_pos (by omega), hwe], hI3⟩) X dX7_gap_53
    ·
      refine g_ldc2 G (z := (-1000002)) l_k178 (by decide +kernel) dX7_gap_23 ?_
      exact hret _ _ _ _ _ _ (⟨by unfold gapA; rw [if_neg (by omega), if_pos (by omega)], hI⟩) X dX7_gap_26
  ·
    refine g_ldc2 G (z := (-1000001)) l_k146 (by decide +kernel) dX7_gap_9 ?_
    exact hret _ _ _ _ _ _ (⟨by unfold gapA; rw [if_pos (by omega)], hI⟩) X dX7_gap_12

