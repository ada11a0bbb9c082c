set_option maxHeartbeats 4000000 in
set_option maxRecDepth 100000 in
theorem t_L_gap (l : Launch) (Y : Yt) (σ : Mem) (P : List Pt) (hs : List (List Pt)) (tx : List Int) (ch : List Int) (hI : XInv σ P hs tx ch) (hn : 0 < ng P) : MXi l LX Y yL_gap wsL_gap { frames := 7, cells := 0, slots := 0, locals := 170 } [.ref (Y.2.1 (0))] σ (fun z u => z = 1 ∧ XInv u P hs tx ch) := by
  have hok := hI.1.2
  have hl12 := hI.1.1.2.1
  have hn12 : 0 ≤ ng P ∧ ng P ≤ 12 := ⟨(prof_of hok hl12).1.1, (prof_of hok hl12).1.2.1⟩
  have hga := ga_rg hok hl12 hn
  have hg0 : -6569164800 ≤ gapA P 0 ∧ gapA P 0 ≤ 6569164800 ∧ 0 < gapA P 1 ∧ gapA P 1 ≤ 33177600 := hga.1
  have hg2 := hga.2
  refine g_starti (rty := .boolean) (fun z u h => nrZ (by have := h.1; omega)) (cc := cL_gap) (nL := 10) (own := RL) (by decide) rfl rfl (Nat.le_of_ble_eq_true rfl) ?_
  intro pp ee ss mm bw mt cd AA ZZ ls G hret X hl
  have hl : lv_has ls 10 [(0, .ref (Y.2.1 (0)))] := hl
  have hx := G.1
  have hb := G.2.1
  have hts := G.2.2.2.2.1
  refine lv_aload_n hx hb dL_gap_0 rfl (lv_at hl 0 rfl) ?_
  refine lv_iconst (v := iI 2) hx hb dL_gap_1 rfl ?_
  refine g_callVl G X (rest := []) (As := [.int (iI (2))]) (t_X7_gap l Y (σ) P hs tx ch (2) (by first | assumption | omega) (by first | assumption | omega)) (cwV 1 hts gL_gap_X7_gap rfl rfl rfl (by decide +kernel) ⟨Nat.le_of_ble_eq_true rfl, Nat.le_of_ble_eq_true rfl⟩) (k := 0) (Nat.le_of_ble_eq_true rfl) rfl rfl rfl rfl hl.1 rfl (Nat.le_of_ble_eq_true rfl) dL_gap_2 ⟨Nat.le_refl _, Nat.le_refl _⟩ (fun z2 u2 H locs hq2 X => ?_)
  refine g_topl (z' := gapA P 2) hq2.1 ?_
  have hI2 := hq2.2
  refine g_l2i G dL_gap_5 ?_
  refine lv_istore_n (lv' := [(1, .int (iI ((gapA P 2)))), (0, .ref (Y.2.1 (0)))]) hx hb dL_gap_6 rfl hl (by decide) rfl (fun ls hl => ?_)
  refine lv_iload_n hx hb dL_gap_7 rfl (lv_at hl 0 rfl) ?_
  refine g_if_lt (tgt := 23) G dL_gap_8 (by decide) (by omega) (fun h8 => ?_) (fun h8 => ?_)
  ·
    exact absurd h8 (by omega)
  ·
    refine lv_iload_n hx hb dL_gap_11 rfl (lv_at hl 0 rfl) ?_
    refine lv_aload_n hx hb dL_gap_12 rfl (lv_at hl 1 rfl) ?_
    refine g_callVi G X (rest := [.int (iI ((gapA P 2)))]) (As := []) (t_X7_groups l Y (u2) P hs tx ch (by first | assumption | omega)) (cwV 0 hts gL_gap_X7_groups rfl rfl rfl (by decide +kernel) ⟨Nat.le_of_ble_eq_true rfl, Nat.le_of_ble_eq_true rfl⟩) (k := 0) (Nat.le_of_ble_eq_true rfl) rfl rfl rfl rfl hl.1 rfl (Nat.le_of_ble_eq_true rfl) dL_gap_13 ⟨Nat.le_refl _, Nat.le_refl _⟩ (fun z13 u13 H locs hq13 X => ?_)
    rw [hq13.1] at X
    have hq13 := hq13.2
    try dsimp only at hq13
    refine g_topi (z' := ng P) hq13 ?_
    refine g_icmp_ge (tgt := 23) G dL_gap_16 (by decide) (by omega) (by omega) (fun h16 => ?_) (fun h16 => ?_)
    ·
      exact absurd h16 (by omega)
    ·
      refine lv_iconst (v := iI 1) hx hb dL_gap_19 rfl ?_
      refine lv_goto (tgt := 24) hx hb dL_gap_20 (by decide) ?_
      refine lv_istore_n (lv' := [(2, .int (iI (1))), (1, .int (iI ((gapA P 2)))), (0, .ref (Y.2.1 (0)))]) hx hb dL_gap_24 rfl hl (by decide) rfl (fun ls hl => ?_)
      refine lv_iconst (v := iI 0) hx hb dL_gap_25 rfl ?_
      refine lv_istore_n (lv' := [(3, .int (iI (0))), (2, .int (iI (1))), (1, .int (iI ((gapA P 2)))), (0, .ref (Y.2.1 (0)))]) hx hb dL_gap_26 rfl hl (by decide) rfl (fun ls hl => ?_)
      have lp_27 : ∀ (nn : Nat) (g : Int) (τ : Mem), ∀ hg : 0 ≤ g ∧ g ≤ ng P, ∀ hJ : XInv τ P hs tx ch, ∀ hdec : (ng P - g) < (nn : Int), ∀ (H : Heap) (locs : List Loc) (ls : Array Slot), wx LX Y τ ss AA H locs → lv_has ls 10 [(0, .ref (Y.2.1 (0))), (1, .int (iI (gapA P 2))), (2, .int (iI (1))), (3, .int (iI (g)))] → W pp l ee { frames := 7, cells := 0, slots := 0, locals := 170 } ss mm ([.ref (Y.2.1 (0))] : List Value).toArray bw mt cd H locs 0 0 ZZ (F0 mm 27 ls []) := by
        intro nn
        induction nn with
        | zero =>
          intro g τ hg hJ hdec
          exact absurd hdec (by omega)
        | succ nn ih_27 =>
          intro g τ hg hJ hdec H locs ls X hl
          refine lv_iload_n hx hb dL_gap_27 rfl (lv_at hl 3 rfl) ?_
          refine lv_aload_n hx hb dL_gap_28 rfl (lv_at hl 0 rfl) ?_
          refine g_callVi G X (rest := [.int (iI (g))]) (As := []) (t_X7_groups l Y (τ) P hs tx ch (by first | assumption | omega)) (cwV 0 hts gL_gap_X7_groups rfl rfl rfl (by decide +kernel) ⟨Nat.le_of_ble_eq_true rfl, Nat.le_of_ble_eq_true rfl⟩) (k := 0) (Nat.le_of_ble_eq_true rfl) rfl rfl rfl rfl hl.1 rfl (Nat.le_of_ble_eq_true rfl) dL_gap_29 ⟨Nat.le_refl _, Nat.le_refl _⟩ (fun z29 u29 H locs hq29 X => ?_)
          rw [hq29.1] at X
          have hq29 := hq29.2
          try dsimp only at hq29
          refine g_topi (z' := ng P) hq29 ?_
          refine g_icmp_ge (tgt := 164) G dL_gap_32 (by decide) (by omega) (by omega) (fun h32 => ?_) (fun h32 => ?_)
          ·
            refine lv_iload_n hx hb dL_gap_164 rfl (lv_at hl 2 rfl) ?_
            exact hret _ _ _ _ _ _ (⟨rfl, by assumption⟩) X dL_gap_165
          ·
            refine lv_iload_n hx hb dL_gap_35 rfl (lv_at hl 2 rfl) ?_
            refine g_if_eq (tgt := 164) G dL_gap_36 (by decide) (by omega) (fun h36 => ?_) (fun h36 => ?_)
            ·
              exact False.elim (by omega)
            ·
              refine lv_aload_n hx hb dL_gap_39 rfl (lv_at hl 0 rfl) ?_
              refine lv_iconst (v := iI 5) hx hb dL_gap_40 rfl ?_
              refine lv_iload_n hx hb dL_gap_41 rfl (lv_at hl 3 rfl) ?_
              refine lv_iconst (v := iI 0) hx hb dL_gap_42 rfl ?_
              refine g_callVl G X (rest := []) (As := [.int (iI (5)), .int (iI (g)), .int (iI (0))]) (t_X7_fit l Y (τ) P hs tx ch (5) (g) (0) (by first | assumption | omega) (by first | assumption | omega) (by first | assumption | omega) (by first | assumption | omega)) (cwV 3 hts gL_gap_X7_fit rfl rfl rfl (by decide +kernel) ⟨Nat.le_of_ble_eq_true rfl, Nat.le_of_ble_eq_true rfl⟩) (k := 0) (Nat.le_of_ble_eq_true rfl) rfl rfl rfl rfl hl.1 rfl (Nat.le_of_ble_eq_true rfl) dL_gap_43 ⟨Nat.le_refl _, Nat.le_refl _⟩ (fun z43 u43 H locs hq43 X => ?_)
              refine g_topl (z' := fitA P 5 g 0) hq43.1 ?_
              have hI43 := hq43.2
              have hgl := gap_law hok hl12 (g := g) (by omega)
              have hgp : -6569164800 ≤ gpN P g ∧ gpN P g ≤ 6569164800 ∧ 0 < gpD P g ∧ gpD P g ≤ 33177600 := gp_rg hok hl12 (g := g) (by omega)
              refine lv_aload_n hx hb dL_gap_46 rfl (lv_at hl 0 rfl) ?_
              refine lv_iconst (v := iI 4) hx hb dL_gap_47 rfl ?_
              refine lv_iload_n hx hb dL_gap_48 rfl (lv_at hl 3 rfl) ?_
              refine lv_iconst (v := iI 1) hx hb dL_gap_49 rfl ?_
              refine g_callVl G X (rest := [.long (lI ((fitA P 5 g 0)))]) (As := [.int (iI (4)), .int (iI (g)), .int (iI (1))]) (t_X7_fit l Y (u43) P hs tx ch (4) (g) (1) (by first | assumption | omega) (by first | assumption | omega) (by first | assumption | omega) (by first | assumption | omega)) (cwV 3 hts gL_gap_X7_fit rfl rfl rfl (by decide +kernel) ⟨Nat.le_of_ble_eq_true rfl, Nat.le_of_ble_eq_true rfl⟩) (k := 0) (Nat.le_of_ble_eq_true rfl) rfl rfl rfl rfl hl.1 rfl (Nat.le_of_ble_eq_true rfl) dL_gap_50 ⟨Nat.le_refl _, Nat.le_refl _⟩ (fun z50 u50 H locs hq50 X => ?_)
              refine g_topl (z' := fitA P 4 g 1) hq50.1 ?_
              have hI50 := hq50.2
              refine g_lmul G dL_gap_53 ?_
              refine lv_aload_n hx hb dL_gap_54 rfl (lv_at hl 0 rfl) ?_
              refine lv_iconst (v := iI 4) hx hb dL_gap_55 rfl ?_
              refine lv_iload_n hx hb dL_gap_56 rfl (lv_at hl 3 rfl) ?_
              refine lv_iconst (v := iI 0) hx hb dL_gap_57 rfl ?_
              refine g_callVl G X (rest := [.long (lI (((fitA P 5 g 0) * (fitA P 4 g 1))))]) (As := [.int (iI (4)), .int (iI (g)), .int (iI (0))]) (t_X7_fit l Y (u50) P hs tx ch (4) (g) (0) (by first | assumption | omega) (by first | assumption | omega) (by first | assumption | omega) (by first | assumption | omega)) (cwV 3 hts gL_gap_X7_fit rfl rfl rfl (by decide +kernel) ⟨Nat.le_of_ble_eq_true rfl, Nat.le_of_ble_eq_true rfl⟩) (k := 0) (Nat.le_of_ble_eq_true rfl) rfl rfl rfl rfl hl.1 rfl (Nat.le_of_ble_eq_true rfl) dL_gap_58 ⟨Nat.le_refl _, Nat.le_refl _⟩ (fun z58 u58 H locs hq58 X => ?_)
              refine g_topl (z' := fitA P 4 g 0) hq58.1 ?_
              have hI58 := hq58.2
              refine lv_aload_n hx hb dL_gap_61 rfl (lv_at hl 0 rfl) ?_
              refine lv_iconst (v := iI 5) hx hb dL_gap_62 rfl ?_
              refine lv_iload_n hx hb dL_gap_63 rfl (lv_at hl 3 rfl) ?_
              refine lv_iconst (v := iI 1) hx hb dL_gap_64 rfl ?_
              refine g_callVl G X (rest := [.long (lI ((fitA P 4 g 0))), .long (lI (((fitA P 5 g 0) * (fitA P 4 g 1))))]) (As := [.int (iI (5)), .int (iI (g)), .int (iI (1))]) (t_X7_fit l Y (u58) P hs tx ch (5) (g) (1) (by first | assumption | omega) (by first | assumption | omega) (by first | assumption | omega) (by first | assumption | omega)) (cwV 3 hts gL_gap_X7_fit rfl rfl rfl (by decide +kernel) ⟨Nat.le_of_ble_eq_true rfl, Nat.le_of_ble_eq_true rfl⟩) (k := 0) (Nat.le_of_ble_eq_true rfl) rfl rfl rfl rfl hl.1 rfl (Nat.le_of_ble_eq_true rfl) dL_gap_65 ⟨Nat.le_refl _, Nat.le_refl _⟩ (fun z65 u65 H locs hq65 X => ?_)
              refine g_topl (z' := fitA P 5 g 1) hq65.1 ?_
              have hI65 := hq65.2
              refine g_lmul G dL_gap_68 ?_
              refine g_lsub G dL_gap_69 ?_
              refine g_topl (z' := gpN P g) rfl ?_
              refine lv_lstore (lv' := [(4, .long (lI ((gpN P g)))), (0, .ref (Y.2.1 (0))), (1, .int (iI (gapA P 2))), (2, .int (iI (1))), (3, .int (iI (g)))]) hx hb dL_gap_70 hl (by decide) rfl (fun ls hl => ?_)
              refine lv_aload_n hx hb dL_gap_72 rfl (lv_at hl 1 rfl) ?_
              refine lv_iconst (v := iI 5) hx hb dL_gap_73 rfl ?_
              refine lv_iload_n hx hb dL_gap_74 rfl (lv_at hl 4 rfl) ?_
              refine lv_iconst (v := iI 1) hx hb dL_gap_75 rfl ?_
              refine g_callVl G X (rest := []) (As := [.int (iI (5)), .int (iI (g)), .int (iI (1))]) (t_X7_fit l Y (u65) P hs tx ch (5) (g) (1) (by first | assumption | omega) (by first | assumption | omega) (by first | assumption | omega) (by first | assumption | omega)) (cwV 3 hts gL_gap_X7_fit rfl rfl rfl (by decide +kernel) ⟨Nat.le_of_ble_eq_true rfl, Nat.le_of_ble_eq_true rfl⟩) (k := 0) (Nat.le_of_ble_eq_true rfl) rfl rfl rfl rfl hl.1 rfl (Nat.le_of_ble_eq_true rfl) dL_gap_76 ⟨Nat.le_refl _, Nat.le_refl _⟩ (fun z76 u76 H locs hq76 X => ?_)
              refine g_topl (z' := fitA P 5 g 1) hq76.1 ?_
              have hI76 := hq76.2
              refine lv_aload_n hx hb dL_gap_79 rfl (lv_at hl 1 rfl) ?_
              refine lv_iconst (v := iI 4) hx hb dL_gap_80 rfl ?_
              refine lv_iload_n hx hb dL_gap_81 rfl (lv_at hl 4 rfl) ?_
              refine lv_iconst (v := iI 1) hx hb dL_gap_82 rfl ?_
              refine g_callVl G X (rest := [.long (lI ((fitA P 5 g 1)))]) (As := [.int (iI (4)), .int (iI (g)), .int (iI (1))]) (t_X7_fit l Y (u76) P hs tx ch (4) (g) (1) (by first | assumption | omega) (by first | assumption | omega) (by first | assumption | omega) (by first | assumption | omega)) (cwV 3 hts gL_gap_X7_fit rfl rfl rfl (by decide +kernel) ⟨Nat.le_of_ble_eq_true rfl, Nat.le_of_ble_eq_true rfl⟩) (k := 0) (Nat.le_of_ble_eq_true rfl) rfl rfl rfl rfl hl.1 rfl (Nat.le_of_ble_eq_true rfl) dL_gap_83 ⟨Nat.le_refl _, Nat.le_refl _⟩ (fun z83 u83 H locs hq83 X => ?_)
              refine g_topl (z' := fitA P 4 g 1) hq83.1 ?_
              have hI83 := hq83.2
              refine g_lmul G dL_gap_86 ?_
              refine g_topl (z' := gpD P g) rfl ?_
              refine lv_lstore (lv' := [(6, .long (lI ((gpD P g)))), (4, .long (lI ((gpN P g)))), (0, .ref (Y.2.1 (0))), (1, .int (iI (gapA P 2))), (2, .int (iI (1))), (3, .int (iI (g)))]) hx hb dL_gap_87 hl (by decide) rfl (fun ls hl => ?_)
              refine lv_lload hx hb dL_gap_89 (lv_at hl 1 rfl) ?_
              refine lv_lload hx hb dL_gap_91 (lv_at hl 0 rfl) ?_
              refine lv_aload_n hx hb dL_gap_93 rfl (lv_at hl 2 rfl) ?_
              refine lv_iconst (v := iI 0) hx hb dL_gap_94 rfl ?_
              refine g_callVl G X (rest := [.long (lI ((gpD P g))), .long (lI ((gpN P g)))]) (As := [.int (iI (0))]) (t_X7_gap l Y (u83) P hs tx ch (0) (by first | assumption | omega) (by first | assumption | omega)) (cwV 1 hts gL_gap_X7_gap rfl rfl rfl (by decide +kernel) ⟨Nat.le_of_ble_eq_true rfl, Nat.le_of_ble_eq_true rfl⟩) (k := 0) (Nat.le_of_ble_eq_true rfl) rfl rfl rfl rfl hl.1 rfl (Nat.le_of_ble_eq_true rfl) dL_gap_95 ⟨Nat.le_refl _, Nat.le_refl _⟩ (fun z95 u95 H locs hq95 X => ?_)
              refine g_topl (z' := gapA P 0) hq95.1 ?_
              have hI95 := hq95.2
              refine lv_aload_n hx hb dL_gap_98 rfl (lv_at hl 2 rfl) ?_
              refine lv_iconst (v := iI 1) hx hb dL_gap_99 rfl ?_
              refine g_callVl G X (rest := [.long (lI ((gapA P 0))), .long (lI ((gpD P g))), .long (lI ((gpN P g)))]) (As := [.int (iI (1))]) (t_X7_gap l Y (u95) P hs tx ch (1) (by first | assumption | omega) (by first | assumption | omega)) (cwV 1 hts gL_gap_X7_gap rfl rfl rfl (by decide +kernel) ⟨Nat.le_of_ble_eq_true rfl, Nat.le_of_ble_eq_true rfl⟩) (k := 0) (Nat.le_of_ble_eq_true rfl) rfl rfl rfl rfl hl.1 rfl (Nat.le_of_ble_eq_true rfl) dL_gap_100 ⟨Nat.le_refl _, Nat.le_refl _⟩ (fun z100 u100 H locs hq100 X => ?_)
              refine g_topl (z' := gapA P 1) hq100.1 ?_
              have hI100 := hq100.2
              refine g_callSi G X (rest := []) (As := [.long (lI ((gpN P g))), .long (lI ((gpD P g))), .long (lI ((gapA P 0))), .long (lI ((gapA P 1)))]) (t_L_isLess l Y (u100) ((gpN P g)) ((gpD P g)) ((gapA P 0)) ((gapA P 1)) (by first | assumption | omega) (by first | assumption | omega) (by first | assumption | omega) (by first | assumption | omega)) (va_cwS 4 hts gL_gap_L_isLess rfl rfl rfl (by decide +kernel) ⟨Nat.le_of_ble_eq_true rfl, Nat.le_of_ble_eq_true rfl⟩) rfl hl.1 rfl (Nat.le_of_ble_eq_true rfl) dL_gap_103 ⟨Nat.le_refl _, Nat.le_refl _⟩ (fun z103 u103 H locs hq103 X => ?_)
              rw [hq103.1] at X
              have hq103 := hq103.2
              try dsimp only at hq103
              refine lv_istore (lv' := [(8, .int (iI (z103))), (6, .long (lI ((gpD P g)))), (4, .long (lI ((gpN P g)))), (0, .ref (Y.2.1 (0))), (1, .int (iI (gapA P 2))), (2, .int (iI (1))), (3, .int (iI (g)))]) hx hb dL_gap_106 hl (by decide) rfl (fun ls hl => ?_)
              refine lv_aload_n hx hb dL_gap_108 rfl (lv_at hl 3 rfl) ?_
              refine lv_iconst (v := iI 0) hx hb dL_gap_109 rfl ?_
              refine g_callVl G X (rest := []) (As := [.int (iI (0))]) (t_X7_gap l Y (u100) P hs tx ch (0) (by first | assumption | omega) (by first | assumption | omega)) (cwV 1 hts gL_gap_X7_gap rfl rfl rfl (by decide +kernel) ⟨Nat.le_of_ble_eq_true rfl, Nat.le_of_ble_eq_true rfl⟩) (k := 0) (Nat.le_of_ble_eq_true rfl) rfl rfl rfl rfl hl.1 rfl (Nat.le_of_ble_eq_true rfl) dL_gap_110 ⟨Nat.le_refl _, Nat.le_refl _⟩ (fun z110 u110 H locs hq110 X => ?_)
              refine g_topl (z' := gapA P 0) hq110.1 ?_
              have hI110 := hq110.2
              refine lv_aload_n hx hb dL_gap_113 rfl (lv_at hl 3 rfl) ?_
              refine lv_iconst (v := iI 1) hx hb dL_gap_114 rfl ?_
              refine g_callVl G X (rest := [.long (lI ((gapA P 0)))]) (As := [.int (iI (1))]) (t_X7_gap l Y (u110) P hs tx ch (1) (by first | assumption | omega) (by first | assumption | omega)) (cwV 1 hts gL_gap_X7_gap rfl rfl rfl (by decide +kernel) ⟨Nat.le_of_ble_eq_true rfl, Nat.le_of_ble_eq_true rfl⟩) (k := 0) (Nat.le_of_ble_eq_true rfl) rfl rfl rfl rfl hl.1 rfl (Nat.le_of_ble_eq_true rfl) dL_gap_115 ⟨Nat.le_refl _, Nat.le_refl _⟩ (fun z115 u115 H locs hq115 X => ?_)
              refine g_topl (z' := gapA P 1) hq115.1 ?_
              have hI115 := hq115.2
              refine lv_lload hx hb dL_gap_118 (lv_at hl 2 rfl) ?_
              refine lv_lload hx hb dL_gap_120 (lv_at hl 1 rfl) ?_
              refine g_callSi G X (rest := []) (As := [.long (lI ((gapA P 0))), .long (lI ((gapA P 1))), .long (lI ((gpN P g))), .long (lI ((gpD P g)))]) (t_L_isLess l Y (u115) ((gapA P 0)) ((gapA P 1)) ((gpN P g)) ((gpD P g)) (by first | assumption | omega) (by first | assumption | omega) (by first | assumption | omega) (by first | assumption | omega)) (va_cwS 4 hts gL_gap_L_isLess rfl rfl rfl (by decide +kernel) ⟨Nat.le_of_ble_eq_true rfl, Nat.le_of_ble_eq_true rfl⟩) rfl hl.1 rfl (Nat.le_of_ble_eq_true rfl) dL_gap_122 ⟨Nat.le_refl _, Nat.le_refl _⟩ (fun z122 u122 H locs hq122 X => ?_)
              rw [hq122.1] at X
              have hq122 := hq122.2
              try dsimp only at hq122
              refine lv_istore (lv' := [(9, .int (iI (z122))), (8, .int (iI (z103))), (6, .long (lI ((gpD P g)))), (4, .long (lI ((gpN P g)))), (0, .ref (Y.2.1 (0))), (1, .int (iI (gapA P 2))), (2, .int (iI (1))), (3, .int (iI (g)))]) hx hb dL_gap_125 hl (by decide) rfl (fun ls hl => ?_)
              refine lv_iload hx hb dL_gap_127 (lv_at hl 0 rfl) ?_
              refine g_if_ne (tgt := 156) G dL_gap_129 (by decide) (by omega) (fun h129 => ?_) (fun h129 => ?_)
              ·
                exact absurd h129 (by omega)
              ·
                refine lv_iload_n hx hb dL_gap_132 rfl (lv_at hl 7 rfl) ?_
                refine lv_iload_n hx hb dL_gap_133 rfl (lv_at hl 5 rfl) ?_
                refine g_icmp_ne (tgt := 142) G dL_gap_134 (by decide) (by omega) (by omega) (fun h134 => ?_) (fun h134 => ?_)
                ·
                  refine lv_iload_n hx hb dL_gap_142 rfl (lv_at hl 7 rfl) ?_
                  refine lv_iload_n hx hb dL_gap_143 rfl (lv_at hl 5 rfl) ?_
                  refine g_icmp_ge (tgt := 152) G dL_gap_144 (by decide) (by omega) (by omega) (fun h144 => ?_) (fun h144 => ?_)
                  ·
                    refine lv_iconst (v := iI 1) hx hb dL_gap_152 rfl ?_
                    refine lv_goto (tgt := 157) hx hb dL_gap_153 (by decide) ?_
                    refine lv_istore_n (lv' := [(2, .int (iI (1))), (9, .int (iI (z122))), (8, .int (iI (z103))), (6, .long (lI ((gpD P g)))), (4, .long (lI ((gpN P g)))), (0, .ref (Y.2.1 (0))), (1, .int (iI (gapA P 2))), (3, .int (iI (g)))]) hx hb dL_gap_157 rfl hl (by decide) rfl (fun ls hl => ?_)
                    refine lv_iinc (v := iI (g + 1)) (lv' := [(3, .int (iI ((g + 1)))), (2, .int (iI (1))), (9, .int (iI (z122))), (8, .int (iI (z103))), (6, .long (lI ((gpD P g)))), (4, .long (lI ((gpN P g)))), (0, .ref (Y.2.1 (0))), (1, .int (iI (gapA P 2)))]) hx hb dL_gap_158 hl (k := 7) rfl (iI_add _ _) (by decide) rfl (fun ls hl => ?_)
                    refine lv_goto (tgt := 27) hx hb dL_gap_161 (by decide) ?_
                    exact ih_27 ((g + 1)) (u115) (by omega) (by assumption) (by omega) _ _ _ X (lv_sub hl [6, 7, 1, 0] rfl)
                  ·
                    refine lv_iload hx hb dL_gap_147 (lv_at hl 1 rfl) ?_
                    refine g_if_eq (tgt := 156) G dL_gap_149 (by decide) (by omega) (fun h149 => ?_) (fun h149 => ?_)
                    ·
                      exact absurd h149 (by have := hgl.2.2 (by omega); omega)
                    ·
                      refine lv_iconst (v := iI 1) hx hb dL_gap_152 rfl ?_
                      refine lv_goto (tgt := 157) hx hb dL_gap_153 (by decide) ?_
                      refine lv_istore_n (lv' := [(2, .int (iI (1))), (9, .int (iI (z122))), (8, .int (iI (z103))), (6, .long (lI ((gpD P g)))), (4, .long (lI ((gpN P g)))), (0, .ref (Y.2.1 (0))), (1, .int (iI (gapA P 2))), (3, .int (iI (g)))]) hx hb dL_gap_157 rfl hl (by decide) rfl (fun ls hl => ?_)
                      refine lv_iinc (v := iI (g + 1)) (lv' := [(3, .int (iI ((g + 1)))), (2, .int (iI (1))), (9, .int (iI (z122))), (8, .int (iI (z103))), (6, .long (lI ((gpD P g)))), (4, .long (lI ((gpN P g)))), (0, .ref (Y.2.1 (0))), (1, .int (iI (gapA P 2)))]) hx hb dL_gap_158 hl (k := 7) rfl (iI_add _ _) (by decide) rfl (fun ls hl => ?_)
                      refine lv_goto (tgt := 27) hx hb dL_gap_161 (by decide) ?_
                      exact ih_27 ((g + 1)) (u115) (by omega) (by assumption) (by omega) _ _ _ X (lv_sub hl [6, 7, 1, 0] rfl)
                ·
                  refine lv_iload hx hb dL_gap_137 (lv_at hl 1 rfl) ?_
                  refine g_if_ne (tgt := 156) G dL_gap_139 (by decide) (by omega) (fun h139 => ?_) (fun h139 => ?_)
                  ·
                    exact absurd h139 (by have := hgl.2.1 (by omega); omega)
                  ·
                    refine lv_iload_n hx hb dL_gap_142 rfl (lv_at hl 7 rfl) ?_
                    refine lv_iload_n hx hb dL_gap_143 rfl (lv_at hl 5 rfl) ?_
                    refine g_icmp_ge (tgt := 152) G dL_gap_144 (by decide) (by omega) (by omega) (fun h144 => ?_) (fun h144 => ?_)
                    ·
                      refine lv_iconst (v := iI 1) hx hb dL_gap_152 rfl ?_
                      refine lv_goto (tgt := 157) hx hb dL_gap_153 (by decide) ?_
                      refine lv_istore_n (lv' := [(2, .int (iI (1))), (9, .int (iI (z122))), (8, .int (iI (z103))), (6, .long (lI ((gpD P g)))), (4, .long (lI ((gpN P g)))), (0, .ref (Y.2.1 (0))), (1, .int (iI (gapA P 2))), (3, .int (iI (g)))]) hx hb dL_gap_157 rfl hl (by decide) rfl (fun ls hl => ?_)
                      refine lv_iinc (v := iI (g + 1)) (lv' := [(3, .int (iI ((g + 1)))), (2, .int (iI (1))), (9, .int (iI (z122))), (8, .int (iI (z103))), (6, .long (lI ((gpD P g)))), (4, .long (lI ((gpN P g)))), (0, .ref (Y.2.1 (0))), (1, .int (iI (gapA P 2)))]) hx hb dL_gap_158 hl (k := 7) rfl (iI_add _ _) (by decide) rfl (fun ls hl => ?_)
                      refine lv_goto (tgt := 27) hx hb dL_gap_161 (by decide) ?_
                      exact ih_27 ((g + 1)) (u115) (by omega) (by assumption) (by omega) _ _ _ X (lv_sub hl [6, 7, 1, 0] rfl)
                    ·
                      refine lv_iload hx hb dL_gap_147 (lv_at hl 1 rfl) ?_
                      refine g_if_eq (tgt := 156) G dL_gap_149 (by decide) (by omega) (fun h149 => ?_) (fun h149 => ?_)
                      ·
                        exact absurd h149 (by have := hgl.2.2 (by omega); omega)
                      ·
                        refine lv_iconst (v := iI 1) hx hb dL_gap_152 rfl ?_
                        refine lv_goto (tgt := 157) hx hb dL_gap_153 (by decide) ?_
                        refine lv_istore_n (lv' := [(2, .int (iI (1))), (9, .int (iI (z122))), (8, .int (iI (z103))), (6, .long (lI ((gpD P g)))), (4, .long (lI ((gpN P g)))), (0, .ref (Y.2.1 (0))), (1, .int (iI (gapA P 2))), (3, .int (iI (g)))]) hx hb dL_gap_157 rfl hl (by decide) rfl (fun ls hl => ?_)
                        refine lv_iinc (v := iI (g + 1)) (lv' := [(3, .int (iI ((g + 1)))), (2, .int (iI (1))), (9, .int (iI (z122))), (8, .int (iI (z103))), (6, .long (lI ((gpD P g)))), (4, .long (lI ((gpN P g)))), (0, .ref (Y.2.1 (0))), (1, .int (iI (gapA P 2)))]) hx hb dL_gap_158 hl (k := 7) rfl (iI_add _ _) (by decide) rfl (fun ls hl => ?_)
                        refine lv_goto (tgt := 27) hx hb dL_gap_161 (by decide) ?_
                        exact ih_27 ((g + 1)) (u115) (by omega) (by assumption) (by omega) _ _ _ X (lv_sub hl [6, 7, 1, 0] rfl)
      exact lp_27 ((((ng P - (0)) : Int).toNat + 1)) (0) (u2) (by omega) (by assumption) (by omega) _ _ _ X (lv_sub hl [3, 2, 1, 0] rfl)

