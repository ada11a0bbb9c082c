set_option maxHeartbeats 4000000 in
set_option maxRecDepth 100000 in
theorem t_L_floor (l : Launch) (Y : Yt) (σ : Mem) (a : Int) (b : Int) (ka : -1152921504606846976 ≤ a ∧ a ≤ 1152921504606846976) (kb : 0 < b ∧ b ≤ 1152921504606846976) : MXl l LX Y yL_floor wsL_floor { frames := 0, cells := 0, slots := 0, locals := 0 } [.long (lI (a)), .long (lI (b))] σ (fun z u => u = σ ∧ (z * b ≤ a ∧ a < z * b + b ∧ -1152921504606846977 ≤ z ∧ z ≤ 1152921504606846976)) := by
  have htm := fl_tm (a := a) kb.1
  refine g_startl (cc := cL_floor) (nL := 6) (own := RL) (by decide) rfl rfl (Nat.le_of_ble_eq_true rfl) ?_
  intro pp ee ss mm bw mt cd AA ZZ ls G hret X hl
  have hl : lv_has ls 6 [(0, .long (lI (a))), (2, .long (lI (b)))] := hl
  have hx := G.1
  have hb := G.2.1
  have hts := G.2.2.2.2.1
  refine lv_lload_n hx hb dL_floor_0 rfl (lv_at hl 0 rfl) ?_
  refine lv_lload_n hx hb dL_floor_1 rfl (lv_at hl 1 rfl) ?_
  refine g_ldiv G (by omega) (by omega) dL_floor_2 ?_
  refine lv_lstore (lv' := [(4, .long (lI ((a.tdiv b)))), (0, .long (lI (a))), (2, .long (lI (b)))]) hx hb dL_floor_3 hl (by decide) rfl (fun ls hl => ?_)
  refine lv_lload_n hx hb dL_floor_5 rfl (lv_at hl 1 rfl) ?_
  refine lv_lload_n hx hb dL_floor_6 rfl (lv_at hl 2 rfl) ?_
  refine g_lrem G (by omega) (by omega) dL_floor_7 ?_
  refine lv_lconst (v := lI 0) hx hb dL_floor_8 (by decide +kernel) ?_
  refine g_lif_ge (tgt := 20) G dL_floor_9 dL_floor_10 (by decide) (by omega) (by omega) (fun h9 => ?_) (fun h9 => ?_)
  ·
    have hfl := fl_hi kb.1 ka.1 ka.2 h9
    refine lv_lload hx hb dL_floor_20 (lv_at hl 0 rfl) ?_
    exact hret _ _ _ _ _ _ (⟨rfl, hfl⟩) X dL_floor_22
  ·
    have hfl := fl_lo kb.1 ka.1 ka.2 (by omega)
    refine lv_lload hx hb dL_floor_13 (lv_at hl 0 rfl) ?_
    refine lv_lconst (v := lI 1) hx hb dL_floor_15 (by decide +kernel) ?_
    refine g_lsub G dL_floor_16 ?_
    refine lv_goto (tgt := 22) hx hb dL_floor_17 (by decide) ?_
    exact hret _ _ _ _ _ _ (⟨rfl, hfl⟩) X dL_floor_22

set_option maxHeartbeats 4000000 in
set_option maxRecDepth 100000 in
theorem t_L_isLess (l : Launch) (Y : Yt) (σ : Mem) (a : Int) (b : Int) (c : Int) (d : Int) (ka : -1152921504606846976 ≤ a ∧ a ≤ 1152921504606846976) (kb : 0 < b ∧ b ≤ 1073741824) (kc : -1152921504606846976 ≤ c ∧ c ≤ 1152921504606846976) (kd : 0 < d ∧ d ≤ 1073741824) : MXi l LX Y yL_isLess wsL_isLess { frames := 1, cells := 0, slots := 0, locals := 25 } [.long (lI (a)), .long (lI (b)), .long (lI (c)), .long (lI (d))] σ (fun z u => u = σ ∧ ((z = 1 ∧ a * d < c * b) ∨ (z = 0 ∧ ¬ a * d < c * b))) := by
  refine g_starti (rty := .boolean) (fun z u h => nrZ (by have := h.2; omega)) (cc := cL_isLess) (nL := 16) (own := RL) (by decide) rfl rfl (Nat.le_of_ble_eq_true rfl) ?_
  intro pp ee ss mm bw mt cd AA ZZ ls G hret X hl
  have hl : lv_has ls 16 [(0, .long (lI (a))), (2, .long (lI (b))), (4, .long (lI (c))), (6, .long (lI (d)))] := hl
  have hx := G.1
  have hb := G.2.1
  have hts := G.2.2.2.2.1
  refine lv_lload_n hx hb dL_isLess_0 rfl (lv_at hl 0 rfl) ?_
  refine lv_lload_n hx hb dL_isLess_1 rfl (lv_at hl 1 rfl) ?_
  refine g_callSl G X (rest := []) (As := [.long (lI (a)), .long (lI (b))]) (t_L_floor l Y (σ) (a) (b) (by first | assumption | omega) (by first | assumption | omega)) (va_cwS 2 hts gL_isLess_L_floor rfl rfl rfl (by decide +kernel) ⟨Nat.le_of_ble_eq_true rfl, Nat.le_of_ble_eq_true rfl⟩) rfl hl.1 rfl (Nat.le_of_ble_eq_true rfl) dL_isLess_2 ⟨Nat.le_refl _, Nat.le_refl _⟩ (fun z2 u2 H locs hq2 X => ?_)
  rw [hq2.1] at X
  have hq2 := hq2.2
  try dsimp only at hq2
  refine lv_lstore (lv' := [(8, .long (lI (z2))), (0, .long (lI (a))), (2, .long (lI (b))), (4, .long (lI (c))), (6, .long (lI (d)))]) hx hb dL_isLess_5 hl (by decide) rfl (fun ls hl => ?_)
  refine lv_lload hx hb dL_isLess_7 (lv_at hl 3 rfl) ?_
  refine lv_lload hx hb dL_isLess_9 (lv_at hl 4 rfl) ?_
  refine g_callSl G X (rest := []) (As := [.long (lI (c)), .long (lI (d))]) (t_L_floor l Y (σ) (c) (d) (by first | assumption | omega) (by first | assumption | omega)) (va_cwS 2 hts gL_isLess_L_floor rfl rfl rfl (by decide +kernel) ⟨Nat.le_of_ble_eq_true rfl, Nat.le_of_ble_eq_true rfl⟩) rfl hl.1 rfl (Nat.le_of_ble_eq_true rfl) dL_isLess_11 ⟨Nat.le_refl _, Nat.le_refl _⟩ (fun z11 u11 H locs hq11 X => ?_)
  rw [hq11.1] at X
  have hq11 := hq11.2
  try dsimp only at hq11
  refine lv_lstore (lv' := [(10, .long (lI (z11))), (8, .long (lI (z2))), (0, .long (lI (a))), (2, .long (lI (b))), (4, .long (lI (c))), (6, .long (lI (d)))]) hx hb dL_isLess_14 hl (by decide) rfl (fun ls hl => ?_)
  refine lv_lload hx hb dL_isLess_16 (lv_at hl 1 rfl) ?_
  refine lv_lload hx hb dL_isLess_18 (lv_at hl 0 rfl) ?_
  refine g_lif_eq (tgt := 38) G dL_isLess_20 dL_isLess_21 (by decide) (by omega) (by omega) (fun h20 => ?_) (fun h20 => ?_)
  ·
    refine lv_lload_n hx hb dL_isLess_38 rfl (lv_at hl 2 rfl) ?_
    refine lv_lload hx hb dL_isLess_39 (lv_at hl 1 rfl) ?_
    refine lv_lload_n hx hb dL_isLess_41 rfl (lv_at hl 3 rfl) ?_
    refine g_lmul G dL_isLess_42 ?_
    refine g_lsub G dL_isLess_43 ?_
    refine lv_lstore (lv' := [(12, .long (lI ((a - (z2 * b))))), (10, .long (lI (z11))), (8, .long (lI (z2))), (0, .long (lI (a))), (2, .long (lI (b))), (4, .long (lI (c))), (6, .long (lI (d)))]) hx hb dL_isLess_44 hl (by decide) rfl (fun ls hl => ?_)
    refine lv_lload hx hb dL_isLess_46 (lv_at hl 5 rfl) ?_
    refine lv_lload hx hb dL_isLess_48 (lv_at hl 1 rfl) ?_
    refine lv_lload hx hb dL_isLess_50 (lv_at hl 6 rfl) ?_
    refine g_lmul G dL_isLess_52 ?_
    refine g_lsub G dL_isLess_53 ?_
    refine lv_lstore (lv' := [(14, .long (lI ((c - (z11 * d))))), (12, .long (lI ((a - (z2 * b))))), (10, .long (lI (z11))), (8, .long (lI (z2))), (0, .long (lI (a))), (2, .long (lI (b))), (4, .long (lI (c))), (6, .long (lI (d)))]) hx hb dL_isLess_54 hl (by decide) rfl (fun ls hl => ?_)
    have hr1 := il_rg kd kb hq2.1 hq2.2.1
    have hr2 := il_rg kb kd hq11.1 hq11.2.1
    have he := il_eq (a := a) (b := b) (c := c) (d := d) (show z2 = z11 by omega)
    refine lv_lload hx hb dL_isLess_56 (lv_at hl 1 rfl) ?_
    refine lv_lload hx hb dL_isLess_58 (lv_at hl 7 rfl) ?_
    refine g_lmul G dL_isLess_60 ?_
    refine lv_lload hx hb dL_isLess_61 (lv_at hl 0 rfl) ?_
    refine lv_lload_n hx hb dL_isLess_63 rfl (lv_at hl 5 rfl) ?_
    refine g_lmul G dL_isLess_64 ?_
    refine g_lif_ge (tgt := 73) G dL_isLess_65 dL_isLess_66 (by decide) (by omega) (by omega) (fun h65 => ?_) (fun h65 => ?_)
    ·
      have hfin : ∀ z : Int, z = 0 → (z = 1 ∧ a * d < c * b) ∨ (z = 0 ∧ ¬ a * d < c * b) := fun z q => Or.inr ⟨q, fun k => by have := he.mpr k; omega⟩
      refine lv_iconst (v := iI 0) hx hb dL_isLess_73 rfl ?_
      exact hret _ _ _ _ _ _ (⟨rfl, hfin _ rfl⟩) X dL_isLess_74
    ·
      have hfin : ∀ z : Int, z = 1 → (z = 1 ∧ a * d < c * b) ∨ (z = 0 ∧ ¬ a * d < c * b) := fun z q => Or.inl ⟨q, he.mp (by omega)⟩
      refine lv_iconst (v := iI 1) hx hb dL_isLess_69 rfl ?_
      refine lv_goto (tgt := 74) hx hb dL_isLess_70 (by decide) ?_
      exact hret _ _ _ _ _ _ (⟨rfl, hfin _ rfl⟩) X dL_isLess_74
  ·
    refine lv_lload hx hb dL_isLess_24 (lv_at hl 1 rfl) ?_
    refine lv_lload hx hb dL_isLess_26 (lv_at hl 0 rfl) ?_
    refine g_lif_ge (tgt := 36) G dL_isLess_28 dL_isLess_29 (by decide) (by omega) (by omega) (fun h28 => ?_) (fun h28 => ?_)
    ·
      have hfin : ∀ z : Int, z = 0 → (z = 1 ∧ a * d < c * b) ∨ (z = 0 ∧ ¬ a * d < c * b) := fun z q => Or.inr ⟨q, il_gt kb.1 kd.1 hq2.1 hq11.2.1 (by omega)⟩
      refine lv_iconst (v := iI 0) hx hb dL_isLess_36 rfl ?_
      exact hret _ _ _ _ _ _ (⟨rfl, hfin _ rfl⟩) X dL_isLess_37
    ·
      have hfin : ∀ z : Int, z = 1 → (z = 1 ∧ a * d < c * b) ∨ (z = 0 ∧ ¬ a * d < c * b) := fun z q => Or.inl ⟨q, il_lt kb.1 kd.1 hq2.2.1 hq11.1 (by omega)⟩
      refine lv_iconst (v := iI 1) hx hb dL_isLess_32 rfl ?_
      refine lv_goto (tgt := 37) hx hb dL_isLess_33 (by decide) ?_
      exact hret _ _ _ _ _ _ (⟨rfl, hfin _ rfl⟩) X dL_isLess_37

set_option maxHeartbeats 4000000 in
set_option maxRecDepth 100000 in
theorem t_L_step (l : Launch) (Y : Yt) (σ : Mem) (P : List Pt) (hs : List (List Pt)) (tx : List Int) (ch : List Int) (kind : Int) (g : Int) (hI : XInv σ P hs tx ch) (hk : 0 ≤ kind ∧ kind ≤ 5) (hg : 0 ≤ g ∧ g + 1 < ng P) : MXl l LX Y yL_step wsL_step { frames := 7, cells := 0, slots := 0, locals := 170 } [.ref (Y.2.1 (0)), .int (iI (kind)), .int (iI (g))] σ (fun z u => z = stepA P kind g ∧ XInv u P hs tx ch) := by
  have hok := hI.1.2
  have hl12 := hI.1.1.2.1
  have hn12 : 0 ≤ ng P ∧ ng P ≤ 12 := ⟨(prof_of hok hl12).1.1, (prof_of hok hl12).1.2.1⟩
  refine g_startl (cc := cL_step) (nL := 3) (own := RL) (by decide) rfl rfl (Nat.le_of_ble_eq_true rfl) ?_
  intro pp ee ss mm bw mt cd AA ZZ ls G hret X hl
  have hl : lv_has ls 3 [(0, .ref (Y.2.1 (0))), (1, .int (iI (kind))), (2, .int (iI (g)))] := hl
  have hx := G.1
  have hb := G.2.1
  have hts := G.2.2.2.2.1
  refine lv_aload_n hx hb dL_step_0 rfl (lv_at hl 0 rfl) ?_
  refine lv_iload_n hx hb dL_step_1 rfl (lv_at hl 1 rfl) ?_
  refine lv_iload_n hx hb dL_step_2 rfl (lv_at hl 2 rfl) ?_
  refine lv_iconst (v := iI 1) hx hb dL_step_3 rfl ?_
  refine g_iadd G dL_step_4 ?_
  refine lv_iconst (v := iI 0) hx hb dL_step_5 rfl ?_
  refine g_callVl G X (rest := []) (As := [.int (iI (kind)), .int (iI ((g + 1))), .int (iI (0))]) (t_X7_fit l Y (σ) P hs tx ch (kind) ((g + 1)) (0) (by first | assumption | omega) (by first | assumption | omega) (by first | assumption | omega) (by first | assumption | omega)) (cwV 3 hts gL_step_X7_fit rfl rfl rfl (by decide +kernel) ⟨Nat.le_of_ble_eq_true rfl, Nat.le_of_ble_eq_true rfl⟩) (k := 0) (Nat.le_of_ble_eq_true rfl) rfl rfl rfl rfl hl.1 rfl (Nat.le_of_ble_eq_true rfl) dL_step_6 ⟨Nat.le_refl _, Nat.le_refl _⟩ (fun z6 u6 H locs hq6 X => ?_)
  refine g_topl (z' := fitA P kind (g + 1) 0) hq6.1 ?_
  have hI6 := hq6.2
  refine lv_aload_n hx hb dL_step_9 rfl (lv_at hl 0 rfl) ?_
  refine lv_iload_n hx hb dL_step_10 rfl (lv_at hl 1 rfl) ?_
  refine lv_iload_n hx hb dL_step_11 rfl (lv_at hl 2 rfl) ?_
  refine lv_iconst (v := iI 1) hx hb dL_step_12 rfl ?_
  refine g_callVl G X (rest := [.long (lI ((fitA P kind (g + 1) 0)))]) (As := [.int (iI (kind)), .int (iI (g)), .int (iI (1))]) (t_X7_fit l Y (u6) P hs tx ch (kind) (g) (1) (by first | assumption | omega) (by first | assumption | omega) (by first | assumption | omega) (by first | assumption | omega)) (cwV 3 hts gL_step_X7_fit rfl rfl rfl (by decide +kernel) ⟨Nat.le_of_ble_eq_true rfl, Nat.le_of_ble_eq_true rfl⟩) (k := 0) (Nat.le_of_ble_eq_true rfl) rfl rfl rfl rfl hl.1 rfl (Nat.le_of_ble_eq_true rfl) dL_step_13 ⟨Nat.le_refl _, Nat.le_refl _⟩ (fun z13 u13 H locs hq13 X => ?_)
  refine g_topl (z' := fitA P kind g 1) hq13.1 ?_
  have hI13 := hq13.2
  refine g_lmul G dL_step_16 ?_
  refine lv_aload_n hx hb dL_step_17 rfl (lv_at hl 0 rfl) ?_
  refine lv_iload_n hx hb dL_step_18 rfl (lv_at hl 1 rfl) ?_
  refine lv_iload_n hx hb dL_step_19 rfl (lv_at hl 2 rfl) ?_
  refine lv_iconst (v := iI 0) hx hb dL_step_20 rfl ?_
  refine g_callVl G X (rest := [.long (lI (((fitA P kind (g + 1) 0) * (fitA P kind g 1))))]) (As := [.int (iI (kind)), .int (iI (g)), .int (iI (0))]) (t_X7_fit l Y (u13) P hs tx ch (kind) (g) (0) (by first | assumption | omega) (by first | assumption | omega) (by first | assumption | omega) (by first | assumption | omega)) (cwV 3 hts gL_step_X7_fit rfl rfl rfl (by decide +kernel) ⟨Nat.le_of_ble_eq_true rfl, Nat.le_of_ble_eq_true rfl⟩) (k := 0) (Nat.le_of_ble_eq_true rfl) rfl rfl rfl rfl hl.1 rfl (Nat.le_of_ble_eq_true rfl) dL_step_21 ⟨Nat.le_refl _, Nat.le_refl _⟩ (fun z21 u21 H locs hq21 X => ?_)
  refine g_topl (z' := fitA P kind g 0) hq21.1 ?_
  have hI21 := hq21.2
  refine lv_aload_n hx hb dL_step_24 rfl (lv_at hl 0 rfl) ?_
  refine lv_iload_n hx hb dL_step_25 rfl (lv_at hl 1 rfl) ?_
  refine lv_iload_n hx hb dL_step_26 rfl (lv_at hl 2 rfl) ?_
  refine lv_iconst (v := iI 1) hx hb dL_step_27 rfl ?_
  refine g_iadd G dL_step_28 ?_
  refine lv_iconst (v := iI 1) hx hb dL_step_29 rfl ?_
  refine g_callVl G X (rest := [.long (lI ((fitA P kind g 0))), .long (lI (((fitA P kind (g + 1) 0) * (fitA P kind g 1))))]) (As := [.int (iI (kind)), .int (iI ((g + 1))), .int (iI (1))]) (t_X7_fit l Y (u21) P hs tx ch (kind) ((g + 1)) (1) (by first | assumption | omega) (by first | assumption | omega) (by first | assumption | omega) (by first | assumption | omega)) (cwV 3 hts gL_step_X7_fit rfl rfl rfl (by decide +kernel) ⟨Nat.le_of_ble_eq_true rfl, Nat.le_of_ble_eq_true rfl⟩) (k := 0) (Nat.le_of_ble_eq_true rfl) rfl rfl rfl rfl hl.1 rfl (Nat.le_of_ble_eq_true rfl) dL_step_30 ⟨Nat.le_refl _, Nat.le_refl _⟩ (fun z30 u30 H locs hq30 X => ?_)
  refine g_topl (z' := fitA P kind (g + 1) 1) hq30.1 ?_
  have hI30 := hq30.2
  refine g_lmul G dL_step_33 ?_
  refine g_lsub G dL_step_34 ?_
  exact hret _ _ _ _ _ _ (⟨rfl, hI30⟩) X dL_step_35

set_option maxHeartbeats 4000000 in
set_option maxRecDepth 100000 in
theorem t_L_against (l : Launch) (Y : Yt) (σ : Mem) (P : List Pt) (hs : List (List Pt)) (tx : List Int) (ch : List Int) (kind : Int) (g : Int) (hI : XInv σ P hs tx ch) (hk : 0 ≤ kind ∧ kind ≤ 5) (hg : 0 ≤ g ∧ g < ng P) : MXl l LX Y yL_against wsL_against { frames := 7, cells := 0, slots := 0, locals := 170 } [.ref (Y.2.1 (0)), .int (iI (kind)), .int (iI (g))] σ (fun z u => z = byA P kind g ∧ XInv u P hs tx ch) := by
  have hok := hI.1.2
  have hl12 := hI.1.1.2.1
  have hn12 : 0 ≤ ng P ∧ ng P ≤ 12 := ⟨(prof_of hok hl12).1.1, (prof_of hok hl12).1.2.1⟩
  have hgr := gin_rg hok hl12 hg
  refine g_startl (cc := cL_against) (nL := 3) (own := RL) (by decide) rfl rfl (Nat.le_of_ble_eq_true rfl) ?_
  intro pp ee ss mm bw mt cd AA ZZ ls G hret X hl
  have hl : lv_has ls 3 [(0, .ref (Y.2.1 (0))), (1, .int (iI (kind))), (2, .int (iI (g)))] := hl
  have hx := G.1
  have hb := G.2.1
  have hts := G.2.2.2.2.1
  refine lv_aload_n hx hb dL_against_0 rfl (lv_at hl 0 rfl) ?_
  refine lv_iload_n hx hb dL_against_1 rfl (lv_at hl 1 rfl) ?_
  refine lv_iload_n hx hb dL_against_2 rfl (lv_at hl 2 rfl) ?_
  refine lv_iconst (v := iI 0) hx hb dL_against_3 rfl ?_
  refine g_callVl G X (rest := []) (As := [.int (iI (kind)), .int (iI (g)), .int (iI (0))]) (t_X7_fit l Y (σ) P hs tx ch (kind) (g) (0) (by first | assumption | omega) (by first | assumption | omega) (by first | assumption | omega) (by first | assumption | omega)) (cwV 3 hts gL_against_X7_fit rfl rfl rfl (by decide +kernel) ⟨Nat.le_of_ble_eq_true rfl, Nat.le_of_ble_eq_true rfl⟩) (k := 0) (Nat.le_of_ble_eq_true rfl) rfl rfl rfl rfl hl.1 rfl (Nat.le_of_ble_eq_true rfl) dL_against_4 ⟨Nat.le_refl _, Nat.le_refl _⟩ (fun z4 u4 H locs hq4 X => ?_)
  refine g_topl (z' := fitA P kind g 0) hq4.1 ?_
  have hI4 := hq4.2
  refine lv_aload_n hx hb dL_against_7 rfl (lv_at hl 0 rfl) ?_
  refine lv_iload_n hx hb dL_against_8 rfl (lv_at hl 2 rfl) ?_
  refine lv_iconst (v := iI 1) hx hb dL_against_9 rfl ?_
  refine g_callVi G X (rest := [.long (lI ((fitA P kind g 0)))]) (As := [.int (iI (g)), .int (iI (1))]) (t_X7_groupInfo l Y (u4) P hs tx ch (g) (1) (by first | assumption | omega) (by first | assumption | omega) (by first | assumption | omega)) (cwV 2 hts gL_against_X7_groupInfo rfl rfl rfl (by decide +kernel) ⟨Nat.le_of_ble_eq_true rfl, Nat.le_of_ble_eq_true rfl⟩) (k := 0) (Nat.le_of_ble_eq_true rfl) rfl rfl rfl rfl hl.1 rfl (Nat.le_of_ble_eq_true rfl) dL_against_10 ⟨Nat.le_refl _, Nat.le_refl _⟩ (fun z10 u10 H locs hq10 X => ?_)
  rw [hq10.1] at X
  have hq10 := hq10.2
  try dsimp only at hq10
  refine g_topi (z' := ginA P g 1) hq10 ?_
  refine g_i2l G (by omega) dL_against_13 ?_
  refine g_lmul G dL_against_14 ?_
  refine lv_aload_n hx hb dL_against_15 rfl (lv_at hl 0 rfl) ?_
  refine lv_iload_n hx hb dL_against_16 rfl (lv_at hl 2 rfl) ?_
  refine lv_iconst (v := iI 2) hx hb dL_against_17 rfl ?_
  refine g_callVi G X (rest := [.long (lI (((fitA P kind g 0) * (ginA P g 1))))]) (As := [.int (iI (g)), .int (iI (2))]) (t_X7_groupInfo l Y (u4) P hs tx ch (g) (2) (by first | assumption | omega) (by first | assumption | omega) (by first | assumption | omega)) (cwV 2 hts gL_against_X7_groupInfo rfl rfl rfl (by decide +kernel) ⟨Nat.le_of_ble_eq_true rfl, Nat.le_of_ble_eq_true rfl⟩) (k := 0) (Nat.le_of_ble_eq_true rfl) rfl rfl rfl rfl hl.1 rfl (Nat.le_of_ble_eq_true rfl) dL_against_18 ⟨Nat.le_refl _, Nat.le_refl _⟩ (fun z18 u18 H locs hq18 X => ?_)
  rw [hq18.1] at X
  have hq18 := hq18.2
  try dsimp only at hq18
  refine g_topi (z' := ginA P g 2) hq18 ?_
  refine g_i2l G (by omega) dL_against_21 ?_
  refine lv_aload_n hx hb dL_against_22 rfl (lv_at hl 0 rfl) ?_
  refine lv_iload_n hx hb dL_against_23 rfl (lv_at hl 1 rfl) ?_
  refine lv_iload_n hx hb dL_against_24 rfl (lv_at hl 2 rfl) ?_
  refine lv_iconst (v := iI 1) hx hb dL_against_25 rfl ?_
  refine g_callVl G X (rest := [.long (lI ((ginA P g 2))), .long (lI (((fitA P kind g 0) * (ginA P g 1))))]) (As := [.int (iI (kind)), .int (iI (g)), .int (iI (1))]) (t_X7_fit l Y (u4) P hs tx ch (kind) (g) (1) (by first | assumption | omega) (by first | assumption | omega) (by first | assumption | omega) (by first | assumption | omega)) (cwV 3 hts gL_against_X7_fit rfl rfl rfl (by decide +kernel) ⟨Nat.le_of_ble_eq_true rfl, Nat.le_of_ble_eq_true rfl⟩) (k := 0) (Nat.le_of_ble_eq_true rfl) rfl rfl rfl rfl hl.1 rfl (Nat.le_of_ble_eq_true rfl) dL_against_26 ⟨Nat.le_refl _, Nat.le_refl _⟩ (fun z26 u26 H locs hq26 X => ?_)
  refine g_topl (z' := fitA P kind g 1) hq26.1 ?_
  have hI26 := hq26.2
  refine g_lmul G dL_against_29 ?_
  refine g_lsub G dL_against_30 ?_
  exact hret _ _ _ _ _ _ (⟨rfl, hI26⟩) X dL_against_31

