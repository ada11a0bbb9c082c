set_option maxHeartbeats 4000000 in
set_option maxRecDepth 100000 in
theorem t_L_turned (l : Launch) (Y : Yt) (σ : Mem) (P : List Pt) (hs : List (List Pt)) (tx : List Int) (ch : List Int) (kind : Int) (hI : XInv σ P hs tx ch) (hk : kind = 2 ∨ kind = 3) (hn : 0 < ng P) : MXi l LX Y yL_turned wsL_turned { frames := 8, cells := 0, slots := 0, locals := 192 } [.ref (Y.2.1 (0)), .int (iI (kind))] σ (fun z u => z = 1 ∧ XInv u P hs tx ch) := by
  have hok := hI.1.2
  have hl12 := hI.1.1.2.1
  have hn12 : 0 ≤ ng P ∧ ng P ≤ 12 := ⟨(prof_of hok hl12).1.1, (prof_of hok hl12).1.2.1⟩
  have htr := turnA_rg (P := P) (kind := kind) hn (by omega)
  have ht0 := te_turn (P := P) (kind := kind) (w := 0) hn (by omega) (by omega)
  have ht1 := te_turn (P := P) (kind := kind) (w := 1) hn (by omega) (by omega)
  have hek : (0 ≤ errA P kind 0 ∧ errA P kind 0 ≤ 1300000000000000) ∧ 0 < errA P kind 1 ∧ errA P kind 1 ≤ 16777216 := errA_ok hok hl12 hn (by omega)
  have he0 : (0 ≤ errA P 0 0 ∧ errA P 0 0 ≤ 1300000000000000) ∧ 0 < errA P 0 1 ∧ errA P 0 1 ≤ 16777216 := errA_ok hok hl12 hn (by omega)
  have he1 : (0 ≤ errA P 1 0 ∧ errA P 1 0 ≤ 1300000000000000) ∧ 0 < errA P 1 1 ∧ errA P 1 1 ≤ 16777216 := errA_ok hok hl12 hn (by omega)
  have hl0 := err_least hok hl12 (k0 := 0) (kind := kind) hn (by omega) hk
  have hl1 := err_least hok hl12 (k0 := 1) (kind := kind) hn (by omega) hk
  refine g_starti (rty := .boolean) (fun z u h => nrZ (by have := h.1; omega)) (cc := cL_turned) (nL := 10) (own := RL) (by decide) rfl rfl (Nat.le_of_ble_eq_true rfl) ?_
  intro pp ee ss mm bw mt cd AA ZZ ls G hret X hl
  have hl : lv_has ls 10 [(0, .ref (Y.2.1 (0))), (1, .int (iI (kind)))] := hl
  have hx := G.1
  have hb := G.2.1
  have hts := G.2.2.2.2.1
  refine lv_aload_n hx hb dL_turned_0 rfl (lv_at hl 0 rfl) ?_
  refine lv_iload_n hx hb dL_turned_1 rfl (lv_at hl 1 rfl) ?_
  refine g_callVi G X (rest := []) (As := [.int (iI (kind))]) (t_X7_turn l Y (σ) P hs tx ch (kind) (by first | assumption | omega) (by first | assumption | omega)) (cwV 1 hts gL_turned_X7_turn rfl rfl rfl (by decide +kernel) ⟨Nat.le_of_ble_eq_true rfl, Nat.le_of_ble_eq_true rfl⟩) (k := 0) (Nat.le_of_ble_eq_true rfl) rfl rfl rfl rfl hl.1 rfl (Nat.le_of_ble_eq_true rfl) dL_turned_2 ⟨Nat.le_refl _, Nat.le_refl _⟩ (fun z2 u2 H locs hq2 X => ?_)
  refine g_topi (z' := turnA P kind) hq2.1 ?_
  have hI2 := hq2.2
  refine lv_istore_n (lv' := [(2, .int (iI ((turnA P kind)))), (0, .ref (Y.2.1 (0))), (1, .int (iI (kind)))]) hx hb dL_turned_5 rfl hl (by decide) rfl (fun ls hl => ?_)
  refine lv_aload_n hx hb dL_turned_6 rfl (lv_at hl 1 rfl) ?_
  refine g_callVi G X (rest := []) (As := []) (t_X7_groups l Y (u2) P hs tx ch (by first | assumption | omega)) (cwV 0 hts gL_turned_X7_groups rfl rfl rfl (by decide +kernel) ⟨Nat.le_of_ble_eq_true rfl, Nat.le_of_ble_eq_true rfl⟩) (k := 0) (Nat.le_of_ble_eq_true rfl) rfl rfl rfl rfl hl.1 rfl (Nat.le_of_ble_eq_true rfl) dL_turned_7 ⟨Nat.le_refl _, Nat.le_refl _⟩ (fun z7 u7 H locs hq7 X => ?_)
  rw [hq7.1] at X
  have hq7 := hq7.2
  try dsimp only at hq7
  refine g_topi (z' := ng P) hq7 ?_
  refine lv_istore_n (lv' := [(3, .int (iI ((ng P)))), (2, .int (iI ((turnA P kind)))), (0, .ref (Y.2.1 (0))), (1, .int (iI (kind)))]) hx hb dL_turned_10 rfl hl (by decide) rfl (fun ls hl => ?_)
  refine lv_iload_n hx hb dL_turned_11 rfl (lv_at hl 1 rfl) ?_
  refine g_if_lt (tgt := 24) G dL_turned_12 (by decide) (by omega) (fun h12 => ?_) (fun h12 => ?_)
  ·
    exact absurd h12 (by omega)
  ·
    refine lv_iload_n hx hb dL_turned_15 rfl (lv_at hl 1 rfl) ?_
    refine lv_iload_n hx hb dL_turned_16 rfl (lv_at hl 0 rfl) ?_
    refine g_icmp_ge (tgt := 24) G dL_turned_17 (by decide) (by omega) (by omega) (fun h17 => ?_) (fun h17 => ?_)
    ·
      exact absurd h17 (by omega)
    ·
      refine lv_iconst (v := iI 1) hx hb dL_turned_20 rfl ?_
      refine lv_goto (tgt := 25) hx hb dL_turned_21 (by decide) ?_
      refine lv_istore (lv' := [(4, .int (iI (1))), (3, .int (iI ((ng P)))), (2, .int (iI ((turnA P kind)))), (0, .ref (Y.2.1 (0))), (1, .int (iI (kind)))]) hx hb dL_turned_25 hl (by decide) rfl (fun ls hl => ?_)
      refine lv_iconst (v := iI 0) hx hb dL_turned_27 rfl ?_
      refine lv_istore (lv' := [(5, .int (iI (0))), (4, .int (iI (1))), (3, .int (iI ((ng P)))), (2, .int (iI ((turnA P kind)))), (0, .ref (Y.2.1 (0))), (1, .int (iI (kind)))]) hx hb dL_turned_28 hl (by decide) rfl (fun ls hl => ?_)
      have lp_30 : ∀ (nn : Nat) (g : Int) (τ : Mem), ∀ hg : 0 ≤ g ∧ g ≤ ng P, ∀ hJ : XInv τ P hs tx ch, ∀ hdec : (ng P - g) < (nn : Int), ∀ (H : Heap) (locs : List Loc) (ls : Array Slot), wx LX Y τ ss AA H locs → lv_has ls 10 [(0, .ref (Y.2.1 (0))), (1, .int (iI (kind))), (2, .int (iI (turnA P kind))), (3, .int (iI (ng P))), (4, .int (iI (1))), (5, .int (iI (g)))] → W pp l ee { frames := 8, cells := 0, slots := 0, locals := 192 } ss mm ([.ref (Y.2.1 (0)), .int (iI (kind))] : List Value).toArray bw mt cd H locs 0 0 ZZ (F0 mm 30 ls []) := by
        intro nn
        induction nn with
        | zero =>
          intro g τ hg hJ hdec
          exact absurd hdec (by omega)
        | succ nn ih_30 =>
          intro g τ hg hJ hdec H locs ls X hl
          refine lv_iload hx hb dL_turned_30 (lv_at hl 5 rfl) ?_
          refine lv_iconst (v := iI 1) hx hb dL_turned_32 rfl ?_
          refine g_iadd G dL_turned_33 ?_
          refine lv_iload_n hx hb dL_turned_34 rfl (lv_at hl 3 rfl) ?_
          refine g_icmp_ge (tgt := 111) G dL_turned_35 (by decide) (by omega) (by omega) (fun h35 => ?_) (fun h35 => ?_)
          ·
            refine lv_iload hx hb dL_turned_111 (lv_at hl 4 rfl) ?_
            refine g_if_eq (tgt := 154) G dL_turned_113 (by decide) (by omega) (fun h113 => ?_) (fun h113 => ?_)
            ·
              exact False.elim (by omega)
            ·
              refine lv_aload_n hx hb dL_turned_116 rfl (lv_at hl 0 rfl) ?_
              refine lv_iload_n hx hb dL_turned_117 rfl (lv_at hl 1 rfl) ?_
              refine lv_iload_n hx hb dL_turned_118 rfl (lv_at hl 2 rfl) ?_
              refine lv_iconst (v := iI 0) hx hb dL_turned_119 rfl ?_
              refine g_callVl G X (rest := []) (As := [.int (iI (kind)), .int (iI (turnA P kind)), .int (iI (0))]) (t_X7_turnError l Y (τ) P hs tx ch (kind) (turnA P kind) (0) (by first | assumption | omega) (by first | assumption | omega) (by first | assumption | omega) (by first | assumption | omega)) (cwV 3 hts gL_turned_X7_turnError rfl rfl rfl (by decide +kernel) ⟨Nat.le_of_ble_eq_true rfl, Nat.le_of_ble_eq_true rfl⟩) (k := 0) (Nat.le_of_ble_eq_true rfl) rfl rfl rfl rfl hl.1 rfl (Nat.le_of_ble_eq_true rfl) dL_turned_120 ⟨Nat.le_refl _, Nat.le_refl _⟩ (fun z120 u120 H locs hq120 X => ?_)
              refine g_topl (z' := teA P kind (turnA P kind) 0) hq120.1 ?_
              have hI120 := hq120.2
              refine lv_aload_n hx hb dL_turned_123 rfl (lv_at hl 0 rfl) ?_
              refine lv_iload_n hx hb dL_turned_124 rfl (lv_at hl 1 rfl) ?_
              refine lv_iconst (v := iI 0) hx hb dL_turned_125 rfl ?_
              refine g_callVl G X (rest := [.long (lI ((teA P kind (turnA P kind) 0)))]) (As := [.int (iI (kind)), .int (iI (0))]) (t_X7_error l Y (u120) P hs tx ch (kind) (0) (by first | assumption | omega) (by first | assumption | omega) (by first | assumption | omega)) (cwV 2 hts gL_turned_X7_error rfl rfl rfl (by decide +kernel) ⟨Nat.le_of_ble_eq_true rfl, Nat.le_of_ble_eq_true rfl⟩) (k := 0) (Nat.le_of_ble_eq_true rfl) rfl rfl rfl rfl hl.1 rfl (Nat.le_of_ble_eq_true rfl) dL_turned_126 ⟨Nat.le_refl _, Nat.le_refl _⟩ (fun z126 u126 H locs hq126 X => ?_)
              refine g_topl (z' := errA P kind 0) hq126.1 ?_
              have hI126 := hq126.2
              refine g_lif_ne (tgt := 154) G dL_turned_129 dL_turned_130 (by decide) (by omega) (by omega) (fun h129 => ?_) (fun h129 => ?_)
              ·
                exact absurd h129 (by omega)
              ·
                refine lv_aload_n hx hb dL_turned_133 rfl (lv_at hl 0 rfl) ?_
                refine lv_iload_n hx hb dL_turned_134 rfl (lv_at hl 1 rfl) ?_
                refine lv_iload_n hx hb dL_turned_135 rfl (lv_at hl 2 rfl) ?_
                refine lv_iconst (v := iI 1) hx hb dL_turned_136 rfl ?_
                refine g_callVl G X (rest := []) (As := [.int (iI (kind)), .int (iI (turnA P kind)), .int (iI (1))]) (t_X7_turnError l Y (u126) P hs tx ch (kind) (turnA P kind) (1) (by first | assumption | omega) (by first | assumption | omega) (by first | assumption | omega) (by first | assumption | omega)) (cwV 3 hts gL_turned_X7_turnError rfl rfl rfl (by decide +kernel) ⟨Nat.le_of_ble_eq_true rfl, Nat.le_of_ble_eq_true rfl⟩) (k := 0) (Nat.le_of_ble_eq_true rfl) rfl rfl rfl rfl hl.1 rfl (Nat.le_of_ble_eq_true rfl) dL_turned_137 ⟨Nat.le_refl _, Nat.le_refl _⟩ (fun z137 u137 H locs hq137 X => ?_)
                refine g_topl (z' := teA P kind (turnA P kind) 1) hq137.1 ?_
                have hI137 := hq137.2
                refine lv_aload_n hx hb dL_turned_140 rfl (lv_at hl 0 rfl) ?_
                refine lv_iload_n hx hb dL_turned_141 rfl (lv_at hl 1 rfl) ?_
                refine lv_iconst (v := iI 1) hx hb dL_turned_142 rfl ?_
                refine g_callVl G X (rest := [.long (lI ((teA P kind (turnA P kind) 1)))]) (As := [.int (iI (kind)), .int (iI (1))]) (t_X7_error l Y (u137) P hs tx ch (kind) (1) (by first | assumption | omega) (by first | assumption | omega) (by first | assumption | omega)) (cwV 2 hts gL_turned_X7_error rfl rfl rfl (by decide +kernel) ⟨Nat.le_of_ble_eq_true rfl, Nat.le_of_ble_eq_true rfl⟩) (k := 0) (Nat.le_of_ble_eq_true rfl) rfl rfl rfl rfl hl.1 rfl (Nat.le_of_ble_eq_true rfl) dL_turned_143 ⟨Nat.le_refl _, Nat.le_refl _⟩ (fun z143 u143 H locs hq143 X => ?_)
                refine g_topl (z' := errA P kind 1) hq143.1 ?_
                have hI143 := hq143.2
                refine g_lif_ne (tgt := 154) G dL_turned_146 dL_turned_147 (by decide) (by omega) (by omega) (fun h146 => ?_) (fun h146 => ?_)
                ·
                  exact absurd h146 (by omega)
                ·
                  refine lv_iconst (v := iI 1) hx hb dL_turned_150 rfl ?_
                  refine lv_goto (tgt := 155) hx hb dL_turned_151 (by decide) ?_
                  refine lv_istore (lv' := [(4, .int (iI (1))), (0, .ref (Y.2.1 (0))), (1, .int (iI (kind))), (2, .int (iI (turnA P kind))), (3, .int (iI (ng P))), (5, .int (iI (g)))]) hx hb dL_turned_155 hl (by decide) rfl (fun ls hl => ?_)
                  refine lv_iconst (v := iI 0) hx hb dL_turned_157 rfl ?_
                  refine lv_istore (lv' := [(5, .int (iI (0))), (4, .int (iI (1))), (0, .ref (Y.2.1 (0))), (1, .int (iI (kind))), (2, .int (iI (turnA P kind))), (3, .int (iI (ng P)))]) hx hb dL_turned_158 hl (by decide) rfl (fun ls hl => ?_)
                  have lp_160 : ∀ (nn : Nat) (g : Int) (τ : Mem), ∀ hg : 0 ≤ g ∧ g ≤ ng P, ∀ hJ : XInv τ P hs tx ch, ∀ hdec : (ng P - g) < (nn : Int), ∀ (H : Heap) (locs : List Loc) (ls : Array Slot), wx LX Y τ ss AA H locs → lv_has ls 10 [(0, .ref (Y.2.1 (0))), (1, .int (iI (kind))), (2, .int (iI (turnA P kind))), (3, .int (iI (ng P))), (4, .int (iI (1))), (5, .int (iI (g)))] → W pp l ee { frames := 8, cells := 0, slots := 0, locals := 192 } ss mm ([.ref (Y.2.1 (0)), .int (iI (kind))] : List Value).toArray bw mt cd H locs 0 0 ZZ (F0 mm 160 ls []) := by
                    intro nn
                    induction nn with
                    | zero =>
                      intro g τ hg hJ hdec
                      exact absurd hdec (by omega)
                    | succ nn ih_160 =>
                      intro g τ hg hJ hdec H locs ls X hl
                      refine lv_iload hx hb dL_turned_160 (lv_at hl 5 rfl) ?_
                      refine lv_iload_n hx hb dL_turned_162 rfl (lv_at hl 3 rfl) ?_
                      refine g_icmp_ge (tgt := 268) G dL_turned_163 (by decide) (by omega) (by omega) (fun h163 => ?_) (fun h163 => ?_)
                      ·
                        refine lv_iload hx hb dL_turned_268 (lv_at hl 4 rfl) ?_
                        refine g_if_eq (tgt := 337) G dL_turned_270 (by decide) (by omega) (fun h270 => ?_) (fun h270 => ?_)
                        ·
                          exact False.elim (by omega)
                        ·
                          refine lv_aload_n hx hb dL_turned_273 rfl (lv_at hl 0 rfl) ?_
                          refine lv_iconst (v := iI 0) hx hb dL_turned_274 rfl ?_
                          refine lv_iconst (v := iI 0) hx hb dL_turned_275 rfl ?_
                          refine g_callVl G X (rest := []) (As := [.int (iI (0)), .int (iI (0))]) (t_X7_error l Y (τ) P hs tx ch (0) (0) (by first | assumption | omega) (by first | assumption | omega) (by first | assumption | omega)) (cwV 2 hts gL_turned_X7_error rfl rfl rfl (by decide +kernel) ⟨Nat.le_of_ble_eq_true rfl, Nat.le_of_ble_eq_true rfl⟩) (k := 0) (Nat.le_of_ble_eq_true rfl) rfl rfl rfl rfl hl.1 rfl (Nat.le_of_ble_eq_true rfl) dL_turned_276 ⟨Nat.le_refl _, Nat.le_refl _⟩ (fun z276 u276 H locs hq276 X => ?_)
                          refine g_topl (z' := errA P 0 0) hq276.1 ?_
                          have hI276 := hq276.2
                          refine lv_aload_n hx hb dL_turned_279 rfl (lv_at hl 0 rfl) ?_
                          refine lv_iconst (v := iI 0) hx hb dL_turned_280 rfl ?_
                          refine lv_iconst (v := iI 1) hx hb dL_turned_281 rfl ?_
                          refine g_callVl G X (rest := [.long (lI ((errA P 0 0)))]) (As := [.int (iI (0)), .int (iI (1))]) (t_X7_error l Y (u276) P hs tx ch (0) (1) (by first | assumption | omega) (by first | assumption | omega) (by first | assumption | omega)) (cwV 2 hts gL_turned_X7_error rfl rfl rfl (by decide +kernel) ⟨Nat.le_of_ble_eq_true rfl, Nat.le_of_ble_eq_true rfl⟩) (k := 0) (Nat.le_of_ble_eq_true rfl) rfl rfl rfl rfl hl.1 rfl (Nat.le_of_ble_eq_true rfl) dL_turned_282 ⟨Nat.le_refl _, Nat.le_refl _⟩ (fun z282 u282 H locs hq282 X => ?_)
                          refine g_topl (z' := errA P 0 1) hq282.1 ?_
                          have hI282 := hq282.2
                          refine lv_aload_n hx hb dL_turned_285 rfl (lv_at hl 0 rfl) ?_
                          refine lv_iload_n hx hb dL_turned_286 rfl (lv_at hl 1 rfl) ?_
                          refine lv_iconst (v := iI 0) hx hb dL_turned_287 rfl ?_
                          refine g_callVl G X (rest := [.long (lI ((errA P 0 1))), .long (lI ((errA P 0 0)))]) (As := [.int (iI (kind)), .int (iI (0))]) (t_X7_error l Y (u282) P hs tx ch (kind) (0) (by first | assumption | omega) (by first | assumption | omega) (by first | assumption | omega)) (cwV 2 hts gL_turned_X7_error rfl rfl rfl (by decide +kernel) ⟨Nat.le_of_ble_eq_true rfl, Nat.le_of_ble_eq_true rfl⟩) (k := 0) (Nat.le_of_ble_eq_true rfl) rfl rfl rfl rfl hl.1 rfl (Nat.le_of_ble_eq_true rfl) dL_turned_288 ⟨Nat.le_refl _, Nat.le_refl _⟩ (fun z288 u288 H locs hq288 X => ?_)
                          refine g_topl (z' := errA P kind 0) hq288.1 ?_
                          have hI288 := hq288.2
                          refine lv_aload_n hx hb dL_turned_291 rfl (lv_at hl 0 rfl) ?_
                          refine lv_iload_n hx hb dL_turned_292 rfl (lv_at hl 1 rfl) ?_
                          refine lv_iconst (v := iI 1) hx hb dL_turned_293 rfl ?_
                          refine g_callVl G X (rest := [.long (lI ((errA P kind 0))), .long (lI ((errA P 0 1))), .long (lI ((errA P 0 0)))]) (As := [.int (iI (kind)), .int (iI (1))]) (t_X7_error l Y (u288) P hs tx ch (kind) (1) (by first | assumption | omega) (by first | assumption | omega) (by first | assumption | omega)) (cwV 2 hts gL_turned_X7_error rfl rfl rfl (by decide +kernel) ⟨Nat.le_of_ble_eq_true rfl, Nat.le_of_ble_eq_true rfl⟩) (k := 0) (Nat.le_of_ble_eq_true rfl) rfl rfl rfl rfl hl.1 rfl (Nat.le_of_ble_eq_true rfl) dL_turned_294 ⟨Nat.le_refl _, Nat.le_refl _⟩ (fun z294 u294 H locs hq294 X => ?_)
                          refine g_topl (z' := errA P kind 1) hq294.1 ?_
                          have hI294 := hq294.2
                          refine g_callSi G X (rest := []) (As := [.long (lI ((errA P 0 0))), .long (lI ((errA P 0 1))), .long (lI ((errA P kind 0))), .long (lI ((errA P kind 1)))]) (t_L_isLess l Y (u294) ((errA P 0 0)) ((errA P 0 1)) ((errA P kind 0)) ((errA P kind 1)) (by first | assumption | omega) (by first | assumption | omega) (by first | assumption | omega) (by first | assumption | omega)) (va_cwS 4 hts gL_turned_L_isLess rfl rfl rfl (by decide +kernel) ⟨Nat.le_of_ble_eq_true rfl, Nat.le_of_ble_eq_true rfl⟩) rfl hl.1 rfl (Nat.le_of_ble_eq_true rfl) dL_turned_297 ⟨Nat.le_refl _, Nat.le_refl _⟩ (fun z297 u297 H locs hq297 X => ?_)
                          rw [hq297.1] at X
                          have hq297 := hq297.2
                          try dsimp only at hq297
                          refine g_if_ne (tgt := 337) G dL_turned_300 (by decide) (by omega) (fun h300 => ?_) (fun h300 => ?_)
                          ·
                            exact absurd h300 (by omega)
                          ·
                            refine lv_aload_n hx hb dL_turned_303 rfl (lv_at hl 0 rfl) ?_
                            refine lv_iconst (v := iI 1) hx hb dL_turned_304 rfl ?_
                            refine lv_iconst (v := iI 0) hx hb dL_turned_305 rfl ?_
                            refine g_callVl G X (rest := []) (As := [.int (iI (1)), .int (iI (0))]) (t_X7_error l Y (u294) P hs tx ch (1) (0) (by first | assumption | omega) (by first | assumption | omega) (by first | assumption | omega)) (cwV 2 hts gL_turned_X7_error rfl rfl rfl (by decide +kernel) ⟨Nat.le_of_ble_eq_true rfl, Nat.le_of_ble_eq_true rfl⟩) (k := 0) (Nat.le_of_ble_eq_true rfl) rfl rfl rfl rfl hl.1 rfl (Nat.le_of_ble_eq_true rfl) dL_turned_306 ⟨Nat.le_refl _, Nat.le_refl _⟩ (fun z306 u306 H locs hq306 X => ?_)
                            refine g_topl (z' := errA P 1 0) hq306.1 ?_
                            have hI306 := hq306.2
                            refine lv_aload_n hx hb dL_turned_309 rfl (lv_at hl 0 rfl) ?_
                            refine lv_iconst (v := iI 1) hx hb dL_turned_310 rfl ?_
                            refine lv_iconst (v := iI 1) hx hb dL_turned_311 rfl ?_
                            refine g_callVl G X (rest := [.long (lI ((errA P 1 0)))]) (As := [.int (iI (1)), .int (iI (1))]) (t_X7_error l Y (u306) P hs tx ch (1) (1) (by first | assumption | omega) (by first | assumption | omega) (by first | assumption | omega)) (cwV 2 hts gL_turned_X7_error rfl rfl rfl (by decide +kernel) ⟨Nat.le_of_ble_eq_true rfl, Nat.le_of_ble_eq_true rfl⟩) (k := 0) (Nat.le_of_ble_eq_true rfl) rfl rfl rfl rfl hl.1 rfl (Nat.le_of_ble_eq_true rfl) dL_turned_312 ⟨Nat.le_refl _, Nat.le_refl _⟩ (fun z312 u312 H locs hq312 X => ?_)
                            refine g_topl (z' := errA P 1 1) hq312.1 ?_
                            have hI312 := hq312.2
                            refine lv_aload_n hx hb dL_turned_315 rfl (lv_at hl 0 rfl) ?_
                            refine lv_iload_n hx hb dL_turned_316 rfl (lv_at hl 1 rfl) ?_
                            refine lv_iconst (v := iI 0) hx hb dL_turned_317 rfl ?_
                            refine g_callVl G X (rest := [.long (lI ((errA P 1 1))), .long (lI ((errA P 1 0)))]) (As := [.int (iI (kind)), .int (iI (0))]) (t_X7_error l Y (u312) P hs tx ch (kind) (0) (by first | assumption | omega) (by first | assumption | omega) (by first | assumption | omega)) (cwV 2 hts gL_turned_X7_error rfl rfl rfl (by decide +kernel) ⟨Nat.le_of_ble_eq_true rfl, Nat.le_of_ble_eq_true rfl⟩) (k := 0) (Nat.le_of_ble_eq_true rfl) rfl rfl rfl rfl hl.1 rfl (Nat.le_of_ble_eq_true rfl) dL_turned_318 ⟨Nat.le_refl _, Nat.le_refl _⟩ (fun z318 u318 H locs hq318 X => ?_)
                            refine g_topl (z' := errA P kind 0) hq318.1 ?_
                            have hI318 := hq318.2
                            refine lv_aload_n hx hb dL_turned_321 rfl (lv_at hl 0 rfl) ?_
                            refine lv_iload_n hx hb dL_turned_322 rfl (lv_at hl 1 rfl) ?_
                            refine lv_iconst (v := iI 1) hx hb dL_turned_323 rfl ?_
                            refine g_callVl G X (rest := [.long (lI ((errA P kind 0))), .long (lI ((errA P 1 1))), .long (lI ((errA P 1 0)))]) (As := [.int (iI (kind)), .int (iI (1))]) (t_X7_error l Y (u318) P hs tx ch (kind) (1) (by first | assumption | omega) (by first | assumption | omega) (by first | assumption | omega)) (cwV 2 hts gL_turned_X7_error rfl rfl rfl (by decide +kernel) ⟨Nat.le_of_ble_eq_true rfl, Nat.le_of_ble_eq_true rfl⟩) (k := 0) (Nat.le_of_ble_eq_true rfl) rfl rfl rfl rfl hl.1 rfl (Nat.le_of_ble_eq_true rfl) dL_turned_324 ⟨Nat.le_refl _, Nat.le_refl _⟩ (fun z324 u324 H locs hq324 X => ?_)
                            refine g_topl (z' := errA P kind 1) hq324.1 ?_
                            have hI324 := hq324.2
                            refine g_callSi G X (rest := []) (As := [.long (lI ((errA P 1 0))), .long (lI ((errA P 1 1))), .long (lI ((errA P kind 0))), .long (lI ((errA P kind 1)))]) (t_L_isLess l Y (u324) ((errA P 1 0)) ((errA P 1 1)) ((errA P kind 0)) ((errA P kind 1)) (by first | assumption | omega) (by first | assumption | omega) (by first | assumption | omega) (by first | assumption | omega)) (va_cwS 4 hts gL_turned_L_isLess rfl rfl rfl (by decide +kernel) ⟨Nat.le_of_ble_eq_true rfl, Nat.le_of_ble_eq_true rfl⟩) rfl hl.1 rfl (Nat.le_of_ble_eq_true rfl) dL_turned_327 ⟨Nat.le_refl _, Nat.le_refl _⟩ (fun z327 u327 H locs hq327 X => ?_)
                            rw [hq327.1] at X
                            have hq327 := hq327.2
                            try dsimp only at hq327
                            refine g_if_ne (tgt := 337) G dL_turned_330 (by decide) (by omega) (fun h330 => ?_) (fun h330 => ?_)
                            ·
                              exact absurd h330 (by omega)
                            ·
                              refine lv_iconst (v := iI 1) hx hb dL_turned_333 rfl ?_
                              refine lv_goto (tgt := 338) hx hb dL_turned_334 (by decide) ?_
                              exact hret _ _ _ _ _ _ (⟨rfl, by assumption⟩) X dL_turned_338
                      ·
                        refine lv_iload hx hb dL_turned_166 (lv_at hl 4 rfl) ?_
                        refine g_if_eq (tgt := 268) G dL_turned_168 (by decide) (by omega) (fun h168 => ?_) (fun h168 => ?_)
                        ·
                          exact False.elim (by omega)
                        ·
                          refine lv_aload_n hx hb dL_turned_171 rfl (lv_at hl 0 rfl) ?_
                          refine lv_iload_n hx hb dL_turned_172 rfl (lv_at hl 1 rfl) ?_
                          refine lv_iload hx hb dL_turned_173 (lv_at hl 5 rfl) ?_
                          refine lv_iconst (v := iI 0) hx hb dL_turned_175 rfl ?_
                          refine g_callVl G X (rest := []) (As := [.int (iI (kind)), .int (iI (g)), .int (iI (0))]) (t_X7_turnError l Y (τ) P hs tx ch (kind) (g) (0) (by first | assumption | omega) (by first | assumption | omega) (by first | assumption | omega) (by first | assumption | omega)) (cwV 3 hts gL_turned_X7_turnError rfl rfl rfl (by decide +kernel) ⟨Nat.le_of_ble_eq_true rfl, Nat.le_of_ble_eq_true rfl⟩) (k := 0) (Nat.le_of_ble_eq_true rfl) rfl rfl rfl rfl hl.1 rfl (Nat.le_of_ble_eq_true rfl) dL_turned_176 ⟨Nat.le_refl _, Nat.le_refl _⟩ (fun z176 u176 H locs hq176 X => ?_)
                          refine g_topl (z' := teA P kind g 0) hq176.1 ?_
                          have hI176 := hq176.2
                          have hte : (0 ≤ teA P kind g 0 ∧ teA P kind g 0 ≤ 1300000000000000) ∧ 0 < teA P kind g 1 ∧ teA P kind g 1 ≤ 16777216 := teA_ok hok hl12 (by omega) (by omega)
                          have hle := te_least (P := P) (kind := kind) (g := g) (by omega) (by omega)
                          refine lv_lstore (lv' := [(6, .long (lI ((teA P kind g 0)))), (0, .ref (Y.2.1 (0))), (1, .int (iI (kind))), (2, .int (iI (turnA P kind))), (3, .int (iI (ng P))), (4, .int (iI (1))), (5, .int (iI (g)))]) hx hb dL_turned_179 hl (by decide) rfl (fun ls hl => ?_)
                          refine lv_aload_n hx hb dL_turned_181 rfl (lv_at hl 1 rfl) ?_
                          refine lv_iload_n hx hb dL_turned_182 rfl (lv_at hl 2 rfl) ?_
                          refine lv_iload hx hb dL_turned_183 (lv_at hl 6 rfl) ?_
                          refine lv_iconst (v := iI 1) hx hb dL_turned_185 rfl ?_
                          refine g_callVl G X (rest := []) (As := [.int (iI (kind)), .int (iI (g)), .int (iI (1))]) (t_X7_turnError l Y (u176) P hs tx ch (kind) (g) (1) (by first | assumption | omega) (by first | assumption | omega) (by first | assumption | omega) (by first | assumption | omega)) (cwV 3 hts gL_turned_X7_turnError rfl rfl rfl (by decide +kernel) ⟨Nat.le_of_ble_eq_true rfl, Nat.le_of_ble_eq_true rfl⟩) (k := 0) (Nat.le_of_ble_eq_true rfl) rfl rfl rfl rfl hl.1 rfl (Nat.le_of_ble_eq_true rfl) dL_turned_186 ⟨Nat.le_refl _, Nat.le_refl _⟩ (fun z186 u186 H locs hq186 X => ?_)
                          refine g_topl (z' := teA P kind g 1) hq186.1 ?_
                          have hI186 := hq186.2
                          refine lv_lstore (lv' := [(8, .long (lI ((teA P kind g 1)))), (6, .long (lI ((teA P kind g 0)))), (0, .ref (Y.2.1 (0))), (1, .int (iI (kind))), (2, .int (iI (turnA P kind))), (3, .int (iI (ng P))), (4, .int (iI (1))), (5, .int (iI (g)))]) hx hb dL_turned_189 hl (by decide) rfl (fun ls hl => ?_)
                          refine lv_lload hx hb dL_turned_191 (lv_at hl 1 rfl) ?_
                          refine lv_lconst (v := lI 0) hx hb dL_turned_193 (by decide +kernel) ?_
                          refine g_lif_lt (tgt := 259) G dL_turned_194 dL_turned_195 (by decide) (by omega) (by omega) (fun h194 => ?_) (fun h194 => ?_)
                          ·
                            exact absurd h194 (by omega)
                          ·
                            refine lv_lload hx hb dL_turned_198 (lv_at hl 0 rfl) ?_
                            refine lv_lconst (v := lI 0) hx hb dL_turned_200 (by decide +kernel) ?_
                            refine g_lif_le (tgt := 259) G dL_turned_201 dL_turned_202 (by decide) (by omega) (by omega) (fun h201 => ?_) (fun h201 => ?_)
                            ·
                              exact absurd h201 (by omega)
                            ·
                              refine lv_lload hx hb dL_turned_205 (lv_at hl 1 rfl) ?_
                              refine lv_lload hx hb dL_turned_207 (lv_at hl 0 rfl) ?_
                              refine lv_aload_n hx hb dL_turned_209 rfl (lv_at hl 2 rfl) ?_
                              refine lv_iload_n hx hb dL_turned_210 rfl (lv_at hl 3 rfl) ?_
                              refine lv_iconst (v := iI 0) hx hb dL_turned_211 rfl ?_
                              refine g_callVl G X (rest := [.long (lI ((teA P kind g 1))), .long (lI ((teA P kind g 0)))]) (As := [.int (iI (kind)), .int (iI (0))]) (t_X7_error l Y (u186) P hs tx ch (kind) (0) (by first | assumption | omega) (by first | assumption | omega) (by first | assumption | omega)) (cwV 2 hts gL_turned_X7_error rfl rfl rfl (by decide +kernel) ⟨Nat.le_of_ble_eq_true rfl, Nat.le_of_ble_eq_true rfl⟩) (k := 0) (Nat.le_of_ble_eq_true rfl) rfl rfl rfl rfl hl.1 rfl (Nat.le_of_ble_eq_true rfl) dL_turned_212 ⟨Nat.le_refl _, Nat.le_refl _⟩ (fun z212 u212 H locs hq212 X => ?_)
                              refine g_topl (z' := errA P kind 0) hq212.1 ?_
                              have hI212 := hq212.2
                              refine lv_aload_n hx hb dL_turned_215 rfl (lv_at hl 2 rfl) ?_
                              refine lv_iload_n hx hb dL_turned_216 rfl (lv_at hl 3 rfl) ?_
                              refine lv_iconst (v := iI 1) hx hb dL_turned_217 rfl ?_
                              refine g_callVl G X (rest := [.long (lI ((errA P kind 0))), .long (lI ((teA P kind g 1))), .long (lI ((teA P kind g 0)))]) (As := [.int (iI (kind)), .int (iI (1))]) (t_X7_error l Y (u212) P hs tx ch (kind) (1) (by first | assumption | omega) (by first | assumption | omega) (by first | assumption | omega)) (cwV 2 hts gL_turned_X7_error rfl rfl rfl (by decide +kernel) ⟨Nat.le_of_ble_eq_true rfl, Nat.le_of_ble_eq_true rfl⟩) (k := 0) (Nat.le_of_ble_eq_true rfl) rfl rfl rfl rfl hl.1 rfl (Nat.le_of_ble_eq_true rfl) dL_turned_218 ⟨Nat.le_refl _, Nat.le_refl _⟩ (fun z218 u218 H locs hq218 X => ?_)
                              refine g_topl (z' := errA P kind 1) hq218.1 ?_
                              have hI218 := hq218.2
                              refine g_callSi G X (rest := []) (As := [.long (lI ((teA P kind g 0))), .long (lI ((teA P kind g 1))), .long (lI ((errA P kind 0))), .long (lI ((errA P kind 1)))]) (t_L_isLess l Y (u218) ((teA P kind g 0)) ((teA P kind g 1)) ((errA P kind 0)) ((errA P kind 1)) (by first | assumption | omega) (by first | assumption | omega) (by first | assumption | omega) (by first | assumption | omega)) (va_cwS 4 hts gL_turned_L_isLess rfl rfl rfl (by decide +kernel) ⟨Nat.le_of_ble_eq_true rfl, Nat.le_of_ble_eq_true rfl⟩) rfl hl.1 rfl (Nat.le_of_ble_eq_true rfl) dL_turned_221 ⟨Nat.le_refl _, Nat.le_refl _⟩ (fun z221 u221 H locs hq221 X => ?_)
                              rw [hq221.1] at X
                              have hq221 := hq221.2
                              try dsimp only at hq221
                              refine g_if_ne (tgt := 259) G dL_turned_224 (by decide) (by omega) (fun h224 => ?_) (fun h224 => ?_)
                              ·
                                exact absurd h224 (by omega)
                              ·
                                refine lv_iload hx hb dL_turned_227 (lv_at hl 7 rfl) ?_
                                refine lv_iload_n hx hb dL_turned_229 rfl (lv_at hl 4 rfl) ?_
                                refine g_icmp_ge (tgt := 255) G dL_turned_230 (by decide) (by omega) (by omega) (fun h230 => ?_) (fun h230 => ?_)
                                ·
                                  refine lv_iconst (v := iI 1) hx hb dL_turned_255 rfl ?_
                                  refine lv_goto (tgt := 260) hx hb dL_turned_256 (by decide) ?_
                                  refine lv_istore (lv' := [(4, .int (iI (1))), (8, .long (lI ((teA P kind g 1)))), (6, .long (lI ((teA P kind g 0)))), (0, .ref (Y.2.1 (0))), (1, .int (iI (kind))), (2, .int (iI (turnA P kind))), (3, .int (iI (ng P))), (5, .int (iI (g)))]) hx hb dL_turned_260 hl (by decide) rfl (fun ls hl => ?_)
                                  refine lv_iinc (v := iI (g + 1)) (lv' := [(5, .int (iI ((g + 1)))), (4, .int (iI (1))), (8, .long (lI ((teA P kind g 1)))), (6, .long (lI ((teA P kind g 0)))), (0, .ref (Y.2.1 (0))), (1, .int (iI (kind))), (2, .int (iI (turnA P kind))), (3, .int (iI (ng P)))]) hx hb dL_turned_262 hl (k := 7) rfl (iI_add _ _) (by decide) rfl (fun ls hl => ?_)
                                  refine lv_goto (tgt := 160) hx hb dL_turned_265 (by decide) ?_
                                  exact ih_160 ((g + 1)) (u218) (by omega) (by assumption) (by omega) _ _ _ X (lv_sub hl [4, 5, 6, 7, 1, 0] rfl)
                                ·
                                  refine lv_aload_n hx hb dL_turned_233 rfl (lv_at hl 2 rfl) ?_
                                  refine lv_iload_n hx hb dL_turned_234 rfl (lv_at hl 3 rfl) ?_
                                  refine lv_iconst (v := iI 0) hx hb dL_turned_235 rfl ?_
                                  refine g_callVl G X (rest := []) (As := [.int (iI (kind)), .int (iI (0))]) (t_X7_error l Y (u218) P hs tx ch (kind) (0) (by first | assumption | omega) (by first | assumption | omega) (by first | assumption | omega)) (cwV 2 hts gL_turned_X7_error rfl rfl rfl (by decide +kernel) ⟨Nat.le_of_ble_eq_true rfl, Nat.le_of_ble_eq_true rfl⟩) (k := 0) (Nat.le_of_ble_eq_true rfl) rfl rfl rfl rfl hl.1 rfl (Nat.le_of_ble_eq_true rfl) dL_turned_236 ⟨Nat.le_refl _, Nat.le_refl _⟩ (fun z236 u236 H locs hq236 X => ?_)
                                  refine g_topl (z' := errA P kind 0) hq236.1 ?_
                                  have hI236 := hq236.2
                                  refine lv_aload_n hx hb dL_turned_239 rfl (lv_at hl 2 rfl) ?_
                                  refine lv_iload_n hx hb dL_turned_240 rfl (lv_at hl 3 rfl) ?_
                                  refine lv_iconst (v := iI 1) hx hb dL_turned_241 rfl ?_
                                  refine g_callVl G X (rest := [.long (lI ((errA P kind 0)))]) (As := [.int (iI (kind)), .int (iI (1))]) (t_X7_error l Y (u236) P hs tx ch (kind) (1) (by first | assumption | omega) (by first | assumption | omega) (by first | assumption | omega)) (cwV 2 hts gL_turned_X7_error rfl rfl rfl (by decide +kernel) ⟨Nat.le_of_ble_eq_true rfl, Nat.le_of_ble_eq_true rfl⟩) (k := 0) (Nat.le_of_ble_eq_true rfl) rfl rfl rfl rfl hl.1 rfl (Nat.le_of_ble_eq_true rfl) dL_turned_242 ⟨Nat.le_refl _, Nat.le_refl _⟩ (fun z242 u242 H locs hq242 X => ?_)
                                  refine g_topl (z' := errA P kind 1) hq242.1 ?_
                                  have hI242 := hq242.2
                                  refine lv_lload hx hb dL_turned_245 (lv_at hl 1 rfl) ?_
                                  refine lv_lload hx hb dL_turned_247 (lv_at hl 0 rfl) ?_
                                  refine g_callSi G X (rest := []) (As := [.long (lI ((errA P kind 0))), .long (lI ((errA P kind 1))), .long (lI ((teA P kind g 0))), .long (lI ((teA P kind g 1)))]) (t_L_isLess l Y (u242) ((errA P kind 0)) ((errA P kind 1)) ((teA P kind g 0)) ((teA P kind g 1)) (by first | assumption | omega) (by first | assumption | omega) (by first | assumption | omega) (by first | assumption | omega)) (va_cwS 4 hts gL_turned_L_isLess rfl rfl rfl (by decide +kernel) ⟨Nat.le_of_ble_eq_true rfl, Nat.le_of_ble_eq_true rfl⟩) rfl hl.1 rfl (Nat.le_of_ble_eq_true rfl) dL_turned_249 ⟨Nat.le_refl _, Nat.le_refl _⟩ (fun z249 u249 H locs hq249 X => ?_)
                                  rw [hq249.1] at X
                                  have hq249 := hq249.2
                                  try dsimp only at hq249
                                  refine g_if_eq (tgt := 259) G dL_turned_252 (by decide) (by omega) (fun h252 => ?_) (fun h252 => ?_)
                                  ·
                                    exact absurd h252 (by omega)
                                  ·
                                    refine lv_iconst (v := iI 1) hx hb dL_turned_255 rfl ?_
                                    refine lv_goto (tgt := 260) hx hb dL_turned_256 (by decide) ?_
                                    refine lv_istore (lv' := [(4, .int (iI (1))), (8, .long (lI ((teA P kind g 1)))), (6, .long (lI ((teA P kind g 0)))), (0, .ref (Y.2.1 (0))), (1, .int (iI (kind))), (2, .int (iI (turnA P kind))), (3, .int (iI (ng P))), (5, .int (iI (g)))]) hx hb dL_turned_260 hl (by decide) rfl (fun ls hl => ?_)
                                    refine lv_iinc (v := iI (g + 1)) (lv' := [(5, .int (iI ((g + 1)))), (4, .int (iI (1))), (8, .long (lI ((teA P kind g 1)))), (6, .long (lI ((teA P kind g 0)))), (0, .ref (Y.2.1 (0))), (1, .int (iI (kind))), (2, .int (iI (turnA P kind))), (3, .int (iI (ng P)))]) hx hb dL_turned_262 hl (k := 7) rfl (iI_add _ _) (by decide) rfl (fun ls hl => ?_)
                                    refine lv_goto (tgt := 160) hx hb dL_turned_265 (by decide) ?_
                                    exact ih_160 ((g + 1)) (u242) (by omega) (by assumption) (by omega) _ _ _ X (lv_sub hl [4, 5, 6, 7, 1, 0] rfl)
                  exact lp_160 ((((ng P - (0)) : Int).toNat + 1)) (0) (u143) (by omega) (by assumption) (by omega) _ _ _ X (lv_sub hl [2, 3, 4, 5, 1, 0] rfl)
          ·
            refine lv_iload hx hb dL_turned_38 (lv_at hl 4 rfl) ?_
            refine g_if_eq (tgt := 111) G dL_turned_40 (by decide) (by omega) (fun h40 => ?_) (fun h40 => ?_)
            ·
              exact False.elim (by omega)
            ·
              refine lv_aload_n hx hb dL_turned_43 rfl (lv_at hl 0 rfl) ?_
              refine lv_iload_n hx hb dL_turned_44 rfl (lv_at hl 1 rfl) ?_
              refine lv_iload hx hb dL_turned_45 (lv_at hl 5 rfl) ?_
              refine g_callSl G X (rest := []) (As := [.ref (Y.2.1 (0)), .int (iI (kind)), .int (iI (g))]) (t_L_step l Y (τ) P hs tx ch (kind) (g) (by first | assumption | omega) (by first | assumption | omega) (by first | assumption | omega)) (va_cwS 3 hts gL_turned_L_step rfl rfl rfl (by decide +kernel) ⟨Nat.le_of_ble_eq_true rfl, Nat.le_of_ble_eq_true rfl⟩) rfl hl.1 rfl (Nat.le_of_ble_eq_true rfl) dL_turned_47 ⟨Nat.le_refl _, Nat.le_refl _⟩ (fun z47 u47 H locs hq47 X => ?_)
              refine g_topl (z' := stepA P kind g) hq47.1 ?_
              have hI47 := hq47.2
              have hst := step_rg hok hl12 (kind := kind) (g := g) (by omega) (by omega) (by omega)
              have hsb := turned_by hok hl12 (kind := kind) (g := g) hk (by omega) (by omega)
              refine lv_lstore (lv' := [(6, .long (lI ((stepA P kind g)))), (0, .ref (Y.2.1 (0))), (1, .int (iI (kind))), (2, .int (iI (turnA P kind))), (3, .int (iI (ng P))), (4, .int (iI (1))), (5, .int (iI (g)))]) hx hb dL_turned_50 hl (by decide) rfl (fun ls hl => ?_)
              refine lv_iload hx hb dL_turned_52 (lv_at hl 6 rfl) ?_
              refine lv_iload_n hx hb dL_turned_54 rfl (lv_at hl 3 rfl) ?_
              refine g_icmp_ge (tgt := 62) G dL_turned_55 (by decide) (by omega) (by omega) (fun h55 => ?_) (fun h55 => ?_)
              ·
                refine lv_iconst (v := iI 0) hx hb dL_turned_62 rfl ?_
                refine lv_iload_n hx hb dL_turned_63 rfl (lv_at hl 2 rfl) ?_
                refine lv_iconst (v := iI 2) hx hb dL_turned_64 rfl ?_
                refine g_icmp_ne (tgt := 72) G dL_turned_65 (by decide) (by omega) (by omega) (fun h65 => ?_) (fun h65 => ?_)
                ·
                  refine lv_iconst (v := iI 0) hx hb dL_turned_72 rfl ?_
                  refine g_icmp_ne (tgt := 91) G dL_turned_73 (by decide) (by omega) (by omega) (fun h73 => ?_) (fun h73 => ?_)
                  ·
                    exact False.elim (by omega)
                  ·
                    refine lv_lload hx hb dL_turned_76 (lv_at hl 0 rfl) ?_
                    refine lv_lconst (v := lI 0) hx hb dL_turned_78 (by decide +kernel) ?_
                    refine g_lif_lt (tgt := 87) G dL_turned_79 dL_turned_80 (by decide) (by omega) (by omega) (fun h79 => ?_) (fun h79 => ?_)
                    ·
                      exact absurd h79 (by omega)
                    ·
                      refine lv_iconst (v := iI 1) hx hb dL_turned_83 rfl ?_
                      refine lv_goto (tgt := 103) hx hb dL_turned_84 (by decide) ?_
                      refine lv_istore (lv' := [(4, .int (iI (1))), (6, .long (lI ((stepA P kind g)))), (0, .ref (Y.2.1 (0))), (1, .int (iI (kind))), (2, .int (iI (turnA P kind))), (3, .int (iI (ng P))), (5, .int (iI (g)))]) hx hb dL_turned_103 hl (by decide) rfl (fun ls hl => ?_)
                      refine lv_iinc (v := iI (g + 1)) (lv' := [(5, .int (iI ((g + 1)))), (4, .int (iI (1))), (6, .long (lI ((stepA P kind g)))), (0, .ref (Y.2.1 (0))), (1, .int (iI (kind))), (2, .int (iI (turnA P kind))), (3, .int (iI (ng P)))]) hx hb dL_turned_105 hl (k := 6) rfl (iI_add _ _) (by decide) rfl (fun ls hl => ?_)
                      refine lv_goto (tgt := 30) hx hb dL_turned_108 (by decide) ?_
                      exact ih_30 ((g + 1)) (u47) (by omega) (by assumption) (by omega) _ _ _ X (lv_sub hl [3, 4, 5, 6, 1, 0] rfl)
                ·
                  refine lv_iconst (v := iI 1) hx hb dL_turned_68 rfl ?_
                  refine lv_goto (tgt := 73) hx hb dL_turned_69 (by decide) ?_
                  refine g_icmp_ne (tgt := 91) G dL_turned_73 (by decide) (by omega) (by omega) (fun h73 => ?_) (fun h73 => ?_)
                  ·
                    refine lv_lload hx hb dL_turned_91 (lv_at hl 0 rfl) ?_
                    refine lv_lconst (v := lI 0) hx hb dL_turned_93 (by decide +kernel) ?_
                    refine g_lif_gt (tgt := 102) G dL_turned_94 dL_turned_95 (by decide) (by omega) (by omega) (fun h94 => ?_) (fun h94 => ?_)
                    ·
                      exact absurd h94 (by omega)
                    ·
                      refine lv_iconst (v := iI 1) hx hb dL_turned_98 rfl ?_
                      refine lv_goto (tgt := 103) hx hb dL_turned_99 (by decide) ?_
                      refine lv_istore (lv' := [(4, .int (iI (1))), (6, .long (lI ((stepA P kind g)))), (0, .ref (Y.2.1 (0))), (1, .int (iI (kind))), (2, .int (iI (turnA P kind))), (3, .int (iI (ng P))), (5, .int (iI (g)))]) hx hb dL_turned_103 hl (by decide) rfl (fun ls hl => ?_)
                      refine lv_iinc (v := iI (g + 1)) (lv' := [(5, .int (iI ((g + 1)))), (4, .int (iI (1))), (6, .long (lI ((stepA P kind g)))), (0, .ref (Y.2.1 (0))), (1, .int (iI (kind))), (2, .int (iI (turnA P kind))), (3, .int (iI (ng P)))]) hx hb dL_turned_105 hl (k := 6) rfl (iI_add _ _) (by decide) rfl (fun ls hl => ?_)
                      refine lv_goto (tgt := 30) hx hb dL_turned_108 (by decide) ?_
                      exact ih_30 ((g + 1)) (u47) (by omega) (by assumption) (by omega) _ _ _ X (lv_sub hl [3, 4, 5, 6, 1, 0] rfl)
                  ·
                    exact False.elim (by omega)
              ·
                refine lv_iconst (v := iI 1) hx hb dL_turned_58 rfl ?_
                refine lv_goto (tgt := 63) hx hb dL_turned_59 (by decide) ?_
                refine lv_iload_n hx hb dL_turned_63 rfl (lv_at hl 2 rfl) ?_
                refine lv_iconst (v := iI 2) hx hb dL_turned_64 rfl ?_
                refine g_icmp_ne (tgt := 72) G dL_turned_65 (by decide) (by omega) (by omega) (fun h65 => ?_) (fun h65 => ?_)
                ·
                  refine lv_iconst (v := iI 0) hx hb dL_turned_72 rfl ?_
                  refine g_icmp_ne (tgt := 91) G dL_turned_73 (by decide) (by omega) (by omega) (fun h73 => ?_) (fun h73 => ?_)
                  ·
                    refine lv_lload hx hb dL_turned_91 (lv_at hl 0 rfl) ?_
                    refine lv_lconst (v := lI 0) hx hb dL_turned_93 (by decide +kernel) ?_
                    refine g_lif_gt (tgt := 102) G dL_turned_94 dL_turned_95 (by decide) (by omega) (by omega) (fun h94 => ?_) (fun h94 => ?_)
                    ·
                      exact absurd h94 (by omega)
                    ·
                      refine lv_iconst (v := iI 1) hx hb dL_turned_98 rfl ?_
                      refine lv_goto (tgt := 103) hx hb dL_turned_99 (by decide) ?_
                      refine lv_istore (lv' := [(4, .int (iI (1))), (6, .long (lI ((stepA P kind g)))), (0, .ref (Y.2.1 (0))), (1, .int (iI (kind))), (2, .int (iI (turnA P kind))), (3, .int (iI (ng P))), (5, .int (iI (g)))]) hx hb dL_turned_103 hl (by decide) rfl (fun ls hl => ?_)
                      refine lv_iinc (v := iI (g + 1)) (lv' := [(5, .int (iI ((g + 1)))), (4, .int (iI (1))), (6, .long (lI ((stepA P kind g)))), (0, .ref (Y.2.1 (0))), (1, .int (iI (kind))), (2, .int (iI (turnA P kind))), (3, .int (iI (ng P)))]) hx hb dL_turned_105 hl (k := 6) rfl (iI_add _ _) (by decide) rfl (fun ls hl => ?_)
                      refine lv_goto (tgt := 30) hx hb dL_turned_108 (by decide) ?_
                      exact ih_30 ((g + 1)) (u47) (by omega) (by assumption) (by omega) _ _ _ X (lv_sub hl [3, 4, 5, 6, 1, 0] rfl)
                  ·
                    exact False.elim (by omega)
                ·
                  refine lv_iconst (v := iI 1) hx hb dL_turned_68 rfl ?_
                  refine lv_goto (tgt := 73) hx hb dL_turned_69 (by decide) ?_
                  refine g_icmp_ne (tgt := 91) G dL_turned_73 (by decide) (by omega) (by omega) (fun h73 => ?_) (fun h73 => ?_)
                  ·
                    exact False.elim (by omega)
                  ·
                    refine lv_lload hx hb dL_turned_76 (lv_at hl 0 rfl) ?_
                    refine lv_lconst (v := lI 0) hx hb dL_turned_78 (by decide +kernel) ?_
                    refine g_lif_lt (tgt := 87) G dL_turned_79 dL_turned_80 (by decide) (by omega) (by omega) (fun h79 => ?_) (fun h79 => ?_)
                    ·
                      exact absurd h79 (by omega)
                    ·
                      refine lv_iconst (v := iI 1) hx hb dL_turned_83 rfl ?_
                      refine lv_goto (tgt := 103) hx hb dL_turned_84 (by decide) ?_
                      refine lv_istore (lv' := [(4, .int (iI (1))), (6, .long (lI ((stepA P kind g)))), (0, .ref (Y.2.1 (0))), (1, .int (iI (kind))), (2, .int (iI (turnA P kind))), (3, .int (iI (ng P))), (5, .int (iI (g)))]) hx hb dL_turned_103 hl (by decide) rfl (fun ls hl => ?_)
                      refine lv_iinc (v := iI (g + 1)) (lv' := [(5, .int (iI ((g + 1)))), (4, .int (iI (1))), (6, .long (lI ((stepA P kind g)))), (0, .ref (Y.2.1 (0))), (1, .int (iI (kind))), (2, .int (iI (turnA P kind))), (3, .int (iI (ng P)))]) hx hb dL_turned_105 hl (k := 6) rfl (iI_add _ _) (by decide) rfl (fun ls hl => ?_)
                      refine lv_goto (tgt := 30) hx hb dL_turned_108 (by decide) ?_
                      exact ih_30 ((g + 1)) (u47) (by omega) (by assumption) (by omega) _ _ _ X (lv_sub hl [3, 4, 5, 6, 1, 0] rfl)
      exact lp_30 ((((ng P - (0)) : Int).toNat + 1)) (0) (u2) (by omega) (by assumption) (by omega) _ _ _ X (lv_sub hl [4, 5, 3, 2, 1, 0] rfl)

