set_option maxHeartbeats 4000000 in
set_option maxRecDepth 100000 in
theorem t_L_bent (l : Launch) (Y : Yt) (σ : Mem) (P : List Pt) (hs : List (List Pt)) (tx : List Int) (ch : List Int) (kind : Int) (hI : XInv σ P hs tx ch) (hk : kind = 4 ∨ kind = 5) (hn : 0 < ng P) : MXi l LX Y yL_bent wsL_bent { frames := 8, cells := 0, slots := 0, locals := 192 } [.ref (Y.2.1 (0)), .int (iI (kind))] σ (fun z u => z = 1 ∧ XInv u P hs tx ch) := by
  have hok := hI.1.2
  have hl12 := hI.1.1.2.1
  have hn12 : 0 ≤ ng P ∧ ng P ≤ 12 := ⟨(prof_of hok hl12).1.1, (prof_of hok hl12).1.2.1⟩
  have hke := kinksA_eq hok hl12 hk hn
  have hk1 := hke.1
  have hk2 := hke.2.1
  have hk3 := hke.2.2.1
  have hkr : kinksA P kind ≤ 12 := by split at hk2 <;> omega
  refine g_starti (rty := .boolean) (fun z u h => nrZ (by have := h.1; omega)) (cc := cL_bent) (nL := 15) (own := RL) (by decide) rfl rfl (Nat.le_of_ble_eq_true rfl) ?_
  intro pp ee ss mm bw mt cd AA ZZ ls G hret X hl
  have hl : lv_has ls 15 [(0, .ref (Y.2.1 (0))), (1, .int (iI (kind)))] := hl
  have hx := G.1
  have hb := G.2.1
  have hts := G.2.2.2.2.1
  have l_c62 := hts (.constant RL 62 (-1000004)) (List.mem_of_getElem? (i := 1) rfl)
  refine lv_aload_n hx hb dL_bent_0 rfl (lv_at hl 0 rfl) ?_
  refine g_callVi G X (rest := []) (As := []) (t_X7_groups l Y (σ) P hs tx ch (by first | assumption | omega)) (cwV 0 hts gL_bent_X7_groups rfl rfl rfl (by decide +kernel) ⟨Nat.le_of_ble_eq_true rfl, Nat.le_of_ble_eq_true rfl⟩) (k := 0) (Nat.le_of_ble_eq_true rfl) rfl rfl rfl rfl hl.1 rfl (Nat.le_of_ble_eq_true rfl) dL_bent_1 ⟨Nat.le_refl _, Nat.le_refl _⟩ (fun z1 u1 H locs hq1 X => ?_)
  rw [hq1.1] at X
  have hq1 := hq1.2
  try dsimp only at hq1
  refine g_topi (z' := ng P) hq1 ?_
  refine lv_istore_n (lv' := [(2, .int (iI ((ng P)))), (0, .ref (Y.2.1 (0))), (1, .int (iI (kind)))]) hx hb dL_bent_4 rfl hl (by decide) rfl (fun ls hl => ?_)
  refine lv_aload_n hx hb dL_bent_5 rfl (lv_at hl 1 rfl) ?_
  refine lv_iload_n hx hb dL_bent_6 rfl (lv_at hl 2 rfl) ?_
  refine g_callVi G X (rest := []) (As := [.int (iI (kind))]) (t_X7_kinks l Y (σ) P hs tx ch (kind) (by first | assumption | omega) (by first | assumption | omega)) (cwV 1 hts gL_bent_X7_kinks rfl rfl rfl (by decide +kernel) ⟨Nat.le_of_ble_eq_true rfl, Nat.le_of_ble_eq_true rfl⟩) (k := 0) (Nat.le_of_ble_eq_true rfl) rfl rfl rfl rfl hl.1 rfl (Nat.le_of_ble_eq_true rfl) dL_bent_7 ⟨Nat.le_refl _, Nat.le_refl _⟩ (fun z7 u7 H locs hq7 X => ?_)
  refine g_topi (z' := kinksA P kind) hq7.1 ?_
  have hI7 := hq7.2
  refine lv_istore_n (lv' := [(3, .int (iI ((kinksA P kind)))), (2, .int (iI ((ng P)))), (0, .ref (Y.2.1 (0))), (1, .int (iI (kind)))]) hx hb dL_bent_10 rfl hl (by decide) rfl (fun ls hl => ?_)
  have jo_21 : ∀ (sg : Int), ∀ hsg : (kind = 4 ∧ sg = 1) ∨ (kind = 5 ∧ sg = -1), ∀ (H : Heap) (locs : List Loc) (ls : Array Slot), wx LX Y u7 ss AA H locs → lv_has ls 15 [(0, .ref (Y.2.1 (0))), (1, .int (iI (kind))), (2, .int (iI (ng P))), (3, .int (iI (kinksA P kind)))] → W pp l ee { frames := 8, cells := 0, slots := 0, locals := 192 } ss mm ([.ref (Y.2.1 (0)), .int (iI (kind))] : List Value).toArray bw mt cd H locs 0 0 ZZ (F0 mm 21 ls [.int (iI (sg))]) := by
    intro sg hsg H locs ls X hl
    refine lv_istore (lv' := [(4, .int (iI (sg))), (0, .ref (Y.2.1 (0))), (1, .int (iI (kind))), (2, .int (iI (ng P))), (3, .int (iI (kinksA P kind)))]) hx hb dL_bent_21 hl (by decide) rfl (fun ls hl => ?_)
    have jo_43 : ∀ (H : Heap) (locs : List Loc) (ls : Array Slot), wx LX Y u7 ss AA H locs → lv_has ls 15 [(0, .ref (Y.2.1 (0))), (1, .int (iI (kind))), (2, .int (iI (ng P))), (3, .int (iI (kinksA P kind))), (4, .int (iI (sg)))] → W pp l ee { frames := 8, cells := 0, slots := 0, locals := 192 } ss mm ([.ref (Y.2.1 (0)), .int (iI (kind))] : List Value).toArray bw mt cd H locs 0 0 ZZ (F0 mm 43 ls []) := by
      intro   H locs ls X hl
      refine lv_aload_n hx hb dL_bent_43 rfl (lv_at hl 0 rfl) ?_
      refine lv_iload_n hx hb dL_bent_44 rfl (lv_at hl 1 rfl) ?_
      refine lv_iload_n hx hb dL_bent_45 rfl (lv_at hl 3 rfl) ?_
      refine g_callVi G X (rest := []) (As := [.int (iI (kind)), .int (iI (kinksA P kind))]) (t_X7_kinkAt l Y (u7) P hs tx ch (kind) (kinksA P kind) (by first | assumption | omega) (by first | assumption | omega) (by first | assumption | omega)) (cwV 2 hts gL_bent_X7_kinkAt rfl rfl rfl (by decide +kernel) ⟨Nat.le_of_ble_eq_true rfl, Nat.le_of_ble_eq_true rfl⟩) (k := 0) (Nat.le_of_ble_eq_true rfl) rfl rfl rfl rfl hl.1 rfl (Nat.le_of_ble_eq_true rfl) dL_bent_46 ⟨Nat.le_refl _, Nat.le_refl _⟩ (fun z46 u46 H locs hq46 X => ?_)
      refine g_topi (z' := kinkAtA P kind (kinksA P kind)) hq46.1 ?_
      have hI46 := hq46.2
      have hz9 := hk3
      refine g_ldc G (z := (-1000004)) l_c62 (by decide +kernel) dL_bent_49 ?_
      refine g_icmp_ne (tgt := 58) G dL_bent_51 (by decide) (by omega) (by omega) (fun h51 => ?_) (fun h51 => ?_)
      ·
        exact absurd hz9 h51
      ·
        refine lv_iconst (v := iI 1) hx hb dL_bent_54 rfl ?_
        refine lv_goto (tgt := 59) hx hb dL_bent_55 (by decide) ?_
        refine lv_istore (lv' := [(5, .int (iI (1))), (0, .ref (Y.2.1 (0))), (1, .int (iI (kind))), (2, .int (iI (ng P))), (3, .int (iI (kinksA P kind))), (4, .int (iI (sg)))]) hx hb dL_bent_59 hl (by decide) rfl (fun ls hl => ?_)
        refine lv_iconst (v := iI 0) hx hb dL_bent_61 rfl ?_
        refine lv_istore (lv' := [(6, .int (iI (0))), (5, .int (iI (1))), (0, .ref (Y.2.1 (0))), (1, .int (iI (kind))), (2, .int (iI (ng P))), (3, .int (iI (kinksA P kind))), (4, .int (iI (sg)))]) hx hb dL_bent_62 hl (by decide) rfl (fun ls hl => ?_)
        refine lv_iconst (v := iI 0) hx hb dL_bent_64 rfl ?_
        refine lv_istore (lv' := [(7, .int (iI (0))), (6, .int (iI (0))), (5, .int (iI (1))), (0, .ref (Y.2.1 (0))), (1, .int (iI (kind))), (2, .int (iI (ng P))), (3, .int (iI (kinksA P kind))), (4, .int (iI (sg)))]) hx hb dL_bent_65 hl (by decide) rfl (fun ls hl => ?_)
        have lp_67 : ∀ (nn : Nat) (g x : Int) (τ : Mem), ∀ hg : 0 ≤ g ∧ g ≤ ng P, ∀ hK : KI P kind g x, ∀ hJ : XInv τ P hs tx ch, ∀ hdec : (ng P - g) < (nn : Int), ∀ (H : Heap) (locs : List Loc) (ls : Array Slot), wx LX Y τ ss AA H locs → lv_has ls 15 [(0, .ref (Y.2.1 (0))), (1, .int (iI (kind))), (2, .int (iI (ng P))), (3, .int (iI (kinksA P kind))), (4, .int (iI (sg))), (5, .int (iI (1))), (6, .int (iI (x))), (7, .int (iI (g)))] → W pp l ee { frames := 8, cells := 0, slots := 0, locals := 192 } ss mm ([.ref (Y.2.1 (0)), .int (iI (kind))] : List Value).toArray bw mt cd H locs 0 0 ZZ (F0 mm 67 ls []) := by
          intro nn
          induction nn with
          | zero =>
            intro g x τ hg hK hJ hdec
            exact absurd hdec (by omega)
          | succ nn ih_67 =>
            intro g x τ hg hK hJ hdec H locs ls X hl
            have hx9 := hK.1
            refine lv_iload hx hb dL_bent_67 (lv_at hl 7 rfl) ?_
            refine lv_iload_n hx hb dL_bent_69 rfl (lv_at hl 2 rfl) ?_
            refine g_icmp_ge (tgt := 316) G dL_bent_70 (by decide) (by omega) (by omega) (fun h70 => ?_) (fun h70 => ?_)
            ·
              have hend : x = kinksA P kind := ki_end hok hl12 hk hn ((show g = ng P by omega) ▸ hK)
              refine lv_iload hx hb dL_bent_316 (lv_at hl 5 rfl) ?_
              refine g_if_eq (tgt := 331) G dL_bent_318 (by decide) (by omega) (fun h318 => ?_) (fun h318 => ?_)
              ·
                exact False.elim (by omega)
              ·
                refine lv_iload hx hb dL_bent_321 (lv_at hl 6 rfl) ?_
                refine lv_iload_n hx hb dL_bent_323 rfl (lv_at hl 3 rfl) ?_
                refine g_icmp_ne (tgt := 331) G dL_bent_324 (by decide) (by omega) (by omega) (fun h324 => ?_) (fun h324 => ?_)
                ·
                  exact absurd hend h324
                ·
                  refine lv_iconst (v := iI 1) hx hb dL_bent_327 rfl ?_
                  refine lv_goto (tgt := 332) hx hb dL_bent_328 (by decide) ?_
                  exact hret _ _ _ _ _ _ (⟨rfl, by assumption⟩) X dL_bent_332
            ·
              refine lv_iload hx hb dL_bent_73 (lv_at hl 5 rfl) ?_
              refine g_if_eq (tgt := 316) G dL_bent_75 (by decide) (by omega) (fun h75 => ?_) (fun h75 => ?_)
              ·
                exact False.elim (by omega)
              ·
                refine lv_aload_n hx hb dL_bent_78 rfl (lv_at hl 0 rfl) ?_
                refine lv_iload_n hx hb dL_bent_79 rfl (lv_at hl 1 rfl) ?_
                refine lv_iload hx hb dL_bent_80 (lv_at hl 7 rfl) ?_
                refine g_callSl G X (rest := []) (As := [.ref (Y.2.1 (0)), .int (iI (kind)), .int (iI (g))]) (t_L_against l Y (τ) P hs tx ch (kind) (g) (by first | assumption | omega) (by first | assumption | omega) (by first | assumption | omega)) (va_cwS 3 hts gL_bent_L_against rfl rfl rfl (by decide +kernel) ⟨Nat.le_of_ble_eq_true rfl, Nat.le_of_ble_eq_true rfl⟩) rfl hl.1 rfl (Nat.le_of_ble_eq_true rfl) dL_bent_82 ⟨Nat.le_refl _, Nat.le_refl _⟩ (fun z82 u82 H locs hq82 X => ?_)
                refine g_topl (z' := byA P kind g) hq82.1 ?_
                have hI82 := hq82.2
                have hby := bent_by hok hl12 (kind := kind) (g := g) hk (by omega)
                have hbr := by_rg hok hl12 (kind := kind) (g := g) (by omega) (by omega)
                rw [hs_of hsg] at hby
                have hsr := sg_rg (sg := sg) (x := byA P kind g) (A := 30000000) (by omega) (by omega) (by omega)
                refine lv_lstore (lv' := [(8, .long (lI ((byA P kind g)))), (0, .ref (Y.2.1 (0))), (1, .int (iI (kind))), (2, .int (iI (ng P))), (3, .int (iI (kinksA P kind))), (4, .int (iI (sg))), (5, .int (iI (1))), (6, .int (iI (x))), (7, .int (iI (g)))]) hx hb dL_bent_85 hl (by decide) rfl (fun ls hl => ?_)
                have jo_110 : ∀ (ik : Int) (τ : Mem), ∀ hik : (ik = 1 ∧ KI P kind (g + 1) (x + 1) ∧ isCor (hulC P (hSide kind)) g ∧ 0 < g ∧ g < ng P - 1) ∨ (ik = 0 ∧ KI P kind (g + 1) x ∧ (0 < g → g < ng P - 1 → ¬ isCor (hulC P (hSide kind)) g)), ∀ hJ : XInv τ P hs tx ch, ∀ (H : Heap) (locs : List Loc) (ls : Array Slot), wx LX Y τ ss AA H locs → lv_has ls 15 [(0, .ref (Y.2.1 (0))), (1, .int (iI (kind))), (2, .int (iI (ng P))), (3, .int (iI (kinksA P kind))), (4, .int (iI (sg))), (5, .int (iI (1))), (6, .int (iI (x))), (7, .int (iI (g))), (8, .long (lI (byA P kind g)))] → W pp l ee { frames := 8, cells := 0, slots := 0, locals := 192 } ss mm ([.ref (Y.2.1 (0)), .int (iI (kind))] : List Value).toArray bw mt cd H locs 0 0 ZZ (F0 mm 110 ls [.int (iI (ik))]) := by
                  intro ik τ hik hJ H locs ls X hl
                  refine lv_istore (lv' := [(10, .int (iI (ik))), (0, .ref (Y.2.1 (0))), (1, .int (iI (kind))), (2, .int (iI (ng P))), (3, .int (iI (kinksA P kind))), (4, .int (iI (sg))), (5, .int (iI (1))), (6, .int (iI (x))), (7, .int (iI (g))), (8, .long (lI (byA P kind g)))]) hx hb dL_bent_110 hl (by decide) rfl (fun ls hl => ?_)
                  refine lv_iload hx hb dL_bent_112 (lv_at hl 5 rfl) ?_
                  refine g_i2l G (by omega) dL_bent_114 ?_
                  refine lv_lload hx hb dL_bent_115 (lv_at hl 9 rfl) ?_
                  refine g_lmul G dL_bent_117 ?_
                  refine lv_lconst (v := lI 0) hx hb dL_bent_118 (by decide +kernel) ?_
                  refine g_lif_gt (tgt := 152) G dL_bent_119 dL_bent_120 (by decide) (by omega) (by omega) (fun h119 => ?_) (fun h119 => ?_)
                  ·
                    exact absurd h119 (by omega)
                  ·
                    refine lv_lload hx hb dL_bent_123 (lv_at hl 9 rfl) ?_
                    refine lv_lconst (v := lI 0) hx hb dL_bent_125 (by decide +kernel) ?_
                    refine g_lif_eq (tgt := 148) G dL_bent_126 dL_bent_127 (by decide) (by omega) (by omega) (fun h126 => ?_) (fun h126 => ?_)
                    ·
                      refine lv_iconst (v := iI 1) hx hb dL_bent_148 rfl ?_
                      refine lv_goto (tgt := 153) hx hb dL_bent_149 (by decide) ?_
                      refine lv_istore (lv' := [(5, .int (iI (1))), (10, .int (iI (ik))), (0, .ref (Y.2.1 (0))), (1, .int (iI (kind))), (2, .int (iI (ng P))), (3, .int (iI (kinksA P kind))), (4, .int (iI (sg))), (6, .int (iI (x))), (7, .int (iI (g))), (8, .long (lI (byA P kind g)))]) hx hb dL_bent_153 hl (by decide) rfl (fun ls hl => ?_)
                      have jo_295 : ∀ (τ : Mem), ∀ hJ : XInv τ P hs tx ch, ∀ (H : Heap) (locs : List Loc) (ls : Array Slot), wx LX Y τ ss AA H locs → lv_has ls 15 [(0, .ref (Y.2.1 (0))), (1, .int (iI (kind))), (2, .int (iI (ng P))), (3, .int (iI (kinksA P kind))), (4, .int (iI (sg))), (5, .int (iI (1))), (6, .int (iI (x))), (7, .int (iI (g))), (10, .int (iI (ik)))] → W pp l ee { frames := 8, cells := 0, slots := 0, locals := 192 } ss mm ([.ref (Y.2.1 (0)), .int (iI (kind))] : List Value).toArray bw mt cd H locs 0 0 ZZ (F0 mm 295 ls []) := by
                        intro τ hJ H locs ls X hl
                        refine lv_iload hx hb dL_bent_295 (lv_at hl 6 rfl) ?_
                        refine lv_iload hx hb dL_bent_297 (lv_at hl 8 rfl) ?_
                        refine g_if_eq (tgt := 306) G dL_bent_299 (by decide) (by omega) (fun h299 => ?_) (fun h299 => ?_)
                        ·
                          have hKn : KI P kind (g + 1) (x + 0) := by rw [Int.add_zero]; exact (hik.resolve_left (fun q => by omega)).2.1
                          refine lv_iconst (v := iI 0) hx hb dL_bent_306 rfl ?_
                          refine g_iadd G dL_bent_307 ?_
                          refine lv_istore (lv' := [(6, .int (iI ((x + 0)))), (0, .ref (Y.2.1 (0))), (1, .int (iI (kind))), (2, .int (iI (ng P))), (3, .int (iI (kinksA P kind))), (4, .int (iI (sg))), (5, .int (iI (1))), (7, .int (iI (g))), (10, .int (iI (ik)))]) hx hb dL_bent_308 hl (by decide) rfl (fun ls hl => ?_)
                          refine lv_iinc (v := iI (g + 1)) (lv' := [(7, .int (iI ((g + 1)))), (6, .int (iI ((x + 0)))), (0, .ref (Y.2.1 (0))), (1, .int (iI (kind))), (2, .int (iI (ng P))), (3, .int (iI (kinksA P kind))), (4, .int (iI (sg))), (5, .int (iI (1))), (10, .int (iI (ik)))]) hx hb dL_bent_310 hl (k := 7) rfl (iI_add _ _) (by decide) rfl (fun ls hl => ?_)
                          refine lv_goto (tgt := 67) hx hb dL_bent_313 (by decide) ?_
                          exact ih_67 ((g + 1)) ((x + 0)) (τ) (by omega) hKn (by assumption) (by omega) _ _ _ X (lv_sub hl [2, 3, 4, 5, 6, 7, 1, 0] rfl)
                        ·
                          have hKn : KI P kind (g + 1) (x + 1) := (hik.resolve_right (fun q => by omega)).2.1
                          refine lv_iconst (v := iI 1) hx hb dL_bent_302 rfl ?_
                          refine lv_goto (tgt := 307) hx hb dL_bent_303 (by decide) ?_
                          refine g_iadd G dL_bent_307 ?_
                          refine lv_istore (lv' := [(6, .int (iI ((x + 1)))), (0, .ref (Y.2.1 (0))), (1, .int (iI (kind))), (2, .int (iI (ng P))), (3, .int (iI (kinksA P kind))), (4, .int (iI (sg))), (5, .int (iI (1))), (7, .int (iI (g))), (10, .int (iI (ik)))]) hx hb dL_bent_308 hl (by decide) rfl (fun ls hl => ?_)
                          refine lv_iinc (v := iI (g + 1)) (lv' := [(7, .int (iI ((g + 1)))), (6, .int (iI ((x + 1)))), (0, .ref (Y.2.1 (0))), (1, .int (iI (kind))), (2, .int (iI (ng P))), (3, .int (iI (kinksA P kind))), (4, .int (iI (sg))), (5, .int (iI (1))), (10, .int (iI (ik)))]) hx hb dL_bent_310 hl (k := 7) rfl (iI_add _ _) (by decide) rfl (fun ls hl => ?_)
                          refine lv_goto (tgt := 67) hx hb dL_bent_313 (by decide) ?_
                          exact ih_67 ((g + 1)) ((x + 1)) (τ) (by omega) hKn (by assumption) (by omega) _ _ _ X (lv_sub hl [2, 3, 4, 5, 6, 7, 1, 0] rfl)
                      refine lv_iload hx hb dL_bent_155 (lv_at hl 0 rfl) ?_
                      refine g_if_eq (tgt := 295) G dL_bent_157 (by decide) (by omega) (fun h157 => ?_) (fun h157 => ?_)
                      ·
                        exact False.elim (by omega)
                      ·
                        refine lv_iload hx hb dL_bent_160 (lv_at hl 8 rfl) ?_
                        refine g_if_le (tgt := 295) G dL_bent_162 (by decide) (by omega) (fun h162 => ?_) (fun h162 => ?_)
                        ·
                          exact jo_295 (τ) (by assumption) _ _ _ X (lv_sub hl [2, 3, 4, 5, 6, 0, 7, 8, 1] rfl)
                        ·
                          refine lv_iload hx hb dL_bent_165 (lv_at hl 8 rfl) ?_
                          refine lv_iload_n hx hb dL_bent_167 rfl (lv_at hl 4 rfl) ?_
                          refine lv_iconst (v := iI 1) hx hb dL_bent_168 rfl ?_
                          refine g_isub G dL_bent_169 ?_
                          refine g_icmp_ge (tgt := 295) G dL_bent_170 (by decide) (by omega) (by omega) (fun h170 => ?_) (fun h170 => ?_)
                          ·
                            exact jo_295 (τ) (by assumption) _ _ _ X (lv_sub hl [2, 3, 4, 5, 6, 0, 7, 8, 1] rfl)
                          ·
                            refine lv_aload_n hx hb dL_bent_173 rfl (lv_at hl 2 rfl) ?_
                            refine lv_iload_n hx hb dL_bent_174 rfl (lv_at hl 3 rfl) ?_
                            refine lv_iload hx hb dL_bent_175 (lv_at hl 8 rfl) ?_
                            refine lv_iconst (v := iI 1) hx hb dL_bent_177 rfl ?_
                            refine g_isub G dL_bent_178 ?_
                            refine g_callSl G X (rest := []) (As := [.ref (Y.2.1 (0)), .int (iI (kind)), .int (iI ((g - 1)))]) (t_L_step l Y (τ) P hs tx ch (kind) ((g - 1)) (by first | assumption | omega) (by first | assumption | omega) (by first | assumption | omega)) (va_cwS 3 hts gL_bent_L_step rfl rfl rfl (by decide +kernel) ⟨Nat.le_of_ble_eq_true rfl, Nat.le_of_ble_eq_true rfl⟩) rfl hl.1 rfl (Nat.le_of_ble_eq_true rfl) dL_bent_179 ⟨Nat.le_refl _, Nat.le_refl _⟩ (fun z179 u179 H locs hq179 X => ?_)
                            refine g_topl (z' := stepA P kind (g - 1)) hq179.1 ?_
                            have hI179 := hq179.2
                            have hbd := bent_bd hok hl12 (kind := kind) (g := g) hk (by omega) (by omega)
                            have hbdr := bd_rg hok hl12 (kind := kind) (g := g) (by omega) (by omega) (by omega)
                            have hg1 := gin_rg hok hl12 (g := g + 1) (by omega)
                            have hg2 := gin_rg hok hl12 (g := g) (by omega)
                            have hg3 := gin_rg hok hl12 (g := g - 1) (by omega)
                            have hbd1 : isCor (hulC P (hSide kind)) g → 0 < sg * (bdB P kind g - bdA P kind g) := fun q => by { have r := hbd.1 q; rw [hs_of hsg] at r; exact r }
                            refine lv_aload_n hx hb dL_bent_182 rfl (lv_at hl 2 rfl) ?_
                            refine lv_iload hx hb dL_bent_183 (lv_at hl 8 rfl) ?_
                            refine lv_iconst (v := iI 1) hx hb dL_bent_185 rfl ?_
                            refine g_iadd G dL_bent_186 ?_
                            refine lv_iconst (v := iI 0) hx hb dL_bent_187 rfl ?_
                            refine g_callVi G X (rest := [.long (lI ((stepA P kind (g - 1))))]) (As := [.int (iI ((g + 1))), .int (iI (0))]) (t_X7_groupInfo l Y (u179) P hs tx ch ((g + 1)) (0) (by first | assumption | omega) (by first | assumption | omega) (by first | assumption | omega)) (cwV 2 hts gL_bent_X7_groupInfo rfl rfl rfl (by decide +kernel) ⟨Nat.le_of_ble_eq_true rfl, Nat.le_of_ble_eq_true rfl⟩) (k := 0) (Nat.le_of_ble_eq_true rfl) rfl rfl rfl rfl hl.1 rfl (Nat.le_of_ble_eq_true rfl) dL_bent_188 ⟨Nat.le_refl _, Nat.le_refl _⟩ (fun z188 u188 H locs hq188 X => ?_)
                            rw [hq188.1] at X
                            have hq188 := hq188.2
                            try dsimp only at hq188
                            refine g_topi (z' := ginA P (g + 1) 0) hq188 ?_
                            refine lv_aload_n hx hb dL_bent_191 rfl (lv_at hl 2 rfl) ?_
                            refine lv_iload hx hb dL_bent_192 (lv_at hl 8 rfl) ?_
                            refine lv_iconst (v := iI 0) hx hb dL_bent_194 rfl ?_
                            refine g_callVi G X (rest := [.int (iI ((ginA P (g + 1) 0))), .long (lI ((stepA P kind (g - 1))))]) (As := [.int (iI (g)), .int (iI (0))]) (t_X7_groupInfo l Y (u179) P hs tx ch (g) (0) (by first | assumption | omega) (by first | assumption | omega) (by first | assumption | omega)) (cwV 2 hts gL_bent_X7_groupInfo rfl rfl rfl (by decide +kernel) ⟨Nat.le_of_ble_eq_true rfl, Nat.le_of_ble_eq_true rfl⟩) (k := 0) (Nat.le_of_ble_eq_true rfl) rfl rfl rfl rfl hl.1 rfl (Nat.le_of_ble_eq_true rfl) dL_bent_195 ⟨Nat.le_refl _, Nat.le_refl _⟩ (fun z195 u195 H locs hq195 X => ?_)
                            rw [hq195.1] at X
                            have hq195 := hq195.2
                            try dsimp only at hq195
                            refine g_topi (z' := ginA P g 0) hq195 ?_
                            refine g_isub G dL_bent_198 ?_
                            refine g_i2l G (by omega) dL_bent_199 ?_
                            refine g_lmul G dL_bent_200 ?_
                            refine lv_aload_n hx hb dL_bent_201 rfl (lv_at hl 2 rfl) ?_
                            refine lv_iload_n hx hb dL_bent_202 rfl (lv_at hl 3 rfl) ?_
                            refine lv_iload hx hb dL_bent_203 (lv_at hl 8 rfl) ?_
                            refine lv_iconst (v := iI 1) hx hb dL_bent_205 rfl ?_
                            refine g_iadd G dL_bent_206 ?_
                            refine lv_iconst (v := iI 1) hx hb dL_bent_207 rfl ?_
                            refine g_callVl G X (rest := [.long (lI (((stepA P kind (g - 1)) * ((ginA P (g + 1) 0) - (ginA P g 0)))))]) (As := [.int (iI (kind)), .int (iI ((g + 1))), .int (iI (1))]) (t_X7_fit l Y (u179) P hs tx ch (kind) ((g + 1)) (1) (by first | assumption | omega) (by first | assumption | omega) (by first | assumption | omega) (by first | assumption | omega)) (cwV 3 hts gL_bent_X7_fit rfl rfl rfl (by decide +kernel) ⟨Nat.le_of_ble_eq_true rfl, Nat.le_of_ble_eq_true rfl⟩) (k := 0) (Nat.le_of_ble_eq_true rfl) rfl rfl rfl rfl hl.1 rfl (Nat.le_of_ble_eq_true rfl) dL_bent_208 ⟨Nat.le_refl _, Nat.le_refl _⟩ (fun z208 u208 H locs hq208 X => ?_)
                            refine g_topl (z' := fitA P kind (g + 1) 1) hq208.1 ?_
                            have hI208 := hq208.2
                            refine g_lmul G dL_bent_211 ?_
                            refine g_topl (z' := bdA P kind g) rfl ?_
                            refine lv_lstore (lv' := [(11, .long (lI ((bdA P kind g)))), (5, .int (iI (1))), (10, .int (iI (ik))), (0, .ref (Y.2.1 (0))), (1, .int (iI (kind))), (2, .int (iI (ng P))), (3, .int (iI (kinksA P kind))), (4, .int (iI (sg))), (6, .int (iI (x))), (7, .int (iI (g))), (8, .long (lI (byA P kind g)))]) hx hb dL_bent_212 hl (by decide) rfl (fun ls hl => ?_)
                            refine lv_aload_n hx hb dL_bent_214 rfl (lv_at hl 3 rfl) ?_
                            refine lv_iload_n hx hb dL_bent_215 rfl (lv_at hl 4 rfl) ?_
                            refine lv_iload hx hb dL_bent_216 (lv_at hl 9 rfl) ?_
                            refine g_callSl G X (rest := []) (As := [.ref (Y.2.1 (0)), .int (iI (kind)), .int (iI (g))]) (t_L_step l Y (u208) P hs tx ch (kind) (g) (by first | assumption | omega) (by first | assumption | omega) (by first | assumption | omega)) (va_cwS 3 hts gL_bent_L_step rfl rfl rfl (by decide +kernel) ⟨Nat.le_of_ble_eq_true rfl, Nat.le_of_ble_eq_true rfl⟩) rfl hl.1 rfl (Nat.le_of_ble_eq_true rfl) dL_bent_218 ⟨Nat.le_refl _, Nat.le_refl _⟩ (fun z218 u218 H locs hq218 X => ?_)
                            refine g_topl (z' := stepA P kind g) hq218.1 ?_
                            have hI218 := hq218.2
                            refine lv_aload_n hx hb dL_bent_221 rfl (lv_at hl 3 rfl) ?_
                            refine lv_iload hx hb dL_bent_222 (lv_at hl 9 rfl) ?_
                            refine lv_iconst (v := iI 0) hx hb dL_bent_224 rfl ?_
                            refine g_callVi G X (rest := [.long (lI ((stepA P kind g)))]) (As := [.int (iI (g)), .int (iI (0))]) (t_X7_groupInfo l Y (u218) P hs tx ch (g) (0) (by first | assumption | omega) (by first | assumption | omega) (by first | assumption | omega)) (cwV 2 hts gL_bent_X7_groupInfo rfl rfl rfl (by decide +kernel) ⟨Nat.le_of_ble_eq_true rfl, Nat.le_of_ble_eq_true rfl⟩) (k := 0) (Nat.le_of_ble_eq_true rfl) rfl rfl rfl rfl hl.1 rfl (Nat.le_of_ble_eq_true rfl) dL_bent_225 ⟨Nat.le_refl _, Nat.le_refl _⟩ (fun z225 u225 H locs hq225 X => ?_)
                            rw [hq225.1] at X
                            have hq225 := hq225.2
                            try dsimp only at hq225
                            refine g_topi (z' := ginA P g 0) hq225 ?_
                            refine lv_aload_n hx hb dL_bent_228 rfl (lv_at hl 3 rfl) ?_
                            refine lv_iload hx hb dL_bent_229 (lv_at hl 9 rfl) ?_
                            refine lv_iconst (v := iI 1) hx hb dL_bent_231 rfl ?_
                            refine g_isub G dL_bent_232 ?_
                            refine lv_iconst (v := iI 0) hx hb dL_bent_233 rfl ?_
                            refine g_callVi G X (rest := [.int (iI ((ginA P g 0))), .long (lI ((stepA P kind g)))]) (As := [.int (iI ((g - 1))), .int (iI (0))]) (t_X7_groupInfo l Y (u218) P hs tx ch ((g - 1)) (0) (by first | assumption | omega) (by first | assumption | omega) (by first | assumption | omega)) (cwV 2 hts gL_bent_X7_groupInfo rfl rfl rfl (by decide +kernel) ⟨Nat.le_of_ble_eq_true rfl, Nat.le_of_ble_eq_true rfl⟩) (k := 0) (Nat.le_of_ble_eq_true rfl) rfl rfl rfl rfl hl.1 rfl (Nat.le_of_ble_eq_true rfl) dL_bent_234 ⟨Nat.le_refl _, Nat.le_refl _⟩ (fun z234 u234 H locs hq234 X => ?_)
                            rw [hq234.1] at X
                            have hq234 := hq234.2
                            try dsimp only at hq234
                            refine g_topi (z' := ginA P (g - 1) 0) hq234 ?_
                            refine g_isub G dL_bent_237 ?_
                            refine g_i2l G (by omega) dL_bent_238 ?_
                            refine g_lmul G dL_bent_239 ?_
                            refine lv_aload_n hx hb dL_bent_240 rfl (lv_at hl 3 rfl) ?_
                            refine lv_iload_n hx hb dL_bent_241 rfl (lv_at hl 4 rfl) ?_
                            refine lv_iload hx hb dL_bent_242 (lv_at hl 9 rfl) ?_
                            refine lv_iconst (v := iI 1) hx hb dL_bent_244 rfl ?_
                            refine g_isub G dL_bent_245 ?_
                            refine lv_iconst (v := iI 1) hx hb dL_bent_246 rfl ?_
                            refine g_callVl G X (rest := [.long (lI (((stepA P kind g) * ((ginA P g 0) - (ginA P (g - 1) 0)))))]) (As := [.int (iI (kind)), .int (iI ((g - 1))), .int (iI (1))]) (t_X7_fit l Y (u218) P hs tx ch (kind) ((g - 1)) (1) (by first | assumption | omega) (by first | assumption | omega) (by first | assumption | omega) (by first | assumption | omega)) (cwV 3 hts gL_bent_X7_fit rfl rfl rfl (by decide +kernel) ⟨Nat.le_of_ble_eq_true rfl, Nat.le_of_ble_eq_true rfl⟩) (k := 0) (Nat.le_of_ble_eq_true rfl) rfl rfl rfl rfl hl.1 rfl (Nat.le_of_ble_eq_true rfl) dL_bent_247 ⟨Nat.le_refl _, Nat.le_refl _⟩ (fun z247 u247 H locs hq247 X => ?_)
                            refine g_topl (z' := fitA P kind (g - 1) 1) hq247.1 ?_
                            have hI247 := hq247.2
                            refine g_lmul G dL_bent_250 ?_
                            refine g_topl (z' := bdB P kind g) rfl ?_
                            refine lv_lstore (lv' := [(13, .long (lI ((bdB P kind g)))), (11, .long (lI ((bdA P kind g)))), (5, .int (iI (1))), (10, .int (iI (ik))), (0, .ref (Y.2.1 (0))), (1, .int (iI (kind))), (2, .int (iI (ng P))), (3, .int (iI (kinksA P kind))), (4, .int (iI (sg))), (6, .int (iI (x))), (7, .int (iI (g))), (8, .long (lI (byA P kind g)))]) hx hb dL_bent_251 hl (by decide) rfl (fun ls hl => ?_)
                            refine lv_iload hx hb dL_bent_253 (lv_at hl 3 rfl) ?_
                            refine g_if_eq (tgt := 280) G dL_bent_255 (by decide) (by omega) (fun h255 => ?_) (fun h255 => ?_)
                            ·
                              have hbc := hbd.2 ((hik.resolve_left (fun q => by omega)).2.2 (by omega) (by omega))
                              refine lv_lload hx hb dL_bent_280 (lv_at hl 0 rfl) ?_
                              refine lv_lload hx hb dL_bent_282 (lv_at hl 1 rfl) ?_
                              refine g_lif_ne (tgt := 292) G dL_bent_284 dL_bent_285 (by decide) (by omega) (by omega) (fun h284 => ?_) (fun h284 => ?_)
                              ·
                                exact absurd h284 (by omega)
                              ·
                                refine lv_iconst (v := iI 1) hx hb dL_bent_288 rfl ?_
                                refine lv_goto (tgt := 293) hx hb dL_bent_289 (by decide) ?_
                                refine lv_istore (lv' := [(5, .int (iI (1))), (13, .long (lI ((bdB P kind g)))), (11, .long (lI ((bdA P kind g)))), (10, .int (iI (ik))), (0, .ref (Y.2.1 (0))), (1, .int (iI (kind))), (2, .int (iI (ng P))), (3, .int (iI (kinksA P kind))), (4, .int (iI (sg))), (6, .int (iI (x))), (7, .int (iI (g))), (8, .long (lI (byA P kind g)))]) hx hb dL_bent_293 hl (by decide) rfl (fun ls hl => ?_)
                                exact jo_295 (u247) (by assumption) _ _ _ X (lv_sub hl [4, 5, 6, 7, 8, 0, 9, 10, 3] rfl)
                            ·
                              have hbc := hbd1 (hik.resolve_right (fun q => h255 q.1)).2.2.1
                              have hbs := sg_rg (sg := sg) (x := bdB P kind g - bdA P kind g) (A := 3200000000000000) (by omega) (by omega) (by omega)
                              refine lv_iload hx hb dL_bent_258 (lv_at hl 8 rfl) ?_
                              refine g_i2l G (by omega) dL_bent_260 ?_
                              refine lv_lload hx hb dL_bent_261 (lv_at hl 0 rfl) ?_
                              refine lv_lload hx hb dL_bent_263 (lv_at hl 1 rfl) ?_
                              refine g_lsub G dL_bent_265 ?_
                              refine g_lmul G dL_bent_266 ?_
                              refine lv_lconst (v := lI 0) hx hb dL_bent_267 (by decide +kernel) ?_
                              refine g_lif_le (tgt := 276) G dL_bent_268 dL_bent_269 (by decide) (by omega) (by omega) (fun h268 => ?_) (fun h268 => ?_)
                              ·
                                exact absurd h268 (by omega)
                              ·
                                refine lv_iconst (v := iI 1) hx hb dL_bent_272 rfl ?_
                                refine lv_goto (tgt := 293) hx hb dL_bent_273 (by decide) ?_
                                refine lv_istore (lv' := [(5, .int (iI (1))), (13, .long (lI ((bdB P kind g)))), (11, .long (lI ((bdA P kind g)))), (10, .int (iI (ik))), (0, .ref (Y.2.1 (0))), (1, .int (iI (kind))), (2, .int (iI (ng P))), (3, .int (iI (kinksA P kind))), (4, .int (iI (sg))), (6, .int (iI (x))), (7, .int (iI (g))), (8, .long (lI (byA P kind g)))]) hx hb dL_bent_293 hl (by decide) rfl (fun ls hl => ?_)
                                exact jo_295 (u247) (by assumption) _ _ _ X (lv_sub hl [4, 5, 6, 7, 8, 0, 9, 10, 3] rfl)
                    ·
                      have hnz := bent_nz hok hl12 (kind := kind) (g := g) hk (by omega) (by omega)
                      refine lv_iload hx hb dL_bent_130 (lv_at hl 8 rfl) ?_
                      refine g_if_le (tgt := 152) G dL_bent_132 (by decide) (by omega) (fun h132 => ?_) (fun h132 => ?_)
                      ·
                        exact absurd h132 (by omega)
                      ·
                        refine lv_iload hx hb dL_bent_135 (lv_at hl 8 rfl) ?_
                        refine lv_iload_n hx hb dL_bent_137 rfl (lv_at hl 3 rfl) ?_
                        refine lv_iconst (v := iI 1) hx hb dL_bent_138 rfl ?_
                        refine g_isub G dL_bent_139 ?_
                        refine g_icmp_ge (tgt := 152) G dL_bent_140 (by decide) (by omega) (by omega) (fun h140 => ?_) (fun h140 => ?_)
                        ·
                          exact absurd h140 (by omega)
                        ·
                          refine lv_iload hx hb dL_bent_143 (lv_at hl 0 rfl) ?_
                          refine g_if_ne (tgt := 152) G dL_bent_145 (by decide) (by omega) (fun h145 => ?_) (fun h145 => ?_)
                          ·
                            exact absurd (hik.resolve_right (fun q => h145 q.1)).2.2.1 hnz.2.2
                          ·
                            refine lv_iconst (v := iI 1) hx hb dL_bent_148 rfl ?_
                            refine lv_goto (tgt := 153) hx hb dL_bent_149 (by decide) ?_
                            refine lv_istore (lv' := [(5, .int (iI (1))), (10, .int (iI (ik))), (0, .ref (Y.2.1 (0))), (1, .int (iI (kind))), (2, .int (iI (ng P))), (3, .int (iI (kinksA P kind))), (4, .int (iI (sg))), (6, .int (iI (x))), (7, .int (iI (g))), (8, .long (lI (byA P kind g)))]) hx hb dL_bent_153 hl (by decide) rfl (fun ls hl => ?_)
                            have jo_295 : ∀ (τ : Mem), ∀ hJ : XInv τ P hs tx ch, ∀ (H : Heap) (locs : List Loc) (ls : Array Slot), wx LX Y τ ss AA H locs → lv_has ls 15 [(0, .ref (Y.2.1 (0))), (1, .int (iI (kind))), (2, .int (iI (ng P))), (3, .int (iI (kinksA P kind))), (4, .int (iI (sg))), (5, .int (iI (1))), (6, .int (iI (x))), (7, .int (iI (g))), (10, .int (iI (ik)))] → W pp l ee { frames := 8, cells := 0, slots := 0, locals := 192 } ss mm ([.ref (Y.2.1 (0)), .int (iI (kind))] : List Value).toArray bw mt cd H locs 0 0 ZZ (F0 mm 295 ls []) := by
                              intro τ hJ H locs ls X hl
                              refine lv_iload hx hb dL_bent_295 (lv_at hl 6 rfl) ?_
                              refine lv_iload hx hb dL_bent_297 (lv_at hl 8 rfl) ?_
                              refine g_if_eq (tgt := 306) G dL_bent_299 (by decide) (by omega) (fun h299 => ?_) (fun h299 => ?_)
                              ·
                                have hKn : KI P kind (g + 1) (x + 0) := by rw [Int.add_zero]; exact (hik.resolve_left (fun q => by omega)).2.1
                                refine lv_iconst (v := iI 0) hx hb dL_bent_306 rfl ?_
                                refine g_iadd G dL_bent_307 ?_
                                refine lv_istore (lv' := [(6, .int (iI ((x + 0)))), (0, .ref (Y.2.1 (0))), (1, .int (iI (kind))), (2, .int (iI (ng P))), (3, .int (iI (kinksA P kind))), (4, .int (iI (sg))), (5, .int (iI (1))), (7, .int (iI (g))), (10, .int (iI (ik)))]) hx hb dL_bent_308 hl (by decide) rfl (fun ls hl => ?_)
                                refine lv_iinc (v := iI (g + 1)) (lv' := [(7, .int (iI ((g + 1)))), (6, .int (iI ((x + 0)))), (0, .ref (Y.2.1 (0))), (1, .int (iI (kind))), (2, .int (iI (ng P))), (3, .int (iI (kinksA P kind))), (4, .int (iI (sg))), (5, .int (iI (1))), (10, .int (iI (ik)))]) hx hb dL_bent_310 hl (k := 7) rfl (iI_add _ _) (by decide) rfl (fun ls hl => ?_)
                                refine lv_goto (tgt := 67) hx hb dL_bent_313 (by decide) ?_
                                exact ih_67 ((g + 1)) ((x + 0)) (τ) (by omega) hKn (by assumption) (by omega) _ _ _ X (lv_sub hl [2, 3, 4, 5, 6, 7, 1, 0] rfl)
                              ·
                                have hKn : KI P kind (g + 1) (x + 1) := (hik.resolve_right (fun q => by omega)).2.1
                                refine lv_iconst (v := iI 1) hx hb dL_bent_302 rfl ?_
                                refine lv_goto (tgt := 307) hx hb dL_bent_303 (by decide) ?_
                                refine g_iadd G dL_bent_307 ?_
                                refine lv_istore (lv' := [(6, .int (iI ((x + 1)))), (0, .ref (Y.2.1 (0))), (1, .int (iI (kind))), (2, .int (iI (ng P))), (3, .int (iI (kinksA P kind))), (4, .int (iI (sg))), (5, .int (iI (1))), (7, .int (iI (g))), (10, .int (iI (ik)))]) hx hb dL_bent_308 hl (by decide) rfl (fun ls hl => ?_)
                                refine lv_iinc (v := iI (g + 1)) (lv' := [(7, .int (iI ((g + 1)))), (6, .int (iI ((x + 1)))), (0, .ref (Y.2.1 (0))), (1, .int (iI (kind))), (2, .int (iI (ng P))), (3, .int (iI (kinksA P kind))), (4, .int (iI (sg))), (5, .int (iI (1))), (10, .int (iI (ik)))]) hx hb dL_bent_310 hl (k := 7) rfl (iI_add _ _) (by decide) rfl (fun ls hl => ?_)
                                refine lv_goto (tgt := 67) hx hb dL_bent_313 (by decide) ?_
                                exact ih_67 ((g + 1)) ((x + 1)) (τ) (by omega) hKn (by assumption) (by omega) _ _ _ X (lv_sub hl [2, 3, 4, 5, 6, 7, 1, 0] rfl)
                            refine lv_iload hx hb dL_bent_155 (lv_at hl 0 rfl) ?_
                            refine g_if_eq (tgt := 295) G dL_bent_157 (by decide) (by omega) (fun h157 => ?_) (fun h157 => ?_)
                            ·
                              exact False.elim (by omega)
                            ·
                              refine lv_iload hx hb dL_bent_160 (lv_at hl 8 rfl) ?_
                              refine g_if_le (tgt := 295) G dL_bent_162 (by decide) (by omega) (fun h162 => ?_) (fun h162 => ?_)
                              ·
                                exact jo_295 (τ) (by assumption) _ _ _ X (lv_sub hl [2, 3, 4, 5, 6, 0, 7, 8, 1] rfl)
                              ·
                                refine lv_iload hx hb dL_bent_165 (lv_at hl 8 rfl) ?_
                                refine lv_iload_n hx hb dL_bent_167 rfl (lv_at hl 4 rfl) ?_
                                refine lv_iconst (v := iI 1) hx hb dL_bent_168 rfl ?_
                                refine g_isub G dL_bent_169 ?_
                                refine g_icmp_ge (tgt := 295) G dL_bent_170 (by decide) (by omega) (by omega) (fun h170 => ?_) (fun h170 => ?_)
                                ·
                                  exact jo_295 (τ) (by assumption) _ _ _ X (lv_sub hl [2, 3, 4, 5, 6, 0, 7, 8, 1] rfl)
                                ·
                                  refine lv_aload_n hx hb dL_bent_173 rfl (lv_at hl 2 rfl) ?_
                                  refine lv_iload_n hx hb dL_bent_174 rfl (lv_at hl 3 rfl) ?_
                                  refine lv_iload hx hb dL_bent_175 (lv_at hl 8 rfl) ?_
                                  refine lv_iconst (v := iI 1) hx hb dL_bent_177 rfl ?_
                                  refine g_isub G dL_bent_178 ?_
                                  refine g_callSl G X (rest := []) (As := [.ref (Y.2.1 (0)), .int (iI (kind)), .int (iI ((g - 1)))]) (t_L_step l Y (τ) P hs tx ch (kind) ((g - 1)) (by first | assumption | omega) (by first | assumption | omega) (by first | assumption | omega)) (va_cwS 3 hts gL_bent_L_step rfl rfl rfl (by decide +kernel) ⟨Nat.le_of_ble_eq_true rfl, Nat.le_of_ble_eq_true rfl⟩) rfl hl.1 rfl (Nat.le_of_ble_eq_true rfl) dL_bent_179 ⟨Nat.le_refl _, Nat.le_refl _⟩ (fun z179 u179 H locs hq179 X => ?_)
                                  refine g_topl (z' := stepA P kind (g - 1)) hq179.1 ?_
                                  have hI179 := hq179.2
                                  have hbd := bent_bd hok hl12 (kind := kind) (g := g) hk (by omega) (by omega)
                                  have hbdr := bd_rg hok hl12 (kind := kind) (g := g) (by omega) (by omega) (by omega)
                                  have hg1 := gin_rg hok hl12 (g := g + 1) (by omega)
                                  have hg2 := gin_rg hok hl12 (g := g) (by omega)
                                  have hg3 := gin_rg hok hl12 (g := g - 1) (by omega)
                                  have hbd1 : isCor (hulC P (hSide kind)) g → 0 < sg * (bdB P kind g - bdA P kind g) := fun q => by { have r := hbd.1 q; rw [hs_of hsg] at r; exact r }
                                  refine lv_aload_n hx hb dL_bent_182 rfl (lv_at hl 2 rfl) ?_
                                  refine lv_iload hx hb dL_bent_183 (lv_at hl 8 rfl) ?_
                                  refine lv_iconst (v := iI 1) hx hb dL_bent_185 rfl ?_
                                  refine g_iadd G dL_bent_186 ?_
                                  refine lv_iconst (v := iI 0) hx hb dL_bent_187 rfl ?_
                                  refine g_callVi G X (rest := [.long (lI ((stepA P kind (g - 1))))]) (As := [.int (iI ((g + 1))), .int (iI (0))]) (t_X7_groupInfo l Y (u179) P hs tx ch ((g + 1)) (0) (by first | assumption | omega) (by first | assumption | omega) (by first | assumption | omega)) (cwV 2 hts gL_bent_X7_groupInfo rfl rfl rfl (by decide +kernel) ⟨Nat.le_of_ble_eq_true rfl, Nat.le_of_ble_eq_true rfl⟩) (k := 0) (Nat.le_of_ble_eq_true rfl) rfl rfl rfl rfl hl.1 rfl (Nat.le_of_ble_eq_true rfl) dL_bent_188 ⟨Nat.le_refl _, Nat.le_refl _⟩ (fun z188 u188 H locs hq188 X => ?_)
                                  rw [hq188.1] at X
                                  have hq188 := hq188.2
                                  try dsimp only at hq188
                                  refine g_topi (z' := ginA P (g + 1) 0) hq188 ?_
                                  refine lv_aload_n hx hb dL_bent_191 rfl (lv_at hl 2 rfl) ?_
                                  refine lv_iload hx hb dL_bent_192 (lv_at hl 8 rfl) ?_
                                  refine lv_iconst (v := iI 0) hx hb dL_bent_194 rfl ?_
                                  refine g_callVi G X (rest := [.int (iI ((ginA P (g + 1) 0))), .long (lI ((stepA P kind (g - 1))))]) (As := [.int (iI (g)), .int (iI (0))]) (t_X7_groupInfo l Y (u179) P hs tx ch (g) (0) (by first | assumption | omega) (by first | assumption | omega) (by first | assumption | omega)) (cwV 2 hts gL_bent_X7_groupInfo rfl rfl rfl (by decide +kernel) ⟨Nat.le_of_ble_eq_true rfl, Nat.le_of_ble_eq_true rfl⟩) (k := 0) (Nat.le_of_ble_eq_true rfl) rfl rfl rfl rfl hl.1 rfl (Nat.le_of_ble_eq_true rfl) dL_bent_195 ⟨Nat.le_refl _, Nat.le_refl _⟩ (fun z195 u195 H locs hq195 X => ?_)
                                  rw [hq195.1] at X
                                  have hq195 := hq195.2
                                  try dsimp only at hq195
                                  refine g_topi (z' := ginA P g 0) hq195 ?_
                                  refine g_isub G dL_bent_198 ?_
                                  refine g_i2l G (by omega) dL_bent_199 ?_
                                  refine g_lmul G dL_bent_200 ?_
                                  refine lv_aload_n hx hb dL_bent_201 rfl (lv_at hl 2 rfl) ?_
                                  refine lv_iload_n hx hb dL_bent_202 rfl (lv_at hl 3 rfl) ?_
                                  refine lv_iload hx hb dL_bent_203 (lv_at hl 8 rfl) ?_
                                  refine lv_iconst (v := iI 1) hx hb dL_bent_205 rfl ?_
                                  refine g_iadd G dL_bent_206 ?_
                                  refine lv_iconst (v := iI 1) hx hb dL_bent_207 rfl ?_
                                  refine g_callVl G X (rest := [.long (lI (((stepA P kind (g - 1)) * ((ginA P (g + 1) 0) - (ginA P g 0)))))]) (As := [.int (iI (kind)), .int (iI ((g + 1))), .int (iI (1))]) (t_X7_fit l Y (u179) P hs tx ch (kind) ((g + 1)) (1) (by first | assumption | omega) (by first | assumption | omega) (by first | assumption | omega) (by first | assumption | omega)) (cwV 3 hts gL_bent_X7_fit rfl rfl rfl (by decide +kernel) ⟨Nat.le_of_ble_eq_true rfl, Nat.le_of_ble_eq_true rfl⟩) (k := 0) (Nat.le_of_ble_eq_true rfl) rfl rfl rfl rfl hl.1 rfl (Nat.le_of_ble_eq_true rfl) dL_bent_208 ⟨Nat.le_refl _, Nat.le_refl _⟩ (fun z208 u208 H locs hq208 X => ?_)
                                  refine g_topl (z' := fitA P kind (g + 1) 1) hq208.1 ?_
                                  have hI208 := hq208.2
                                  refine g_lmul G dL_bent_211 ?_
                                  refine g_topl (z' := bdA P kind g) rfl ?_
                                  refine lv_lstore (lv' := [(11, .long (lI ((bdA P kind g)))), (5, .int (iI (1))), (10, .int (iI (ik))), (0, .ref (Y.2.1 (0))), (1, .int (iI (kind))), (2, .int (iI (ng P))), (3, .int (iI (kinksA P kind))), (4, .int (iI (sg))), (6, .int (iI (x))), (7, .int (iI (g))), (8, .long (lI (byA P kind g)))]) hx hb dL_bent_212 hl (by decide) rfl (fun ls hl => ?_)
                                  refine lv_aload_n hx hb dL_bent_214 rfl (lv_at hl 3 rfl) ?_
                                  refine lv_iload_n hx hb dL_bent_215 rfl (lv_at hl 4 rfl) ?_
                                  refine lv_iload hx hb dL_bent_216 (lv_at hl 9 rfl) ?_
                                  refine g_callSl G X (rest := []) (As := [.ref (Y.2.1 (0)), .int (iI (kind)), .int (iI (g))]) (t_L_step l Y (u208) P hs tx ch (kind) (g) (by first | assumption | omega) (by first | assumption | omega) (by first | assumption | omega)) (va_cwS 3 hts gL_bent_L_step rfl rfl rfl (by decide +kernel) ⟨Nat.le_of_ble_eq_true rfl, Nat.le_of_ble_eq_true rfl⟩) rfl hl.1 rfl (Nat.le_of_ble_eq_true rfl) dL_bent_218 ⟨Nat.le_refl _, Nat.le_refl _⟩ (fun z218 u218 H locs hq218 X => ?_)
                                  refine g_topl (z' := stepA P kind g) hq218.1 ?_
                                  have hI218 := hq218.2
                                  refine lv_aload_n hx hb dL_bent_221 rfl (lv_at hl 3 rfl) ?_
                                  refine lv_iload hx hb dL_bent_222 (lv_at hl 9 rfl) ?_
                                  refine lv_iconst (v := iI 0) hx hb dL_bent_224 rfl ?_
                                  refine g_callVi G X (rest := [.long (lI ((stepA P kind g)))]) (As := [.int (iI (g)), .int (iI (0))]) (t_X7_groupInfo l Y (u218) P hs tx ch (g) (0) (by first | assumption | omega) (by first | assumption | omega) (by first | assumption | omega)) (cwV 2 hts gL_bent_X7_groupInfo rfl rfl rfl (by decide +kernel) ⟨Nat.le_of_ble_eq_true rfl, Nat.le_of_ble_eq_true rfl⟩) (k := 0) (Nat.le_of_ble_eq_true rfl) rfl rfl rfl rfl hl.1 rfl (Nat.le_of_ble_eq_true rfl) dL_bent_225 ⟨Nat.le_refl _, Nat.le_refl _⟩ (fun z225 u225 H locs hq225 X => ?_)
                                  rw [hq225.1] at X
                                  have hq225 := hq225.2
                                  try dsimp only at hq225
                                  refine g_topi (z' := ginA P g 0) hq225 ?_
                                  refine lv_aload_n hx hb dL_bent_228 rfl (lv_at hl 3 rfl) ?_
                                  refine lv_iload hx hb dL_bent_229 (lv_at hl 9 rfl) ?_
                                  refine lv_iconst (v := iI 1) hx hb dL_bent_231 rfl ?_
                                  refine g_isub G dL_bent_232 ?_
                                  refine lv_iconst (v := iI 0) hx hb dL_bent_233 rfl ?_
                                  refine g_callVi G X (rest := [.int (iI ((ginA P g 0))), .long (lI ((stepA P kind g)))]) (As := [.int (iI ((g - 1))), .int (iI (0))]) (t_X7_groupInfo l Y (u218) P hs tx ch ((g - 1)) (0) (by first | assumption | omega) (by first | assumption | omega) (by first | assumption | omega)) (cwV 2 hts gL_bent_X7_groupInfo rfl rfl rfl (by decide +kernel) ⟨Nat.le_of_ble_eq_true rfl, Nat.le_of_ble_eq_true rfl⟩) (k := 0) (Nat.le_of_ble_eq_true rfl) rfl rfl rfl rfl hl.1 rfl (Nat.le_of_ble_eq_true rfl) dL_bent_234 ⟨Nat.le_refl _, Nat.le_refl _⟩ (fun z234 u234 H locs hq234 X => ?_)
                                  rw [hq234.1] at X
                                  have hq234 := hq234.2
                                  try dsimp only at hq234
                                  refine g_topi (z' := ginA P (g - 1) 0) hq234 ?_
                                  refine g_isub G dL_bent_237 ?_
                                  refine g_i2l G (by omega) dL_bent_238 ?_
                                  refine g_lmul G dL_bent_239 ?_
                                  refine lv_aload_n hx hb dL_bent_240 rfl (lv_at hl 3 rfl) ?_
                                  refine lv_iload_n hx hb dL_bent_241 rfl (lv_at hl 4 rfl) ?_
                                  refine lv_iload hx hb dL_bent_242 (lv_at hl 9 rfl) ?_
                                  refine lv_iconst (v := iI 1) hx hb dL_bent_244 rfl ?_
                                  refine g_isub G dL_bent_245 ?_
                                  refine lv_iconst (v := iI 1) hx hb dL_bent_246 rfl ?_
                                  refine g_callVl G X (rest := [.long (lI (((stepA P kind g) * ((ginA P g 0) - (ginA P (g - 1) 0)))))]) (As := [.int (iI (kind)), .int (iI ((g - 1))), .int (iI (1))]) (t_X7_fit l Y (u218) P hs tx ch (kind) ((g - 1)) (1) (by first | assumption | omega) (by first | assumption | omega) (by first | assumption | omega) (by first | assumption | omega)) (cwV 3 hts gL_bent_X7_fit rfl rfl rfl (by decide +kernel) ⟨Nat.le_of_ble_eq_true rfl, Nat.le_of_ble_eq_true rfl⟩) (k := 0) (Nat.le_of_ble_eq_true rfl) rfl rfl rfl rfl hl.1 rfl (Nat.le_of_ble_eq_true rfl) dL_bent_247 ⟨Nat.le_refl _, Nat.le_refl _⟩ (fun z247 u247 H locs hq247 X => ?_)
                                  refine g_topl (z' := fitA P kind (g - 1) 1) hq247.1 ?_
                                  have hI247 := hq247.2
                                  refine g_lmul G dL_bent_250 ?_
                                  refine g_topl (z' := bdB P kind g) rfl ?_
                                  refine lv_lstore (lv' := [(13, .long (lI ((bdB P kind g)))), (11, .long (lI ((bdA P kind g)))), (5, .int (iI (1))), (10, .int (iI (ik))), (0, .ref (Y.2.1 (0))), (1, .int (iI (kind))), (2, .int (iI (ng P))), (3, .int (iI (kinksA P kind))), (4, .int (iI (sg))), (6, .int (iI (x))), (7, .int (iI (g))), (8, .long (lI (byA P kind g)))]) hx hb dL_bent_251 hl (by decide) rfl (fun ls hl => ?_)
                                  refine lv_iload hx hb dL_bent_253 (lv_at hl 3 rfl) ?_
                                  refine g_if_eq (tgt := 280) G dL_bent_255 (by decide) (by omega) (fun h255 => ?_) (fun h255 => ?_)
                                  ·
                                    have hbc := hbd.2 ((hik.resolve_left (fun q => by omega)).2.2 (by omega) (by omega))
                                    refine lv_lload hx hb dL_bent_280 (lv_at hl 0 rfl) ?_
                                    refine lv_lload hx hb dL_bent_282 (lv_at hl 1 rfl) ?_
                                    refine g_lif_ne (tgt := 292) G dL_bent_284 dL_bent_285 (by decide) (by omega) (by omega) (fun h284 => ?_) (fun h284 => ?_)
                                    ·
                                      exact absurd h284 (by omega)
                                    ·
                                      refine lv_iconst (v := iI 1) hx hb dL_bent_288 rfl ?_
                                      refine lv_goto (tgt := 293) hx hb dL_bent_289 (by decide) ?_
                                      refine lv_istore (lv' := [(5, .int (iI (1))), (13, .long (lI ((bdB P kind g)))), (11, .long (lI ((bdA P kind g)))), (10, .int (iI (ik))), (0, .ref (Y.2.1 (0))), (1, .int (iI (kind))), (2, .int (iI (ng P))), (3, .int (iI (kinksA P kind))), (4, .int (iI (sg))), (6, .int (iI (x))), (7, .int (iI (g))), (8, .long (lI (byA P kind g)))]) hx hb dL_bent_293 hl (by decide) rfl (fun ls hl => ?_)
                                      exact jo_295 (u247) (by assumption) _ _ _ X (lv_sub hl [4, 5, 6, 7, 8, 0, 9, 10, 3] rfl)
                                  ·
                                    have hbc := hbd1 (hik.resolve_right (fun q => h255 q.1)).2.2.1
                                    have hbs := sg_rg (sg := sg) (x := bdB P kind g - bdA P kind g) (A := 3200000000000000) (by omega) (by omega) (by omega)
                                    refine lv_iload hx hb dL_bent_258 (lv_at hl 8 rfl) ?_
                                    refine g_i2l G (by omega) dL_bent_260 ?_
                                    refine lv_lload hx hb dL_bent_261 (lv_at hl 0 rfl) ?_
                                    refine lv_lload hx hb dL_bent_263 (lv_at hl 1 rfl) ?_
                                    refine g_lsub G dL_bent_265 ?_
                                    refine g_lmul G dL_bent_266 ?_
                                    refine lv_lconst (v := lI 0) hx hb dL_bent_267 (by decide +kernel) ?_
                                    refine g_lif_le (tgt := 276) G dL_bent_268 dL_bent_269 (by decide) (by omega) (by omega) (fun h268 => ?_) (fun h268 => ?_)
                                    ·
                                      exact absurd h268 (by omega)
                                    ·
                                      refine lv_iconst (v := iI 1) hx hb dL_bent_272 rfl ?_
                                      refine lv_goto (tgt := 293) hx hb dL_bent_273 (by decide) ?_
                                      refine lv_istore (lv' := [(5, .int (iI (1))), (13, .long (lI ((bdB P kind g)))), (11, .long (lI ((bdA P kind g)))), (10, .int (iI (ik))), (0, .ref (Y.2.1 (0))), (1, .int (iI (kind))), (2, .int (iI (ng P))), (3, .int (iI (kinksA P kind))), (4, .int (iI (sg))), (6, .int (iI (x))), (7, .int (iI (g))), (8, .long (lI (byA P kind g)))]) hx hb dL_bent_293 hl (by decide) rfl (fun ls hl => ?_)
                                      exact jo_295 (u247) (by assumption) _ _ _ X (lv_sub hl [4, 5, 6, 7, 8, 0, 9, 10, 3] rfl)
                refine lv_iload hx hb dL_bent_87 (lv_at hl 7 rfl) ?_
                refine lv_iload_n hx hb dL_bent_89 rfl (lv_at hl 4 rfl) ?_
                refine g_icmp_ge (tgt := 109) G dL_bent_90 (by decide) (by omega) (by omega) (fun h90 => ?_) (fun h90 => ?_)
                ·
                  have hik : ((0 : Int) = 1 ∧ KI P kind (g + 1) (x + 1) ∧ isCor (hulC P (hSide kind)) g ∧ 0 < g ∧ g < ng P - 1) ∨ ((0 : Int) = 0 ∧ KI P kind (g + 1) x ∧ (0 < g → g < ng P - 1 → ¬ isCor (hulC P (hSide kind)) g)) := Or.inr ⟨rfl, ki_miss hok hl12 hk hn hK (Or.inl (by omega))⟩
                  refine lv_iconst (v := iI 0) hx hb dL_bent_109 rfl ?_
                  exact jo_110 (0) (u82) (by assumption) (by assumption) _ _ _ X (lv_sub hl [1, 2, 3, 4, 5, 6, 7, 8, 0] rfl)
                ·
                  refine lv_aload_n hx hb dL_bent_93 rfl (lv_at hl 1 rfl) ?_
                  refine lv_iload_n hx hb dL_bent_94 rfl (lv_at hl 2 rfl) ?_
                  refine lv_iload hx hb dL_bent_95 (lv_at hl 7 rfl) ?_
                  refine g_callVi G X (rest := []) (As := [.int (iI (kind)), .int (iI (x))]) (t_X7_kinkAt l Y (u82) P hs tx ch (kind) (x) (by first | assumption | omega) (by first | assumption | omega) (by first | assumption | omega)) (cwV 2 hts gL_bent_X7_kinkAt rfl rfl rfl (by decide +kernel) ⟨Nat.le_of_ble_eq_true rfl, Nat.le_of_ble_eq_true rfl⟩) (k := 0) (Nat.le_of_ble_eq_true rfl) rfl rfl rfl rfl hl.1 rfl (Nat.le_of_ble_eq_true rfl) dL_bent_97 ⟨Nat.le_refl _, Nat.le_refl _⟩ (fun z97 u97 H locs hq97 X => ?_)
                  refine g_topi (z' := kinkAtA P kind x) hq97.1 ?_
                  have hI97 := hq97.2
                  have hkA : -2147483648 ≤ kinkAtA P kind x ∧ kinkAtA P kind x ≤ 2147483647 := by { have e9 := hke.2.2.2.1 x hK.1.1 (by omega); have r9 := hull_rg (hulC_ok hok hl12 (hSide kind)) (i := x + 1) (by have := hK.1.1; omega) (by have := hke.2.2.2.2; omega); omega }
                  refine lv_iload hx hb dL_bent_100 (lv_at hl 8 rfl) ?_
                  refine g_icmp_ne (tgt := 109) G dL_bent_102 (by decide) (by omega) (by omega) (fun h102 => ?_) (fun h102 => ?_)
                  ·
                    have hik : ((0 : Int) = 1 ∧ KI P kind (g + 1) (x + 1) ∧ isCor (hulC P (hSide kind)) g ∧ 0 < g ∧ g < ng P - 1) ∨ ((0 : Int) = 0 ∧ KI P kind (g + 1) x ∧ (0 < g → g < ng P - 1 → ¬ isCor (hulC P (hSide kind)) g)) := Or.inr ⟨rfl, ki_miss hok hl12 hk hn hK (Or.inr h102)⟩
                    refine lv_iconst (v := iI 0) hx hb dL_bent_109 rfl ?_
                    exact jo_110 (0) (u97) (by assumption) (by assumption) _ _ _ X (lv_sub hl [1, 2, 3, 4, 5, 6, 7, 8, 0] rfl)
                  ·
                    have hik : ((1 : Int) = 1 ∧ KI P kind (g + 1) (x + 1) ∧ isCor (hulC P (hSide kind)) g ∧ 0 < g ∧ g < ng P - 1) ∨ ((1 : Int) = 0 ∧ KI P kind (g + 1) x ∧ (0 < g → g < ng P - 1 → ¬ isCor (hulC P (hSide kind)) g)) := Or.inl ⟨rfl, ki_hit hok hl12 hk hn hK (by omega) h102⟩
                    refine lv_iconst (v := iI 1) hx hb dL_bent_105 rfl ?_
                    refine lv_goto (tgt := 110) hx hb dL_bent_106 (by decide) ?_
                    exact jo_110 (1) (u97) (by assumption) (by assumption) _ _ _ X (lv_sub hl [1, 2, 3, 4, 5, 6, 7, 8, 0] rfl)
        exact lp_67 ((((ng P - (0)) : Int).toNat + 1)) (0) (0) (u46) (by omega) (ki_0 hok hl12 hk hn) (by assumption) (by omega) _ _ _ X (lv_sub hl [3, 4, 5, 6, 7, 2, 1, 0] rfl)
    refine lv_iload_n hx hb dL_bent_23 rfl (lv_at hl 4 rfl) ?_
    refine g_if_lt (tgt := 58) G dL_bent_24 (by decide) (by omega) (fun h24 => ?_) (fun h24 => ?_)
    ·
      exact absurd h24 (by omega)
    ·
      refine lv_iload_n hx hb dL_bent_27 rfl (lv_at hl 4 rfl) ?_
      refine lv_iload_n hx hb dL_bent_28 rfl (lv_at hl 3 rfl) ?_
      refine lv_iconst (v := iI 2) hx hb dL_bent_29 rfl ?_
      refine g_icmp_le (tgt := 39) G dL_bent_30 (by decide) (by omega) (by omega) (fun h30 => ?_) (fun h30 => ?_)
      ·
        refine lv_iconst (v := iI 0) hx hb dL_bent_39 rfl ?_
        refine g_icmp_gt (tgt := 58) G dL_bent_40 (by decide) (by omega) (by omega) (fun h40 => ?_) (fun h40 => ?_)
        ·
          exact absurd h40 (by split at hk2 <;> omega)
        ·
          exact jo_43   _ _ _ X (lv_sub hl [1, 2, 3, 4, 0] rfl)
      ·
        refine lv_iload_n hx hb dL_bent_33 rfl (lv_at hl 3 rfl) ?_
        refine lv_iconst (v := iI 2) hx hb dL_bent_34 rfl ?_
        refine g_isub G dL_bent_35 ?_
        refine lv_goto (tgt := 40) hx hb dL_bent_36 (by decide) ?_
        refine g_icmp_gt (tgt := 58) G dL_bent_40 (by decide) (by omega) (by omega) (fun h40 => ?_) (fun h40 => ?_)
        ·
          exact absurd h40 (by split at hk2 <;> omega)
        ·
          exact jo_43   _ _ _ X (lv_sub hl [1, 2, 3, 4, 0] rfl)
  refine lv_iload_n hx hb dL_bent_11 rfl (lv_at hl 3 rfl) ?_
  refine lv_iconst (v := iI 4) hx hb dL_bent_12 rfl ?_
  refine g_icmp_ne (tgt := 20) G dL_bent_13 (by decide) (by omega) (by omega) (fun h13 => ?_) (fun h13 => ?_)
  ·
    refine lv_iconst (v := iI (-1)) hx hb dL_bent_20 rfl ?_
    exact jo_21 ((-1)) (by omega) _ _ _ X (lv_sub hl [2, 3, 1, 0] rfl)
  ·
    refine lv_iconst (v := iI 1) hx hb dL_bent_16 rfl ?_
    refine lv_goto (tgt := 21) hx hb dL_bent_17 (by decide) ?_
    exact jo_21 (1) (by omega) _ _ _ X (lv_sub hl [2, 3, 1, 0] rfl)

