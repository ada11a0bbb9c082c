set_option maxHeartbeats 4000000 in
set_option maxRecDepth 100000 in
theorem t_X8_penaltyFor (l : Launch) (Y : Yt) (σ : Mem) (P : List Pt) (hs : List (List Pt)) (tx : List Int) (ch : List Int) (most : Int) (w : Int) (hI : MInv σ P hs tx ch) (h_most : -2147483648 ≤ most ∧ most ≤ 2147483647) (h_w : -2147483648 ≤ w ∧ w ≤ 2147483647) : MXl l LM Y yX8_penaltyFor wsX8_penaltyFor { frames := 2, cells := 0, slots := 0, locals := 55 } [.ref (Y.2.1 (0)), .int (iI (most)), .int (iI (w))] σ (fun z u => z = penA P most w ∧ MInv u P hs tx ch) := by
  obtain ⟨⟨hP, hok⟩, ⟨hW, hHok⟩, ⟨hTx, htok⟩, hC, hC3⟩ := id hI
  obtain ⟨hd0, h12, hd⟩ := hP.d
  have hh6 := hW.2.1
  have hkp := hW.1
  have h90 := htok.1
  have hty := hTx.1
  have hre := hC.1
  have hPr := prof_of hok hP.2.1
  obtain ⟨⟨hn0, hn12, hW0, hM0, hW24⟩, hstep, hXa, hXr⟩ := id hPr
  have hq0 : 0 ≤ gQ P ∧ gQ P ≤ 235224 := gQ_rg hok hP.2.1
  have hn9 := ng_0 hok
  refine g_startl (cc := cX8_penaltyFor) (nL := 15) (own := RX8) (by decide) rfl rfl (Nat.le_of_ble_eq_true rfl) ?_
  intro pp ee ss mm bw mt cd AA ZZ ls G hret X hl
  have hl : lv_has ls 15 [(0, .ref (Y.2.1 (0))), (1, .int (iI (most))), (2, .int (iI (w)))] := hl
  have hx := G.1
  have hb := G.2.1
  have hts := G.2.2.2.2.1
  have l_f7 := hts (.fieldLink RX8 7 "ShapeFitsModel" "d" "[I") (List.mem_of_getElem? (i := 2) rfl)
  have l_f72 := hts (.fieldLink RX8 72 "ShapeFitsModel" "groups" "I") (List.mem_of_getElem? (i := 4) rfl)
  have l_k113 := hts (.constantLong RX8 113 (5354228880)) (List.mem_of_getElem? (i := 6) rfl)
  have l_k123 := hts (.constantLong RX8 123 (-1)) (List.mem_of_getElem? (i := 5) rfl)
  have l_k136 := hts (.constantLong RX8 136 (-1000001)) (List.mem_of_getElem? (i := 1) rfl)
  have l_k155 := hts (.constantLong RX8 155 (-1000002)) (List.mem_of_getElem? (i := 3) rfl)
  have in_X8 : ∀ w ∈ u_ws RX8 TX8 24, w ∈ wsX8_penaltyFor := by decide +kernel
  refine lv_iload_n hx hb dX8_penaltyFor_0 rfl (lv_at hl 1 rfl) ?_
  refine lv_iconst (v := iI 1) hx hb dX8_penaltyFor_1 rfl ?_
  refine lv_bipush (v := iI 12) hx hb dX8_penaltyFor_2 (by decide +kernel) ?_
  refine g_callSi G X (rest := []) (As := [.int (iI (most)), .int (iI (1)), .int (iI (12))]) (t_X8_in l Y (σ) (most) (1) (12) (by first | assumption | omega) (by first | assumption | omega) (by first | assumption | omega)) (va_cwS 3 hts gX8_penaltyFor_X8_in rfl rfl rfl (by decide +kernel) ⟨Nat.le_of_ble_eq_true rfl, Nat.le_of_ble_eq_true rfl⟩) rfl hl.1 rfl (Nat.le_of_ble_eq_true rfl) dX8_penaltyFor_4 ⟨Nat.le_refl _, Nat.le_refl _⟩ (fun z4 u4 H locs hq4 X => ?_)
  rw [hq4.1] at X
  have hq4 := hq4.2
  try dsimp only at hq4
  refine g_if_eq (tgt := 19) G dX8_penaltyFor_7 (by decide) (by omega) (fun h7 => ?_) (fun h7 => ?_)
  ·
    refine g_ldc2 G (z := (-1000001)) l_k136 (by decide +kernel) dX8_penaltyFor_19 ?_
    exact hret _ _ _ _ _ _ (⟨(if_pos (by omega)).symm, hI⟩) X dX8_penaltyFor_22
  ·
    refine lv_iload_n hx hb dX8_penaltyFor_10 rfl (lv_at hl 2 rfl) ?_
    refine lv_iconst (v := iI 0) hx hb dX8_penaltyFor_11 rfl ?_
    refine lv_iconst (v := iI 1) hx hb dX8_penaltyFor_12 rfl ?_
    refine g_callSi G X (rest := []) (As := [.int (iI (w)), .int (iI (0)), .int (iI (1))]) (t_X8_in l Y (σ) (w) (0) (1) (by first | assumption | omega) (by first | assumption | omega) (by first | assumption | omega)) (va_cwS 3 hts gX8_penaltyFor_X8_in rfl rfl rfl (by decide +kernel) ⟨Nat.le_of_ble_eq_true rfl, Nat.le_of_ble_eq_true rfl⟩) rfl hl.1 rfl (Nat.le_of_ble_eq_true rfl) dX8_penaltyFor_13 ⟨Nat.le_refl _, Nat.le_refl _⟩ (fun z13 u13 H locs hq13 X => ?_)
    rw [hq13.1] at X
    have hq13 := hq13.2
    try dsimp only at hq13
    refine g_if_ne (tgt := 23) G dX8_penaltyFor_16 (by decide) (by omega) (fun h16 => ?_) (fun h16 => ?_)
    ·
      refine lv_aload_n hx hb dX8_penaltyFor_23 rfl (lv_at hl 0 rfl) ?_
      refine g_get G X (k := 0) (fs := fM Y) (Nat.le_of_ble_eq_true rfl) (fun _ => rfl) rfl in_X8 0 (by decide) l_f7 rfl (v := .ref (Y.2.1 (1))) rfl dX8_penaltyFor_24 ?_
      refine lv_iconst (v := iI 0) hx hb dX8_penaltyFor_27 rfl ?_
      refine g_iald G X (k := 1) (n := 37) (Nat.le_of_ble_eq_true rfl) (fun _ => rfl) (by decide) (z := 0) (by omega) dX8_penaltyFor_28 ?_
      refine g_topi (z' := (P.length : Int)) hd0 ?_
      refine g_if_ne (tgt := 36) G dX8_penaltyFor_29 (by decide) (by omega) (fun h29 => ?_) (fun h29 => ?_)
      ·
        refine lv_aload_n hx hb dX8_penaltyFor_36 rfl (lv_at hl 0 rfl) ?_
        refine g_callVv G X (rest := []) (As := []) (t_X8_divides l Y (σ) P hs tx ch (by first | assumption | omega)) (cwV 0 hts gX8_penaltyFor_X8_divides rfl rfl rfl (by decide +kernel) ⟨Nat.le_of_ble_eq_true rfl, Nat.le_of_ble_eq_true rfl⟩) (k := 0) (Nat.le_of_ble_eq_true rfl) rfl rfl rfl rfl hl.1 rfl (Nat.le_of_ble_eq_true rfl) dX8_penaltyFor_37 ⟨Nat.le_refl _, Nat.le_refl _⟩ (fun u37 H locs hq37 X => ?_)
        obtain ⟨hI2, hMG, hD⟩ := id hq37
        refine lv_lconst (v := lI 0) hx hb dX8_penaltyFor_40 (by decide +kernel) ?_
        refine lv_lstore_n (lv' := [(3, .long (lI (0))), (0, .ref (Y.2.1 (0))), (1, .int (iI (most))), (2, .int (iI (w)))]) hx hb dX8_penaltyFor_41 rfl hl (by decide) rfl (fun ls hl => ?_)
        refine lv_lconst (v := lI 1) hx hb dX8_penaltyFor_42 (by decide +kernel) ?_
        refine lv_lstore (lv' := [(5, .long (lI (1))), (3, .long (lI (0))), (0, .ref (Y.2.1 (0))), (1, .int (iI (most))), (2, .int (iI (w)))]) hx hb dX8_penaltyFor_43 hl (by decide) rfl (fun ls hl => ?_)
        refine lv_iload_n hx hb dX8_penaltyFor_45 rfl (lv_at hl 3 rfl) ?_
        refine lv_iconst (v := iI 1) hx hb dX8_penaltyFor_46 rfl ?_
        refine g_iadd G dX8_penaltyFor_47 ?_
        refine lv_istore (lv' := [(7, .int (iI ((most + 1)))), (5, .long (lI (1))), (3, .long (lI (0))), (0, .ref (Y.2.1 (0))), (1, .int (iI (most))), (2, .int (iI (w)))]) hx hb dX8_penaltyFor_48 hl (by decide) rfl (fun ls hl => ?_)
        have lp_50 : ∀ (nn : Nat) (bn bd m : Int) (τ : Mem), ∀ hpr : ((1 ≤ most ∧ most ≤ 12) ∧ 0 ≤ w ∧ w ≤ 1) ∧ 0 < ng P, ∀ hm : most + 1 ≤ m ∧ (m = most + 1 ∨ m ≤ ng P + 1), ∀ hMT : MG τ P, ∀ hD : DivP τ P (ng P + 1) 0, ∀ hJ : MInv τ P hs tx ch, ∀ hbr : (0 ≤ bn ∧ bn ≤ 2520000000000000) ∧ 0 < bd ∧ bd ≤ 12, ∀ hO : PnO (lE P) most m bn bd, ∀ hdec : (13 - m) < (nn : Int), ∀ (H : Heap) (locs : List Loc) (ls : Array Slot), wx LM Y τ ss AA H locs → lv_has ls 15 [(0, .ref (Y.2.1 (0))), (1, .int (iI (most))), (2, .int (iI (w))), (3, .long (lI (bn))), (5, .long (lI (bd))), (7, .int (iI (m)))] → W pp l ee { frames := 2, cells := 0, slots := 0, locals := 55 } ss mm ([.ref (Y.2.1 (0)), .int (iI (most)), .int (iI (w))] : List Value).toArray bw mt cd H locs 0 0 ZZ (F0 mm 50 ls []) := by
          intro nn
          induction nn with
          | zero =>
            intro bn bd m τ hpr hm hMT hD hJ hbr hO hdec
            exact absurd hdec (by omega)
          | succ nn ih_50 =>
            intro bn bd m τ hpr hm hMT hD hJ hbr hO hdec H locs ls X hl
            refine lv_iload hx hb dX8_penaltyFor_50 (lv_at hl 5 rfl) ?_
            refine lv_aload_n hx hb dX8_penaltyFor_52 rfl (lv_at hl 0 rfl) ?_
            refine g_get G X (k := 0) (fs := fM Y) (Nat.le_of_ble_eq_true rfl) (fun _ => rfl) rfl in_X8 8 (by decide) l_f72 rfl (v := .int (iI ((τ 0 8)))) rfl dX8_penaltyFor_53 ?_
            refine g_topi (z' := ng P) hMT.2.2.1 ?_
            refine g_icmp_gt (tgt := 160) G dX8_penaltyFor_56 (by decide) (by omega) (by omega) (fun h56 => ?_) (fun h56 => ?_)
            ·
              have hfa := pen_fin (w := w) (by omega) (by omega) hO (by omega)
              refine lv_aload_n hx hb dX8_penaltyFor_160 rfl (lv_at hl 0 rfl) ?_
              refine lv_lload_n hx hb dX8_penaltyFor_161 rfl (lv_at hl 3 rfl) ?_
              refine g_ldc2 G (z := 5354228880) l_k113 (by decide +kernel) dX8_penaltyFor_162 ?_
              refine lv_lload hx hb dX8_penaltyFor_165 (lv_at hl 4 rfl) ?_
              refine g_lmul G dX8_penaltyFor_167 ?_
              refine g_callVv G X (rest := []) (As := [.long (lI (bn)), .long (lI ((5354228880 * bd)))]) (t_X8_lowers l Y (τ) (bn) ((5354228880 * bd)) (by first | assumption | omega) (by first | assumption | omega)) (cwV 2 hts gX8_penaltyFor_X8_lowers rfl rfl rfl (by decide +kernel) ⟨Nat.le_of_ble_eq_true rfl, Nat.le_of_ble_eq_true rfl⟩) (k := 0) (Nat.le_of_ble_eq_true rfl) rfl rfl rfl rfl hl.1 rfl (Nat.le_of_ble_eq_true rfl) dX8_penaltyFor_168 ⟨Nat.le_refl _, Nat.le_refl _⟩ (fun u168 H locs hq168 X => ?_)
              have hI4 := hJ.keep (hq168.2.2.C (by omega) (by omega))
              have htl : (if w = 0 then u168 0 18 else u168 0 19) = penA P most w := (tells_low (by omega) hq168.1 hq168.2.1).trans hfa
              refine lv_aload_n hx hb dX8_penaltyFor_171 rfl (lv_at hl 0 rfl) ?_
              refine lv_iload_n hx hb dX8_penaltyFor_172 rfl (lv_at hl 2 rfl) ?_
              refine g_callVl G X (rest := []) (As := [.int (iI (w))]) (t_X8_tells l Y (u168) (w) (by first | assumption | omega)) (cwV 1 hts gX8_penaltyFor_X8_tells rfl rfl rfl (by decide +kernel) ⟨Nat.le_of_ble_eq_true rfl, Nat.le_of_ble_eq_true rfl⟩) (k := 0) (Nat.le_of_ble_eq_true rfl) rfl rfl rfl rfl hl.1 rfl (Nat.le_of_ble_eq_true rfl) dX8_penaltyFor_173 ⟨Nat.le_refl _, Nat.le_refl _⟩ (fun z173 u173 H locs hq173 X => ?_)
              rw [hq173.1] at X
              have hq173 := hq173.2
              try dsimp only at hq173
              exact hret _ _ _ _ _ _ (⟨hq173.trans htl, hI4⟩) X dX8_penaltyFor_176
            ·
              refine g_ldc2 G (z := (-1)) l_k123 (by decide +kernel) dX8_penaltyFor_59 ?_
              refine lv_lstore (lv' := [(8, .long (lI ((-1)))), (0, .ref (Y.2.1 (0))), (1, .int (iI (most))), (2, .int (iI (w))), (3, .long (lI (bn))), (5, .long (lI (bd))), (7, .int (iI (m)))]) hx hb dX8_penaltyFor_62 hl (by decide) rfl (fun ls hl => ?_)
              refine lv_lconst (v := lI 1) hx hb dX8_penaltyFor_64 (by decide +kernel) ?_
              refine lv_lstore (lv' := [(10, .long (lI (1))), (8, .long (lI ((-1)))), (0, .ref (Y.2.1 (0))), (1, .int (iI (most))), (2, .int (iI (w))), (3, .long (lI (bn))), (5, .long (lI (bd))), (7, .int (iI (m)))]) hx hb dX8_penaltyFor_65 hl (by decide) rfl (fun ls hl => ?_)
              refine lv_iconst (v := iI 1) hx hb dX8_penaltyFor_67 rfl ?_
              refine lv_istore (lv' := [(12, .int (iI (1))), (10, .long (lI (1))), (8, .long (lI ((-1)))), (0, .ref (Y.2.1 (0))), (1, .int (iI (most))), (2, .int (iI (w))), (3, .long (lI (bn))), (5, .long (lI (bd))), (7, .int (iI (m)))]) hx hb dX8_penaltyFor_68 hl (by decide) rfl (fun ls hl => ?_)
              have lp_70 : ∀ (nn : Nat) (ln ld f : Int) (τ : Mem), ∀ hf : 1 ≤ f ∧ f ≤ most + 1, ∀ hMT : MG τ P, ∀ hD : DivP τ P (ng P + 1) 0, ∀ hJ : MInv τ P hs tx ch, ∀ hlr0 : (-1 ≤ ln ∧ ln ≤ 2520000000000000) ∧ 0 < ld ∧ ld ≤ 12, ∀ hi : PnI (lE P) m f ln ld, ∀ hdec : (most + 1 - f) < (nn : Int), ∀ (H : Heap) (locs : List Loc) (ls : Array Slot), wx LM Y τ ss AA H locs → lv_has ls 15 [(0, .ref (Y.2.1 (0))), (1, .int (iI (most))), (2, .int (iI (w))), (3, .long (lI (bn))), (5, .long (lI (bd))), (7, .int (iI (m))), (8, .long (lI (ln))), (10, .long (lI (ld))), (12, .int (iI (f)))] → W pp l ee { frames := 2, cells := 0, slots := 0, locals := 55 } ss mm ([.ref (Y.2.1 (0)), .int (iI (most)), .int (iI (w))] : List Value).toArray bw mt cd H locs 0 0 ZZ (F0 mm 70 ls []) := by
                intro nn
                induction nn with
                | zero =>
                  intro ln ld f τ hf hMT hD hJ hlr0 hi hdec
                  exact absurd hdec (by omega)
                | succ nn ih_70 =>
                  intro ln ld f τ hf hMT hD hJ hlr0 hi hdec H locs ls X hl
                  refine lv_iload hx hb dX8_penaltyFor_70 (lv_at hl 8 rfl) ?_
                  refine lv_iload_n hx hb dX8_penaltyFor_72 rfl (lv_at hl 1 rfl) ?_
                  refine g_icmp_gt (tgt := 134) G dX8_penaltyFor_73 (by decide) (by omega) (by omega) (fun h73 => ?_) (fun h73 => ?_)
                  ·
                    have q3 := mul_rg (a := ln) (b := bd) (A := 2520000000000000) (B := 12) (by omega) (by omega)
                    have q4 := mul_rg (a := bn) (b := ld) (A := 2520000000000000) (B := 12) (by omega) (by omega)
                    have hmo : ∀ j : Int, 1 ≤ j → j ≤ most → lE P m ≤ lE P j := fun j a b => lE_mono hPr (by omega)
                    have hlr : 0 ≤ ln ∧ 0 < ld := by rcases hi with h | ⟨h1, h2, h3, -⟩; (exfalso; omega); exact ⟨h2, h3⟩
                    refine lv_lload hx hb dX8_penaltyFor_134 (lv_at hl 6 rfl) ?_
                    refine lv_lload hx hb dX8_penaltyFor_136 (lv_at hl 4 rfl) ?_
                    refine g_lmul G dX8_penaltyFor_138 ?_
                    refine lv_lload_n hx hb dX8_penaltyFor_139 rfl (lv_at hl 3 rfl) ?_
                    refine lv_lload hx hb dX8_penaltyFor_140 (lv_at hl 7 rfl) ?_
                    refine g_lmul G dX8_penaltyFor_142 ?_
                    refine g_lif_le (tgt := 154) G dX8_penaltyFor_143 dX8_penaltyFor_144 (by decide) (by omega) (by omega) (fun h143 => ?_) (fun h143 => ?_)
                    ·
                      refine lv_iinc (v := iI (m + 1)) (lv' := [(7, .int (iI ((m + 1)))), (0, .ref (Y.2.1 (0))), (1, .int (iI (most))), (2, .int (iI (w))), (3, .long (lI (bn))), (5, .long (lI (bd))), (8, .long (lI (ln))), (10, .long (lI (ld))), (12, .int (iI (f)))]) hx hb dX8_penaltyFor_154 hl (k := 5) rfl (iI_add _ _) (by decide) rfl (fun ls hl => ?_)
                      refine lv_goto (tgt := 50) hx hb dX8_penaltyFor_157 (by decide) ?_
                      exact ih_50 (bn) (bd) ((m + 1)) (τ) (by omega) (by omega) hMT hD hJ (by omega) (by first | exact pnO_take hO (by omega) (by omega) hi (by omega) | exact pnO_keep hO (by omega) (by omega) hi hmo (by omega)) (by omega) _ _ _ X (lv_sub hl [1, 2, 3, 4, 5, 0] rfl)
                    ·
                      refine lv_lload hx hb dX8_penaltyFor_147 (lv_at hl 6 rfl) ?_
                      refine lv_lstore_n (lv' := [(3, .long (lI (ln))), (0, .ref (Y.2.1 (0))), (1, .int (iI (most))), (2, .int (iI (w))), (5, .long (lI (bd))), (7, .int (iI (m))), (8, .long (lI (ln))), (10, .long (lI (ld))), (12, .int (iI (f)))]) hx hb dX8_penaltyFor_149 rfl hl (by decide) rfl (fun ls hl => ?_)
                      refine lv_lload hx hb dX8_penaltyFor_150 (lv_at hl 7 rfl) ?_
                      refine lv_lstore (lv' := [(5, .long (lI (ld))), (3, .long (lI (ln))), (0, .ref (Y.2.1 (0))), (1, .int (iI (most))), (2, .int (iI (w))), (7, .int (iI (m))), (8, .long (lI (ln))), (10, .long (lI (ld))), (12, .int (iI (f)))]) hx hb dX8_penaltyFor_152 hl (by decide) rfl (fun ls hl => ?_)
                      refine lv_iinc (v := iI (m + 1)) (lv' := [(7, .int (iI ((m + 1)))), (5, .long (lI (ld))), (3, .long (lI (ln))), (0, .ref (Y.2.1 (0))), (1, .int (iI (most))), (2, .int (iI (w))), (8, .long (lI (ln))), (10, .long (lI (ld))), (12, .int (iI (f)))]) hx hb dX8_penaltyFor_154 hl (k := 5) rfl (iI_add _ _) (by decide) rfl (fun ls hl => ?_)
                      refine lv_goto (tgt := 50) hx hb dX8_penaltyFor_157 (by decide) ?_
                      exact ih_50 (ln) (ld) ((m + 1)) (τ) (by omega) (by omega) hMT hD hJ (by omega) (by first | exact pnO_take hO (by omega) (by omega) hi (by omega) | exact pnO_keep hO (by omega) (by omega) hi hmo (by omega)) (by omega) _ _ _ X (lv_sub hl [3, 4, 5, 2, 1, 0] rfl)
                  ·
                    refine lv_aload_n hx hb dX8_penaltyFor_76 rfl (lv_at hl 0 rfl) ?_
                    refine lv_iload hx hb dX8_penaltyFor_77 (lv_at hl 8 rfl) ?_
                    refine g_callVl G X (rest := []) (As := [.int (iI (f))]) (t_X8_errorBy l Y (τ) P (f) hMT (by omega) hD) (cwV 1 hts gX8_penaltyFor_X8_errorBy rfl rfl rfl (by decide +kernel) ⟨Nat.le_of_ble_eq_true rfl, Nat.le_of_ble_eq_true rfl⟩) (k := 0) (Nat.le_of_ble_eq_true rfl) rfl rfl rfl rfl hl.1 rfl (Nat.le_of_ble_eq_true rfl) dX8_penaltyFor_79 ⟨Nat.le_refl _, Nat.le_refl _⟩ (fun z79 u79 H locs hq79 X => ?_)
                    have hMa := hMT.fr hq79.2 (by omega) (by omega)
                    have hDa := hD.fr hq79.2 (by omega)
                    have hJa := hJ.keep (hq79.2.C (by omega) (by omega))
                    refine g_topl (z' := lE P f) hq79.1.1 ?_
                    have hza := hq79.1
                    rw [hq79.1.1] at hza
                    refine lv_aload_n hx hb dX8_penaltyFor_82 rfl (lv_at hl 0 rfl) ?_
                    refine lv_iload hx hb dX8_penaltyFor_83 (lv_at hl 5 rfl) ?_
                    refine g_callVl G X (rest := [.long (lI ((lE P f)))]) (As := [.int (iI (m))]) (t_X8_errorBy l Y (u79) P (m) hMa (by omega) hDa) (cwV 1 hts gX8_penaltyFor_X8_errorBy rfl rfl rfl (by decide +kernel) ⟨Nat.le_of_ble_eq_true rfl, Nat.le_of_ble_eq_true rfl⟩) (k := 0) (Nat.le_of_ble_eq_true rfl) rfl rfl rfl rfl hl.1 rfl (Nat.le_of_ble_eq_true rfl) dX8_penaltyFor_85 ⟨Nat.le_refl _, Nat.le_refl _⟩ (fun z85 u85 H locs hq85 X => ?_)
                    have hMb := hMa.fr hq85.2 (by omega) (by omega)
                    have hDb := hDa.fr hq85.2 (by omega)
                    have hJb := hJa.keep (hq85.2.C (by omega) (by omega))
                    refine g_topl (z' := lE P m) hq85.1.1 ?_
                    have hzb := hq85.1
                    rw [hq85.1.1] at hzb
                    refine g_lsub G dX8_penaltyFor_88 ?_
                    obtain ⟨dv, hdv⟩ : ∃ x : Int, x = lE P f - lE P m := ⟨_, rfl⟩
                    refine g_topl (z' := dv) hdv.symm ?_
                    have hmo := lE_mono hPr (j := f) (k := m) (by omega)
                    have hdr : 0 ≤ dv ∧ dv ≤ 2520000000000000 := by omega
                    have q1 := mul_rg (a := dv) (b := ld) (A := 2520000000000000) (B := 12) (by omega) (by omega)
                    have q2 := mul_rg (a := ln) (b := m - f) (A := 2520000000000000) (B := 12) (by omega) (by omega)
                    refine lv_lstore (lv' := [(13, .long (lI (dv))), (0, .ref (Y.2.1 (0))), (1, .int (iI (most))), (2, .int (iI (w))), (3, .long (lI (bn))), (5, .long (lI (bd))), (7, .int (iI (m))), (8, .long (lI (ln))), (10, .long (lI (ld))), (12, .int (iI (f)))]) hx hb dX8_penaltyFor_89 hl (by decide) rfl (fun ls hl => ?_)
                    refine lv_lload hx hb dX8_penaltyFor_91 (lv_at hl 7 rfl) ?_
                    refine lv_lconst (v := lI 0) hx hb dX8_penaltyFor_93 (by decide +kernel) ?_
                    refine g_lif_lt (tgt := 116) G dX8_penaltyFor_94 dX8_penaltyFor_95 (by decide) (by omega) (by omega) (fun h94 => ?_) (fun h94 => ?_)
                    ·
                      refine lv_lload hx hb dX8_penaltyFor_116 (lv_at hl 0 rfl) ?_
                      refine lv_lstore (lv' := [(8, .long (lI (dv))), (13, .long (lI (dv))), (0, .ref (Y.2.1 (0))), (1, .int (iI (most))), (2, .int (iI (w))), (3, .long (lI (bn))), (5, .long (lI (bd))), (7, .int (iI (m))), (10, .long (lI (ld))), (12, .int (iI (f)))]) hx hb dX8_penaltyFor_118 hl (by decide) rfl (fun ls hl => ?_)
                      refine lv_iload hx hb dX8_penaltyFor_120 (lv_at hl 7 rfl) ?_
                      refine lv_iload hx hb dX8_penaltyFor_122 (lv_at hl 9 rfl) ?_
                      refine g_isub G dX8_penaltyFor_124 ?_
                      refine g_i2l G (by omega) dX8_penaltyFor_125 ?_
                      refine lv_lstore (lv' := [(10, .long (lI ((m - f)))), (8, .long (lI (dv))), (13, .long (lI (dv))), (0, .ref (Y.2.1 (0))), (1, .int (iI (most))), (2, .int (iI (w))), (3, .long (lI (bn))), (5, .long (lI (bd))), (7, .int (iI (m))), (12, .int (iI (f)))]) hx hb dX8_penaltyFor_126 hl (by decide) rfl (fun ls hl => ?_)
                      refine lv_iinc (v := iI (f + 1)) (lv' := [(12, .int (iI ((f + 1)))), (10, .long (lI ((m - f)))), (8, .long (lI (dv))), (13, .long (lI (dv))), (0, .ref (Y.2.1 (0))), (1, .int (iI (most))), (2, .int (iI (w))), (3, .long (lI (bn))), (5, .long (lI (bd))), (7, .int (iI (m)))]) hx hb dX8_penaltyFor_128 hl (k := 9) rfl (iI_add _ _) (by decide) rfl (fun ls hl => ?_)
                      refine lv_goto (tgt := 70) hx hb dX8_penaltyFor_131 (by decide) ?_
                      exact ih_70 (dv) ((m - f)) ((f + 1)) (u85) (by omega) hMb hDb hJb (by omega) (by first | exact pnI_take hi (by omega) hdv (by omega) (by omega) | exact pnI_keep hi hdv (by omega)) (by omega) _ _ _ X (lv_sub hl [4, 5, 6, 7, 8, 9, 2, 1, 0] rfl)
                    ·
                      refine lv_lload hx hb dX8_penaltyFor_98 (lv_at hl 0 rfl) ?_
                      refine lv_lload hx hb dX8_penaltyFor_100 (lv_at hl 8 rfl) ?_
                      refine g_lmul G dX8_penaltyFor_102 ?_
                      refine lv_lload hx hb dX8_penaltyFor_103 (lv_at hl 7 rfl) ?_
                      refine lv_iload hx hb dX8_penaltyFor_105 (lv_at hl 6 rfl) ?_
                      refine lv_iload hx hb dX8_penaltyFor_107 (lv_at hl 9 rfl) ?_
                      refine g_isub G dX8_penaltyFor_109 ?_
                      refine g_i2l G (by omega) dX8_penaltyFor_110 ?_
                      refine g_lmul G dX8_penaltyFor_111 ?_
                      refine g_lif_ge (tgt := 128) G dX8_penaltyFor_112 dX8_penaltyFor_113 (by decide) (by omega) (by omega) (fun h112 => ?_) (fun h112 => ?_)
                      ·
                        refine lv_iinc (v := iI (f + 1)) (lv' := [(12, .int (iI ((f + 1)))), (13, .long (lI (dv))), (0, .ref (Y.2.1 (0))), (1, .int (iI (most))), (2, .int (iI (w))), (3, .long (lI (bn))), (5, .long (lI (bd))), (7, .int (iI (m))), (8, .long (lI (ln))), (10, .long (lI (ld)))]) hx hb dX8_penaltyFor_128 hl (k := 9) rfl (iI_add _ _) (by decide) rfl (fun ls hl => ?_)
                        refine lv_goto (tgt := 70) hx hb dX8_penaltyFor_131 (by decide) ?_
                        exact ih_70 (ln) (ld) ((f + 1)) (u85) (by omega) hMb hDb hJb (by omega) (by first | exact pnI_take hi (by omega) hdv (by omega) (by omega) | exact pnI_keep hi hdv (by omega)) (by omega) _ _ _ X (lv_sub hl [2, 3, 4, 5, 6, 7, 8, 9, 0] rfl)
                      ·
                        refine lv_lload hx hb dX8_penaltyFor_116 (lv_at hl 0 rfl) ?_
                        refine lv_lstore (lv' := [(8, .long (lI (dv))), (13, .long (lI (dv))), (0, .ref (Y.2.1 (0))), (1, .int (iI (most))), (2, .int (iI (w))), (3, .long (lI (bn))), (5, .long (lI (bd))), (7, .int (iI (m))), (10, .long (lI (ld))), (12, .int (iI (f)))]) hx hb dX8_penaltyFor_118 hl (by decide) rfl (fun ls hl => ?_)
                        refine lv_iload hx hb dX8_penaltyFor_120 (lv_at hl 7 rfl) ?_
                        refine lv_iload hx hb dX8_penaltyFor_122 (lv_at hl 9 rfl) ?_
                        refine g_isub G dX8_penaltyFor_124 ?_
                        refine g_i2l G (by omega) dX8_penaltyFor_125 ?_
                        refine lv_lstore (lv' := [(10, .long (lI ((m - f)))), (8, .long (lI (dv))), (13, .long (lI (dv))), (0, .ref (Y.2.1 (0))), (1, .int (iI (most))), (2, .int (iI (w))), (3, .long (lI (bn))), (5, .long (lI (bd))), (7, .int (iI (m))), (12, .int (iI (f)))]) hx hb dX8_penaltyFor_126 hl (by decide) rfl (fun ls hl => ?_)
                        refine lv_iinc (v := iI (f + 1)) (lv' := [(12, .int (iI ((f + 1)))), (10, .long (lI ((m - f)))), (8, .long (lI (dv))), (13, .long (lI (dv))), (0, .ref (Y.2.1 (0))), (1, .int (iI (most))), (2, .int (iI (w))), (3, .long (lI (bn))), (5, .long (lI (bd))), (7, .int (iI (m)))]) hx hb dX8_penaltyFor_128 hl (k := 9) rfl (iI_add _ _) (by decide) rfl (fun ls hl => ?_)
                        refine lv_goto (tgt := 70) hx hb dX8_penaltyFor_131 (by decide) ?_
                        exact ih_70 (dv) ((m - f)) ((f + 1)) (u85) (by omega) hMb hDb hJb (by omega) (by first | exact pnI_take hi (by omega) hdv (by omega) (by omega) | exact pnI_keep hi hdv (by omega)) (by omega) _ _ _ X (lv_sub hl [4, 5, 6, 7, 8, 9, 2, 1, 0] rfl)
              exact lp_70 ((((most + 1 - (1)) : Int).toNat + 1)) ((-1)) (1) (1) (τ) (by omega) hMT hD hJ (by omega) (Or.inl ⟨rfl, rfl, rfl⟩) (by omega) _ _ _ X (lv_sub hl [3, 4, 5, 6, 7, 8, 2, 1, 0] rfl)
        exact lp_50 ((((13 - ((most + 1))) : Int).toNat + 1)) (0) (1) ((most + 1)) (u37) (by omega) (by omega) hMG hD hI2 (by omega) pnO_0 (by omega) _ _ _ X (lv_sub hl [3, 4, 5, 2, 1, 0] rfl)
      ·
        refine g_ldc2 G (z := (-1000002)) l_k155 (by decide +kernel) dX8_penaltyFor_32 ?_
        exact hret _ _ _ _ _ _ (⟨((if_neg (by omega)).trans (if_pos (by omega))).symm, hI⟩) X dX8_penaltyFor_35
    ·
      refine g_ldc2 G (z := (-1000001)) l_k136 (by decide +kernel) dX8_penaltyFor_19 ?_
      exact hret _ _ _ _ _ _ (⟨(if_pos (by omega)).symm, hI⟩) X dX8_penaltyFor_22

