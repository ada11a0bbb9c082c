set_option maxHeartbeats 4000000 in
set_option maxRecDepth 100000 in
theorem t_X8_gap (l : Launch) (Y : Yt) (σ : Mem) (P : List Pt) (hs : List (List Pt)) (tx : List Int) (ch : List Int) (w : Int) (hI : MInv σ P hs tx ch) (h_w : -2147483648 ≤ w ∧ w ≤ 2147483647) : MXl l LM Y yX8_gap wsX8_gap { frames := 3, cells := 0, slots := 0, locals := 83 } [.ref (Y.2.1 (0)), .int (iI (w))] σ (fun z u => z = gapA P w ∧ MInv u P hs tx ch) := by
  obtain ⟨⟨hP, hok⟩, ⟨hW, hHok⟩, ⟨hTx, htok⟩, hC, hC3⟩ := id hI
  obtain ⟨hd0, h12, hd⟩ := hP.d
  have hh6 := hW.2.1
  have hkp := hW.1
  have h90 := htok.1
  have hty := hTx.1
  have hre := hC.1
  have hPr := prof_of hok hP.2.1
  obtain ⟨⟨hn0, hn12, hW0, hM0, hW24⟩, hstep, hXa, hXr⟩ := id hPr
  have hq0 : 0 ≤ gQ P ∧ gQ P ≤ 235224 := gQ_rg hok hP.2.1
  have hn9 := ng_0 hok
  refine g_startl (cc := cX8_gap) (nL := 12) (own := RX8) (by decide) rfl rfl (Nat.le_of_ble_eq_true rfl) ?_
  intro pp ee ss mm bw mt cd AA ZZ ls G hret X hl
  have hl : lv_has ls 12 [(0, .ref (Y.2.1 (0))), (1, .int (iI (w)))] := hl
  have hx := G.1
  have hb := G.2.1
  have hts := G.2.2.2.2.1
  have l_f7 := hts (.fieldLink RX8 7 "ShapeFitsModel" "d" "[I") (List.mem_of_getElem? (i := 2) rfl)
  have l_f72 := hts (.fieldLink RX8 72 "ShapeFitsModel" "groups" "I") (List.mem_of_getElem? (i := 5) rfl)
  have l_f89 := hts (.fieldLink RX8 89 "ShapeFitsModel" "top" "J") (List.mem_of_getElem? (i := 6) rfl)
  have l_f93 := hts (.fieldLink RX8 93 "ShapeFitsModel" "bottom" "J") (List.mem_of_getElem? (i := 7) rfl)
  have l_k123 := hts (.constantLong RX8 123 (-1)) (List.mem_of_getElem? (i := 4) rfl)
  have l_k136 := hts (.constantLong RX8 136 (-1000001)) (List.mem_of_getElem? (i := 1) rfl)
  have l_k155 := hts (.constantLong RX8 155 (-1000002)) (List.mem_of_getElem? (i := 3) rfl)
  have in_X8 : ∀ w ∈ u_ws RX8 TX8 24, w ∈ wsX8_gap := by decide +kernel
  refine lv_iload_n hx hb dX8_gap_0 rfl (lv_at hl 1 rfl) ?_
  refine lv_iconst (v := iI 0) hx hb dX8_gap_1 rfl ?_
  refine lv_iconst (v := iI 2) hx hb dX8_gap_2 rfl ?_
  refine g_callSi G X (rest := []) (As := [.int (iI (w)), .int (iI (0)), .int (iI (2))]) (t_X8_in l Y (σ) (w) (0) (2) (by first | assumption | omega) (by first | assumption | omega) (by first | assumption | omega)) (va_cwS 3 hts gX8_gap_X8_in rfl rfl rfl (by decide +kernel) ⟨Nat.le_of_ble_eq_true rfl, Nat.le_of_ble_eq_true rfl⟩) rfl hl.1 rfl (Nat.le_of_ble_eq_true rfl) dX8_gap_3 ⟨Nat.le_refl _, Nat.le_refl _⟩ (fun z3 u3 H locs hq3 X => ?_)
  rw [hq3.1] at X
  have hq3 := hq3.2
  try dsimp only at hq3
  refine g_if_ne (tgt := 13) G dX8_gap_6 (by decide) (by omega) (fun h6 => ?_) (fun h6 => ?_)
  ·
    refine lv_aload_n hx hb dX8_gap_13 rfl (lv_at hl 0 rfl) ?_
    refine g_get G X (k := 0) (fs := fM Y) (Nat.le_of_ble_eq_true rfl) (fun _ => rfl) rfl in_X8 0 (by decide) l_f7 rfl (v := .ref (Y.2.1 (1))) rfl dX8_gap_14 ?_
    refine lv_iconst (v := iI 0) hx hb dX8_gap_17 rfl ?_
    refine g_iald G X (k := 1) (n := 37) (Nat.le_of_ble_eq_true rfl) (fun _ => rfl) (by decide) (z := 0) (by omega) dX8_gap_18 ?_
    refine g_topi (z' := (P.length : Int)) hd0 ?_
    refine g_if_ne (tgt := 26) G dX8_gap_19 (by decide) (by omega) (fun h19 => ?_) (fun h19 => ?_)
    ·
      refine lv_aload_n hx hb dX8_gap_26 rfl (lv_at hl 0 rfl) ?_
      refine g_callVv G X (rest := []) (As := []) (t_X8_finds l Y (σ) P hs tx ch (by first | assumption | omega)) (cwV 0 hts gX8_gap_X8_finds rfl rfl rfl (by decide +kernel) ⟨Nat.le_of_ble_eq_true rfl, Nat.le_of_ble_eq_true rfl⟩) (k := 0) (Nat.le_of_ble_eq_true rfl) rfl rfl rfl rfl hl.1 rfl (Nat.le_of_ble_eq_true rfl) dX8_gap_27 ⟨Nat.le_refl _, Nat.le_refl _⟩ (fun u27 H locs hq27 X => ?_)
      obtain ⟨hG, hFg⟩ := id hq27
      have hI2 := hI.keep (hFg.C (by omega) (by omega))
      have hMG : MG u27 P := ⟨hI2.1.1, hok, hG⟩
      have hMG0 := hMG
      refine g_ldc2 G (z := (-1)) l_k123 (by decide +kernel) dX8_gap_30 ?_
      refine lv_lstore_n (lv' := [(2, .long (lI ((-1)))), (0, .ref (Y.2.1 (0))), (1, .int (iI (w)))]) hx hb dX8_gap_33 rfl hl (by decide) rfl (fun ls hl => ?_)
      refine lv_lconst (v := lI 1) hx hb dX8_gap_34 (by decide +kernel) ?_
      refine lv_lstore (lv' := [(4, .long (lI (1))), (2, .long (lI ((-1)))), (0, .ref (Y.2.1 (0))), (1, .int (iI (w)))]) hx hb dX8_gap_35 hl (by decide) rfl (fun ls hl => ?_)
      refine lv_iconst (v := iI 0) hx hb dX8_gap_37 rfl ?_
      refine lv_istore (lv' := [(6, .int (iI (0))), (4, .long (lI (1))), (2, .long (lI ((-1)))), (0, .ref (Y.2.1 (0))), (1, .int (iI (w)))]) hx hb dX8_gap_38 hl (by decide) rfl (fun ls hl => ?_)
      refine lv_iconst (v := iI 0) hx hb dX8_gap_40 rfl ?_
      refine lv_istore (lv' := [(7, .int (iI (0))), (6, .int (iI (0))), (4, .long (lI (1))), (2, .long (lI ((-1)))), (0, .ref (Y.2.1 (0))), (1, .int (iI (w)))]) hx hb dX8_gap_41 hl (by decide) rfl (fun ls hl => ?_)
      have lp_43 : ∀ (nn : Nat) (bn bd bw2 g : Int) (τ : Mem), ∀ hw0 : 0 ≤ w ∧ w ≤ 2, ∀ hnp : 0 < ng P, ∀ hg : 0 ≤ g ∧ g ≤ ng P, ∀ hMT : MG τ P, ∀ hJ : MInv τ P hs tx ch, ∀ hbr : (-6569164800 ≤ bn ∧ bn ≤ 6569164800) ∧ 0 < bd ∧ bd ≤ 33177600, ∀ hb0 : g = 0 → bn = -1 ∧ bd = 1, ∀ hbw : 0 < g → WdL P g bw2 bn bd, ∀ hdec : (ng P - g) < (nn : Int), ∀ (H : Heap) (locs : List Loc) (ls : Array Slot), wx LM Y τ ss AA H locs → lv_has ls 12 [(0, .ref (Y.2.1 (0))), (1, .int (iI (w))), (2, .long (lI (bn))), (4, .long (lI (bd))), (6, .int (iI (bw2))), (7, .int (iI (g)))] → W pp l ee { frames := 3, cells := 0, slots := 0, locals := 83 } ss mm ([.ref (Y.2.1 (0)), .int (iI (w))] : List Value).toArray bw mt cd H locs 0 0 ZZ (F0 mm 43 ls []) := by
        intro nn
        induction nn with
        | zero =>
          intro bn bd bw2 g τ hw0 hnp hg hMT hJ hbr hb0 hbw hdec
          exact absurd hdec (by omega)
        | succ nn ih_43 =>
          intro bn bd bw2 g τ hw0 hnp hg hMT hJ hbr hb0 hbw hdec H locs ls X hl
          refine lv_iload hx hb dX8_gap_43 (lv_at hl 5 rfl) ?_
          refine lv_aload_n hx hb dX8_gap_45 rfl (lv_at hl 0 rfl) ?_
          refine g_get G X (k := 0) (fs := fM Y) (Nat.le_of_ble_eq_true rfl) (fun _ => rfl) rfl in_X8 8 (by decide) l_f72 rfl (v := .int (iI ((τ 0 8)))) rfl dX8_gap_46 ?_
          refine g_topi (z' := ng P) (hMT.2.2.1) ?_
          refine g_icmp_ge (tgt := 150) G dX8_gap_49 (by decide) (by omega) (by omega) (fun h49 => ?_) (fun h49 => ?_)
          ·
            have hwdr := (hbw (by omega)).1
            have hfa := gapA_eq (hbw (by omega)) (show g = ng P by omega) hw0 hnp
            refine lv_iload_n hx hb dX8_gap_150 rfl (lv_at hl 1 rfl) ?_
            refine g_if_ne (tgt := 158) G dX8_gap_151 (by decide) (by omega) (fun h151 => ?_) (fun h151 => ?_)
            ·
              refine lv_iload_n hx hb dX8_gap_158 rfl (lv_at hl 1 rfl) ?_
              refine lv_iconst (v := iI 1) hx hb dX8_gap_159 rfl ?_
              refine g_icmp_ne (tgt := 168) G dX8_gap_160 (by decide) (by omega) (by omega) (fun h160 => ?_) (fun h160 => ?_)
              ·
                refine lv_iload hx hb dX8_gap_168 (lv_at hl 4 rfl) ?_
                refine g_i2l G (by omega) dX8_gap_170 ?_
                refine g_topl (z' := gapA P w) (hfa.2.2 (by omega)).symm ?_
                exact hret _ _ _ _ _ _ (⟨rfl, hJ⟩) X dX8_gap_171
              ·
                refine lv_lload hx hb dX8_gap_163 (lv_at hl 3 rfl) ?_
                refine g_topl (z' := gapA P w) (hfa.2.1 (by omega)).symm ?_
                refine lv_goto (tgt := 171) hx hb dX8_gap_165 (by decide) ?_
                exact hret _ _ _ _ _ _ (⟨rfl, hJ⟩) X dX8_gap_171
            ·
              refine lv_lload_n hx hb dX8_gap_154 rfl (lv_at hl 2 rfl) ?_
              refine g_topl (z' := gapA P w) (hfa.1 (by omega)).symm ?_
              refine lv_goto (tgt := 171) hx hb dX8_gap_155 (by decide) ?_
              exact hret _ _ _ _ _ _ (⟨rfl, hJ⟩) X dX8_gap_171
          ·
            refine lv_aload_n hx hb dX8_gap_52 rfl (lv_at hl 0 rfl) ?_
            refine lv_iconst (v := iI (-1)) hx hb dX8_gap_53 rfl ?_
            refine g_callVv G X (rest := []) (As := [.int (iI ((-1)))]) (t_X8_bends l Y (τ) P ((-1)) hMT (by first | assumption | omega)) (cwV 1 hts gX8_gap_X8_bends rfl rfl rfl (by decide +kernel) ⟨Nat.le_of_ble_eq_true rfl, Nat.le_of_ble_eq_true rfl⟩) (k := 0) (Nat.le_of_ble_eq_true rfl) rfl rfl rfl rfl hl.1 rfl (Nat.le_of_ble_eq_true rfl) dX8_gap_54 ⟨Nat.le_refl _, Nat.le_refl _⟩ (fun u54 H locs hq54 X => ?_)
            have hMa := hMT.fr hq54.2 (by omega) (by omega)
            have hJa := hJ.keep (hq54.2.C (by omega) (by omega))
            refine lv_aload_n hx hb dX8_gap_57 rfl (lv_at hl 0 rfl) ?_
            refine lv_iload hx hb dX8_gap_58 (lv_at hl 5 rfl) ?_
            refine g_callVv G X (rest := []) (As := [.int (iI (g))]) (t_X8_bent l Y (u54) P (g) (-1) hMa hq54.1.1 hq54.1.2 (by first | assumption | omega)) (cwV 1 hts gX8_gap_X8_bent rfl rfl rfl (by decide +kernel) ⟨Nat.le_of_ble_eq_true rfl, Nat.le_of_ble_eq_true rfl⟩) (k := 0) (Nat.le_of_ble_eq_true rfl) rfl rfl rfl rfl hl.1 rfl (Nat.le_of_ble_eq_true rfl) dX8_gap_60 ⟨Nat.le_refl _, Nat.le_refl _⟩ (fun u60 H locs hq60 X => ?_)
            have hMb := hMa.fr hq60.2.2 (by omega) (by omega)
            have hJb := hJa.keep (hq60.2.2.C (by omega) (by omega))
            refine lv_aload_n hx hb dX8_gap_63 rfl (lv_at hl 0 rfl) ?_
            refine g_get G X (k := 0) (fs := fM Y) (Nat.le_of_ble_eq_true rfl) (fun _ => rfl) rfl in_X8 18 (by decide) l_f89 rfl (v := .long (lI ((u60 0 18)))) rfl dX8_gap_64 ?_
            obtain ⟨a1, ha1⟩ : ∃ x : Int, x = low (hNum (gX P) (gW P) (gM P) (hulC P (-1)) g) (hDen (gX P) (gW P) (hulC P (-1)) g) 0 := ⟨_, rfl⟩
            refine g_topl (z' := a1) (by rw [ha1]; exact hq60.1) ?_
            refine lv_lstore (lv' := [(8, .long (lI (a1))), (0, .ref (Y.2.1 (0))), (1, .int (iI (w))), (2, .long (lI (bn))), (4, .long (lI (bd))), (6, .int (iI (bw2))), (7, .int (iI (g)))]) hx hb dX8_gap_67 hl (by decide) rfl (fun ls hl => ?_)
            refine lv_aload_n hx hb dX8_gap_69 rfl (lv_at hl 1 rfl) ?_
            refine g_get G X (k := 0) (fs := fM Y) (Nat.le_of_ble_eq_true rfl) (fun _ => rfl) rfl in_X8 19 (by decide) l_f93 rfl (v := .long (lI ((u60 0 19)))) rfl dX8_gap_70 ?_
            obtain ⟨b1, hb1⟩ : ∃ x : Int, x = low (hNum (gX P) (gW P) (gM P) (hulC P (-1)) g) (hDen (gX P) (gW P) (hulC P (-1)) g) 1 := ⟨_, rfl⟩
            refine g_topl (z' := b1) (by rw [hb1]; exact hq60.2.1) ?_
            refine lv_lstore (lv' := [(10, .long (lI (b1))), (8, .long (lI (a1))), (0, .ref (Y.2.1 (0))), (1, .int (iI (w))), (2, .long (lI (bn))), (4, .long (lI (bd))), (6, .int (iI (bw2))), (7, .int (iI (g)))]) hx hb dX8_gap_73 hl (by decide) rfl (fun ls hl => ?_)
            refine lv_aload_n hx hb dX8_gap_75 rfl (lv_at hl 2 rfl) ?_
            refine lv_iconst (v := iI 1) hx hb dX8_gap_76 rfl ?_
            refine g_callVv G X (rest := []) (As := [.int (iI (1))]) (t_X8_bends l Y (u60) P (1) hMb (by first | assumption | omega)) (cwV 1 hts gX8_gap_X8_bends rfl rfl rfl (by decide +kernel) ⟨Nat.le_of_ble_eq_true rfl, Nat.le_of_ble_eq_true rfl⟩) (k := 0) (Nat.le_of_ble_eq_true rfl) rfl rfl rfl rfl hl.1 rfl (Nat.le_of_ble_eq_true rfl) dX8_gap_77 ⟨Nat.le_refl _, Nat.le_refl _⟩ (fun u77 H locs hq77 X => ?_)
            have hMc := hMb.fr hq77.2 (by omega) (by omega)
            have hJc := hJb.keep (hq77.2.C (by omega) (by omega))
            refine lv_aload_n hx hb dX8_gap_80 rfl (lv_at hl 2 rfl) ?_
            refine lv_iload hx hb dX8_gap_81 (lv_at hl 7 rfl) ?_
            refine g_callVv G X (rest := []) (As := [.int (iI (g))]) (t_X8_bent l Y (u77) P (g) (1) hMc hq77.1.1 hq77.1.2 (by first | assumption | omega)) (cwV 1 hts gX8_gap_X8_bent rfl rfl rfl (by decide +kernel) ⟨Nat.le_of_ble_eq_true rfl, Nat.le_of_ble_eq_true rfl⟩) (k := 0) (Nat.le_of_ble_eq_true rfl) rfl rfl rfl rfl hl.1 rfl (Nat.le_of_ble_eq_true rfl) dX8_gap_83 ⟨Nat.le_refl _, Nat.le_refl _⟩ (fun u83 H locs hq83 X => ?_)
            have hMd := hMc.fr hq83.2.2 (by omega) (by omega)
            have hJd := hJc.keep (hq83.2.2.C (by omega) (by omega))
            refine lv_aload_n hx hb dX8_gap_86 rfl (lv_at hl 2 rfl) ?_
            refine lv_lload hx hb dX8_gap_87 (lv_at hl 1 rfl) ?_
            refine lv_aload_n hx hb dX8_gap_89 rfl (lv_at hl 2 rfl) ?_
            refine g_get G X (k := 0) (fs := fM Y) (Nat.le_of_ble_eq_true rfl) (fun _ => rfl) rfl in_X8 19 (by decide) l_f93 rfl (v := .long (lI ((u83 0 19)))) rfl dX8_gap_90 ?_
            obtain ⟨b2, hb2⟩ : ∃ x : Int, x = low (hNum (gX P) (gW P) (gM P) (hulC P (1)) g) (hDen (gX P) (gW P) (hulC P (1)) g) 1 := ⟨_, rfl⟩
            refine g_topl (z' := b2) (by rw [hb2]; exact hq83.2.1) ?_
            obtain ⟨a2, ha2⟩ : ∃ x : Int, x = low (hNum (gX P) (gW P) (gM P) (hulC P (1)) g) (hDen (gX P) (gW P) (hulC P (1)) g) 0 := ⟨_, rfl⟩
            have hgn := gapN_low hPr hq77.1.2 hq54.1.2 (g := g) (by omega) ha1 hb1 ha2 hb2
            refine g_lmul G dX8_gap_93 ?_
            refine lv_aload_n hx hb dX8_gap_94 rfl (lv_at hl 2 rfl) ?_
            refine g_get G X (k := 0) (fs := fM Y) (Nat.le_of_ble_eq_true rfl) (fun _ => rfl) rfl in_X8 18 (by decide) l_f89 rfl (v := .long (lI ((u83 0 18)))) rfl dX8_gap_95 ?_
            refine g_topl (z' := a2) (by rw [ha2]; exact hq83.1) ?_
            refine lv_lload hx hb dX8_gap_98 (lv_at hl 0 rfl) ?_
            refine g_lmul G dX8_gap_100 ?_
            refine g_lsub G dX8_gap_101 ?_
            refine lv_lload hx hb dX8_gap_102 (lv_at hl 0 rfl) ?_
            refine lv_aload_n hx hb dX8_gap_104 rfl (lv_at hl 2 rfl) ?_
            refine g_get G X (k := 0) (fs := fM Y) (Nat.le_of_ble_eq_true rfl) (fun _ => rfl) rfl in_X8 19 (by decide) l_f93 rfl (v := .long (lI ((u83 0 19)))) rfl dX8_gap_105 ?_
            refine g_topl (z' := b2) (by rw [hb2]; exact hq83.2.1) ?_
            refine g_lmul G dX8_gap_108 ?_
            refine g_callVv G X (rest := []) (As := [.long (lI (((a1 * b2) - (a2 * b1)))), .long (lI ((b1 * b2)))]) (t_X8_lowers l Y (u83) (((a1 * b2) - (a2 * b1))) ((b1 * b2)) hgn.1.1 hgn.1.2) (cwV 2 hts gX8_gap_X8_lowers rfl rfl rfl (by decide +kernel) ⟨Nat.le_of_ble_eq_true rfl, Nat.le_of_ble_eq_true rfl⟩) (k := 0) (Nat.le_of_ble_eq_true rfl) rfl rfl rfl rfl hl.1 rfl (Nat.le_of_ble_eq_true rfl) dX8_gap_109 ⟨Nat.le_refl _, Nat.le_refl _⟩ (fun u109 H locs hq109 X => ?_)
            have hMe := hMd.fr hq109.2.2 (by omega) (by omega)
            have hJe := hJd.keep (hq109.2.2.C (by omega) (by omega))
            have hlow := hq109
            rw [hgn.2 0, hgn.2 1] at hlow
            have hgr := gap_rg hPr hq77.1.2 hq54.1.2 (g := g) (by omega)
            have hgD : ∀ j : Int, 0 ≤ j → j < g + 1 → 0 < gapD P j := fun j e0 e1 => (gap_rg hPr hq77.1.2 hq54.1.2 (g := j) (by omega)).1
            have hlp := low_rg (n := gapN P g) ⟨hgr.1, hgr.2.1⟩ hgr.2.2
            obtain ⟨n2, hn2⟩ : ∃ x : Int, x = low (gapN P g) (gapD P g) 0 := ⟨_, rfl⟩
            obtain ⟨d2, hd2⟩ : ∃ x : Int, x = low (gapN P g) (gapD P g) 1 := ⟨_, rfl⟩
            rw [← hn2, ← hd2] at hlow hlp
            have q1 := mul_rg (a := n2) (b := bd) (A := 6569164800) (B := 33177600) (by omega) (by omega)
            have q2 := mul_rg (a := bn) (b := d2) (A := 6569164800) (B := 33177600) (by omega) (by omega)
            have hg0 : g = 0 → gapN P g = 0 ∧ bn = -1 ∧ bd = 1 := fun h => ⟨by rw [h]; exact gap_0 hq77.1.2 hq54.1.2 hnp, hb0 h⟩
            refine lv_aload_n hx hb dX8_gap_112 rfl (lv_at hl 2 rfl) ?_
            refine g_get G X (k := 0) (fs := fM Y) (Nat.le_of_ble_eq_true rfl) (fun _ => rfl) rfl in_X8 18 (by decide) l_f89 rfl (v := .long (lI ((u109 0 18)))) rfl dX8_gap_113 ?_
            refine g_topl (z' := n2) hlow.1 ?_
            refine lv_lload hx hb dX8_gap_116 (lv_at hl 5 rfl) ?_
            refine g_lmul G dX8_gap_118 ?_
            refine lv_lload_n hx hb dX8_gap_119 rfl (lv_at hl 4 rfl) ?_
            refine lv_aload_n hx hb dX8_gap_120 rfl (lv_at hl 2 rfl) ?_
            refine g_get G X (k := 0) (fs := fM Y) (Nat.le_of_ble_eq_true rfl) (fun _ => rfl) rfl in_X8 19 (by decide) l_f93 rfl (v := .long (lI ((u109 0 19)))) rfl dX8_gap_121 ?_
            refine g_topl (z' := d2) hlow.2.1 ?_
            refine g_lmul G dX8_gap_124 ?_
            refine g_lif_le (tgt := 144) G dX8_gap_125 dX8_gap_126 (by decide) (by omega) (by omega) (fun h125 => ?_) (fun h125 => ?_)
            ·
              refine lv_iinc (v := iI (g + 1)) (lv' := [(7, .int (iI ((g + 1)))), (10, .long (lI (b1))), (8, .long (lI (a1))), (0, .ref (Y.2.1 (0))), (1, .int (iI (w))), (2, .long (lI (bn))), (4, .long (lI (bd))), (6, .int (iI (bw2)))]) hx hb dX8_gap_144 hl (k := 7) rfl (iI_add _ _) (by decide) rfl (fun ls hl => ?_)
              refine lv_goto (tgt := 43) hx hb dX8_gap_147 (by decide) ?_
              exact ih_43 (bn) (bd) (bw2) ((g + 1)) (u109) (by omega) (by omega) (by omega) hMe hJe (by omega) (fun h => absurd h (by omega)) (fun _ => by first | exact wdL_take hgD hg.1 hbw hn2 hd2 (by omega) | exact wdL_keep hgD hg.1 hg0 hbw hn2 hd2 (by omega)) (by omega) _ _ _ X (lv_sub hl [3, 4, 5, 6, 7, 0] rfl)
            ·
              refine lv_aload_n hx hb dX8_gap_129 rfl (lv_at hl 2 rfl) ?_
              refine g_get G X (k := 0) (fs := fM Y) (Nat.le_of_ble_eq_true rfl) (fun _ => rfl) rfl in_X8 18 (by decide) l_f89 rfl (v := .long (lI ((u109 0 18)))) rfl dX8_gap_130 ?_
              refine g_topl (z' := n2) hlow.1 ?_
              refine lv_lstore_n (lv' := [(2, .long (lI (n2))), (10, .long (lI (b1))), (8, .long (lI (a1))), (0, .ref (Y.2.1 (0))), (1, .int (iI (w))), (4, .long (lI (bd))), (6, .int (iI (bw2))), (7, .int (iI (g)))]) hx hb dX8_gap_133 rfl hl (by decide) rfl (fun ls hl => ?_)
              refine lv_aload_n hx hb dX8_gap_134 rfl (lv_at hl 3 rfl) ?_
              refine g_get G X (k := 0) (fs := fM Y) (Nat.le_of_ble_eq_true rfl) (fun _ => rfl) rfl in_X8 19 (by decide) l_f93 rfl (v := .long (lI ((u109 0 19)))) rfl dX8_gap_135 ?_
              refine g_topl (z' := d2) hlow.2.1 ?_
              refine lv_lstore (lv' := [(4, .long (lI (d2))), (2, .long (lI (n2))), (10, .long (lI (b1))), (8, .long (lI (a1))), (0, .ref (Y.2.1 (0))), (1, .int (iI (w))), (6, .int (iI (bw2))), (7, .int (iI (g)))]) hx hb dX8_gap_138 hl (by decide) rfl (fun ls hl => ?_)
              refine lv_iload hx hb dX8_gap_140 (lv_at hl 7 rfl) ?_
              refine lv_istore (lv' := [(6, .int (iI (g))), (4, .long (lI (d2))), (2, .long (lI (n2))), (10, .long (lI (b1))), (8, .long (lI (a1))), (0, .ref (Y.2.1 (0))), (1, .int (iI (w))), (7, .int (iI (g)))]) hx hb dX8_gap_142 hl (by decide) rfl (fun ls hl => ?_)
              refine lv_iinc (v := iI (g + 1)) (lv' := [(7, .int (iI ((g + 1)))), (6, .int (iI (g))), (4, .long (lI (d2))), (2, .long (lI (n2))), (10, .long (lI (b1))), (8, .long (lI (a1))), (0, .ref (Y.2.1 (0))), (1, .int (iI (w)))]) hx hb dX8_gap_144 hl (k := 7) rfl (iI_add _ _) (by decide) rfl (fun ls hl => ?_)
              refine lv_goto (tgt := 43) hx hb dX8_gap_147 (by decide) ?_
              exact ih_43 (n2) (d2) (g) ((g + 1)) (u109) (by omega) (by omega) (by omega) hMe hJe (by omega) (fun h => absurd h (by omega)) (fun _ => by first | exact wdL_take hgD hg.1 hbw hn2 hd2 (by omega) | exact wdL_keep hgD hg.1 hg0 hbw hn2 hd2 (by omega)) (by omega) _ _ _ X (lv_sub hl [6, 7, 3, 2, 1, 0] rfl)
      exact lp_43 ((((ng P - (0)) : Int).toNat + 1)) ((-1)) (1) (0) (0) (u27) (by omega) (by omega) (by omega) hMG0 hI2 (by omega) (fun _ => ⟨rfl, rfl⟩) (fun h => absurd h (by omega)) (by omega) _ _ _ X (lv_sub hl [4, 5, 3, 2, 1, 0] rfl)
    ·
      refine g_ldc2 G (z := (-1000002)) l_k155 (by decide +kernel) dX8_gap_22 ?_
      exact hret _ _ _ _ _ _ (⟨((if_neg (by omega)).trans (if_pos (by omega))).symm, hI⟩) X dX8_gap_25
  ·
    refine g_ldc2 G (z := (-1000001)) l_k136 (by decide +kernel) dX8_gap_9 ?_
    exact hret _ _ _ _ _ _ (⟨(if_pos (by omega)).symm, hI⟩) X dX8_gap_12

