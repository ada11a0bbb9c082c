set_option maxHeartbeats 4000000 in
set_option maxRecDepth 100000 in
theorem t_J13_compare_74951 (l : Launch) (Y : Yt) (σ : Mem) (a : Int) (b : Int) (ha : -9223372036854775808 ≤ a ∧ a ≤ 9223372036854775807) (hb0 : -9223372036854775808 ≤ b ∧ b ≤ 9223372036854775807) : MXi l LX Y yJ13_compare_74951 wsJ13_compare_74951 { frames := 0, cells := 0, slots := 0, locals := 0 } [.long (lI (a)), .long (lI (b))] σ (fun z u => u = σ ∧ ((z = -1 ∧ a < b) ∨ (z = 0 ∧ a = b) ∨ (z = 1 ∧ b < a))) := by
  refine g_starti (rty := .int) (fun _ _ _ => rfl) (cc := cJ13_compare_74951) (nL := 4) (own := RJ13) (by decide) rfl rfl (Nat.le_of_ble_eq_true rfl) ?_
  intro pp ee ss mm bw mt cd AA ZZ ls G hret X hl
  have hl : lv_has ls 4 [(0, .long (lI (a))), (2, .long (lI (b)))] := hl
  have hx := G.1
  have hb := G.2.1
  have hts := G.2.2.2.2.1
  refine lv_lload_n hx hb dJ13_compare_74951_0 rfl (lv_at hl 0 rfl) ?_
  refine lv_lload_n hx hb dJ13_compare_74951_1 rfl (lv_at hl 1 rfl) ?_
  refine g_lif_ge (tgt := 10) G dJ13_compare_74951_2 dJ13_compare_74951_3 (by decide) (by omega) (by omega) (fun h2 => ?_) (fun h2 => ?_)
  ·
    refine lv_lload_n hx hb dJ13_compare_74951_10 rfl (lv_at hl 0 rfl) ?_
    refine lv_lload_n hx hb dJ13_compare_74951_11 rfl (lv_at hl 1 rfl) ?_
    refine g_lif_ne (tgt := 20) G dJ13_compare_74951_12 dJ13_compare_74951_13 (by decide) (by omega) (by omega) (fun h12 => ?_) (fun h12 => ?_)
    ·
      refine lv_iconst (v := iI 1) hx hb dJ13_compare_74951_20 rfl ?_
      exact hret _ _ _ _ _ _ (⟨rfl, by omega⟩) X dJ13_compare_74951_21
    ·
      refine lv_iconst (v := iI 0) hx hb dJ13_compare_74951_16 rfl ?_
      refine lv_goto (tgt := 21) hx hb dJ13_compare_74951_17 (by decide) ?_
      exact hret _ _ _ _ _ _ (⟨rfl, by omega⟩) X dJ13_compare_74951_21
  ·
    refine lv_iconst (v := iI (-1)) hx hb dJ13_compare_74951_6 rfl ?_
    refine lv_goto (tgt := 21) hx hb dJ13_compare_74951_7 (by decide) ?_
    exact hret _ _ _ _ _ _ (⟨rfl, by omega⟩) X dJ13_compare_74951_21

set_option maxHeartbeats 4000000 in
set_option maxRecDepth 100000 in
theorem t_X4_chooseFirstLevel (l : Launch) (Y : Yt) (σ : Mem) (n : Int) (Xf : Int → Int) (Cf : Int → Int) (Wf : Int → Int) (Mf : Int → Int) (q : Int) (k : Int) (fi : Int) (hT : Tb σ n Xf Cf Wf Mf q) (hPf : Prof n Xf Wf Mf) (hk : 1 ≤ k ∧ k ≤ n) (hfi : 0 ≤ fi ∧ fi + k ≤ n) (hP1 : LvP σ n Wf Mf k fi) : MXv l LX Y yX4_chooseFirstLevel wsX4_chooseFirstLevel { frames := 2, cells := 0, slots := 0, locals := 48 } [.ref (Y.2.1 (49)), .int (iI (k)), .int (iI (fi))] σ (fun u => u = up (up σ (51 + k.toNat) fi (lvG n Wf Mf k.toNat fi).1) (65 + k.toNat) fi (lvG n Wf Mf k.toNat fi).2) := by
  obtain ⟨⟨hn0, hn12, hW0, hM0, hW24⟩, hstep, hXa, hXr⟩ := id hPf
  obtain ⟨hTn, hTq, hTx, hTw⟩ := id hT
  obtain ⟨gk, hgk, hgk2⟩ : ∃ gk : Nat, 51 + (k).toNat = gk ∧ isJ Y gk := ⟨_, rfl, levJ Y (by omega)⟩
  obtain ⟨gp, hgp, hgp2⟩ : ∃ gp : Nat, 51 + (k - 1).toNat = gp ∧ isJ Y gp := ⟨_, rfl, levJ Y (by omega)⟩
  obtain ⟨nk, hnk, hnk2⟩ : ∃ nk : Nat, 65 + k.toNat = nk ∧ isI13 Y nk := ⟨_, rfl, levI Y (by omega)⟩
  have hne : gk ≠ nk := by omega
  have hTl : ∀ v w, Tb (up (up σ gk fi v) nk fi w) n Xf Cf Wf Mf q := fun v w => hT.sameL (fun a h => by rw [up_ne (by omega), up_ne (by omega)])
  obtain ⟨sh, hsh⟩ : ∃ sh, sh = (if k = 1 then n - 1 else fi) := ⟨_, rfl⟩
  have hsh2 : 0 ≤ sh ∧ fi ≤ sh ∧ sh + k ≤ n ∧ (k = 1 → sh = n - 1) := by rw [hsh]; split <;> omega
  refine g_startv (cc := cX4_chooseFirstLevel) (nL := 8) (own := RX4) (by decide) rfl rfl (Nat.le_of_ble_eq_true rfl) ?_
  intro pp ee ss mm bw mt cd AA ZZ ls G hret X hl
  have hl : lv_has ls 8 [(0, .ref (Y.2.1 (49))), (1, .int (iI (k))), (2, .int (iI (fi)))] := hl
  have hx := G.1
  have hb := G.2.1
  have hts := G.2.2.2.2.1
  have l_f11 := hts (.fieldLink RX4 11 "ShapeFits$LevelTable" "gain" "[[J") (List.mem_of_getElem? (i := 2) rfl)
  have l_f18 := hts (.fieldLink RX4 18 "ShapeFits$LevelTable" "next" "[[I") (List.mem_of_getElem? (i := 4) rfl)
  have l_f21 := hts (.fieldLink RX4 21 "ShapeFits$LevelTable" "table" "LShapeFits$GroupTable;") (List.mem_of_getElem? (i := 1) rfl)
  have l_k35 := hts (.constantLong RX4 35 (-1)) (List.mem_of_getElem? (i := 3) rfl)
  have in_X4 : ∀ w ∈ u_ws RX4 TX4 3, w ∈ wsX4_chooseFirstLevel := by decide +kernel
  refine lv_aload_n hx hb dX4_chooseFirstLevel_0 rfl (lv_at hl 0 rfl) ?_
  refine g_get G X (k := 49) (fs := fLev Y) (Nat.le_of_ble_eq_true rfl) (fun _ => rfl) rfl in_X4 0 (by decide) l_f21 rfl (v := .ref (Y.2.1 (38))) rfl dX4_chooseFirstLevel_1 ?_
  refine g_callVi G X (rest := []) (As := []) (t_X1_size l Y (σ) n Xf Cf Wf Mf q (by first | assumption | omega) (by first | assumption | omega)) (cwV 0 hts gX4_chooseFirstLevel_X1_size rfl rfl rfl (by decide +kernel) ⟨Nat.le_of_ble_eq_true rfl, Nat.le_of_ble_eq_true rfl⟩) (k := 38) (Nat.le_of_ble_eq_true rfl) rfl rfl rfl rfl hl.1 rfl (Nat.le_of_ble_eq_true rfl) dX4_chooseFirstLevel_4 ⟨Nat.le_refl _, Nat.le_refl _⟩ (fun z4 u4 H locs hq4 X => ?_)
  rw [hq4.1] at X
  have hq4 := hq4.2
  try dsimp only at hq4
  refine g_topi (z' := n) hq4 ?_
  refine lv_iload_n hx hb dX4_chooseFirstLevel_7 rfl (lv_at hl 1 rfl) ?_
  refine lv_iconst (v := iI 1) hx hb dX4_chooseFirstLevel_8 rfl ?_
  refine g_isub G dX4_chooseFirstLevel_9 ?_
  refine g_isub G dX4_chooseFirstLevel_10 ?_
  refine lv_istore_n (lv' := [(3, .int (iI ((n - (k - 1))))), (0, .ref (Y.2.1 (49))), (1, .int (iI (k))), (2, .int (iI (fi)))]) hx hb dX4_chooseFirstLevel_11 rfl hl (by decide) rfl (fun ls hl => ?_)
  refine lv_iload_n hx hb dX4_chooseFirstLevel_12 rfl (lv_at hl 2 rfl) ?_
  refine lv_iconst (v := iI 1) hx hb dX4_chooseFirstLevel_13 rfl ?_
  refine g_icmp_ne (tgt := 23) G dX4_chooseFirstLevel_14 (by decide) (by omega) (by omega) (fun h14 => ?_) (fun h14 => ?_)
  ·
    refine lv_iload_n hx hb dX4_chooseFirstLevel_23 rfl (lv_at hl 3 rfl) ?_
    refine g_topi (z' := sh) (by rw [hsh]; first | (rw [if_pos (by omega)]; omega) | rw [if_neg (by omega)]) ?_
    refine lv_istore (lv' := [(4, .int (iI (sh))), (3, .int (iI ((n - (k - 1))))), (0, .ref (Y.2.1 (49))), (1, .int (iI (k))), (2, .int (iI (fi)))]) hx hb dX4_chooseFirstLevel_24 hl (by decide) rfl (fun ls hl => ?_)
    refine lv_aload_n hx hb dX4_chooseFirstLevel_26 rfl (lv_at hl 2 rfl) ?_
    refine g_get G X (k := 49) (fs := fLev Y) (Nat.le_of_ble_eq_true rfl) (fun _ => rfl) rfl in_X4 1 (by decide) l_f11 rfl (v := .ref (Y.2.1 (50))) rfl dX4_chooseFirstLevel_27 ?_
    refine lv_iload_n hx hb dX4_chooseFirstLevel_30 rfl (lv_at hl 3 rfl) ?_
    refine g_aaldT G X (k := 50) (n := 13) (t := 4) (g := 51) (ty := .array .long) (Nat.le_of_ble_eq_true rfl) (fun _ => rfl) rfl rfl (by decide) (z := k) (by omega) dX4_chooseFirstLevel_31 ?_
    refine g_topr hgk ?_
    refine lv_iload_n hx hb dX4_chooseFirstLevel_32 rfl (lv_at hl 4 rfl) ?_
    refine g_ldc2 G (z := (-1)) l_k35 (by decide +kernel) dX4_chooseFirstLevel_33 ?_
    refine g_last G X (k := gk) (n := 13) hgk2.1 hgk2.2 (by decide) (z := fi) (v := (-1)) (by omega) dX4_chooseFirstLevel_36 (fun H locs X => ?_)
    have X := (show (up σ gk fi (-1)) = (up (up σ gk fi (-1)) nk fi (σ nk fi)) from (up_self (by rw [up_ne (Ne.symm hne)]))) ▸ X
    refine lv_iload hx hb dX4_chooseFirstLevel_37 (lv_at hl 0 rfl) ?_
    refine lv_istore (lv' := [(5, .int (iI (sh))), (4, .int (iI (sh))), (3, .int (iI ((n - (k - 1))))), (0, .ref (Y.2.1 (49))), (1, .int (iI (k))), (2, .int (iI (fi)))]) hx hb dX4_chooseFirstLevel_39 hl (by decide) rfl (fun ls hl => ?_)
    have lp_41 : ∀ (nn : Nat) (la v w : Int), ∀ hla : sh ≤ la ∧ la ≤ n - (k - 1), ∀ hv : v = (scU (lvF n Wf Mf k fi) sh (la - sh).toNat).1, ∀ hw0 : sh < la → w = (scU (lvF n Wf Mf k fi) sh (la - sh).toNat).2, ∀ hvr : -1 ≤ v ∧ v ≤ 1300000000000000, ∀ hdec : (n - (k - 1) - la) < (nn : Int), ∀ (H : Heap) (locs : List Loc) (ls : Array Slot), wx LX Y (up (up σ gk fi v) nk fi w) ss AA H locs → lv_has ls 8 [(0, .ref (Y.2.1 (49))), (1, .int (iI (k))), (2, .int (iI (fi))), (3, .int (iI ((n - (k - 1))))), (4, .int (iI (sh))), (5, .int (iI (la)))] → W pp l ee { frames := 2, cells := 0, slots := 0, locals := 48 } ss mm ([.ref (Y.2.1 (49)), .int (iI (k)), .int (iI (fi))] : List Value).toArray bw mt cd H locs 0 0 ZZ (F0 mm 41 ls []) := by
      intro nn
      induction nn with
      | zero =>
        intro la v w hla hv hw0 hvr hdec
        exact absurd hdec (by omega)
      | succ nn ih_41 =>
        intro la v w hla hv hw0 hvr hdec H locs ls X hl
        refine lv_iload hx hb dX4_chooseFirstLevel_41 (lv_at hl 5 rfl) ?_
        refine lv_iload_n hx hb dX4_chooseFirstLevel_43 rfl (lv_at hl 3 rfl) ?_
        refine g_icmp_ge (tgt := 124) G dX4_chooseFirstLevel_44 (by decide) (by omega) (by omega) (fun h44 => ?_) (fun h44 => ?_)
        ·
          exact hret _ _ _ _ _ ((by rw [hv, hw0 (by omega), lvG_eq hk.1, ← hsh, show la = n - (k - 1) by omega, hgk, hnk])) X dX4_chooseFirstLevel_124
        ·
          refine lv_aload_n hx hb dX4_chooseFirstLevel_47 rfl (lv_at hl 0 rfl) ?_
          refine g_get G X (k := 49) (fs := fLev Y) (Nat.le_of_ble_eq_true rfl) (fun _ => rfl) rfl in_X4 0 (by decide) l_f21 rfl (v := .ref (Y.2.1 (38))) rfl dX4_chooseFirstLevel_48 ?_
          refine lv_iload_n hx hb dX4_chooseFirstLevel_51 rfl (lv_at hl 2 rfl) ?_
          refine lv_iload hx hb dX4_chooseFirstLevel_52 (lv_at hl 5 rfl) ?_
          refine g_callVl G X (rest := []) (As := [.int (iI (fi)), .int (iI (la))]) (t_X1_gainOf l Y ((up (up σ gk fi v) nk fi w)) n Xf Cf Wf Mf q (fi) (la) (hTl _ _) (by first | assumption | omega) (by first | assumption | omega)) (cwV 2 hts gX4_chooseFirstLevel_X1_gainOf rfl rfl rfl (by decide +kernel) ⟨Nat.le_of_ble_eq_true rfl, Nat.le_of_ble_eq_true rfl⟩) (k := 38) (Nat.le_of_ble_eq_true rfl) rfl rfl rfl rfl hl.1 rfl (Nat.le_of_ble_eq_true rfl) dX4_chooseFirstLevel_54 ⟨Nat.le_refl _, Nat.le_refl _⟩ (fun z54 u54 H locs hq54 X => ?_)
          rw [hq54.1] at X
          have hq54 := hq54.2
          try dsimp only at hq54
          refine g_topl (z' := gain Wf Mf fi la) hq54.1 ?_
          refine lv_iload_n hx hb dX4_chooseFirstLevel_57 rfl (lv_at hl 1 rfl) ?_
          refine lv_iconst (v := iI 1) hx hb dX4_chooseFirstLevel_58 rfl ?_
          refine g_icmp_ne (tgt := 66) G dX4_chooseFirstLevel_59 (by decide) (by omega) (by omega) (fun h59 => ?_) (fun h59 => ?_)
          ·
            refine lv_aload_n hx hb dX4_chooseFirstLevel_66 rfl (lv_at hl 0 rfl) ?_
            refine g_get G X (k := 49) (fs := fLev Y) (Nat.le_of_ble_eq_true rfl) (fun _ => rfl) rfl in_X4 1 (by decide) l_f11 rfl (v := .ref (Y.2.1 (50))) rfl dX4_chooseFirstLevel_67 ?_
            refine lv_iload_n hx hb dX4_chooseFirstLevel_70 rfl (lv_at hl 1 rfl) ?_
            refine lv_iconst (v := iI 1) hx hb dX4_chooseFirstLevel_71 rfl ?_
            refine g_isub G dX4_chooseFirstLevel_72 ?_
            refine g_aaldT G X (k := 50) (n := 13) (t := 4) (g := 51) (ty := .array .long) (Nat.le_of_ble_eq_true rfl) (fun _ => rfl) rfl rfl (by decide) (z := (k - 1)) (by omega) dX4_chooseFirstLevel_73 ?_
            refine g_topr hgp ?_
            refine lv_iload hx hb dX4_chooseFirstLevel_74 (lv_at hl 5 rfl) ?_
            refine lv_iconst (v := iI 1) hx hb dX4_chooseFirstLevel_76 rfl ?_
            refine g_iadd G dX4_chooseFirstLevel_77 ?_
            refine g_lald G X (k := gp) (n := 13) hgp2.1 hgp2.2 (by decide) (z := (la + 1)) (by omega) dX4_chooseFirstLevel_78 ?_
            refine g_topl (z' := (lvG n Wf Mf (k - 1).toNat (la + 1)).1) (by rw [up_ne (by omega), up_ne (by omega), ← hgp]; exact (hP1 (k - 1) (la + 1) (by omega) (by omega) (by omega) (by omega)).1) ?_
            have hlg := lvG_rg hPf (k - 1).toNat (la + 1) (by omega) (by omega) (by omega)
            have hwr := prof_w hPf (a := la + 1) (b := n) (by omega) (by omega) (by omega)
            refine g_ladd G dX4_chooseFirstLevel_79 ?_
            refine g_topl (z' := lvF n Wf Mf k fi la) (by unfold lvF; split <;> first | rfl | (exfalso; omega)) ?_
            refine lv_lstore (lv' := [(6, .long (lI ((lvF n Wf Mf k fi la)))), (0, .ref (Y.2.1 (49))), (1, .int (iI (k))), (2, .int (iI (fi))), (3, .int (iI ((n - (k - 1))))), (4, .int (iI (sh))), (5, .int (iI (la)))]) hx hb dX4_chooseFirstLevel_80 hl (by decide) rfl (fun ls hl => ?_)
            have hgw := gain_w hPf (a := fi) (b := la) (by omega)
            have hwr1 := prof_w hPf (a := fi) (b := la + 1) (by omega) (by omega) (by omega)
            have hFr : 0 ≤ lvF n Wf Mf k fi la ∧ lvF n Wf Mf k fi la ≤ 1300000000000000 := by unfold lvF; first | (rw [if_pos (by omega)]; omega) | (rw [if_neg (by omega)]; omega)
            refine lv_lload hx hb dX4_chooseFirstLevel_82 (lv_at hl 0 rfl) ?_
            refine lv_aload_n hx hb dX4_chooseFirstLevel_84 rfl (lv_at hl 1 rfl) ?_
            refine g_get G X (k := 49) (fs := fLev Y) (Nat.le_of_ble_eq_true rfl) (fun _ => rfl) rfl in_X4 1 (by decide) l_f11 rfl (v := .ref (Y.2.1 (50))) rfl dX4_chooseFirstLevel_85 ?_
            refine lv_iload_n hx hb dX4_chooseFirstLevel_88 rfl (lv_at hl 2 rfl) ?_
            refine g_aaldT G X (k := 50) (n := 13) (t := 4) (g := 51) (ty := .array .long) (Nat.le_of_ble_eq_true rfl) (fun _ => rfl) rfl rfl (by decide) (z := k) (by omega) dX4_chooseFirstLevel_89 ?_
            refine g_topr hgk ?_
            refine lv_iload_n hx hb dX4_chooseFirstLevel_90 rfl (lv_at hl 3 rfl) ?_
            refine g_lald G X (k := gk) (n := 13) hgk2.1 hgk2.2 (by decide) (z := fi) (by omega) dX4_chooseFirstLevel_91 ?_
            refine g_topl (z' := v) (by rw [up_ne hne, up_same]) ?_
            refine g_lif_lt (tgt := 118) G dX4_chooseFirstLevel_92 dX4_chooseFirstLevel_93 (by decide) (by omega) (by omega) (fun h92 => ?_) (fun h92 => ?_)
            ·
              have hsl : sh < la := by { by_cases e : la = sh; (subst e; rw [show (la - la).toNat = 0 by omega] at hv; have h9 : v = -1 := hv; omega); omega }
              refine lv_iinc (v := iI (la + 1)) (lv' := [(5, .int (iI ((la + 1)))), (6, .long (lI ((lvF n Wf Mf k fi la)))), (0, .ref (Y.2.1 (49))), (1, .int (iI (k))), (2, .int (iI (fi))), (3, .int (iI ((n - (k - 1))))), (4, .int (iI (sh)))]) hx hb dX4_chooseFirstLevel_118 hl (k := 6) rfl (iI_add _ _) (by decide) rfl (fun ls hl => ?_)
              refine lv_goto (tgt := 41) hx hb dX4_chooseFirstLevel_121 (by decide) ?_
              exact ih_41 ((la + 1)) (v) (w) (by omega) (by rw [show la + 1 - sh = (la - sh) + 1 by omega, scU_s (by omega), show sh + (la - sh) = la by omega]; split; (first | rfl | (exfalso; omega)); (first | exact hv | (exfalso; omega))) (fun h => by rw [show la + 1 - sh = (la - sh) + 1 by omega, scU_s (by omega), show sh + (la - sh) = la by omega]; split; (first | rfl | (exfalso; omega)); (first | exact hw0 hsl | (exfalso; omega))) (by omega) (by omega) _ _ _ X (lv_sub hl [2, 3, 4, 5, 6, 0] rfl)
            ·
              refine lv_aload_n hx hb dX4_chooseFirstLevel_96 rfl (lv_at hl 1 rfl) ?_
              refine g_get G X (k := 49) (fs := fLev Y) (Nat.le_of_ble_eq_true rfl) (fun _ => rfl) rfl in_X4 1 (by decide) l_f11 rfl (v := .ref (Y.2.1 (50))) rfl dX4_chooseFirstLevel_97 ?_
              refine lv_iload_n hx hb dX4_chooseFirstLevel_100 rfl (lv_at hl 2 rfl) ?_
              refine g_aaldT G X (k := 50) (n := 13) (t := 4) (g := 51) (ty := .array .long) (Nat.le_of_ble_eq_true rfl) (fun _ => rfl) rfl rfl (by decide) (z := k) (by omega) dX4_chooseFirstLevel_101 ?_
              refine g_topr hgk ?_
              refine lv_iload_n hx hb dX4_chooseFirstLevel_102 rfl (lv_at hl 3 rfl) ?_
              refine lv_lload hx hb dX4_chooseFirstLevel_103 (lv_at hl 0 rfl) ?_
              refine g_last G X (k := gk) (n := 13) hgk2.1 hgk2.2 (by decide) (z := fi) (v := (lvF n Wf Mf k fi la)) (by omega) dX4_chooseFirstLevel_105 (fun H locs X => ?_)
              refine lv_aload_n hx hb dX4_chooseFirstLevel_106 rfl (lv_at hl 1 rfl) ?_
              refine g_get G X (k := 49) (fs := fLev Y) (Nat.le_of_ble_eq_true rfl) (fun _ => rfl) rfl in_X4 2 (by decide) l_f18 rfl (v := .ref (Y.2.1 (64))) rfl dX4_chooseFirstLevel_107 ?_
              refine lv_iload_n hx hb dX4_chooseFirstLevel_110 rfl (lv_at hl 2 rfl) ?_
              refine g_aaldT G X (k := 64) (n := 13) (t := 5) (g := 65) (ty := .array .int) (Nat.le_of_ble_eq_true rfl) (fun _ => rfl) rfl rfl (by decide) (z := k) (by omega) dX4_chooseFirstLevel_111 ?_
              refine g_topr hnk ?_
              refine lv_iload_n hx hb dX4_chooseFirstLevel_112 rfl (lv_at hl 3 rfl) ?_
              refine lv_iload hx hb dX4_chooseFirstLevel_113 (lv_at hl 6 rfl) ?_
              refine lv_iconst (v := iI 1) hx hb dX4_chooseFirstLevel_115 rfl ?_
              refine g_iadd G dX4_chooseFirstLevel_116 ?_
              refine g_iast G X (k := nk) (n := 13) hnk2.1 hnk2.2 (by decide) (z := fi) (v := (la + 1)) (by omega) dX4_chooseFirstLevel_117 (fun H locs X => ?_)
              have X := (show (up (up (up (up σ gk fi v) nk fi w) gk fi (lvF n Wf Mf k fi la)) nk fi (la + 1)) = (up (up σ gk fi (lvF n Wf Mf k fi la)) nk fi (la + 1)) from (up_2 hne _ _ _ _ _)) ▸ X
              refine lv_iinc (v := iI (la + 1)) (lv' := [(5, .int (iI ((la + 1)))), (6, .long (lI ((lvF n Wf Mf k fi la)))), (0, .ref (Y.2.1 (49))), (1, .int (iI (k))), (2, .int (iI (fi))), (3, .int (iI ((n - (k - 1))))), (4, .int (iI (sh)))]) hx hb dX4_chooseFirstLevel_118 hl (k := 6) rfl (iI_add _ _) (by decide) rfl (fun ls hl => ?_)
              refine lv_goto (tgt := 41) hx hb dX4_chooseFirstLevel_121 (by decide) ?_
              exact ih_41 ((la + 1)) ((lvF n Wf Mf k fi la)) ((la + 1)) (by omega) (by rw [show la + 1 - sh = (la - sh) + 1 by omega, scU_s (by omega), show sh + (la - sh) = la by omega]; split; (first | rfl | (exfalso; omega)); (first | exact hv | (exfalso; omega))) (fun h => by rw [show la + 1 - sh = (la - sh) + 1 by omega, scU_s (by omega), show sh + (la - sh) = la by omega]; split; (first | rfl | (exfalso; omega)); (first | exact hw0 hsl | (exfalso; omega))) (by omega) (by omega) _ _ _ X (lv_sub hl [2, 3, 4, 5, 6, 0] rfl)
          ·
            refine lv_lconst (v := lI 0) hx hb dX4_chooseFirstLevel_62 (by decide +kernel) ?_
            refine lv_goto (tgt := 79) hx hb dX4_chooseFirstLevel_63 (by decide) ?_
            refine g_ladd G dX4_chooseFirstLevel_79 ?_
            refine g_topl (z' := lvF n Wf Mf k fi la) (by unfold lvF; split <;> first | rfl | (exfalso; omega)) ?_
            refine lv_lstore (lv' := [(6, .long (lI ((lvF n Wf Mf k fi la)))), (0, .ref (Y.2.1 (49))), (1, .int (iI (k))), (2, .int (iI (fi))), (3, .int (iI ((n - (k - 1))))), (4, .int (iI (sh))), (5, .int (iI (la)))]) hx hb dX4_chooseFirstLevel_80 hl (by decide) rfl (fun ls hl => ?_)
            have hgw := gain_w hPf (a := fi) (b := la) (by omega)
            have hwr1 := prof_w hPf (a := fi) (b := la + 1) (by omega) (by omega) (by omega)
            have hFr : 0 ≤ lvF n Wf Mf k fi la ∧ lvF n Wf Mf k fi la ≤ 1300000000000000 := by unfold lvF; first | (rw [if_pos (by omega)]; omega) | (rw [if_neg (by omega)]; omega)
            refine lv_lload hx hb dX4_chooseFirstLevel_82 (lv_at hl 0 rfl) ?_
            refine lv_aload_n hx hb dX4_chooseFirstLevel_84 rfl (lv_at hl 1 rfl) ?_
            refine g_get G X (k := 49) (fs := fLev Y) (Nat.le_of_ble_eq_true rfl) (fun _ => rfl) rfl in_X4 1 (by decide) l_f11 rfl (v := .ref (Y.2.1 (50))) rfl dX4_chooseFirstLevel_85 ?_
            refine lv_iload_n hx hb dX4_chooseFirstLevel_88 rfl (lv_at hl 2 rfl) ?_
            refine g_aaldT G X (k := 50) (n := 13) (t := 4) (g := 51) (ty := .array .long) (Nat.le_of_ble_eq_true rfl) (fun _ => rfl) rfl rfl (by decide) (z := k) (by omega) dX4_chooseFirstLevel_89 ?_
            refine g_topr hgk ?_
            refine lv_iload_n hx hb dX4_chooseFirstLevel_90 rfl (lv_at hl 3 rfl) ?_
            refine g_lald G X (k := gk) (n := 13) hgk2.1 hgk2.2 (by decide) (z := fi) (by omega) dX4_chooseFirstLevel_91 ?_
            refine g_topl (z' := v) (by rw [up_ne hne, up_same]) ?_
            refine g_lif_lt (tgt := 118) G dX4_chooseFirstLevel_92 dX4_chooseFirstLevel_93 (by decide) (by omega) (by omega) (fun h92 => ?_) (fun h92 => ?_)
            ·
              have hsl : sh < la := by { by_cases e : la = sh; (subst e; rw [show (la - la).toNat = 0 by omega] at hv; have h9 : v = -1 := hv; omega); omega }
              refine lv_iinc (v := iI (la + 1)) (lv' := [(5, .int (iI ((la + 1)))), (6, .long (lI ((lvF n Wf Mf k fi la)))), (0, .ref (Y.2.1 (49))), (1, .int (iI (k))), (2, .int (iI (fi))), (3, .int (iI ((n - (k - 1))))), (4, .int (iI (sh)))]) hx hb dX4_chooseFirstLevel_118 hl (k := 6) rfl (iI_add _ _) (by decide) rfl (fun ls hl => ?_)
              refine lv_goto (tgt := 41) hx hb dX4_chooseFirstLevel_121 (by decide) ?_
              exact ih_41 ((la + 1)) (v) (w) (by omega) (by rw [show la + 1 - sh = (la - sh) + 1 by omega, scU_s (by omega), show sh + (la - sh) = la by omega]; split; (first | rfl | (exfalso; omega)); (first | exact hv | (exfalso; omega))) (fun h => by rw [show la + 1 - sh = (la - sh) + 1 by omega, scU_s (by omega), show sh + (la - sh) = la by omega]; split; (first | rfl | (exfalso; omega)); (first | exact hw0 hsl | (exfalso; omega))) (by omega) (by omega) _ _ _ X (lv_sub hl [2, 3, 4, 5, 6, 0] rfl)
            ·
              refine lv_aload_n hx hb dX4_chooseFirstLevel_96 rfl (lv_at hl 1 rfl) ?_
              refine g_get G X (k := 49) (fs := fLev Y) (Nat.le_of_ble_eq_true rfl) (fun _ => rfl) rfl in_X4 1 (by decide) l_f11 rfl (v := .ref (Y.2.1 (50))) rfl dX4_chooseFirstLevel_97 ?_
              refine lv_iload_n hx hb dX4_chooseFirstLevel_100 rfl (lv_at hl 2 rfl) ?_
              refine g_aaldT G X (k := 50) (n := 13) (t := 4) (g := 51) (ty := .array .long) (Nat.le_of_ble_eq_true rfl) (fun _ => rfl) rfl rfl (by decide) (z := k) (by omega) dX4_chooseFirstLevel_101 ?_
              refine g_topr hgk ?_
              refine lv_iload_n hx hb dX4_chooseFirstLevel_102 rfl (lv_at hl 3 rfl) ?_
              refine lv_lload hx hb dX4_chooseFirstLevel_103 (lv_at hl 0 rfl) ?_
              refine g_last G X (k := gk) (n := 13) hgk2.1 hgk2.2 (by decide) (z := fi) (v := (lvF n Wf Mf k fi la)) (by omega) dX4_chooseFirstLevel_105 (fun H locs X => ?_)
              refine lv_aload_n hx hb dX4_chooseFirstLevel_106 rfl (lv_at hl 1 rfl) ?_
              refine g_get G X (k := 49) (fs := fLev Y) (Nat.le_of_ble_eq_true rfl) (fun _ => rfl) rfl in_X4 2 (by decide) l_f18 rfl (v := .ref (Y.2.1 (64))) rfl dX4_chooseFirstLevel_107 ?_
              refine lv_iload_n hx hb dX4_chooseFirstLevel_110 rfl (lv_at hl 2 rfl) ?_
              refine g_aaldT G X (k := 64) (n := 13) (t := 5) (g := 65) (ty := .array .int) (Nat.le_of_ble_eq_true rfl) (fun _ => rfl) rfl rfl (by decide) (z := k) (by omega) dX4_chooseFirstLevel_111 ?_
              refine g_topr hnk ?_
              refine lv_iload_n hx hb dX4_chooseFirstLevel_112 rfl (lv_at hl 3 rfl) ?_
              refine lv_iload hx hb dX4_chooseFirstLevel_113 (lv_at hl 6 rfl) ?_
              refine lv_iconst (v := iI 1) hx hb dX4_chooseFirstLevel_115 rfl ?_
              refine g_iadd G dX4_chooseFirstLevel_116 ?_
              refine g_iast G X (k := nk) (n := 13) hnk2.1 hnk2.2 (by decide) (z := fi) (v := (la + 1)) (by omega) dX4_chooseFirstLevel_117 (fun H locs X => ?_)
              have X := (show (up (up (up (up σ gk fi v) nk fi w) gk fi (lvF n Wf Mf k fi la)) nk fi (la + 1)) = (up (up σ gk fi (lvF n Wf Mf k fi la)) nk fi (la + 1)) from (up_2 hne _ _ _ _ _)) ▸ X
              refine lv_iinc (v := iI (la + 1)) (lv' := [(5, .int (iI ((la + 1)))), (6, .long (lI ((lvF n Wf Mf k fi la)))), (0, .ref (Y.2.1 (49))), (1, .int (iI (k))), (2, .int (iI (fi))), (3, .int (iI ((n - (k - 1))))), (4, .int (iI (sh)))]) hx hb dX4_chooseFirstLevel_118 hl (k := 6) rfl (iI_add _ _) (by decide) rfl (fun ls hl => ?_)
              refine lv_goto (tgt := 41) hx hb dX4_chooseFirstLevel_121 (by decide) ?_
              exact ih_41 ((la + 1)) ((lvF n Wf Mf k fi la)) ((la + 1)) (by omega) (by rw [show la + 1 - sh = (la - sh) + 1 by omega, scU_s (by omega), show sh + (la - sh) = la by omega]; split; (first | rfl | (exfalso; omega)); (first | exact hv | (exfalso; omega))) (fun h => by rw [show la + 1 - sh = (la - sh) + 1 by omega, scU_s (by omega), show sh + (la - sh) = la by omega]; split; (first | rfl | (exfalso; omega)); (first | exact hw0 hsl | (exfalso; omega))) (by omega) (by omega) _ _ _ X (lv_sub hl [2, 3, 4, 5, 6, 0] rfl)
    exact lp_41 ((((n - (k - 1) - (sh)) : Int).toNat + 1)) (sh) ((-1)) ((σ nk fi)) (by omega) (by rw [show (sh - sh).toNat = 0 by omega]; rfl) (fun h => by omega) (by omega) (by omega) _ _ _ X (lv_sub hl [3, 4, 5, 2, 1, 0] rfl)
  ·
    refine lv_iload_n hx hb dX4_chooseFirstLevel_17 rfl (lv_at hl 0 rfl) ?_
    refine lv_iconst (v := iI 1) hx hb dX4_chooseFirstLevel_18 rfl ?_
    refine g_isub G dX4_chooseFirstLevel_19 ?_
    refine lv_goto (tgt := 24) hx hb dX4_chooseFirstLevel_20 (by decide) ?_
    refine g_topi (z' := sh) (by rw [hsh]; first | (rw [if_pos (by omega)]; omega) | rw [if_neg (by omega)]) ?_
    refine lv_istore (lv' := [(4, .int (iI (sh))), (3, .int (iI ((n - (k - 1))))), (0, .ref (Y.2.1 (49))), (1, .int (iI (k))), (2, .int (iI (fi)))]) hx hb dX4_chooseFirstLevel_24 hl (by decide) rfl (fun ls hl => ?_)
    refine lv_aload_n hx hb dX4_chooseFirstLevel_26 rfl (lv_at hl 2 rfl) ?_
    refine g_get G X (k := 49) (fs := fLev Y) (Nat.le_of_ble_eq_true rfl) (fun _ => rfl) rfl in_X4 1 (by decide) l_f11 rfl (v := .ref (Y.2.1 (50))) rfl dX4_chooseFirstLevel_27 ?_
    refine lv_iload_n hx hb dX4_chooseFirstLevel_30 rfl (lv_at hl 3 rfl) ?_
    refine g_aaldT G X (k := 50) (n := 13) (t := 4) (g := 51) (ty := .array .long) (Nat.le_of_ble_eq_true rfl) (fun _ => rfl) rfl rfl (by decide) (z := k) (by omega) dX4_chooseFirstLevel_31 ?_
    refine g_topr hgk ?_
    refine lv_iload_n hx hb dX4_chooseFirstLevel_32 rfl (lv_at hl 4 rfl) ?_
    refine g_ldc2 G (z := (-1)) l_k35 (by decide +kernel) dX4_chooseFirstLevel_33 ?_
    refine g_last G X (k := gk) (n := 13) hgk2.1 hgk2.2 (by decide) (z := fi) (v := (-1)) (by omega) dX4_chooseFirstLevel_36 (fun H locs X => ?_)
    have X := (show (up σ gk fi (-1)) = (up (up σ gk fi (-1)) nk fi (σ nk fi)) from (up_self (by rw [up_ne (Ne.symm hne)]))) ▸ X
    refine lv_iload hx hb dX4_chooseFirstLevel_37 (lv_at hl 0 rfl) ?_
    refine lv_istore (lv' := [(5, .int (iI (sh))), (4, .int (iI (sh))), (3, .int (iI ((n - (k - 1))))), (0, .ref (Y.2.1 (49))), (1, .int (iI (k))), (2, .int (iI (fi)))]) hx hb dX4_chooseFirstLevel_39 hl (by decide) rfl (fun ls hl => ?_)
    have lp_41 : ∀ (nn : Nat) (la v w : Int), ∀ hla : sh ≤ la ∧ la ≤ n - (k - 1), ∀ hv : v = (scU (lvF n Wf Mf k fi) sh (la - sh).toNat).1, ∀ hw0 : sh < la → w = (scU (lvF n Wf Mf k fi) sh (la - sh).toNat).2, ∀ hvr : -1 ≤ v ∧ v ≤ 1300000000000000, ∀ hdec : (n - (k - 1) - la) < (nn : Int), ∀ (H : Heap) (locs : List Loc) (ls : Array Slot), wx LX Y (up (up σ gk fi v) nk fi w) ss AA H locs → lv_has ls 8 [(0, .ref (Y.2.1 (49))), (1, .int (iI (k))), (2, .int (iI (fi))), (3, .int (iI ((n - (k - 1))))), (4, .int (iI (sh))), (5, .int (iI (la)))] → W pp l ee { frames := 2, cells := 0, slots := 0, locals := 48 } ss mm ([.ref (Y.2.1 (49)), .int (iI (k)), .int (iI (fi))] : List Value).toArray bw mt cd H locs 0 0 ZZ (F0 mm 41 ls []) := by
      intro nn
      induction nn with
      | zero =>
        intro la v w hla hv hw0 hvr hdec
        exact absurd hdec (by omega)
      | succ nn ih_41 =>
        intro la v w hla hv hw0 hvr hdec H locs ls X hl
        refine lv_iload hx hb dX4_chooseFirstLevel_41 (lv_at hl 5 rfl) ?_
        refine lv_iload_n hx hb dX4_chooseFirstLevel_43 rfl (lv_at hl 3 rfl) ?_
        refine g_icmp_ge (tgt := 124) G dX4_chooseFirstLevel_44 (by decide) (by omega) (by omega) (fun h44 => ?_) (fun h44 => ?_)
        ·
          exact hret _ _ _ _ _ ((by rw [hv, hw0 (by omega), lvG_eq hk.1, ← hsh, show la = n - (k - 1) by omega, hgk, hnk])) X dX4_chooseFirstLevel_124
        ·
          refine lv_aload_n hx hb dX4_chooseFirstLevel_47 rfl (lv_at hl 0 rfl) ?_
          refine g_get G X (k := 49) (fs := fLev Y) (Nat.le_of_ble_eq_true rfl) (fun _ => rfl) rfl in_X4 0 (by decide) l_f21 rfl (v := .ref (Y.2.1 (38))) rfl dX4_chooseFirstLevel_48 ?_
          refine lv_iload_n hx hb dX4_chooseFirstLevel_51 rfl (lv_at hl 2 rfl) ?_
          refine lv_iload hx hb dX4_chooseFirstLevel_52 (lv_at hl 5 rfl) ?_
          refine g_callVl G X (rest := []) (As := [.int (iI (fi)), .int (iI (la))]) (t_X1_gainOf l Y ((up (up σ gk fi v) nk fi w)) n Xf Cf Wf Mf q (fi) (la) (hTl _ _) (by first | assumption | omega) (by first | assumption | omega)) (cwV 2 hts gX4_chooseFirstLevel_X1_gainOf rfl rfl rfl (by decide +kernel) ⟨Nat.le_of_ble_eq_true rfl, Nat.le_of_ble_eq_true rfl⟩) (k := 38) (Nat.le_of_ble_eq_true rfl) rfl rfl rfl rfl hl.1 rfl (Nat.le_of_ble_eq_true rfl) dX4_chooseFirstLevel_54 ⟨Nat.le_refl _, Nat.le_refl _⟩ (fun z54 u54 H locs hq54 X => ?_)
          rw [hq54.1] at X
          have hq54 := hq54.2
          try dsimp only at hq54
          refine g_topl (z' := gain Wf Mf fi la) hq54.1 ?_
          refine lv_iload_n hx hb dX4_chooseFirstLevel_57 rfl (lv_at hl 1 rfl) ?_
          refine lv_iconst (v := iI 1) hx hb dX4_chooseFirstLevel_58 rfl ?_
          refine g_icmp_ne (tgt := 66) G dX4_chooseFirstLevel_59 (by decide) (by omega) (by omega) (fun h59 => ?_) (fun h59 => ?_)
          ·
            refine lv_aload_n hx hb dX4_chooseFirstLevel_66 rfl (lv_at hl 0 rfl) ?_
            refine g_get G X (k := 49) (fs := fLev Y) (Nat.le_of_ble_eq_true rfl) (fun _ => rfl) rfl in_X4 1 (by decide) l_f11 rfl (v := .ref (Y.2.1 (50))) rfl dX4_chooseFirstLevel_67 ?_
            refine lv_iload_n hx hb dX4_chooseFirstLevel_70 rfl (lv_at hl 1 rfl) ?_
            refine lv_iconst (v := iI 1) hx hb dX4_chooseFirstLevel_71 rfl ?_
            refine g_isub G dX4_chooseFirstLevel_72 ?_
            refine g_aaldT G X (k := 50) (n := 13) (t := 4) (g := 51) (ty := .array .long) (Nat.le_of_ble_eq_true rfl) (fun _ => rfl) rfl rfl (by decide) (z := (k - 1)) (by omega) dX4_chooseFirstLevel_73 ?_
            refine g_topr hgp ?_
            refine lv_iload hx hb dX4_chooseFirstLevel_74 (lv_at hl 5 rfl) ?_
            refine lv_iconst (v := iI 1) hx hb dX4_chooseFirstLevel_76 rfl ?_
            refine g_iadd G dX4_chooseFirstLevel_77 ?_
            refine g_lald G X (k := gp) (n := 13) hgp2.1 hgp2.2 (by decide) (z := (la + 1)) (by omega) dX4_chooseFirstLevel_78 ?_
            refine g_topl (z' := (lvG n Wf Mf (k - 1).toNat (la + 1)).1) (by rw [up_ne (by omega), up_ne (by omega), ← hgp]; exact (hP1 (k - 1) (la + 1) (by omega) (by omega) (by omega) (by omega)).1) ?_
            have hlg := lvG_rg hPf (k - 1).toNat (la + 1) (by omega) (by omega) (by omega)
            have hwr := prof_w hPf (a := la + 1) (b := n) (by omega) (by omega) (by omega)
            refine g_ladd G dX4_chooseFirstLevel_79 ?_
            refine g_topl (z' := lvF n Wf Mf k fi la) (by unfold lvF; split <;> first | rfl | (exfalso; omega)) ?_
            refine lv_lstore (lv' := [(6, .long (lI ((lvF n Wf Mf k fi la)))), (0, .ref (Y.2.1 (49))), (1, .int (iI (k))), (2, .int (iI (fi))), (3, .int (iI ((n - (k - 1))))), (4, .int (iI (sh))), (5, .int (iI (la)))]) hx hb dX4_chooseFirstLevel_80 hl (by decide) rfl (fun ls hl => ?_)
            have hgw := gain_w hPf (a := fi) (b := la) (by omega)
            have hwr1 := prof_w hPf (a := fi) (b := la + 1) (by omega) (by omega) (by omega)
            have hFr : 0 ≤ lvF n Wf Mf k fi la ∧ lvF n Wf Mf k fi la ≤ 1300000000000000 := by unfold lvF; first | (rw [if_pos (by omega)]; omega) | (rw [if_neg (by omega)]; omega)
            refine lv_lload hx hb dX4_chooseFirstLevel_82 (lv_at hl 0 rfl) ?_
            refine lv_aload_n hx hb dX4_chooseFirstLevel_84 rfl (lv_at hl 1 rfl) ?_
            refine g_get G X (k := 49) (fs := fLev Y) (Nat.le_of_ble_eq_true rfl) (fun _ => rfl) rfl in_X4 1 (by decide) l_f11 rfl (v := .ref (Y.2.1 (50))) rfl dX4_chooseFirstLevel_85 ?_
            refine lv_iload_n hx hb dX4_chooseFirstLevel_88 rfl (lv_at hl 2 rfl) ?_
            refine g_aaldT G X (k := 50) (n := 13) (t := 4) (g := 51) (ty := .array .long) (Nat.le_of_ble_eq_true rfl) (fun _ => rfl) rfl rfl (by decide) (z := k) (by omega) dX4_chooseFirstLevel_89 ?_
            refine g_topr hgk ?_
            refine lv_iload_n hx hb dX4_chooseFirstLevel_90 rfl (lv_at hl 3 rfl) ?_
            refine g_lald G X (k := gk) (n := 13) hgk2.1 hgk2.2 (by decide) (z := fi) (by omega) dX4_chooseFirstLevel_91 ?_
            refine g_topl (z' := v) (by rw [up_ne hne, up_same]) ?_
            refine g_lif_lt (tgt := 118) G dX4_chooseFirstLevel_92 dX4_chooseFirstLevel_93 (by decide) (by omega) (by omega) (fun h92 => ?_) (fun h92 => ?_)
            ·
              have hsl : sh < la := by { by_cases e : la = sh; (subst e; rw [show (la - la).toNat = 0 by omega] at hv; have h9 : v = -1 := hv; omega); omega }
              refine lv_iinc (v := iI (la + 1)) (lv' := [(5, .int (iI ((la + 1)))), (6, .long (lI ((lvF n Wf Mf k fi la)))), (0, .ref (Y.2.1 (49))), (1, .int (iI (k))), (2, .int (iI (fi))), (3, .int (iI ((n - (k - 1))))), (4, .int (iI (sh)))]) hx hb dX4_chooseFirstLevel_118 hl (k := 6) rfl (iI_add _ _) (by decide) rfl (fun ls hl => ?_)
              refine lv_goto (tgt := 41) hx hb dX4_chooseFirstLevel_121 (by decide) ?_
              exact ih_41 ((la + 1)) (v) (w) (by omega) (by rw [show la + 1 - sh = (la - sh) + 1 by omega, scU_s (by omega), show sh + (la - sh) = la by omega]; split; (first | rfl | (exfalso; omega)); (first | exact hv | (exfalso; omega))) (fun h => by rw [show la + 1 - sh = (la - sh) + 1 by omega, scU_s (by omega), show sh + (la - sh) = la by omega]; split; (first | rfl | (exfalso; omega)); (first | exact hw0 hsl | (exfalso; omega))) (by omega) (by omega) _ _ _ X (lv_sub hl [2, 3, 4, 5, 6, 0] rfl)
            ·
              refine lv_aload_n hx hb dX4_chooseFirstLevel_96 rfl (lv_at hl 1 rfl) ?_
              refine g_get G X (k := 49) (fs := fLev Y) (Nat.le_of_ble_eq_true rfl) (fun _ => rfl) rfl in_X4 1 (by decide) l_f11 rfl (v := .ref (Y.2.1 (50))) rfl dX4_chooseFirstLevel_97 ?_
              refine lv_iload_n hx hb dX4_chooseFirstLevel_100 rfl (lv_at hl 2 rfl) ?_
              refine g_aaldT G X (k := 50) (n := 13) (t := 4) (g := 51) (ty := .array .long) (Nat.le_of_ble_eq_true rfl) (fun _ => rfl) rfl rfl (by decide) (z := k) (by omega) dX4_chooseFirstLevel_101 ?_
              refine g_topr hgk ?_
              refine lv_iload_n hx hb dX4_chooseFirstLevel_102 rfl (lv_at hl 3 rfl) ?_
              refine lv_lload hx hb dX4_chooseFirstLevel_103 (lv_at hl 0 rfl) ?_
              refine g_last G X (k := gk) (n := 13) hgk2.1 hgk2.2 (by decide) (z := fi) (v := (lvF n Wf Mf k fi la)) (by omega) dX4_chooseFirstLevel_105 (fun H locs X => ?_)
              refine lv_aload_n hx hb dX4_chooseFirstLevel_106 rfl (lv_at hl 1 rfl) ?_
              refine g_get G X (k := 49) (fs := fLev Y) (Nat.le_of_ble_eq_true rfl) (fun _ => rfl) rfl in_X4 2 (by decide) l_f18 rfl (v := .ref (Y.2.1 (64))) rfl dX4_chooseFirstLevel_107 ?_
              refine lv_iload_n hx hb dX4_chooseFirstLevel_110 rfl (lv_at hl 2 rfl) ?_
              refine g_aaldT G X (k := 64) (n := 13) (t := 5) (g := 65) (ty := .array .int) (Nat.le_of_ble_eq_true rfl) (fun _ => rfl) rfl rfl (by decide) (z := k) (by omega) dX4_chooseFirstLevel_111 ?_
              refine g_topr hnk ?_
              refine lv_iload_n hx hb dX4_chooseFirstLevel_112 rfl (lv_at hl 3 rfl) ?_
              refine lv_iload hx hb dX4_chooseFirstLevel_113 (lv_at hl 6 rfl) ?_
              refine lv_iconst (v := iI 1) hx hb dX4_chooseFirstLevel_115 rfl ?_
              refine g_iadd G dX4_chooseFirstLevel_116 ?_
              refine g_iast G X (k := nk) (n := 13) hnk2.1 hnk2.2 (by decide) (z := fi) (v := (la + 1)) (by omega) dX4_chooseFirstLevel_117 (fun H locs X => ?_)
              have X := (show (up (up (up (up σ gk fi v) nk fi w) gk fi (lvF n Wf Mf k fi la)) nk fi (la + 1)) = (up (up σ gk fi (lvF n Wf Mf k fi la)) nk fi (la + 1)) from (up_2 hne _ _ _ _ _)) ▸ X
              refine lv_iinc (v := iI (la + 1)) (lv' := [(5, .int (iI ((la + 1)))), (6, .long (lI ((lvF n Wf Mf k fi la)))), (0, .ref (Y.2.1 (49))), (1, .int (iI (k))), (2, .int (iI (fi))), (3, .int (iI ((n - (k - 1))))), (4, .int (iI (sh)))]) hx hb dX4_chooseFirstLevel_118 hl (k := 6) rfl (iI_add _ _) (by decide) rfl (fun ls hl => ?_)
              refine lv_goto (tgt := 41) hx hb dX4_chooseFirstLevel_121 (by decide) ?_
              exact ih_41 ((la + 1)) ((lvF n Wf Mf k fi la)) ((la + 1)) (by omega) (by rw [show la + 1 - sh = (la - sh) + 1 by omega, scU_s (by omega), show sh + (la - sh) = la by omega]; split; (first | rfl | (exfalso; omega)); (first | exact hv | (exfalso; omega))) (fun h => by rw [show la + 1 - sh = (la - sh) + 1 by omega, scU_s (by omega), show sh + (la - sh) = la by omega]; split; (first | rfl | (exfalso; omega)); (first | exact hw0 hsl | (exfalso; omega))) (by omega) (by omega) _ _ _ X (lv_sub hl [2, 3, 4, 5, 6, 0] rfl)
          ·
            refine lv_lconst (v := lI 0) hx hb dX4_chooseFirstLevel_62 (by decide +kernel) ?_
            refine lv_goto (tgt := 79) hx hb dX4_chooseFirstLevel_63 (by decide) ?_
            refine g_ladd G dX4_chooseFirstLevel_79 ?_
            refine g_topl (z' := lvF n Wf Mf k fi la) (by unfold lvF; split <;> first | rfl | (exfalso; omega)) ?_
            refine lv_lstore (lv' := [(6, .long (lI ((lvF n Wf Mf k fi la)))), (0, .ref (Y.2.1 (49))), (1, .int (iI (k))), (2, .int (iI (fi))), (3, .int (iI ((n - (k - 1))))), (4, .int (iI (sh))), (5, .int (iI (la)))]) hx hb dX4_chooseFirstLevel_80 hl (by decide) rfl (fun ls hl => ?_)
            have hgw := gain_w hPf (a := fi) (b := la) (by omega)
            have hwr1 := prof_w hPf (a := fi) (b := la + 1) (by omega) (by omega) (by omega)
            have hFr : 0 ≤ lvF n Wf Mf k fi la ∧ lvF n Wf Mf k fi la ≤ 1300000000000000 := by unfold lvF; first | (rw [if_pos (by omega)]; omega) | (rw [if_neg (by omega)]; omega)
            refine lv_lload hx hb dX4_chooseFirstLevel_82 (lv_at hl 0 rfl) ?_
            refine lv_aload_n hx hb dX4_chooseFirstLevel_84 rfl (lv_at hl 1 rfl) ?_
            refine g_get G X (k := 49) (fs := fLev Y) (Nat.le_of_ble_eq_true rfl) (fun _ => rfl) rfl in_X4 1 (by decide) l_f11 rfl (v := .ref (Y.2.1 (50))) rfl dX4_chooseFirstLevel_85 ?_
            refine lv_iload_n hx hb dX4_chooseFirstLevel_88 rfl (lv_at hl 2 rfl) ?_
            refine g_aaldT G X (k := 50) (n := 13) (t := 4) (g := 51) (ty := .array .long) (Nat.le_of_ble_eq_true rfl) (fun _ => rfl) rfl rfl (by decide) (z := k) (by omega) dX4_chooseFirstLevel_89 ?_
            refine g_topr hgk ?_
            refine lv_iload_n hx hb dX4_chooseFirstLevel_90 rfl (lv_at hl 3 rfl) ?_
            refine g_lald G X (k := gk) (n := 13) hgk2.1 hgk2.2 (by decide) (z := fi) (by omega) dX4_chooseFirstLevel_91 ?_
            refine g_topl (z' := v) (by rw [up_ne hne, up_same]) ?_
            refine g_lif_lt (tgt := 118) G dX4_chooseFirstLevel_92 dX4_chooseFirstLevel_93 (by decide) (by omega) (by omega) (fun h92 => ?_) (fun h92 => ?_)
            ·
              have hsl : sh < la := by { by_cases e : la = sh; (subst e; rw [show (la - la).toNat = 0 by omega] at hv; have h9 : v = -1 := hv; omega); omega }
              refine lv_iinc (v := iI (la + 1)) (lv' := [(5, .int (iI ((la + 1)))), (6, .long (lI ((lvF n Wf Mf k fi la)))), (0, .ref (Y.2.1 (49))), (1, .int (iI (k))), (2, .int (iI (fi))), (3, .int (iI ((n - (k - 1))))), (4, .int (iI (sh)))]) hx hb dX4_chooseFirstLevel_118 hl (k := 6) rfl (iI_add _ _) (by decide) rfl (fun ls hl => ?_)
              refine lv_goto (tgt := 41) hx hb dX4_chooseFirstLevel_121 (by decide) ?_
              exact ih_41 ((la + 1)) (v) (w) (by omega) (by rw [show la + 1 - sh = (la - sh) + 1 by omega, scU_s (by omega), show sh + (la - sh) = la by omega]; split; (first | rfl | (exfalso; omega)); (first | exact hv | (exfalso; omega))) (fun h => by rw [show la + 1 - sh = (la - sh) + 1 by omega, scU_s (by omega), show sh + (la - sh) = la by omega]; split; (first | rfl | (exfalso; omega)); (first | exact hw0 hsl | (exfalso; omega))) (by omega) (by omega) _ _ _ X (lv_sub hl [2, 3, 4, 5, 6, 0] rfl)
            ·
              refine lv_aload_n hx hb dX4_chooseFirstLevel_96 rfl (lv_at hl 1 rfl) ?_
              refine g_get G X (k := 49) (fs := fLev Y) (Nat.le_of_ble_eq_true rfl) (fun _ => rfl) rfl in_X4 1 (by decide) l_f11 rfl (v := .ref (Y.2.1 (50))) rfl dX4_chooseFirstLevel_97 ?_
              refine lv_iload_n hx hb dX4_chooseFirstLevel_100 rfl (lv_at hl 2 rfl) ?_
              refine g_aaldT G X (k := 50) (n := 13) (t := 4) (g := 51) (ty := .array .long) (Nat.le_of_ble_eq_true rfl) (fun _ => rfl) rfl rfl (by decide) (z := k) (by omega) dX4_chooseFirstLevel_101 ?_
              refine g_topr hgk ?_
              refine lv_iload_n hx hb dX4_chooseFirstLevel_102 rfl (lv_at hl 3 rfl) ?_
              refine lv_lload hx hb dX4_chooseFirstLevel_103 (lv_at hl 0 rfl) ?_
              refine g_last G X (k := gk) (n := 13) hgk2.1 hgk2.2 (by decide) (z := fi) (v := (lvF n Wf Mf k fi la)) (by omega) dX4_chooseFirstLevel_105 (fun H locs X => ?_)
              refine lv_aload_n hx hb dX4_chooseFirstLevel_106 rfl (lv_at hl 1 rfl) ?_
              refine g_get G X (k := 49) (fs := fLev Y) (Nat.le_of_ble_eq_true rfl) (fun _ => rfl) rfl in_X4 2 (by decide) l_f18 rfl (v := .ref (Y.2.1 (64))) rfl dX4_chooseFirstLevel_107 ?_
              refine lv_iload_n hx hb dX4_chooseFirstLevel_110 rfl (lv_at hl 2 rfl) ?_
              refine g_aaldT G X (k := 64) (n := 13) (t := 5) (g := 65) (ty := .array .int) (Nat.le_of_ble_eq_true rfl) (fun _ => rfl) rfl rfl (by decide) (z := k) (by omega) dX4_chooseFirstLevel_111 ?_
              refine g_topr hnk ?_
              refine lv_iload_n hx hb dX4_chooseFirstLevel_112 rfl (lv_at hl 3 rfl) ?_
              refine lv_iload hx hb dX4_chooseFirstLevel_113 (lv_at hl 6 rfl) ?_
              refine lv_iconst (v := iI 1) hx hb dX4_chooseFirstLevel_115 rfl ?_
              refine g_iadd G dX4_chooseFirstLevel_116 ?_
              refine g_iast G X (k := nk) (n := 13) hnk2.1 hnk2.2 (by decide) (z := fi) (v := (la + 1)) (by omega) dX4_chooseFirstLevel_117 (fun H locs X => ?_)
              have X := (show (up (up (up (up σ gk fi v) nk fi w) gk fi (lvF n Wf Mf k fi la)) nk fi (la + 1)) = (up (up σ gk fi (lvF n Wf Mf k fi la)) nk fi (la + 1)) from (up_2 hne _ _ _ _ _)) ▸ X
              refine lv_iinc (v := iI (la + 1)) (lv' := [(5, .int (iI ((la + 1)))), (6, .long (lI ((lvF n Wf Mf k fi la)))), (0, .ref (Y.2.1 (49))), (1, .int (iI (k))), (2, .int (iI (fi))), (3, .int (iI ((n - (k - 1))))), (4, .int (iI (sh)))]) hx hb dX4_chooseFirstLevel_118 hl (k := 6) rfl (iI_add _ _) (by decide) rfl (fun ls hl => ?_)
              refine lv_goto (tgt := 41) hx hb dX4_chooseFirstLevel_121 (by decide) ?_
              exact ih_41 ((la + 1)) ((lvF n Wf Mf k fi la)) ((la + 1)) (by omega) (by rw [show la + 1 - sh = (la - sh) + 1 by omega, scU_s (by omega), show sh + (la - sh) = la by omega]; split; (first | rfl | (exfalso; omega)); (first | exact hv | (exfalso; omega))) (fun h => by rw [show la + 1 - sh = (la - sh) + 1 by omega, scU_s (by omega), show sh + (la - sh) = la by omega]; split; (first | rfl | (exfalso; omega)); (first | exact hw0 hsl | (exfalso; omega))) (by omega) (by omega) _ _ _ X (lv_sub hl [2, 3, 4, 5, 6, 0] rfl)
    exact lp_41 ((((n - (k - 1) - (sh)) : Int).toNat + 1)) (sh) ((-1)) ((σ nk fi)) (by omega) (by rw [show (sh - sh).toNat = 0 by omega]; rfl) (fun h => by omega) (by omega) (by omega) _ _ _ X (lv_sub hl [3, 4, 5, 2, 1, 0] rfl)

set_option maxHeartbeats 4000000 in
set_option maxRecDepth 100000 in
theorem t_X4_divide (l : Launch) (Y : Yt) (σ : Mem) (n : Int) (Xf : Int → Int) (Cf : Int → Int) (Wf : Int → Int) (Mf : Int → Int) (q : Int) (m : Int) (hT : Tb σ n Xf Cf Wf Mf q) (hPf : Prof n Xf Wf Mf) (hm0 : -2147483648 ≤ m ∧ m ≤ 2147483647) : MXv l LX Y yX4_divide wsX4_divide { frames := 3, cells := 0, slots := 0, locals := 75 } [.ref (Y.2.1 (49)), .int (iI (m))] σ (fun u => (∀ k g : Int, 1 ≤ k → k ≤ m → 0 ≤ g → g + k ≤ n → u (51 + k.toNat) g = (lvG n Wf Mf k.toNat g).1 ∧ u (65 + k.toNat) g = (lvG n Wf Mf k.toNat g).2) ∧ SameL σ u) := by
  obtain ⟨⟨hn0, hn12, hW0, hM0, hW24⟩, hstep, hXa, hXr⟩ := id hPf
  obtain ⟨hTn, hTq, hTx, hTw⟩ := id hT
  refine g_startv (cc := cX4_divide) (nL := 4) (own := RX4) (by decide) rfl rfl (Nat.le_of_ble_eq_true rfl) ?_
  intro pp ee ss mm bw mt cd AA ZZ ls G hret X hl
  have hl : lv_has ls 4 [(0, .ref (Y.2.1 (49))), (1, .int (iI (m)))] := hl
  have hx := G.1
  have hb := G.2.1
  have hts := G.2.2.2.2.1
  have l_f21 := hts (.fieldLink RX4 21 "ShapeFits$LevelTable" "table" "LShapeFits$GroupTable;") (List.mem_of_getElem? (i := 1) rfl)
  have in_X4 : ∀ w ∈ u_ws RX4 TX4 3, w ∈ wsX4_divide := by decide +kernel
  refine lv_iconst (v := iI 1) hx hb dX4_divide_0 rfl ?_
  refine lv_istore_n (lv' := [(2, .int (iI (1))), (0, .ref (Y.2.1 (49))), (1, .int (iI (m)))]) hx hb dX4_divide_1 rfl hl (by decide) rfl (fun ls hl => ?_)
  have lp_2 : ∀ (nn : Nat) (k : Int) (τ : Mem), ∀ hk : 1 ≤ k ∧ (k ≤ m + 1 ∨ k = 1) ∧ k ≤ n + 1, ∀ hI : LvP τ n Wf Mf k n, ∀ hS : SameL σ τ, ∀ hdec : (n + 1 - k) < (nn : Int), ∀ (H : Heap) (locs : List Loc) (ls : Array Slot), wx LX Y τ ss AA H locs → lv_has ls 4 [(0, .ref (Y.2.1 (49))), (1, .int (iI (m))), (2, .int (iI (k)))] → W pp l ee { frames := 3, cells := 0, slots := 0, locals := 75 } ss mm ([.ref (Y.2.1 (49)), .int (iI (m))] : List Value).toArray bw mt cd H locs 0 0 ZZ (F0 mm 2 ls []) := by
    intro nn
    induction nn with
    | zero =>
      intro k τ hk hI hS hdec
      exact absurd hdec (by omega)
    | succ nn ih_2 =>
      intro k τ hk hI hS hdec H locs ls X hl
      refine lv_iload_n hx hb dX4_divide_2 rfl (lv_at hl 2 rfl) ?_
      refine lv_iload_n hx hb dX4_divide_3 rfl (lv_at hl 1 rfl) ?_
      refine g_icmp_gt (tgt := 50) G dX4_divide_4 (by decide) (by omega) (by omega) (fun h4 => ?_) (fun h4 => ?_)
      ·
        exact hret _ _ _ _ _ (⟨fun k' g h1 h2 h3 h4 => hI k' g h1 h3 h4 (by omega), hS⟩) X dX4_divide_50
      ·
        refine lv_iload_n hx hb dX4_divide_7 rfl (lv_at hl 2 rfl) ?_
        refine lv_aload_n hx hb dX4_divide_8 rfl (lv_at hl 0 rfl) ?_
        refine g_get G X (k := 49) (fs := fLev Y) (Nat.le_of_ble_eq_true rfl) (fun _ => rfl) rfl in_X4 0 (by decide) l_f21 rfl (v := .ref (Y.2.1 (38))) rfl dX4_divide_9 ?_
        refine g_callVi G X (rest := [.int (iI (k))]) (As := []) (t_X1_size l Y (τ) n Xf Cf Wf Mf q (hT.sameL hS) (by first | assumption | omega)) (cwV 0 hts gX4_divide_X1_size rfl rfl rfl (by decide +kernel) ⟨Nat.le_of_ble_eq_true rfl, Nat.le_of_ble_eq_true rfl⟩) (k := 38) (Nat.le_of_ble_eq_true rfl) rfl rfl rfl rfl hl.1 rfl (Nat.le_of_ble_eq_true rfl) dX4_divide_12 ⟨Nat.le_refl _, Nat.le_refl _⟩ (fun z12 u12 H locs hq12 X => ?_)
        rw [hq12.1] at X
        have hq12 := hq12.2
        try dsimp only at hq12
        refine g_topi (z' := n) hq12 ?_
        refine g_icmp_gt (tgt := 50) G dX4_divide_15 (by decide) (by omega) (by omega) (fun h15 => ?_) (fun h15 => ?_)
        ·
          exact hret _ _ _ _ _ (⟨fun k' g h1 h2 h3 h4 => hI k' g h1 h3 h4 (by omega), hS⟩) X dX4_divide_50
        ·
          refine lv_aload_n hx hb dX4_divide_18 rfl (lv_at hl 0 rfl) ?_
          refine g_get G X (k := 49) (fs := fLev Y) (Nat.le_of_ble_eq_true rfl) (fun _ => rfl) rfl in_X4 0 (by decide) l_f21 rfl (v := .ref (Y.2.1 (38))) rfl dX4_divide_19 ?_
          refine g_callVi G X (rest := []) (As := []) (t_X1_size l Y (τ) n Xf Cf Wf Mf q (hT.sameL hS) (by first | assumption | omega)) (cwV 0 hts gX4_divide_X1_size rfl rfl rfl (by decide +kernel) ⟨Nat.le_of_ble_eq_true rfl, Nat.le_of_ble_eq_true rfl⟩) (k := 38) (Nat.le_of_ble_eq_true rfl) rfl rfl rfl rfl hl.1 rfl (Nat.le_of_ble_eq_true rfl) dX4_divide_22 ⟨Nat.le_refl _, Nat.le_refl _⟩ (fun z22 u22 H locs hq22 X => ?_)
          rw [hq22.1] at X
          have hq22 := hq22.2
          try dsimp only at hq22
          refine g_topi (z' := n) hq22 ?_
          refine lv_iload_n hx hb dX4_divide_25 rfl (lv_at hl 2 rfl) ?_
          refine g_isub G dX4_divide_26 ?_
          refine lv_istore_n (lv' := [(3, .int (iI ((n - k)))), (0, .ref (Y.2.1 (49))), (1, .int (iI (m))), (2, .int (iI (k)))]) hx hb dX4_divide_27 rfl hl (by decide) rfl (fun ls hl => ?_)
          have lp_28 : ∀ (nn : Nat) (fi : Int) (ρ : Mem), ∀ hfi : -1 ≤ fi ∧ fi ≤ n - k, ∀ hJ : LvP ρ n Wf Mf k fi, ∀ hS2 : SameL σ ρ, ∀ hdec : (fi + 1) < (nn : Int), ∀ (H : Heap) (locs : List Loc) (ls : Array Slot), wx LX Y ρ ss AA H locs → lv_has ls 4 [(0, .ref (Y.2.1 (49))), (1, .int (iI (m))), (2, .int (iI (k))), (3, .int (iI (fi)))] → W pp l ee { frames := 3, cells := 0, slots := 0, locals := 75 } ss mm ([.ref (Y.2.1 (49)), .int (iI (m))] : List Value).toArray bw mt cd H locs 0 0 ZZ (F0 mm 28 ls []) := by
            intro nn
            induction nn with
            | zero =>
              intro fi ρ hfi hJ hS2 hdec
              exact absurd hdec (by omega)
            | succ nn ih_28 =>
              intro fi ρ hfi hJ hS2 hdec H locs ls X hl
              refine lv_iload_n hx hb dX4_divide_28 rfl (lv_at hl 3 rfl) ?_
              refine g_if_lt (tgt := 44) G dX4_divide_29 (by decide) (by omega) (fun h29 => ?_) (fun h29 => ?_)
              ·
                refine lv_iinc (v := iI (k + 1)) (lv' := [(2, .int (iI ((k + 1)))), (0, .ref (Y.2.1 (49))), (1, .int (iI (m))), (3, .int (iI (fi)))]) hx hb dX4_divide_44 hl (k := 2) rfl (iI_add _ _) (by decide) rfl (fun ls hl => ?_)
                refine lv_goto (tgt := 2) hx hb dX4_divide_47 (by decide) ?_
                exact ih_2 ((k + 1)) (ρ) (by omega) (fun k' g h1 h2 h3 h4 => hJ k' g h1 h2 h3 (by omega)) hS2 (by omega) _ _ _ X (lv_sub hl [1, 2, 0] rfl)
              ·
                refine lv_aload_n hx hb dX4_divide_32 rfl (lv_at hl 0 rfl) ?_
                refine lv_iload_n hx hb dX4_divide_33 rfl (lv_at hl 2 rfl) ?_
                refine lv_iload_n hx hb dX4_divide_34 rfl (lv_at hl 3 rfl) ?_
                refine g_callVv G X (rest := []) (As := [.int (iI (k)), .int (iI (fi))]) (t_X4_chooseFirstLevel l Y (ρ) n Xf Cf Wf Mf q (k) (fi) (hT.sameL hS2) (by first | assumption | omega) (by first | assumption | omega) (by first | assumption | omega) (by first | assumption | omega)) (cwV 2 hts gX4_divide_X4_chooseFirstLevel rfl rfl rfl (by decide +kernel) ⟨Nat.le_of_ble_eq_true rfl, Nat.le_of_ble_eq_true rfl⟩) (k := 49) (Nat.le_of_ble_eq_true rfl) rfl rfl rfl rfl hl.1 rfl (Nat.le_of_ble_eq_true rfl) dX4_divide_35 ⟨Nat.le_refl _, Nat.le_refl _⟩ (fun u35 H locs hq35 X => ?_)
                have hP2 := lvP_s hJ (by omega)
                rw [← hq35] at hP2
                have hS3 : SameL σ u35 := fun a h => by rw [hq35, up_ne (by omega), up_ne (by omega)]; exact hS2 a h
                refine lv_iinc (v := iI (fi + (-1))) (lv' := [(3, .int (iI ((fi + (-1))))), (0, .ref (Y.2.1 (49))), (1, .int (iI (m))), (2, .int (iI (k)))]) hx hb dX4_divide_38 hl (k := 3) rfl (iI_add _ _) (by decide) rfl (fun ls hl => ?_)
                refine lv_goto (tgt := 28) hx hb dX4_divide_41 (by decide) ?_
                exact ih_28 ((fi + (-1))) (u35) (by omega) hP2 hS3 (by omega) _ _ _ X (lv_sub hl [1, 2, 3, 0] rfl)
          exact lp_28 ((((((n - k)) + 1) : Int).toNat + 1)) ((n - k)) (τ) (by omega) (fun k' g h1 h2 h3 h4 => hI k' g h1 h2 h3 (by omega)) hS (by omega) _ _ _ X (lv_sub hl [1, 2, 3, 0] rfl)
  exact lp_2 ((((n + 1 - (1)) : Int).toNat + 1)) (1) (σ) (by omega) (fun k' g h1 h2 h3 h4 => by omega) (fun _ _ => rfl) (by omega) _ _ _ X (lv_sub hl [1, 2, 0] rfl)

set_option maxHeartbeats 4000000 in
set_option maxRecDepth 100000 in
theorem t_X4_commonError (l : Launch) (Y : Yt) (σ : Mem) (n : Int) (Xf : Int → Int) (Cf : Int → Int) (Wf : Int → Int) (Mf : Int → Int) (q : Int) (k : Int) (K : Int) (hT : Tb σ n Xf Cf Wf Mf q) (hPf : Prof n Xf Wf Mf) (hL : ∀ k g : Int, 1 ≤ k → k ≤ K → 0 ≤ g → g + k ≤ n → σ (51 + k.toNat) g = (lvG n Wf Mf k.toNat g).1 ∧ σ (65 + k.toNat) g = (lvG n Wf Mf k.toNat g).2) (hq0 : 0 ≤ q ∧ q ≤ 235224) (hk : 1 ≤ k ∧ k ≤ n ∧ k ≤ K) : MXl l LX Y yX4_commonError wsX4_commonError { frames := 1, cells := 0, slots := 0, locals := 20 } [.ref (Y.2.1 (49)), .int (iI (k))] σ (fun z u => u = σ ∧ (z = lvE n Wf Mf q k ∧ -1260000000000000 ≤ z ∧ z ≤ 1260000000000000)) := by
  obtain ⟨⟨hn0, hn12, hW0, hM0, hW24⟩, hstep, hXa, hXr⟩ := id hPf
  obtain ⟨hTn, hTq, hTx, hTw⟩ := id hT
  obtain ⟨gk, hgk, hgk2⟩ : ∃ gk : Nat, 51 + (k).toNat = gk ∧ isJ Y gk := ⟨_, rfl, levJ Y (by omega)⟩
  have hre := lvE_rg (k := k) hPf hq0 (by omega)
  refine g_startl (cc := cX4_commonError) (nL := 2) (own := RX4) (by decide) rfl rfl (Nat.le_of_ble_eq_true rfl) ?_
  intro pp ee ss mm bw mt cd AA ZZ ls G hret X hl
  have hl : lv_has ls 2 [(0, .ref (Y.2.1 (49))), (1, .int (iI (k)))] := hl
  have hx := G.1
  have hb := G.2.1
  have hts := G.2.2.2.2.1
  have l_f11 := hts (.fieldLink RX4 11 "ShapeFits$LevelTable" "gain" "[[J") (List.mem_of_getElem? (i := 2) rfl)
  have l_f21 := hts (.fieldLink RX4 21 "ShapeFits$LevelTable" "table" "LShapeFits$GroupTable;") (List.mem_of_getElem? (i := 1) rfl)
  have in_X4 : ∀ w ∈ u_ws RX4 TX4 3, w ∈ wsX4_commonError := by decide +kernel
  refine lv_iload_n hx hb dX4_commonError_0 rfl (lv_at hl 1 rfl) ?_
  refine lv_iconst (v := iI 1) hx hb dX4_commonError_1 rfl ?_
  refine g_icmp_lt (tgt := 16) G dX4_commonError_2 (by decide) (by omega) (by omega) (fun h2 => ?_) (fun h2 => ?_)
  ·
    exact absurd hk (by omega)
  ·
    refine lv_iload_n hx hb dX4_commonError_5 rfl (lv_at hl 1 rfl) ?_
    refine lv_aload_n hx hb dX4_commonError_6 rfl (lv_at hl 0 rfl) ?_
    refine g_get G X (k := 49) (fs := fLev Y) (Nat.le_of_ble_eq_true rfl) (fun _ => rfl) rfl in_X4 0 (by decide) l_f21 rfl (v := .ref (Y.2.1 (38))) rfl dX4_commonError_7 ?_
    refine g_callVi G X (rest := [.int (iI (k))]) (As := []) (t_X1_size l Y (σ) n Xf Cf Wf Mf q (by first | assumption | omega) (by first | assumption | omega)) (cwV 0 hts gX4_commonError_X1_size rfl rfl rfl (by decide +kernel) ⟨Nat.le_of_ble_eq_true rfl, Nat.le_of_ble_eq_true rfl⟩) (k := 38) (Nat.le_of_ble_eq_true rfl) rfl rfl rfl rfl hl.1 rfl (Nat.le_of_ble_eq_true rfl) dX4_commonError_10 ⟨Nat.le_refl _, Nat.le_refl _⟩ (fun z10 u10 H locs hq10 X => ?_)
    rw [hq10.1] at X
    have hq10 := hq10.2
    try dsimp only at hq10
    refine g_topi (z' := n) hq10 ?_
    refine g_icmp_le (tgt := 18) G dX4_commonError_13 (by decide) (by omega) (by omega) (fun h13 => ?_) (fun h13 => ?_)
    ·
      refine lv_aload_n hx hb dX4_commonError_18 rfl (lv_at hl 0 rfl) ?_
      refine g_get G X (k := 49) (fs := fLev Y) (Nat.le_of_ble_eq_true rfl) (fun _ => rfl) rfl in_X4 0 (by decide) l_f21 rfl (v := .ref (Y.2.1 (38))) rfl dX4_commonError_19 ?_
      refine g_callVl G X (rest := []) (As := []) (t_X1_errorOfZero l Y (σ) n Xf Cf Wf Mf q (by first | assumption | omega) (by first | assumption | omega) (by first | assumption | omega)) (cwV 0 hts gX4_commonError_X1_errorOfZero rfl rfl rfl (by decide +kernel) ⟨Nat.le_of_ble_eq_true rfl, Nat.le_of_ble_eq_true rfl⟩) (k := 38) (Nat.le_of_ble_eq_true rfl) rfl rfl rfl rfl hl.1 rfl (Nat.le_of_ble_eq_true rfl) dX4_commonError_22 ⟨Nat.le_refl _, Nat.le_refl _⟩ (fun z22 u22 H locs hq22 X => ?_)
      rw [hq22.1] at X
      have hq22 := hq22.2
      try dsimp only at hq22
      refine g_topl (z' := 5354228880 * q) hq22 ?_
      refine lv_aload_n hx hb dX4_commonError_25 rfl (lv_at hl 0 rfl) ?_
      refine g_get G X (k := 49) (fs := fLev Y) (Nat.le_of_ble_eq_true rfl) (fun _ => rfl) rfl in_X4 1 (by decide) l_f11 rfl (v := .ref (Y.2.1 (50))) rfl dX4_commonError_26 ?_
      refine lv_iload_n hx hb dX4_commonError_29 rfl (lv_at hl 1 rfl) ?_
      refine g_aaldT G X (k := 50) (n := 13) (t := 4) (g := 51) (ty := .array .long) (Nat.le_of_ble_eq_true rfl) (fun _ => rfl) rfl rfl (by decide) (z := k) (by omega) dX4_commonError_30 ?_
      refine g_topr hgk ?_
      refine lv_iconst (v := iI 0) hx hb dX4_commonError_31 rfl ?_
      refine g_lald G X (k := gk) (n := 13) hgk2.1 hgk2.2 (by decide) (z := 0) (by omega) dX4_commonError_32 ?_
      refine g_topl (z' := (lvG n Wf Mf k.toNat 0).1) (by rw [← hgk]; exact (hL k 0 (by omega) (by omega) (by omega) (by omega)).1) ?_
      refine g_lsub G dX4_commonError_33 ?_
      exact hret _ _ _ _ _ _ (⟨rfl, rfl, hre⟩) X dX4_commonError_34
    ·
      exact absurd hk (by omega)

set_option maxHeartbeats 4000000 in
set_option maxRecDepth 100000 in
theorem t_X4_beginOf (l : Launch) (Y : Yt) (σ : Mem) (n : Int) (Xf : Int → Int) (Cf : Int → Int) (Wf : Int → Int) (Mf : Int → Int) (q : Int) (k : Int) (lv : Int) (K : Int) (hT : Tb σ n Xf Cf Wf Mf q) (hPf : Prof n Xf Wf Mf) (hL : ∀ k g : Int, 1 ≤ k → k ≤ K → 0 ≤ g → g + k ≤ n → σ (51 + k.toNat) g = (lvG n Wf Mf k.toNat g).1 ∧ σ (65 + k.toNat) g = (lvG n Wf Mf k.toNat g).2) (hq0 : 0 ≤ q ∧ q ≤ 235224) (hk : 1 ≤ k ∧ k ≤ n ∧ k ≤ K) (hlv : 0 ≤ lv ∧ lv < k) : MXi l LX Y yX4_beginOf wsX4_beginOf { frames := 1, cells := 0, slots := 0, locals := 21 } [.ref (Y.2.1 (49)), .int (iI (k)), .int (iI (lv))] σ (fun z u => u = σ ∧ (z = lvB n Wf Mf k lv.toNat ∧ 0 ≤ z ∧ z < n)) := by
  obtain ⟨⟨hn0, hn12, hW0, hM0, hW24⟩, hstep, hXa, hXr⟩ := id hPf
  obtain ⟨hTn, hTq, hTx, hTw⟩ := id hT
  refine g_starti (rty := .int) (fun _ _ _ => rfl) (cc := cX4_beginOf) (nL := 5) (own := RX4) (by decide) rfl rfl (Nat.le_of_ble_eq_true rfl) ?_
  intro pp ee ss mm bw mt cd AA ZZ ls G hret X hl
  have hl : lv_has ls 5 [(0, .ref (Y.2.1 (49))), (1, .int (iI (k))), (2, .int (iI (lv)))] := hl
  have hx := G.1
  have hb := G.2.1
  have hts := G.2.2.2.2.1
  have l_f18 := hts (.fieldLink RX4 18 "ShapeFits$LevelTable" "next" "[[I") (List.mem_of_getElem? (i := 2) rfl)
  have l_f21 := hts (.fieldLink RX4 21 "ShapeFits$LevelTable" "table" "LShapeFits$GroupTable;") (List.mem_of_getElem? (i := 1) rfl)
  have in_X4 : ∀ w ∈ u_ws RX4 TX4 3, w ∈ wsX4_beginOf := by decide +kernel
  refine lv_iconst (v := iI 0) hx hb dX4_beginOf_0 rfl ?_
  refine lv_istore_n (lv' := [(3, .int (iI (0))), (0, .ref (Y.2.1 (49))), (1, .int (iI (k))), (2, .int (iI (lv)))]) hx hb dX4_beginOf_1 rfl hl (by decide) rfl (fun ls hl => ?_)
  refine lv_iconst (v := iI 0) hx hb dX4_beginOf_2 rfl ?_
  refine lv_istore (lv' := [(4, .int (iI (0))), (3, .int (iI (0))), (0, .ref (Y.2.1 (49))), (1, .int (iI (k))), (2, .int (iI (lv)))]) hx hb dX4_beginOf_3 hl (by decide) rfl (fun ls hl => ?_)
  have lp_5 : ∀ (nn : Nat) (g s : Int), ∀ hs0 : 0 ≤ s ∧ s ≤ lv, ∀ hgr : 0 ≤ g ∧ g + (k - s) ≤ n, ∀ hgE : g = lvB n Wf Mf k s.toNat, ∀ hdec : (lv - s) < (nn : Int), ∀ (H : Heap) (locs : List Loc) (ls : Array Slot), wx LX Y σ ss AA H locs → lv_has ls 5 [(0, .ref (Y.2.1 (49))), (1, .int (iI (k))), (2, .int (iI (lv))), (3, .int (iI (g))), (4, .int (iI (s)))] → W pp l ee { frames := 1, cells := 0, slots := 0, locals := 21 } ss mm ([.ref (Y.2.1 (49)), .int (iI (k)), .int (iI (lv))] : List Value).toArray bw mt cd H locs 0 0 ZZ (F0 mm 5 ls []) := by
    intro nn
    induction nn with
    | zero =>
      intro g s hs0 hgr hgE hdec
      exact absurd hdec (by omega)
    | succ nn ih_5 =>
      intro g s hs0 hgr hgE hdec H locs ls X hl
      refine lv_iload hx hb dX4_beginOf_5 (lv_at hl 4 rfl) ?_
      refine lv_iload_n hx hb dX4_beginOf_7 rfl (lv_at hl 2 rfl) ?_
      refine g_icmp_ge (tgt := 57) G dX4_beginOf_8 (by decide) (by omega) (by omega) (fun h8 => ?_) (fun h8 => ?_)
      ·
        refine lv_iload_n hx hb dX4_beginOf_57 rfl (lv_at hl 3 rfl) ?_
        exact hret _ _ _ _ _ _ (⟨rfl, by rw [hgE, show s = lv by omega], by omega, by omega⟩) X dX4_beginOf_58
      ·
        refine lv_iload hx hb dX4_beginOf_11 (lv_at hl 4 rfl) ?_
        refine lv_iload_n hx hb dX4_beginOf_13 rfl (lv_at hl 1 rfl) ?_
        refine g_icmp_ge (tgt := 57) G dX4_beginOf_14 (by decide) (by omega) (by omega) (fun h14 => ?_) (fun h14 => ?_)
        ·
          exact absurd h14 (by omega)
        ·
          refine lv_iload_n hx hb dX4_beginOf_17 rfl (lv_at hl 1 rfl) ?_
          refine lv_aload_n hx hb dX4_beginOf_18 rfl (lv_at hl 0 rfl) ?_
          refine g_get G X (k := 49) (fs := fLev Y) (Nat.le_of_ble_eq_true rfl) (fun _ => rfl) rfl in_X4 0 (by decide) l_f21 rfl (v := .ref (Y.2.1 (38))) rfl dX4_beginOf_19 ?_
          refine g_callVi G X (rest := [.int (iI (k))]) (As := []) (t_X1_size l Y (σ) n Xf Cf Wf Mf q (by first | assumption | omega) (by first | assumption | omega)) (cwV 0 hts gX4_beginOf_X1_size rfl rfl rfl (by decide +kernel) ⟨Nat.le_of_ble_eq_true rfl, Nat.le_of_ble_eq_true rfl⟩) (k := 38) (Nat.le_of_ble_eq_true rfl) rfl rfl rfl rfl hl.1 rfl (Nat.le_of_ble_eq_true rfl) dX4_beginOf_22 ⟨Nat.le_refl _, Nat.le_refl _⟩ (fun z22 u22 H locs hq22 X => ?_)
          rw [hq22.1] at X
          have hq22 := hq22.2
          try dsimp only at hq22
          refine g_topi (z' := n) hq22 ?_
          refine g_icmp_gt (tgt := 57) G dX4_beginOf_25 (by decide) (by omega) (by omega) (fun h25 => ?_) (fun h25 => ?_)
          ·
            exact absurd h25 (by omega)
          ·
            refine lv_aload_n hx hb dX4_beginOf_28 rfl (lv_at hl 0 rfl) ?_
            refine g_get G X (k := 49) (fs := fLev Y) (Nat.le_of_ble_eq_true rfl) (fun _ => rfl) rfl in_X4 0 (by decide) l_f21 rfl (v := .ref (Y.2.1 (38))) rfl dX4_beginOf_29 ?_
            refine lv_iload_n hx hb dX4_beginOf_32 rfl (lv_at hl 3 rfl) ?_
            refine g_callVi G X (rest := []) (As := [.int (iI (g))]) (t_X1_has l Y (σ) n Xf Cf Wf Mf q (g) (by first | assumption | omega) (by first | assumption | omega) (by first | assumption | omega)) (cwV 1 hts gX4_beginOf_X1_has rfl rfl rfl (by decide +kernel) ⟨Nat.le_of_ble_eq_true rfl, Nat.le_of_ble_eq_true rfl⟩) (k := 38) (Nat.le_of_ble_eq_true rfl) rfl rfl rfl rfl hl.1 rfl (Nat.le_of_ble_eq_true rfl) dX4_beginOf_33 ⟨Nat.le_refl _, Nat.le_refl _⟩ (fun z33 u33 H locs hq33 X => ?_)
            rw [hq33.1] at X
            have hq33 := hq33.2
            try dsimp only at hq33
            refine g_if_eq (tgt := 51) G dX4_beginOf_36 (by decide) (by omega) (fun h36 => ?_) (fun h36 => ?_)
            ·
              exact absurd h36 (by omega)
            ·
              obtain ⟨nk, hnk, hnk2⟩ : ∃ nk : Nat, 65 + (k - s).toNat = nk ∧ isI13 Y nk := ⟨_, rfl, levI Y (by omega)⟩
              have hlg := lvG_rg hPf (k - s).toNat g (by omega) (by omega) (by omega)
              have hcl := (hL (k - s) g (by omega) (by omega) (by omega) (by omega)).2
              refine lv_aload_n hx hb dX4_beginOf_39 rfl (lv_at hl 0 rfl) ?_
              refine g_get G X (k := 49) (fs := fLev Y) (Nat.le_of_ble_eq_true rfl) (fun _ => rfl) rfl in_X4 2 (by decide) l_f18 rfl (v := .ref (Y.2.1 (64))) rfl dX4_beginOf_40 ?_
              refine lv_iload_n hx hb dX4_beginOf_43 rfl (lv_at hl 1 rfl) ?_
              refine lv_iload hx hb dX4_beginOf_44 (lv_at hl 4 rfl) ?_
              refine g_isub G dX4_beginOf_46 ?_
              refine g_aaldT G X (k := 64) (n := 13) (t := 5) (g := 65) (ty := .array .int) (Nat.le_of_ble_eq_true rfl) (fun _ => rfl) rfl rfl (by decide) (z := (k - s)) (by omega) dX4_beginOf_47 ?_
              refine g_topr hnk ?_
              refine lv_iload_n hx hb dX4_beginOf_48 rfl (lv_at hl 3 rfl) ?_
              refine g_iald G X (k := nk) (n := 13) hnk2.1 hnk2.2 (by decide) (z := g) (by omega) dX4_beginOf_49 ?_
              refine g_topi (z' := (lvG n Wf Mf (k - s).toNat g).2) (by rw [← hnk]; exact hcl) ?_
              refine lv_istore_n (lv' := [(3, .int (iI (((lvG n Wf Mf (k - s).toNat g).2)))), (0, .ref (Y.2.1 (49))), (1, .int (iI (k))), (2, .int (iI (lv))), (4, .int (iI (s)))]) hx hb dX4_beginOf_50 rfl hl (by decide) rfl (fun ls hl => ?_)
              refine lv_iinc (v := iI (s + 1)) (lv' := [(4, .int (iI ((s + 1)))), (3, .int (iI (((lvG n Wf Mf (k - s).toNat g).2)))), (0, .ref (Y.2.1 (49))), (1, .int (iI (k))), (2, .int (iI (lv)))]) hx hb dX4_beginOf_51 hl (k := 4) rfl (iI_add _ _) (by decide) rfl (fun ls hl => ?_)
              refine lv_goto (tgt := 5) hx hb dX4_beginOf_54 (by decide) ?_
              exact ih_5 (((lvG n Wf Mf (k - s).toNat g).2)) ((s + 1)) (by omega) (by omega) (by rw [lvB_s hs0.1, ← hgE]) (by omega) _ _ _ X (lv_sub hl [2, 3, 4, 1, 0] rfl)
  exact lp_5 ((((lv - (0)) : Int).toNat + 1)) (0) (0) (by omega) (by omega) rfl (by omega) _ _ _ X (lv_sub hl [2, 3, 4, 1, 0] rfl)

set_option maxHeartbeats 4000000 in
set_option maxRecDepth 100000 in
theorem t_X4_costOf (l : Launch) (Y : Yt) (σ : Mem) (n : Int) (Xf : Int → Int) (Cf : Int → Int) (Wf : Int → Int) (Mf : Int → Int) (q : Int) (k : Int) (num : Int) (den : Int) (K : Int) (hT : Tb σ n Xf Cf Wf Mf q) (hPf : Prof n Xf Wf Mf) (hL : ∀ k g : Int, 1 ≤ k → k ≤ K → 0 ≤ g → g + k ≤ n → σ (51 + k.toNat) g = (lvG n Wf Mf k.toNat g).1 ∧ σ (65 + k.toNat) g = (lvG n Wf Mf k.toNat g).2) (hq0 : 0 ≤ q ∧ q ≤ 235224) (hk : 1 ≤ k ∧ k ≤ n ∧ k ≤ K) (hnum : 0 ≤ num ∧ num ≤ 1000000) (hden : 1 ≤ den ∧ den ≤ 100) : MXl l LX Y yX4_costOf wsX4_costOf { frames := 2, cells := 0, slots := 0, locals := 41 } [.ref (Y.2.1 (49)), .int (iI (k)), .int (iI (num)), .int (iI (den))] σ (fun z u => u = σ ∧ (z = lvC n Wf Mf q num den k ∧ -900000000000000000 ≤ z ∧ z ≤ 900000000000000000)) := by
  obtain ⟨⟨hn0, hn12, hW0, hM0, hW24⟩, hstep, hXa, hXr⟩ := id hPf
  obtain ⟨hTn, hTq, hTx, hTw⟩ := id hT
  refine g_startl (cc := cX4_costOf) (nL := 4) (own := RX4) (by decide) rfl rfl (Nat.le_of_ble_eq_true rfl) ?_
  intro pp ee ss mm bw mt cd AA ZZ ls G hret X hl
  have hl : lv_has ls 4 [(0, .ref (Y.2.1 (49))), (1, .int (iI (k))), (2, .int (iI (num))), (3, .int (iI (den)))] := hl
  have hx := G.1
  have hb := G.2.1
  have hts := G.2.2.2.2.1
  have l_k57 := hts (.constantLong RX4 57 (5354228880)) (List.mem_of_getElem? (i := 1) rfl)
  refine lv_aload_n hx hb dX4_costOf_0 rfl (lv_at hl 0 rfl) ?_
  refine lv_iload_n hx hb dX4_costOf_1 rfl (lv_at hl 1 rfl) ?_
  refine g_callVl G X (rest := []) (As := [.int (iI (k))]) (t_X4_commonError l Y (σ) n Xf Cf Wf Mf q (k) (K) (by first | assumption | omega) (by first | assumption | omega) (by first | assumption | omega) (by first | assumption | omega) (by first | assumption | omega)) (cwV 1 hts gX4_costOf_X4_commonError rfl rfl rfl (by decide +kernel) ⟨Nat.le_of_ble_eq_true rfl, Nat.le_of_ble_eq_true rfl⟩) (k := 49) (Nat.le_of_ble_eq_true rfl) rfl rfl rfl rfl hl.1 rfl (Nat.le_of_ble_eq_true rfl) dX4_costOf_2 ⟨Nat.le_refl _, Nat.le_refl _⟩ (fun z2 u2 H locs hq2 X => ?_)
  rw [hq2.1] at X
  have hq2 := hq2.2
  try dsimp only at hq2
  refine g_topl (z' := lvE n Wf Mf q k) hq2.1 ?_
  refine lv_iload_n hx hb dX4_costOf_5 rfl (lv_at hl 3 rfl) ?_
  refine g_i2l G (by omega) dX4_costOf_6 ?_
  refine g_lmul G dX4_costOf_7 ?_
  refine g_ldc2 G (z := 5354228880) l_k57 (by decide +kernel) dX4_costOf_8 ?_
  refine lv_iload_n hx hb dX4_costOf_11 rfl (lv_at hl 2 rfl) ?_
  refine g_i2l G (by omega) dX4_costOf_12 ?_
  refine g_lmul G dX4_costOf_13 ?_
  refine lv_iload_n hx hb dX4_costOf_14 rfl (lv_at hl 1 rfl) ?_
  refine g_i2l G (by omega) dX4_costOf_15 ?_
  refine g_lmul G dX4_costOf_16 ?_
  refine g_ladd G dX4_costOf_17 ?_
  exact hret _ _ _ _ _ _ (⟨rfl, rfl, lvC_rg hPf hq0 (by omega) hnum hden⟩) X dX4_costOf_18

set_option maxHeartbeats 4000000 in
set_option maxRecDepth 100000 in
theorem t_X4_cheapest (l : Launch) (Y : Yt) (σ : Mem) (n : Int) (Xf : Int → Int) (Cf : Int → Int) (Wf : Int → Int) (Mf : Int → Int) (q : Int) (num : Int) (den : Int) (K : Int) (hT : Tb σ n Xf Cf Wf Mf q) (hPf : Prof n Xf Wf Mf) (hL : ∀ k g : Int, 1 ≤ k → k ≤ K → 0 ≤ g → g + k ≤ n → σ (51 + k.toNat) g = (lvG n Wf Mf k.toNat g).1 ∧ σ (65 + k.toNat) g = (lvG n Wf Mf k.toNat g).2) (hq0 : 0 ≤ q ∧ q ≤ 235224) (hK : n ≤ K) (hn1 : 1 ≤ n) (hnum : 0 ≤ num ∧ num ≤ 1000000) (hden : 1 ≤ den ∧ den ≤ 100) : MXi l LX Y yX4_cheapest wsX4_cheapest { frames := 3, cells := 0, slots := 0, locals := 64 } [.ref (Y.2.1 (49)), .int (iI (num)), .int (iI (den))] σ (fun z u => u = σ ∧ (ChIs n (lvC n Wf Mf q num den) z)) := by
  obtain ⟨⟨hn0, hn12, hW0, hM0, hW24⟩, hstep, hXa, hXr⟩ := id hPf
  obtain ⟨hTn, hTq, hTx, hTw⟩ := id hT
  refine g_starti (rty := .int) (fun _ _ _ => rfl) (cc := cX4_cheapest) (nL := 5) (own := RX4) (by decide) rfl rfl (Nat.le_of_ble_eq_true rfl) ?_
  intro pp ee ss mm bw mt cd AA ZZ ls G hret X hl
  have hl : lv_has ls 5 [(0, .ref (Y.2.1 (49))), (1, .int (iI (num))), (2, .int (iI (den)))] := hl
  have hx := G.1
  have hb := G.2.1
  have hts := G.2.2.2.2.1
  have l_f21 := hts (.fieldLink RX4 21 "ShapeFits$LevelTable" "table" "LShapeFits$GroupTable;") (List.mem_of_getElem? (i := 1) rfl)
  have in_X4 : ∀ w ∈ u_ws RX4 TX4 3, w ∈ wsX4_cheapest := by decide +kernel
  refine lv_iconst (v := iI 1) hx hb dX4_cheapest_0 rfl ?_
  refine lv_istore_n (lv' := [(3, .int (iI (1))), (0, .ref (Y.2.1 (49))), (1, .int (iI (num))), (2, .int (iI (den)))]) hx hb dX4_cheapest_1 rfl hl (by decide) rfl (fun ls hl => ?_)
  refine lv_iconst (v := iI 2) hx hb dX4_cheapest_2 rfl ?_
  refine lv_istore (lv' := [(4, .int (iI (2))), (3, .int (iI (1))), (0, .ref (Y.2.1 (49))), (1, .int (iI (num))), (2, .int (iI (den)))]) hx hb dX4_cheapest_3 hl (by decide) rfl (fun ls hl => ?_)
  have lp_5 : ∀ (nn : Nat) (best k : Int), ∀ hk : 2 ≤ k ∧ k ≤ n + 1, ∀ hb2 : 1 ≤ best ∧ best < k, ∀ hbI : ∀ j : Int, 1 ≤ j → j < k → lvC n Wf Mf q num den best ≤ lvC n Wf Mf q num den j ∧ (j < best → lvC n Wf Mf q num den best < lvC n Wf Mf q num den j), ∀ hdec : (n + 1 - k) < (nn : Int), ∀ (H : Heap) (locs : List Loc) (ls : Array Slot), wx LX Y σ ss AA H locs → lv_has ls 5 [(0, .ref (Y.2.1 (49))), (1, .int (iI (num))), (2, .int (iI (den))), (3, .int (iI (best))), (4, .int (iI (k)))] → W pp l ee { frames := 3, cells := 0, slots := 0, locals := 64 } ss mm ([.ref (Y.2.1 (49)), .int (iI (num)), .int (iI (den))] : List Value).toArray bw mt cd H locs 0 0 ZZ (F0 mm 5 ls []) := by
    intro nn
    induction nn with
    | zero =>
      intro best k hk hb2 hbI hdec
      exact absurd hdec (by omega)
    | succ nn ih_5 =>
      intro best k hk hb2 hbI hdec H locs ls X hl
      refine lv_iload hx hb dX4_cheapest_5 (lv_at hl 4 rfl) ?_
      refine lv_aload_n hx hb dX4_cheapest_7 rfl (lv_at hl 0 rfl) ?_
      refine g_get G X (k := 49) (fs := fLev Y) (Nat.le_of_ble_eq_true rfl) (fun _ => rfl) rfl in_X4 0 (by decide) l_f21 rfl (v := .ref (Y.2.1 (38))) rfl dX4_cheapest_8 ?_
      refine g_callVi G X (rest := [.int (iI (k))]) (As := []) (t_X1_size l Y (σ) n Xf Cf Wf Mf q (by first | assumption | omega) (by first | assumption | omega)) (cwV 0 hts gX4_cheapest_X1_size rfl rfl rfl (by decide +kernel) ⟨Nat.le_of_ble_eq_true rfl, Nat.le_of_ble_eq_true rfl⟩) (k := 38) (Nat.le_of_ble_eq_true rfl) rfl rfl rfl rfl hl.1 rfl (Nat.le_of_ble_eq_true rfl) dX4_cheapest_11 ⟨Nat.le_refl _, Nat.le_refl _⟩ (fun z11 u11 H locs hq11 X => ?_)
      rw [hq11.1] at X
      have hq11 := hq11.2
      try dsimp only at hq11
      refine g_topi (z' := n) hq11 ?_
      refine g_icmp_gt (tgt := 45) G dX4_cheapest_14 (by decide) (by omega) (by omega) (fun h14 => ?_) (fun h14 => ?_)
      ·
        refine lv_iload_n hx hb dX4_cheapest_45 rfl (lv_at hl 3 rfl) ?_
        exact hret _ _ _ _ _ _ (⟨rfl, ⟨by omega, by omega⟩, fun j a b => hbI j a (by omega)⟩) X dX4_cheapest_46
      ·
        refine lv_aload_n hx hb dX4_cheapest_17 rfl (lv_at hl 0 rfl) ?_
        refine lv_iload hx hb dX4_cheapest_18 (lv_at hl 4 rfl) ?_
        refine lv_iload_n hx hb dX4_cheapest_20 rfl (lv_at hl 1 rfl) ?_
        refine lv_iload_n hx hb dX4_cheapest_21 rfl (lv_at hl 2 rfl) ?_
        refine g_callVl G X (rest := []) (As := [.int (iI (k)), .int (iI (num)), .int (iI (den))]) (t_X4_costOf l Y (σ) n Xf Cf Wf Mf q (k) (num) (den) (K) (by first | assumption | omega) (by first | assumption | omega) (by first | assumption | omega) (by first | assumption | omega) (by first | assumption | omega) (by first | assumption | omega) (by first | assumption | omega)) (cwV 3 hts gX4_cheapest_X4_costOf rfl rfl rfl (by decide +kernel) ⟨Nat.le_of_ble_eq_true rfl, Nat.le_of_ble_eq_true rfl⟩) (k := 49) (Nat.le_of_ble_eq_true rfl) rfl rfl rfl rfl hl.1 rfl (Nat.le_of_ble_eq_true rfl) dX4_cheapest_22 ⟨Nat.le_refl _, Nat.le_refl _⟩ (fun z22 u22 H locs hq22 X => ?_)
        rw [hq22.1] at X
        have hq22 := hq22.2
        try dsimp only at hq22
        refine g_topl (z' := lvC n Wf Mf q num den k) hq22.1 ?_
        refine lv_aload_n hx hb dX4_cheapest_25 rfl (lv_at hl 0 rfl) ?_
        refine lv_iload_n hx hb dX4_cheapest_26 rfl (lv_at hl 3 rfl) ?_
        refine lv_iload_n hx hb dX4_cheapest_27 rfl (lv_at hl 1 rfl) ?_
        refine lv_iload_n hx hb dX4_cheapest_28 rfl (lv_at hl 2 rfl) ?_
        refine g_callVl G X (rest := [.long (lI ((lvC n Wf Mf q num den k)))]) (As := [.int (iI (best)), .int (iI (num)), .int (iI (den))]) (t_X4_costOf l Y (σ) n Xf Cf Wf Mf q (best) (num) (den) (K) (by first | assumption | omega) (by first | assumption | omega) (by first | assumption | omega) (by first | assumption | omega) (by first | assumption | omega) (by first | assumption | omega) (by first | assumption | omega)) (cwV 3 hts gX4_cheapest_X4_costOf rfl rfl rfl (by decide +kernel) ⟨Nat.le_of_ble_eq_true rfl, Nat.le_of_ble_eq_true rfl⟩) (k := 49) (Nat.le_of_ble_eq_true rfl) rfl rfl rfl rfl hl.1 rfl (Nat.le_of_ble_eq_true rfl) dX4_cheapest_29 ⟨Nat.le_refl _, Nat.le_refl _⟩ (fun z29 u29 H locs hq29 X => ?_)
        rw [hq29.1] at X
        have hq29 := hq29.2
        try dsimp only at hq29
        refine g_topl (z' := lvC n Wf Mf q num den best) hq29.1 ?_
        have hc1 := lvC_rg (num := num) (den := den) (k := k) hPf hq0 (by omega) hnum hden
        have hc2 := lvC_rg (num := num) (den := den) (k := best) hPf hq0 (by omega) hnum hden
        refine g_lif_ge (tgt := 39) G dX4_cheapest_32 dX4_cheapest_33 (by decide) (by omega) (by omega) (fun h32 => ?_) (fun h32 => ?_)
        ·
          refine lv_iinc (v := iI (k + 1)) (lv' := [(4, .int (iI ((k + 1)))), (0, .ref (Y.2.1 (49))), (1, .int (iI (num))), (2, .int (iI (den))), (3, .int (iI (best)))]) hx hb dX4_cheapest_39 hl (k := 4) rfl (iI_add _ _) (by decide) rfl (fun ls hl => ?_)
          refine lv_goto (tgt := 5) hx hb dX4_cheapest_42 (by decide) ?_
          exact ih_5 (best) ((k + 1)) (by omega) (by omega) (fun j a b => by by_cases e : j = k; (subst e; omega); have := hbI j a (by omega); omega) (by omega) _ _ _ X (lv_sub hl [1, 2, 3, 4, 0] rfl)
        ·
          refine lv_iload hx hb dX4_cheapest_36 (lv_at hl 4 rfl) ?_
          refine lv_istore_n (lv' := [(3, .int (iI (k))), (0, .ref (Y.2.1 (49))), (1, .int (iI (num))), (2, .int (iI (den))), (4, .int (iI (k)))]) hx hb dX4_cheapest_38 rfl hl (by decide) rfl (fun ls hl => ?_)
          refine lv_iinc (v := iI (k + 1)) (lv' := [(4, .int (iI ((k + 1)))), (3, .int (iI (k))), (0, .ref (Y.2.1 (49))), (1, .int (iI (num))), (2, .int (iI (den)))]) hx hb dX4_cheapest_39 hl (k := 4) rfl (iI_add _ _) (by decide) rfl (fun ls hl => ?_)
          refine lv_goto (tgt := 5) hx hb dX4_cheapest_42 (by decide) ?_
          exact ih_5 (k) ((k + 1)) (by omega) (by omega) (fun j a b => by by_cases e : j = k; (subst e; omega); have := hbI j a (by omega); omega) (by omega) _ _ _ X (lv_sub hl [2, 3, 4, 1, 0] rfl)
  exact lp_5 ((((n + 1 - (2)) : Int).toNat + 1)) (1) (2) (by omega) (by omega) (fun j a b => by rw [show j = 1 by omega]; omega) (by omega) _ _ _ X (lv_sub hl [2, 3, 4, 1, 0] rfl)

set_option maxHeartbeats 4000000 in
set_option maxRecDepth 100000 in
theorem t_X4_errorDrop (l : Launch) (Y : Yt) (σ : Mem) (n : Int) (Xf : Int → Int) (Cf : Int → Int) (Wf : Int → Int) (Mf : Int → Int) (q : Int) (f : Int) (m : Int) (K : Int) (hT : Tb σ n Xf Cf Wf Mf q) (hPf : Prof n Xf Wf Mf) (hL : ∀ k g : Int, 1 ≤ k → k ≤ K → 0 ≤ g → g + k ≤ n → σ (51 + k.toNat) g = (lvG n Wf Mf k.toNat g).1 ∧ σ (65 + k.toNat) g = (lvG n Wf Mf k.toNat g).2) (hq0 : 0 ≤ q ∧ q ≤ 235224) (hf0 : 1 ≤ f ∧ f ≤ n ∧ f ≤ K) (hm0 : 1 ≤ m ∧ m ≤ n ∧ m ≤ K) : MXl l LX Y yX4_errorDrop wsX4_errorDrop { frames := 2, cells := 0, slots := 0, locals := 41 } [.ref (Y.2.1 (49)), .int (iI (f)), .int (iI (m))] σ (fun z u => u = σ ∧ (z = lvE n Wf Mf q f - lvE n Wf Mf q m ∧ -2520000000000000 ≤ z ∧ z ≤ 2520000000000000)) := by
  obtain ⟨⟨hn0, hn12, hW0, hM0, hW24⟩, hstep, hXa, hXr⟩ := id hPf
  obtain ⟨hTn, hTq, hTx, hTw⟩ := id hT
  refine g_startl (cc := cX4_errorDrop) (nL := 3) (own := RX4) (by decide) rfl rfl (Nat.le_of_ble_eq_true rfl) ?_
  intro pp ee ss mm bw mt cd AA ZZ ls G hret X hl
  have hl : lv_has ls 3 [(0, .ref (Y.2.1 (49))), (1, .int (iI (f))), (2, .int (iI (m)))] := hl
  have hx := G.1
  have hb := G.2.1
  have hts := G.2.2.2.2.1
  refine lv_aload_n hx hb dX4_errorDrop_0 rfl (lv_at hl 0 rfl) ?_
  refine lv_iload_n hx hb dX4_errorDrop_1 rfl (lv_at hl 1 rfl) ?_
  refine g_callVl G X (rest := []) (As := [.int (iI (f))]) (t_X4_commonError l Y (σ) n Xf Cf Wf Mf q (f) (K) (by first | assumption | omega) (by first | assumption | omega) (by first | assumption | omega) (by first | assumption | omega) (by first | assumption | omega)) (cwV 1 hts gX4_errorDrop_X4_commonError rfl rfl rfl (by decide +kernel) ⟨Nat.le_of_ble_eq_true rfl, Nat.le_of_ble_eq_true rfl⟩) (k := 49) (Nat.le_of_ble_eq_true rfl) rfl rfl rfl rfl hl.1 rfl (Nat.le_of_ble_eq_true rfl) dX4_errorDrop_2 ⟨Nat.le_refl _, Nat.le_refl _⟩ (fun z2 u2 H locs hq2 X => ?_)
  rw [hq2.1] at X
  have hq2 := hq2.2
  try dsimp only at hq2
  refine lv_aload_n hx hb dX4_errorDrop_5 rfl (lv_at hl 0 rfl) ?_
  refine lv_iload_n hx hb dX4_errorDrop_6 rfl (lv_at hl 2 rfl) ?_
  refine g_callVl G X (rest := [.long (lI (z2))]) (As := [.int (iI (m))]) (t_X4_commonError l Y (σ) n Xf Cf Wf Mf q (m) (K) (by first | assumption | omega) (by first | assumption | omega) (by first | assumption | omega) (by first | assumption | omega) (by first | assumption | omega)) (cwV 1 hts gX4_errorDrop_X4_commonError rfl rfl rfl (by decide +kernel) ⟨Nat.le_of_ble_eq_true rfl, Nat.le_of_ble_eq_true rfl⟩) (k := 49) (Nat.le_of_ble_eq_true rfl) rfl rfl rfl rfl hl.1 rfl (Nat.le_of_ble_eq_true rfl) dX4_errorDrop_7 ⟨Nat.le_refl _, Nat.le_refl _⟩ (fun z7 u7 H locs hq7 X => ?_)
  rw [hq7.1] at X
  have hq7 := hq7.2
  try dsimp only at hq7
  refine g_lsub G dX4_errorDrop_10 ?_
  exact hret _ _ _ _ _ _ (⟨rfl, by rw [hq2.1, hq7.1], by omega⟩) X dX4_errorDrop_11

set_option maxHeartbeats 4000000 in
set_option maxRecDepth 100000 in
theorem t_X4_comparePenalties (l : Launch) (Y : Yt) (σ : Mem) (n : Int) (Xf : Int → Int) (Cf : Int → Int) (Wf : Int → Int) (Mf : Int → Int) (q : Int) (f : Int) (m : Int) (f2 : Int) (m2 : Int) (K : Int) (hT : Tb σ n Xf Cf Wf Mf q) (hPf : Prof n Xf Wf Mf) (hL : ∀ k g : Int, 1 ≤ k → k ≤ K → 0 ≤ g → g + k ≤ n → σ (51 + k.toNat) g = (lvG n Wf Mf k.toNat g).1 ∧ σ (65 + k.toNat) g = (lvG n Wf Mf k.toNat g).2) (hq0 : 0 ≤ q ∧ q ≤ 235224) (hf0 : 1 ≤ f ∧ f ≤ n ∧ f ≤ K) (hm0 : 1 ≤ m ∧ m ≤ n ∧ m ≤ K) (hf2 : 1 ≤ f2 ∧ f2 ≤ n ∧ f2 ≤ K) (hm2 : 1 ≤ m2 ∧ m2 ≤ n ∧ m2 ≤ K) : MXi l LX Y yX4_comparePenalties wsX4_comparePenalties { frames := 3, cells := 0, slots := 0, locals := 63 } [.ref (Y.2.1 (49)), .int (iI (f)), .int (iI (m)), .int (iI (f2)), .int (iI (m2))] σ (fun z u => u = σ ∧ ((z = -1 ∧ (lvE n Wf Mf q f - lvE n Wf Mf q m) * (m2 - f2) < (lvE n Wf Mf q f2 - lvE n Wf Mf q m2) * (m - f)) ∨ (z = 0 ∧ (lvE n Wf Mf q f - lvE n Wf Mf q m) * (m2 - f2) = (lvE n Wf Mf q f2 - lvE n Wf Mf q m2) * (m - f)) ∨ (z = 1 ∧ (lvE n Wf Mf q f2 - lvE n Wf Mf q m2) * (m - f) < (lvE n Wf Mf q f - lvE n Wf Mf q m) * (m2 - f2)))) := by
  obtain ⟨⟨hn0, hn12, hW0, hM0, hW24⟩, hstep, hXa, hXr⟩ := id hPf
  obtain ⟨hTn, hTq, hTx, hTw⟩ := id hT
  refine g_starti (rty := .int) (fun _ _ _ => rfl) (cc := cX4_comparePenalties) (nL := 9) (own := RX4) (by decide) rfl rfl (Nat.le_of_ble_eq_true rfl) ?_
  intro pp ee ss mm bw mt cd AA ZZ ls G hret X hl
  have hl : lv_has ls 9 [(0, .ref (Y.2.1 (49))), (1, .int (iI (f))), (2, .int (iI (m))), (3, .int (iI (f2))), (4, .int (iI (m2)))] := hl
  have hx := G.1
  have hb := G.2.1
  have hts := G.2.2.2.2.1
  refine lv_aload_n hx hb dX4_comparePenalties_0 rfl (lv_at hl 0 rfl) ?_
  refine lv_iload_n hx hb dX4_comparePenalties_1 rfl (lv_at hl 1 rfl) ?_
  refine lv_iload_n hx hb dX4_comparePenalties_2 rfl (lv_at hl 2 rfl) ?_
  refine g_callVl G X (rest := []) (As := [.int (iI (f)), .int (iI (m))]) (t_X4_errorDrop l Y (σ) n Xf Cf Wf Mf q (f) (m) (K) (by first | assumption | omega) (by first | assumption | omega) (by first | assumption | omega) (by first | assumption | omega) (by first | assumption | omega) (by first | assumption | omega)) (cwV 2 hts gX4_comparePenalties_X4_errorDrop rfl rfl rfl (by decide +kernel) ⟨Nat.le_of_ble_eq_true rfl, Nat.le_of_ble_eq_true rfl⟩) (k := 49) (Nat.le_of_ble_eq_true rfl) rfl rfl rfl rfl hl.1 rfl (Nat.le_of_ble_eq_true rfl) dX4_comparePenalties_3 ⟨Nat.le_refl _, Nat.le_refl _⟩ (fun z3 u3 H locs hq3 X => ?_)
  rw [hq3.1] at X
  have hq3 := hq3.2
  try dsimp only at hq3
  have hb3 := hq3.2
  refine g_topl (z' := lvE n Wf Mf q f - lvE n Wf Mf q m) hq3.1 ?_
  refine lv_iload hx hb dX4_comparePenalties_6 (lv_at hl 4 rfl) ?_
  refine lv_iload_n hx hb dX4_comparePenalties_8 rfl (lv_at hl 3 rfl) ?_
  refine g_isub G dX4_comparePenalties_9 ?_
  refine g_i2l G (by omega) dX4_comparePenalties_10 ?_
  refine g_lmul G dX4_comparePenalties_11 ?_
  refine lv_lstore (lv' := [(5, .long (lI (((lvE n Wf Mf q f - lvE n Wf Mf q m) * (m2 - f2))))), (0, .ref (Y.2.1 (49))), (1, .int (iI (f))), (2, .int (iI (m))), (3, .int (iI (f2))), (4, .int (iI (m2)))]) hx hb dX4_comparePenalties_12 hl (by decide) rfl (fun ls hl => ?_)
  refine lv_aload_n hx hb dX4_comparePenalties_14 rfl (lv_at hl 1 rfl) ?_
  refine lv_iload_n hx hb dX4_comparePenalties_15 rfl (lv_at hl 4 rfl) ?_
  refine lv_iload hx hb dX4_comparePenalties_16 (lv_at hl 5 rfl) ?_
  refine g_callVl G X (rest := []) (As := [.int (iI (f2)), .int (iI (m2))]) (t_X4_errorDrop l Y (σ) n Xf Cf Wf Mf q (f2) (m2) (K) (by first | assumption | omega) (by first | assumption | omega) (by first | assumption | omega) (by first | assumption | omega) (by first | assumption | omega) (by first | assumption | omega)) (cwV 2 hts gX4_comparePenalties_X4_errorDrop rfl rfl rfl (by decide +kernel) ⟨Nat.le_of_ble_eq_true rfl, Nat.le_of_ble_eq_true rfl⟩) (k := 49) (Nat.le_of_ble_eq_true rfl) rfl rfl rfl rfl hl.1 rfl (Nat.le_of_ble_eq_true rfl) dX4_comparePenalties_18 ⟨Nat.le_refl _, Nat.le_refl _⟩ (fun z18 u18 H locs hq18 X => ?_)
  rw [hq18.1] at X
  have hq18 := hq18.2
  try dsimp only at hq18
  have hb18 := hq18.2
  refine g_topl (z' := lvE n Wf Mf q f2 - lvE n Wf Mf q m2) hq18.1 ?_
  refine lv_iload_n hx hb dX4_comparePenalties_21 rfl (lv_at hl 3 rfl) ?_
  refine lv_iload_n hx hb dX4_comparePenalties_22 rfl (lv_at hl 2 rfl) ?_
  refine g_isub G dX4_comparePenalties_23 ?_
  refine g_i2l G (by omega) dX4_comparePenalties_24 ?_
  refine g_lmul G dX4_comparePenalties_25 ?_
  refine lv_lstore (lv' := [(7, .long (lI (((lvE n Wf Mf q f2 - lvE n Wf Mf q m2) * (m - f))))), (5, .long (lI (((lvE n Wf Mf q f - lvE n Wf Mf q m) * (m2 - f2))))), (0, .ref (Y.2.1 (49))), (1, .int (iI (f))), (2, .int (iI (m))), (3, .int (iI (f2))), (4, .int (iI (m2)))]) hx hb dX4_comparePenalties_26 hl (by decide) rfl (fun ls hl => ?_)
  rw [hq3.1] at hb3
  rw [hq18.1] at hb18
  have r1 := mul_rg (a := lvE n Wf Mf q f - lvE n Wf Mf q m) (b := m2 - f2) (A := 2520000000000000) (B := 12) (by omega) (by omega)
  have r2 := mul_rg (a := lvE n Wf Mf q f2 - lvE n Wf Mf q m2) (b := m - f) (A := 2520000000000000) (B := 12) (by omega) (by omega)
  refine lv_lload hx hb dX4_comparePenalties_28 (lv_at hl 1 rfl) ?_
  refine lv_lload hx hb dX4_comparePenalties_30 (lv_at hl 0 rfl) ?_
  refine g_callSi G X (rest := []) (As := [.long (lI (((lvE n Wf Mf q f - lvE n Wf Mf q m) * (m2 - f2)))), .long (lI (((lvE n Wf Mf q f2 - lvE n Wf Mf q m2) * (m - f))))]) (t_J13_compare_74951 l Y (σ) (((lvE n Wf Mf q f - lvE n Wf Mf q m) * (m2 - f2))) (((lvE n Wf Mf q f2 - lvE n Wf Mf q m2) * (m - f))) (by first | assumption | omega) (by first | assumption | omega)) (va_cwS 2 hts gX4_comparePenalties_J13_compare_74951 rfl rfl rfl (by decide +kernel) ⟨Nat.le_of_ble_eq_true rfl, Nat.le_of_ble_eq_true rfl⟩) rfl hl.1 rfl (Nat.le_of_ble_eq_true rfl) dX4_comparePenalties_32 ⟨Nat.le_refl _, Nat.le_refl _⟩ (fun z32 u32 H locs hq32 X => ?_)
  rw [hq32.1] at X
  have hq32 := hq32.2
  try dsimp only at hq32
  exact hret _ _ _ _ _ _ (⟨rfl, hq32⟩) X dX4_comparePenalties_35

set_option maxHeartbeats 4000000 in
set_option maxRecDepth 100000 in
theorem t_X4_lastToYield (l : Launch) (Y : Yt) (σ : Mem) (n : Int) (Xf : Int → Int) (Cf : Int → Int) (Wf : Int → Int) (Mf : Int → Int) (q : Int) (f : Int) (most : Int) (K : Int) (hT : Tb σ n Xf Cf Wf Mf q) (hPf : Prof n Xf Wf Mf) (hL : ∀ k g : Int, 1 ≤ k → k ≤ K → 0 ≤ g → g + k ≤ n → σ (51 + k.toNat) g = (lvG n Wf Mf k.toNat g).1 ∧ σ (65 + k.toNat) g = (lvG n Wf Mf k.toNat g).2) (hq0 : 0 ≤ q ∧ q ≤ 235224) (hK : n ≤ K) (hf0 : 1 ≤ f ∧ f ≤ most) (hmn : most < n) : MXi l LX Y yX4_lastToYield wsX4_lastToYield { frames := 4, cells := 0, slots := 0, locals := 91 } [.ref (Y.2.1 (49)), .int (iI (f)), .int (iI (most))] σ (fun z u => u = σ ∧ (LYis (lvE n Wf Mf q) most n f z)) := by
  obtain ⟨⟨hn0, hn12, hW0, hM0, hW24⟩, hstep, hXa, hXr⟩ := id hPf
  obtain ⟨hTn, hTq, hTx, hTw⟩ := id hT
  refine g_starti (rty := .int) (fun _ _ _ => rfl) (cc := cX4_lastToYield) (nL := 5) (own := RX4) (by decide) rfl rfl (Nat.le_of_ble_eq_true rfl) ?_
  intro pp ee ss mm bw mt cd AA ZZ ls G hret X hl
  have hl : lv_has ls 5 [(0, .ref (Y.2.1 (49))), (1, .int (iI (f))), (2, .int (iI (most)))] := hl
  have hx := G.1
  have hb := G.2.1
  have hts := G.2.2.2.2.1
  have l_f21 := hts (.fieldLink RX4 21 "ShapeFits$LevelTable" "table" "LShapeFits$GroupTable;") (List.mem_of_getElem? (i := 1) rfl)
  have in_X4 : ∀ w ∈ u_ws RX4 TX4 3, w ∈ wsX4_lastToYield := by decide +kernel
  refine lv_iload_n hx hb dX4_lastToYield_0 rfl (lv_at hl 2 rfl) ?_
  refine lv_iconst (v := iI 1) hx hb dX4_lastToYield_1 rfl ?_
  refine g_iadd G dX4_lastToYield_2 ?_
  refine lv_istore_n (lv' := [(3, .int (iI ((most + 1)))), (0, .ref (Y.2.1 (49))), (1, .int (iI (f))), (2, .int (iI (most)))]) hx hb dX4_lastToYield_3 rfl hl (by decide) rfl (fun ls hl => ?_)
  refine lv_iload_n hx hb dX4_lastToYield_4 rfl (lv_at hl 3 rfl) ?_
  refine lv_iconst (v := iI 2) hx hb dX4_lastToYield_5 rfl ?_
  refine g_iadd G dX4_lastToYield_6 ?_
  refine lv_istore (lv' := [(4, .int (iI ((most + 2)))), (3, .int (iI ((most + 1)))), (0, .ref (Y.2.1 (49))), (1, .int (iI (f))), (2, .int (iI (most)))]) hx hb dX4_lastToYield_7 hl (by decide) rfl (fun ls hl => ?_)
  have lp_9 : ∀ (nn : Nat) (la m : Int), ∀ hm0 : most + 2 ≤ m ∧ m ≤ n + 1, ∀ hla : most < la ∧ la < m, ∀ hI : ∀ j : Int, most < j → j < m → (lvE n Wf Mf q f - lvE n Wf Mf q j) * (la - f) ≤ (lvE n Wf Mf q f - lvE n Wf Mf q la) * (j - f), ∀ hdec : (n + 1 - m) < (nn : Int), ∀ (H : Heap) (locs : List Loc) (ls : Array Slot), wx LX Y σ ss AA H locs → lv_has ls 5 [(0, .ref (Y.2.1 (49))), (1, .int (iI (f))), (2, .int (iI (most))), (3, .int (iI (la))), (4, .int (iI (m)))] → W pp l ee { frames := 4, cells := 0, slots := 0, locals := 91 } ss mm ([.ref (Y.2.1 (49)), .int (iI (f)), .int (iI (most))] : List Value).toArray bw mt cd H locs 0 0 ZZ (F0 mm 9 ls []) := by
    intro nn
    induction nn with
    | zero =>
      intro la m hm0 hla hI hdec
      exact absurd hdec (by omega)
    | succ nn ih_9 =>
      intro la m hm0 hla hI hdec H locs ls X hl
      refine lv_iload hx hb dX4_lastToYield_9 (lv_at hl 4 rfl) ?_
      refine lv_aload_n hx hb dX4_lastToYield_11 rfl (lv_at hl 0 rfl) ?_
      refine g_get G X (k := 49) (fs := fLev Y) (Nat.le_of_ble_eq_true rfl) (fun _ => rfl) rfl in_X4 0 (by decide) l_f21 rfl (v := .ref (Y.2.1 (38))) rfl dX4_lastToYield_12 ?_
      refine g_callVi G X (rest := [.int (iI (m))]) (As := []) (t_X1_size l Y (σ) n Xf Cf Wf Mf q (by first | assumption | omega) (by first | assumption | omega)) (cwV 0 hts gX4_lastToYield_X1_size rfl rfl rfl (by decide +kernel) ⟨Nat.le_of_ble_eq_true rfl, Nat.le_of_ble_eq_true rfl⟩) (k := 38) (Nat.le_of_ble_eq_true rfl) rfl rfl rfl rfl hl.1 rfl (Nat.le_of_ble_eq_true rfl) dX4_lastToYield_15 ⟨Nat.le_refl _, Nat.le_refl _⟩ (fun z15 u15 H locs hq15 X => ?_)
      rw [hq15.1] at X
      have hq15 := hq15.2
      try dsimp only at hq15
      refine g_topi (z' := n) hq15 ?_
      refine g_icmp_gt (tgt := 42) G dX4_lastToYield_18 (by decide) (by omega) (by omega) (fun h18 => ?_) (fun h18 => ?_)
      ·
        refine lv_iload_n hx hb dX4_lastToYield_42 rfl (lv_at hl 3 rfl) ?_
        exact hret _ _ _ _ _ _ (⟨rfl, ⟨by omega, by omega⟩, fun j a b => hI j a (by omega)⟩) X dX4_lastToYield_43
      ·
        refine lv_aload_n hx hb dX4_lastToYield_21 rfl (lv_at hl 0 rfl) ?_
        refine lv_iload_n hx hb dX4_lastToYield_22 rfl (lv_at hl 1 rfl) ?_
        refine lv_iload hx hb dX4_lastToYield_23 (lv_at hl 4 rfl) ?_
        refine lv_iload_n hx hb dX4_lastToYield_25 rfl (lv_at hl 1 rfl) ?_
        refine lv_iload_n hx hb dX4_lastToYield_26 rfl (lv_at hl 3 rfl) ?_
        refine g_callVi G X (rest := []) (As := [.int (iI (f)), .int (iI (m)), .int (iI (f)), .int (iI (la))]) (t_X4_comparePenalties l Y (σ) n Xf Cf Wf Mf q (f) (m) (f) (la) (K) (by first | assumption | omega) (by first | assumption | omega) (by first | assumption | omega) (by first | assumption | omega) (by first | assumption | omega) (by first | assumption | omega) (by first | assumption | omega) (by first | assumption | omega)) (cwV 4 hts gX4_lastToYield_X4_comparePenalties rfl rfl rfl (by decide +kernel) ⟨Nat.le_of_ble_eq_true rfl, Nat.le_of_ble_eq_true rfl⟩) (k := 49) (Nat.le_of_ble_eq_true rfl) rfl rfl rfl rfl hl.1 rfl (Nat.le_of_ble_eq_true rfl) dX4_lastToYield_27 ⟨Nat.le_refl _, Nat.le_refl _⟩ (fun z27 u27 H locs hq27 X => ?_)
        rw [hq27.1] at X
        have hq27 := hq27.2
        try dsimp only at hq27
        refine g_if_le (tgt := 36) G dX4_lastToYield_30 (by decide) (by omega) (fun h30 => ?_) (fun h30 => ?_)
        ·
          refine lv_iinc (v := iI (m + 1)) (lv' := [(4, .int (iI ((m + 1)))), (0, .ref (Y.2.1 (49))), (1, .int (iI (f))), (2, .int (iI (most))), (3, .int (iI (la)))]) hx hb dX4_lastToYield_36 hl (k := 4) rfl (iI_add _ _) (by decide) rfl (fun ls hl => ?_)
          refine lv_goto (tgt := 9) hx hb dX4_lastToYield_39 (by decide) ?_
          exact ih_9 (la) ((m + 1)) (by omega) (by omega) (fun j a b => by first | (by_cases e : j = m; (subst e; omega); exact hI j a (by omega)) | (by_cases e : j = m; (subst e; omega); exact fr_trans (b := j - f) (d := la - f) (f := m - f) (by omega) (by omega) (by omega) (hI j a (by omega)) (by omega))) (by omega) _ _ _ X (lv_sub hl [1, 2, 3, 4, 0] rfl)
        ·
          refine lv_iload hx hb dX4_lastToYield_33 (lv_at hl 4 rfl) ?_
          refine lv_istore_n (lv' := [(3, .int (iI (m))), (0, .ref (Y.2.1 (49))), (1, .int (iI (f))), (2, .int (iI (most))), (4, .int (iI (m)))]) hx hb dX4_lastToYield_35 rfl hl (by decide) rfl (fun ls hl => ?_)
          refine lv_iinc (v := iI (m + 1)) (lv' := [(4, .int (iI ((m + 1)))), (3, .int (iI (m))), (0, .ref (Y.2.1 (49))), (1, .int (iI (f))), (2, .int (iI (most)))]) hx hb dX4_lastToYield_36 hl (k := 4) rfl (iI_add _ _) (by decide) rfl (fun ls hl => ?_)
          refine lv_goto (tgt := 9) hx hb dX4_lastToYield_39 (by decide) ?_
          exact ih_9 (m) ((m + 1)) (by omega) (by omega) (fun j a b => by first | (by_cases e : j = m; (subst e; omega); exact hI j a (by omega)) | (by_cases e : j = m; (subst e; omega); exact fr_trans (b := j - f) (d := la - f) (f := m - f) (by omega) (by omega) (by omega) (hI j a (by omega)) (by omega))) (by omega) _ _ _ X (lv_sub hl [2, 3, 4, 1, 0] rfl)
  exact lp_9 ((((n + 1 - ((most + 2))) : Int).toNat + 1)) ((most + 1)) ((most + 2)) (by omega) (by omega) (fun j a b => by rw [show j = most + 1 by omega]; omega) (by omega) _ _ _ X (lv_sub hl [2, 3, 4, 1, 0] rfl)

set_option maxHeartbeats 4000000 in
set_option maxRecDepth 100000 in
theorem t_X4_firstToPrevail (l : Launch) (Y : Yt) (σ : Mem) (n : Int) (Xf : Int → Int) (Cf : Int → Int) (Wf : Int → Int) (Mf : Int → Int) (q : Int) (most : Int) (K : Int) (hT : Tb σ n Xf Cf Wf Mf q) (hPf : Prof n Xf Wf Mf) (hL : ∀ k g : Int, 1 ≤ k → k ≤ K → 0 ≤ g → g + k ≤ n → σ (51 + k.toNat) g = (lvG n Wf Mf k.toNat g).1 ∧ σ (65 + k.toNat) g = (lvG n Wf Mf k.toNat g).2) (hq0 : 0 ≤ q ∧ q ≤ 235224) (hK : n ≤ K) (hmn : 1 ≤ most ∧ most < n) : MXi l LX Y yX4_firstToPrevail wsX4_firstToPrevail { frames := 5, cells := 0, slots := 0, locals := 115 } [.ref (Y.2.1 (49)), .int (iI (most))] σ (fun z u => u = σ ∧ ((1 ≤ z ∧ z ≤ most) ∧ ∀ r, LYis (lvE n Wf Mf q) most n z r → ∀ j : Int, 1 ≤ j → j ≤ most → ∀ r', LYis (lvE n Wf Mf q) most n j r' → (lvE n Wf Mf q z - lvE n Wf Mf q r) * (r' - j) ≤ (lvE n Wf Mf q j - lvE n Wf Mf q r') * (r - z))) := by
  obtain ⟨⟨hn0, hn12, hW0, hM0, hW24⟩, hstep, hXa, hXr⟩ := id hPf
  obtain ⟨hTn, hTq, hTx, hTw⟩ := id hT
  refine g_starti (rty := .int) (fun _ _ _ => rfl) (cc := cX4_firstToPrevail) (nL := 6) (own := RX4) (by decide) rfl rfl (Nat.le_of_ble_eq_true rfl) ?_
  intro pp ee ss mm bw mt cd AA ZZ ls G hret X hl
  have hl : lv_has ls 6 [(0, .ref (Y.2.1 (49))), (1, .int (iI (most)))] := hl
  have hx := G.1
  have hb := G.2.1
  have hts := G.2.2.2.2.1
  refine lv_iconst (v := iI 1) hx hb dX4_firstToPrevail_0 rfl ?_
  refine lv_istore_n (lv' := [(2, .int (iI (1))), (0, .ref (Y.2.1 (49))), (1, .int (iI (most)))]) hx hb dX4_firstToPrevail_1 rfl hl (by decide) rfl (fun ls hl => ?_)
  refine lv_iconst (v := iI 2) hx hb dX4_firstToPrevail_2 rfl ?_
  refine lv_istore_n (lv' := [(3, .int (iI (2))), (2, .int (iI (1))), (0, .ref (Y.2.1 (49))), (1, .int (iI (most)))]) hx hb dX4_firstToPrevail_3 rfl hl (by decide) rfl (fun ls hl => ?_)
  have lp_4 : ∀ (nn : Nat) (best k : Int), ∀ hk : 2 ≤ k ∧ k ≤ most + 1, ∀ hb2 : 1 ≤ best ∧ best < k, ∀ hI : ∀ j : Int, 1 ≤ j → j < k → ∀ r r', LYis (lvE n Wf Mf q) most n best r → LYis (lvE n Wf Mf q) most n j r' → (lvE n Wf Mf q best - lvE n Wf Mf q r) * (r' - j) ≤ (lvE n Wf Mf q j - lvE n Wf Mf q r') * (r - best), ∀ hdec : (most + 1 - k) < (nn : Int), ∀ (H : Heap) (locs : List Loc) (ls : Array Slot), wx LX Y σ ss AA H locs → lv_has ls 6 [(0, .ref (Y.2.1 (49))), (1, .int (iI (most))), (2, .int (iI (best))), (3, .int (iI (k)))] → W pp l ee { frames := 5, cells := 0, slots := 0, locals := 115 } ss mm ([.ref (Y.2.1 (49)), .int (iI (most))] : List Value).toArray bw mt cd H locs 0 0 ZZ (F0 mm 4 ls []) := by
    intro nn
    induction nn with
    | zero =>
      intro best k hk hb2 hI hdec
      exact absurd hdec (by omega)
    | succ nn ih_4 =>
      intro best k hk hb2 hI hdec H locs ls X hl
      refine lv_iload_n hx hb dX4_firstToPrevail_4 rfl (lv_at hl 3 rfl) ?_
      refine lv_iload_n hx hb dX4_firstToPrevail_5 rfl (lv_at hl 1 rfl) ?_
      refine g_icmp_gt (tgt := 46) G dX4_firstToPrevail_6 (by decide) (by omega) (by omega) (fun h6 => ?_) (fun h6 => ?_)
      ·
        refine lv_iload_n hx hb dX4_firstToPrevail_46 rfl (lv_at hl 2 rfl) ?_
        exact hret _ _ _ _ _ _ (⟨rfl, ⟨by omega, by omega⟩, fun r h1 j a b r' h2 => hI j a (by omega) r r' h1 h2⟩) X dX4_firstToPrevail_47
      ·
        refine lv_aload_n hx hb dX4_firstToPrevail_9 rfl (lv_at hl 0 rfl) ?_
        refine lv_iload_n hx hb dX4_firstToPrevail_10 rfl (lv_at hl 3 rfl) ?_
        refine lv_iload_n hx hb dX4_firstToPrevail_11 rfl (lv_at hl 1 rfl) ?_
        refine g_callVi G X (rest := []) (As := [.int (iI (k)), .int (iI (most))]) (t_X4_lastToYield l Y (σ) n Xf Cf Wf Mf q (k) (most) (K) (by first | assumption | omega) (by first | assumption | omega) (by first | assumption | omega) (by first | assumption | omega) (by first | assumption | omega) (by first | assumption | omega) (by first | assumption | omega)) (cwV 2 hts gX4_firstToPrevail_X4_lastToYield rfl rfl rfl (by decide +kernel) ⟨Nat.le_of_ble_eq_true rfl, Nat.le_of_ble_eq_true rfl⟩) (k := 49) (Nat.le_of_ble_eq_true rfl) rfl rfl rfl rfl hl.1 rfl (Nat.le_of_ble_eq_true rfl) dX4_firstToPrevail_12 ⟨Nat.le_refl _, Nat.le_refl _⟩ (fun z12 u12 H locs hq12 X => ?_)
        rw [hq12.1] at X
        have hq12 := hq12.2
        try dsimp only at hq12
        refine lv_istore (lv' := [(4, .int (iI (z12))), (0, .ref (Y.2.1 (49))), (1, .int (iI (most))), (2, .int (iI (best))), (3, .int (iI (k)))]) hx hb dX4_firstToPrevail_15 hl (by decide) rfl (fun ls hl => ?_)
        refine lv_aload_n hx hb dX4_firstToPrevail_17 rfl (lv_at hl 1 rfl) ?_
        refine lv_iload_n hx hb dX4_firstToPrevail_18 rfl (lv_at hl 3 rfl) ?_
        refine lv_iload_n hx hb dX4_firstToPrevail_19 rfl (lv_at hl 2 rfl) ?_
        refine g_callVi G X (rest := []) (As := [.int (iI (best)), .int (iI (most))]) (t_X4_lastToYield l Y (σ) n Xf Cf Wf Mf q (best) (most) (K) (by first | assumption | omega) (by first | assumption | omega) (by first | assumption | omega) (by first | assumption | omega) (by first | assumption | omega) (by first | assumption | omega) (by first | assumption | omega)) (cwV 2 hts gX4_firstToPrevail_X4_lastToYield rfl rfl rfl (by decide +kernel) ⟨Nat.le_of_ble_eq_true rfl, Nat.le_of_ble_eq_true rfl⟩) (k := 49) (Nat.le_of_ble_eq_true rfl) rfl rfl rfl rfl hl.1 rfl (Nat.le_of_ble_eq_true rfl) dX4_firstToPrevail_20 ⟨Nat.le_refl _, Nat.le_refl _⟩ (fun z20 u20 H locs hq20 X => ?_)
        rw [hq20.1] at X
        have hq20 := hq20.2
        try dsimp only at hq20
        refine lv_istore (lv' := [(5, .int (iI (z20))), (4, .int (iI (z12))), (0, .ref (Y.2.1 (49))), (1, .int (iI (most))), (2, .int (iI (best))), (3, .int (iI (k)))]) hx hb dX4_firstToPrevail_23 hl (by decide) rfl (fun ls hl => ?_)
        refine lv_aload_n hx hb dX4_firstToPrevail_25 rfl (lv_at hl 2 rfl) ?_
        refine lv_iload_n hx hb dX4_firstToPrevail_26 rfl (lv_at hl 5 rfl) ?_
        refine lv_iload hx hb dX4_firstToPrevail_27 (lv_at hl 1 rfl) ?_
        refine lv_iload_n hx hb dX4_firstToPrevail_29 rfl (lv_at hl 4 rfl) ?_
        refine lv_iload hx hb dX4_firstToPrevail_30 (lv_at hl 0 rfl) ?_
        refine g_callVi G X (rest := []) (As := [.int (iI (k)), .int (iI (z12)), .int (iI (best)), .int (iI (z20))]) (t_X4_comparePenalties l Y (σ) n Xf Cf Wf Mf q (k) (z12) (best) (z20) (K) (by first | assumption | omega) (by first | assumption | omega) (by first | assumption | omega) (by first | assumption | omega) (by first | assumption | omega) (by have := hq12.1; omega) (by first | assumption | omega) (by have := hq20.1; omega)) (cwV 4 hts gX4_firstToPrevail_X4_comparePenalties rfl rfl rfl (by decide +kernel) ⟨Nat.le_of_ble_eq_true rfl, Nat.le_of_ble_eq_true rfl⟩) (k := 49) (Nat.le_of_ble_eq_true rfl) rfl rfl rfl rfl hl.1 rfl (Nat.le_of_ble_eq_true rfl) dX4_firstToPrevail_32 ⟨Nat.le_refl _, Nat.le_refl _⟩ (fun z32 u32 H locs hq32 X => ?_)
        rw [hq32.1] at X
        have hq32 := hq32.2
        try dsimp only at hq32
        refine g_if_ge (tgt := 40) G dX4_firstToPrevail_35 (by decide) (by omega) (fun h35 => ?_) (fun h35 => ?_)
        ·
          refine lv_iinc (v := iI (k + 1)) (lv' := [(3, .int (iI ((k + 1)))), (5, .int (iI (z20))), (4, .int (iI (z12))), (0, .ref (Y.2.1 (49))), (1, .int (iI (most))), (2, .int (iI (best)))]) hx hb dX4_firstToPrevail_40 hl (k := 5) rfl (iI_add _ _) (by decide) rfl (fun ls hl => ?_)
          refine lv_goto (tgt := 4) hx hb dX4_firstToPrevail_43 (by decide) ?_
          exact ih_4 (best) ((k + 1)) (by omega) (by omega) (fp_back (E := lvE n Wf Mf q) hI (by omega) (by omega) hq12 hq20 (by omega) (by first | exact Or.inl ⟨rfl, by omega⟩ | exact Or.inr ⟨rfl, by omega⟩)) (by omega) _ _ _ X (lv_sub hl [3, 4, 5, 0] rfl)
        ·
          refine lv_iload_n hx hb dX4_firstToPrevail_38 rfl (lv_at hl 5 rfl) ?_
          refine lv_istore_n (lv' := [(2, .int (iI (k))), (5, .int (iI (z20))), (4, .int (iI (z12))), (0, .ref (Y.2.1 (49))), (1, .int (iI (most))), (3, .int (iI (k)))]) hx hb dX4_firstToPrevail_39 rfl hl (by decide) rfl (fun ls hl => ?_)
          refine lv_iinc (v := iI (k + 1)) (lv' := [(3, .int (iI ((k + 1)))), (2, .int (iI (k))), (5, .int (iI (z20))), (4, .int (iI (z12))), (0, .ref (Y.2.1 (49))), (1, .int (iI (most)))]) hx hb dX4_firstToPrevail_40 hl (k := 5) rfl (iI_add _ _) (by decide) rfl (fun ls hl => ?_)
          refine lv_goto (tgt := 4) hx hb dX4_firstToPrevail_43 (by decide) ?_
          exact ih_4 (k) ((k + 1)) (by omega) (by omega) (fp_back (E := lvE n Wf Mf q) hI (by omega) (by omega) hq12 hq20 (by omega) (by first | exact Or.inl ⟨rfl, by omega⟩ | exact Or.inr ⟨rfl, by omega⟩)) (by omega) _ _ _ X (lv_sub hl [4, 5, 1, 0] rfl)
  exact lp_4 ((((most + 1 - (2)) : Int).toNat + 1)) (1) (2) (by omega) (by omega) (fun j a b r r' h1 h2 => by rw [show j = 1 by omega] at h2 ⊢; exact Int.le_of_eq (h1.same h2)) (by omega) _ _ _ X (lv_sub hl [2, 3, 1, 0] rfl)

