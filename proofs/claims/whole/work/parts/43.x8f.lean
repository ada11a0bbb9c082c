set_option maxHeartbeats 4000000 in
set_option maxRecDepth 100000 in
theorem t_X8_part (l : Launch) (Y : Yt) (σ : Mem) (P : List Pt) (a : Int) (b : Int) (hMG : MG σ P) (hab : (0 ≤ a ∧ a < b) ∧ b ≤ ng P) : MXl l LM Y yX8_part wsX8_part { frames := 0, cells := 0, slots := 0, locals := 0 } [.ref (Y.2.1 (0)), .int (iI (a)), .int (iI (b))] σ (fun z u => u = σ ∧ (z = -gain (gW P) (gM P) a (b - 1) ∧ -30226687408834560 ≤ z ∧ z ≤ 0)) := by
  obtain ⟨hP, hok, hG⟩ := id hMG
  have hPr := hMG.prof
  obtain ⟨⟨hn0, hn12, hW0, hM0, hW24⟩, hstep, hXa, hXr⟩ := id hPr
  refine g_startl (cc := cX8_part) (nL := 6) (own := RX8) (by decide) rfl rfl (Nat.le_of_ble_eq_true rfl) ?_
  intro pp ee ss mm bw mt cd AA ZZ ls G hret X hl
  have hl : lv_has ls 6 [(0, .ref (Y.2.1 (0))), (1, .int (iI (a))), (2, .int (iI (b)))] := hl
  have hx := G.1
  have hb := G.2.1
  have hts := G.2.2.2.2.1
  have l_f29 := hts (.fieldLink RX8 29 "ShapeFitsModel" "weight" "[I") (List.mem_of_getElem? (i := 2) rfl)
  have l_f32 := hts (.fieldLink RX8 32 "ShapeFitsModel" "moment" "[I") (List.mem_of_getElem? (i := 1) rfl)
  have l_k113 := hts (.constantLong RX8 113 (5354228880)) (List.mem_of_getElem? (i := 3) rfl)
  have in_X8 : ∀ w ∈ u_ws RX8 TX8 24, w ∈ wsX8_part := by decide +kernel
  refine lv_iconst (v := iI 0) hx hb dX8_part_0 rfl ?_
  refine g_topi (z' := (gM P a - gM P a)) (by omega) ?_
  refine lv_istore_n (lv' := [(3, .int (iI ((gM P a - gM P a)))), (0, .ref (Y.2.1 (0))), (1, .int (iI (a))), (2, .int (iI (b)))]) hx hb dX8_part_1 rfl hl (by decide) rfl (fun ls hl => ?_)
  refine lv_iconst (v := iI 0) hx hb dX8_part_2 rfl ?_
  refine g_topi (z' := (gW P a - gW P a)) (by omega) ?_
  refine lv_istore (lv' := [(4, .int (iI ((gW P a - gW P a)))), (3, .int (iI ((gM P a - gM P a)))), (0, .ref (Y.2.1 (0))), (1, .int (iI (a))), (2, .int (iI (b)))]) hx hb dX8_part_3 hl (by decide) rfl (fun ls hl => ?_)
  refine lv_iload_n hx hb dX8_part_5 rfl (lv_at hl 3 rfl) ?_
  refine lv_istore (lv' := [(5, .int (iI (a))), (4, .int (iI ((gW P a - gW P a)))), (3, .int (iI ((gM P a - gM P a)))), (0, .ref (Y.2.1 (0))), (1, .int (iI (a))), (2, .int (iI (b)))]) hx hb dX8_part_6 hl (by decide) rfl (fun ls hl => ?_)
  have lp_8 : ∀ (nn : Nat) (j : Int), ∀ hj : a ≤ j ∧ j ≤ b, ∀ hdec : (b - j) < (nn : Int), ∀ (H : Heap) (locs : List Loc) (ls : Array Slot), wx LM Y σ ss AA H locs → lv_has ls 6 [(0, .ref (Y.2.1 (0))), (1, .int (iI (a))), (2, .int (iI (b))), (3, .int (iI ((gM P j - gM P a)))), (4, .int (iI ((gW P j - gW P a)))), (5, .int (iI (j)))] → W pp l ee { frames := 0, cells := 0, slots := 0, locals := 0 } ss mm ([.ref (Y.2.1 (0)), .int (iI (a)), .int (iI (b))] : List Value).toArray bw mt cd H locs 0 0 ZZ (F0 mm 8 ls []) := by
    intro nn
    induction nn with
    | zero =>
      intro j hj hdec
      exact absurd hdec (by omega)
    | succ nn ih_8 =>
      intro j hj hdec H locs ls X hl
      refine lv_iload hx hb dX8_part_8 (lv_at hl 5 rfl) ?_
      refine lv_iload_n hx hb dX8_part_10 rfl (lv_at hl 2 rfl) ?_
      refine g_icmp_ge (tgt := 42) G dX8_part_11 (by decide) (by omega) (by omega) (fun h11 => ?_) (fun h11 => ?_)
      ·
        have hjb : j = b := by omega
        have hjw : gW P b = gW P j ∧ gM P b = gM P j := by rw [hjb]; exact ⟨rfl, rfl⟩
        have hbw := prof_w hPr (a := a) (b := b) (by omega) (by omega) (by omega)
        have hbp := wt_pos hPr (a := a) (b := b - 1) (by omega) (by omega) (by omega)
        rw [show b - 1 + 1 = b by omega] at hbp
        have hgr := gain_rg hPr (a := a) (b := b - 1) (by omega)
        have hge : (5354228880 : Int).tdiv (gW P j - gW P a) * (gM P j - gM P a) * (gM P j - gM P a) = gain (gW P) (gM P) a (b - 1) := gain_tdiv (by rw [hjb, show b - 1 + 1 = b by omega]) (by rw [hjb, show b - 1 + 1 = b by omega])
        refine g_ldc2 G (z := 5354228880) l_k113 (by decide +kernel) dX8_part_42 ?_
        refine lv_iload hx hb dX8_part_45 (lv_at hl 4 rfl) ?_
        refine g_i2l G (by omega) dX8_part_47 ?_
        refine g_ldiv G (by omega) (by omega) dX8_part_48 ?_
        refine lv_iload_n hx hb dX8_part_49 rfl (lv_at hl 3 rfl) ?_
        refine g_i2l G (by omega) dX8_part_50 ?_
        refine g_lmul G dX8_part_51 ?_
        refine lv_iload_n hx hb dX8_part_52 rfl (lv_at hl 3 rfl) ?_
        refine g_i2l G (by omega) dX8_part_53 ?_
        refine g_lmul G dX8_part_54 ?_
        refine g_topl (z' := gain (gW P) (gM P) a (b - 1)) hge ?_
        refine g_lneg G dX8_part_55 ?_
        exact hret _ _ _ _ _ _ (⟨rfl, rfl, by omega, by omega⟩) X dX8_part_56
      ·
        have hgj := hG.2 j (by omega) (by omega)
        refine lv_iload_n hx hb dX8_part_14 rfl (lv_at hl 3 rfl) ?_
        refine lv_aload_n hx hb dX8_part_15 rfl (lv_at hl 0 rfl) ?_
        refine g_get G X (k := 0) (fs := fM Y) (Nat.le_of_ble_eq_true rfl) (fun _ => rfl) rfl in_X8 11 (by decide) l_f32 rfl (v := .ref (Y.2.1 (8))) rfl dX8_part_16 ?_
        refine lv_iload hx hb dX8_part_19 (lv_at hl 5 rfl) ?_
        refine g_iald G X (k := 8) (n := 12) (Nat.le_of_ble_eq_true rfl) (fun _ => rfl) (by decide) (z := j) (by omega) dX8_part_21 ?_
        refine g_iadd G dX8_part_22 ?_
        refine g_topi (z' := gM P (j + 1) - gM P a) (by omega) ?_
        refine lv_istore_n (lv' := [(3, .int (iI ((gM P (j + 1) - gM P a)))), (0, .ref (Y.2.1 (0))), (1, .int (iI (a))), (2, .int (iI (b))), (4, .int (iI ((gW P j - gW P a)))), (5, .int (iI (j)))]) hx hb dX8_part_23 rfl hl (by decide) rfl (fun ls hl => ?_)
        refine lv_iload hx hb dX8_part_24 (lv_at hl 4 rfl) ?_
        refine lv_aload_n hx hb dX8_part_26 rfl (lv_at hl 1 rfl) ?_
        refine g_get G X (k := 0) (fs := fM Y) (Nat.le_of_ble_eq_true rfl) (fun _ => rfl) rfl in_X8 10 (by decide) l_f29 rfl (v := .ref (Y.2.1 (7))) rfl dX8_part_27 ?_
        refine lv_iload hx hb dX8_part_30 (lv_at hl 5 rfl) ?_
        refine g_iald G X (k := 7) (n := 12) (Nat.le_of_ble_eq_true rfl) (fun _ => rfl) (by decide) (z := j) (by omega) dX8_part_32 ?_
        refine g_iadd G dX8_part_33 ?_
        refine g_topi (z' := gW P (j + 1) - gW P a) (by omega) ?_
        refine lv_istore (lv' := [(4, .int (iI ((gW P (j + 1) - gW P a)))), (3, .int (iI ((gM P (j + 1) - gM P a)))), (0, .ref (Y.2.1 (0))), (1, .int (iI (a))), (2, .int (iI (b))), (5, .int (iI (j)))]) hx hb dX8_part_34 hl (by decide) rfl (fun ls hl => ?_)
        refine lv_iinc (v := iI (j + 1)) (lv' := [(5, .int (iI ((j + 1)))), (4, .int (iI ((gW P (j + 1) - gW P a)))), (3, .int (iI ((gM P (j + 1) - gM P a)))), (0, .ref (Y.2.1 (0))), (1, .int (iI (a))), (2, .int (iI (b)))]) hx hb dX8_part_36 hl (k := 5) rfl (iI_add _ _) (by decide) rfl (fun ls hl => ?_)
        refine lv_goto (tgt := 8) hx hb dX8_part_39 (by decide) ?_
        exact ih_8 ((j + 1)) (by omega) (by omega) _ _ _ X (lv_sub hl [3, 4, 5, 2, 1, 0] rfl)
  exact lp_8 ((((b - (a)) : Int).toNat + 1)) (a) (by omega) (by omega) _ _ _ X (lv_sub hl [3, 4, 5, 2, 1, 0] rfl)

set_option maxHeartbeats 4000000 in
set_option maxRecDepth 100000 in
theorem t_X8_divides (l : Launch) (Y : Yt) (σ : Mem) (P : List Pt) (hs : List (List Pt)) (tx : List Int) (ch : List Int) (hI : MInv σ P hs tx ch) : MXv l LM Y yX8_divides wsX8_divides { frames := 1, cells := 0, slots := 0, locals := 25 } [.ref (Y.2.1 (0))] σ (fun u => MInv u P hs tx ch ∧ MG u P ∧ DivP u P (ng P + 1) 0) := by
  obtain ⟨⟨hP, hok⟩, ⟨hW, hHok⟩, ⟨hTx, htok⟩, hC, hC3⟩ := id hI
  obtain ⟨hd0, h12, hd⟩ := hP.d
  have hh6 := hW.2.1
  have hkp := hW.1
  have h90 := htok.1
  have hty := hTx.1
  have hre := hC.1
  have hPr := prof_of hok hP.2.1
  obtain ⟨⟨hn0, hn12, hW0, hM0, hW24⟩, hstep, hXa, hXr⟩ := id hPr
  have hq0 : 0 ≤ gQ P ∧ gQ P ≤ 235224 := gQ_rg hok hP.2.1
  have hn9 := ng_0 hok
  refine g_startv (cc := cX8_divides) (nL := 8) (own := RX8) (by decide) rfl rfl (Nat.le_of_ble_eq_true rfl) ?_
  intro pp ee ss mm bw mt cd AA ZZ ls G hret X hl
  have hl : lv_has ls 8 [(0, .ref (Y.2.1 (0)))] := hl
  have hx := G.1
  have hb := G.2.1
  have hts := G.2.2.2.2.1
  have l_f47 := hts (.fieldLink RX8 47 "ShapeFitsModel" "least" "[J") (List.mem_of_getElem? (i := 2) rfl)
  have l_f51 := hts (.fieldLink RX8 51 "ShapeFitsModel" "length" "[I") (List.mem_of_getElem? (i := 3) rfl)
  have l_f72 := hts (.fieldLink RX8 72 "ShapeFitsModel" "groups" "I") (List.mem_of_getElem? (i := 1) rfl)
  have in_X8 : ∀ w ∈ u_ws RX8 TX8 24, w ∈ wsX8_divides := by decide +kernel
  refine lv_aload_n hx hb dX8_divides_0 rfl (lv_at hl 0 rfl) ?_
  refine g_callVv G X (rest := []) (As := []) (t_X8_finds l Y (σ) P hs tx ch (by first | assumption | omega)) (cwV 0 hts gX8_divides_X8_finds rfl rfl rfl (by decide +kernel) ⟨Nat.le_of_ble_eq_true rfl, Nat.le_of_ble_eq_true rfl⟩) (k := 0) (Nat.le_of_ble_eq_true rfl) rfl rfl rfl rfl hl.1 rfl (Nat.le_of_ble_eq_true rfl) dX8_divides_1 ⟨Nat.le_refl _, Nat.le_refl _⟩ (fun u1 H locs hq1 X => ?_)
  obtain ⟨hG, hFg⟩ := id hq1
  have hI2 := hI.keep (hFg.C (by omega) (by omega))
  have hMG : MG u1 P := ⟨hI2.1.1, hok, hG⟩
  have hMG0 := hMG
  refine lv_iconst (v := iI 1) hx hb dX8_divides_4 rfl ?_
  refine lv_istore_n (lv' := [(1, .int (iI (1))), (0, .ref (Y.2.1 (0)))]) hx hb dX8_divides_5 rfl hl (by decide) rfl (fun ls hl => ?_)
  have lp_6 : ∀ (nn : Nat) (k : Int) (τ : Mem), ∀ hk : 1 ≤ k ∧ k ≤ ng P + 1, ∀ hMT : MG τ P, ∀ hJ : MInv τ P hs tx ch, ∀ hD : DivP τ P k (ng P - k), ∀ hdec : (ng P + 1 - k) < (nn : Int), ∀ (H : Heap) (locs : List Loc) (ls : Array Slot), wx LM Y τ ss AA H locs → lv_has ls 8 [(0, .ref (Y.2.1 (0))), (1, .int (iI (k)))] → W pp l ee { frames := 1, cells := 0, slots := 0, locals := 25 } ss mm ([.ref (Y.2.1 (0))] : List Value).toArray bw mt cd H locs 0 0 ZZ (F0 mm 6 ls []) := by
    intro nn
    induction nn with
    | zero =>
      intro k τ hk hMT hJ hD hdec
      exact absurd hdec (by omega)
    | succ nn ih_6 =>
      intro k τ hk hMT hJ hD hdec H locs ls X hl
      refine lv_iload_n hx hb dX8_divides_6 rfl (lv_at hl 1 rfl) ?_
      refine lv_aload_n hx hb dX8_divides_7 rfl (lv_at hl 0 rfl) ?_
      refine g_get G X (k := 0) (fs := fM Y) (Nat.le_of_ble_eq_true rfl) (fun _ => rfl) rfl in_X8 8 (by decide) l_f72 rfl (v := .int (iI ((τ 0 8)))) rfl dX8_divides_8 ?_
      refine g_topi (z' := ng P) hMT.2.2.1 ?_
      refine g_icmp_gt (tgt := 177) G dX8_divides_11 (by decide) (by omega) (by omega) (fun h11 => ?_) (fun h11 => ?_)
      ·
        exact hret _ _ _ _ _ (⟨hJ, hMT, fun k2 g2 a0 a1 a2 a3 => hD k2 g2 a0 a1 a2 (by omega)⟩) X dX8_divides_177
      ·
        refine lv_aload_n hx hb dX8_divides_14 rfl (lv_at hl 0 rfl) ?_
        refine g_get G X (k := 0) (fs := fM Y) (Nat.le_of_ble_eq_true rfl) (fun _ => rfl) rfl in_X8 8 (by decide) l_f72 rfl (v := .int (iI ((τ 0 8)))) rfl dX8_divides_15 ?_
        refine g_topi (z' := ng P) hMT.2.2.1 ?_
        refine lv_iload_n hx hb dX8_divides_18 rfl (lv_at hl 1 rfl) ?_
        refine g_isub G dX8_divides_19 ?_
        refine lv_istore_n (lv' := [(2, .int (iI (((ng P) - k)))), (0, .ref (Y.2.1 (0))), (1, .int (iI (k)))]) hx hb dX8_divides_20 rfl hl (by decide) rfl (fun ls hl => ?_)
        have lp_21 : ∀ (nn : Nat) (g : Int) (τ : Mem), ∀ hg : -1 ≤ g ∧ g + k ≤ ng P, ∀ hMT : MG τ P, ∀ hJ : MInv τ P hs tx ch, ∀ hD : DivP τ P k g, ∀ hdec : (g + 1) < (nn : Int), ∀ (H : Heap) (locs : List Loc) (ls : Array Slot), wx LM Y τ ss AA H locs → lv_has ls 8 [(0, .ref (Y.2.1 (0))), (1, .int (iI (k))), (2, .int (iI (g)))] → W pp l ee { frames := 1, cells := 0, slots := 0, locals := 25 } ss mm ([.ref (Y.2.1 (0))] : List Value).toArray bw mt cd H locs 0 0 ZZ (F0 mm 21 ls []) := by
          intro nn
          induction nn with
          | zero =>
            intro g τ hg hMT hJ hD hdec
            exact absurd hdec (by omega)
          | succ nn ih_21 =>
            intro g τ hg hMT hJ hD hdec H locs ls X hl
            refine lv_iload_n hx hb dX8_divides_21 rfl (lv_at hl 2 rfl) ?_
            refine g_if_lt (tgt := 171) G dX8_divides_22 (by decide) (by omega) (fun h22 => ?_) (fun h22 => ?_)
            ·
              refine lv_iinc (v := iI (k + 1)) (lv' := [(1, .int (iI ((k + 1)))), (0, .ref (Y.2.1 (0))), (2, .int (iI (g)))]) hx hb dX8_divides_171 hl (k := 1) rfl (iI_add _ _) (by decide) rfl (fun ls hl => ?_)
              refine lv_goto (tgt := 6) hx hb dX8_divides_174 (by decide) ?_
              exact ih_6 ((k + 1)) (τ) (by omega) hMT hJ (divP_n hD (by omega) (by omega)) (by omega) _ _ _ X (lv_sub hl [1, 0] rfl)
            ·
              refine lv_bipush (v := iI 13) hx hb dX8_divides_25 (by decide +kernel) ?_
              refine lv_iload_n hx hb dX8_divides_27 rfl (lv_at hl 1 rfl) ?_
              refine g_imul G dX8_divides_28 ?_
              refine lv_iload_n hx hb dX8_divides_29 rfl (lv_at hl 2 rfl) ?_
              refine g_iadd G dX8_divides_30 ?_
              obtain ⟨ix, hix⟩ : ∃ x : Int, x = 13 * k + g := ⟨_, rfl⟩
              refine g_topi (z' := ix) hix.symm ?_
              refine lv_istore_n (lv' := [(3, .int (iI (ix))), (0, .ref (Y.2.1 (0))), (1, .int (iI (k))), (2, .int (iI (g)))]) hx hb dX8_divides_31 rfl hl (by decide) rfl (fun ls hl => ?_)
              refine lv_iload_n hx hb dX8_divides_32 rfl (lv_at hl 2 rfl) ?_
              refine lv_iconst (v := iI 1) hx hb dX8_divides_33 rfl ?_
              refine g_icmp_ne (tgt := 44) G dX8_divides_34 (by decide) (by omega) (by omega) (fun h34 => ?_) (fun h34 => ?_)
              ·
                refine lv_aload_n hx hb dX8_divides_44 rfl (lv_at hl 1 rfl) ?_
                refine g_get G X (k := 0) (fs := fM Y) (Nat.le_of_ble_eq_true rfl) (fun _ => rfl) rfl in_X8 8 (by decide) l_f72 rfl (v := .int (iI ((τ 0 8)))) rfl dX8_divides_45 ?_
                refine g_topi (z' := ng P) hMT.2.2.1 ?_
                refine lv_iload_n hx hb dX8_divides_48 rfl (lv_at hl 2 rfl) ?_
                refine g_isub G dX8_divides_49 ?_
                refine lv_iconst (v := iI 1) hx hb dX8_divides_50 rfl ?_
                refine g_iadd G dX8_divides_51 ?_
                obtain ⟨tp, htp⟩ : ∃ x : Int, x = (if k = 1 then ng P else ng P - k + 1) := ⟨_, rfl⟩
                have htr : tp ≤ ng P ∧ tp = ng P - k + 1 := by rw [htp]; split <;> omega
                refine g_topi (z' := tp) (by rw [htp]; split <;> omega) ?_
                refine lv_istore (lv' := [(4, .int (iI (tp))), (3, .int (iI (ix))), (0, .ref (Y.2.1 (0))), (1, .int (iI (k))), (2, .int (iI (g)))]) hx hb dX8_divides_52 hl (by decide) rfl (fun ls hl => ?_)
                refine lv_aload_n hx hb dX8_divides_54 rfl (lv_at hl 2 rfl) ?_
                refine g_get G X (k := 0) (fs := fM Y) (Nat.le_of_ble_eq_true rfl) (fun _ => rfl) rfl in_X8 20 (by decide) l_f47 rfl (v := .ref (Y.2.1 (13))) rfl dX8_divides_55 ?_
                refine lv_iload_n hx hb dX8_divides_58 rfl (lv_at hl 1 rfl) ?_
                refine lv_lconst (v := lI 1) hx hb dX8_divides_59 (by decide +kernel) ?_
                refine g_last G X (k := 13) (n := 169) (Nat.le_of_ble_eq_true rfl) (fun _ => rfl) (by decide) (z := ix) (v := 1) (by omega) dX8_divides_60 (fun H locs X => ?_)
                have hDa := (divP_up hD hn12 (by omega) hix 1 0).1
                have hFa : Fr 13 14 0 0 τ (up τ 13 ix 1) := Fr.rf.pl (by omega)
                have hcva : (up τ 13 ix 1) 13 ix = 1 := up_same _ _ _ _
                refine lv_iload hx hb dX8_divides_61 (lv_at hl 0 rfl) ?_
                refine lv_istore (lv' := [(5, .int (iI (tp))), (4, .int (iI (tp))), (3, .int (iI (ix))), (0, .ref (Y.2.1 (0))), (1, .int (iI (k))), (2, .int (iI (g)))]) hx hb dX8_divides_63 hl (by decide) rfl (fun ls hl => ?_)
                have lp_65 : ∀ (nn : Nat) (e cv : Int) (ρ : Mem), ∀ he : g ≤ e ∧ e ≤ tp, ∀ hMT : MG ρ P, ∀ hJ : MInv ρ P hs tx ch, ∀ hD : DivP ρ P k g, ∀ hcv : ρ 13 ix = cv, ∀ hcr : -40000000000000000 ≤ cv ∧ cv ≤ 1, ∀ hV : DvI (lvF (ng P) (gW P) (gM P) k g) k (ng P) tp g e cv (ρ 14 ix), ∀ hdec : (e - g) < (nn : Int), ∀ (H : Heap) (locs : List Loc) (ls : Array Slot), wx LM Y ρ ss AA H locs → lv_has ls 8 [(0, .ref (Y.2.1 (0))), (1, .int (iI (k))), (2, .int (iI (g))), (3, .int (iI (ix))), (4, .int (iI (tp))), (5, .int (iI (e)))] → W pp l ee { frames := 1, cells := 0, slots := 0, locals := 25 } ss mm ([.ref (Y.2.1 (0))] : List Value).toArray bw mt cd H locs 0 0 ZZ (F0 mm 65 ls []) := by
                  intro nn
                  induction nn with
                  | zero =>
                    intro e cv ρ he hMT hJ hD hcv hcr hV hdec
                    exact absurd hdec (by omega)
                  | succ nn ih_65 =>
                    intro e cv ρ he hMT hJ hD hcv hcr hV hdec H locs ls X hl
                    refine lv_iload hx hb dX8_divides_65 (lv_at hl 5 rfl) ?_
                    refine lv_iload_n hx hb dX8_divides_67 rfl (lv_at hl 2 rfl) ?_
                    refine g_icmp_le (tgt := 165) G dX8_divides_68 (by decide) (by omega) (by omega) (fun h68 => ?_) (fun h68 => ?_)
                    ·
                      refine lv_iinc (v := iI (g + (-1))) (lv' := [(2, .int (iI ((g + (-1))))), (0, .ref (Y.2.1 (0))), (1, .int (iI (k))), (3, .int (iI (ix))), (4, .int (iI (tp))), (5, .int (iI (e)))]) hx hb dX8_divides_165 hl (k := 2) rfl (iI_add _ _) (by decide) rfl (fun ls hl => ?_)
                      refine lv_goto (tgt := 21) hx hb dX8_divides_168 (by decide) ?_
                      exact ih_21 ((g + (-1))) (ρ) (by omega) hMT hJ (divP_s hD hix (by have e1 := dvI_end hPr (by omega) (by omega) htp (by omega) hV; rw [hcv]; exact e1)) (by omega) _ _ _ X (lv_sub hl [1, 2, 0] rfl)
                    ·
                      refine lv_iload_n hx hb dX8_divides_71 rfl (lv_at hl 1 rfl) ?_
                      refine lv_iconst (v := iI 1) hx hb dX8_divides_72 rfl ?_
                      refine g_icmp_gt (tgt := 85) G dX8_divides_73 (by decide) (by omega) (by omega) (fun h73 => ?_) (fun h73 => ?_)
                      ·
                        refine lv_aload_n hx hb dX8_divides_85 rfl (lv_at hl 0 rfl) ?_
                        refine lv_iload_n hx hb dX8_divides_86 rfl (lv_at hl 2 rfl) ?_
                        refine lv_iload hx hb dX8_divides_87 (lv_at hl 5 rfl) ?_
                        refine g_callVl G X (rest := []) (As := [.int (iI (g)), .int (iI (e))]) (t_X8_part l Y (ρ) P (g) (e) hMT (by first | assumption | omega)) (cwV 2 hts gX8_divides_X8_part rfl rfl rfl (by decide +kernel) ⟨Nat.le_of_ble_eq_true rfl, Nat.le_of_ble_eq_true rfl⟩) (k := 0) (Nat.le_of_ble_eq_true rfl) rfl rfl rfl rfl hl.1 rfl (Nat.le_of_ble_eq_true rfl) dX8_divides_89 ⟨Nat.le_refl _, Nat.le_refl _⟩ (fun z89 u89 H locs hq89 X => ?_)
                        rw [hq89.1] at X
                        have hq89 := hq89.2
                        try dsimp only at hq89
                        have hzr := hq89.2
                        obtain ⟨ev, hev⟩ : ∃ x : Int, x = -((lvF (ng P) (gW P) (gM P) k g) (e - 1)) := ⟨_, rfl⟩
                        have hlr := lvF_rg hPr (k := k) (g := g) (l := e - 1) (by omega) (by omega) (by omega)
                        refine lv_iload_n hx hb dX8_divides_92 rfl (lv_at hl 1 rfl) ?_
                        refine lv_iconst (v := iI 1) hx hb dX8_divides_93 rfl ?_
                        refine g_icmp_le (tgt := 114) G dX8_divides_94 (by decide) (by omega) (by omega) (fun h94 => ?_) (fun h94 => ?_)
                        ·
                          refine lv_lconst (v := lI 0) hx hb dX8_divides_114 (by decide +kernel) ?_
                          refine g_ladd G dX8_divides_115 ?_
                          refine g_topl (z' := ev) (by rw [hev, hq89.1]; first | (rw [lvF_k (by omega), show e - 1 + 1 = e by omega]; omega) | (rw [show k = 1 by omega, lvF_1]; omega)) ?_
                          refine lv_lstore (lv' := [(6, .long (lI (ev))), (0, .ref (Y.2.1 (0))), (1, .int (iI (k))), (2, .int (iI (g))), (3, .int (iI (ix))), (4, .int (iI (tp))), (5, .int (iI (e)))]) hx hb dX8_divides_116 hl (by decide) rfl (fun ls hl => ?_)
                          refine lv_aload_n hx hb dX8_divides_118 rfl (lv_at hl 1 rfl) ?_
                          refine g_get G X (k := 0) (fs := fM Y) (Nat.le_of_ble_eq_true rfl) (fun _ => rfl) rfl in_X8 20 (by decide) l_f47 rfl (v := .ref (Y.2.1 (13))) rfl dX8_divides_119 ?_
                          refine lv_iload_n hx hb dX8_divides_122 rfl (lv_at hl 4 rfl) ?_
                          refine g_lald G X (k := 13) (n := 169) (Nat.le_of_ble_eq_true rfl) (fun _ => rfl) (by decide) (z := ix) (by omega) dX8_divides_123 ?_
                          refine g_topl (z' := cv) hcv ?_
                          refine lv_lconst (v := lI 0) hx hb dX8_divides_124 (by decide +kernel) ?_
                          refine g_lif_gt (tgt := 141) G dX8_divides_125 dX8_divides_126 (by decide) (by omega) (by omega) (fun h125 => ?_) (fun h125 => ?_)
                          ·
                            refine lv_aload_n hx hb dX8_divides_141 rfl (lv_at hl 1 rfl) ?_
                            refine g_get G X (k := 0) (fs := fM Y) (Nat.le_of_ble_eq_true rfl) (fun _ => rfl) rfl in_X8 20 (by decide) l_f47 rfl (v := .ref (Y.2.1 (13))) rfl dX8_divides_142 ?_
                            refine lv_iload_n hx hb dX8_divides_145 rfl (lv_at hl 4 rfl) ?_
                            refine lv_lload hx hb dX8_divides_146 (lv_at hl 0 rfl) ?_
                            refine g_last G X (k := 13) (n := 169) (Nat.le_of_ble_eq_true rfl) (fun _ => rfl) (by decide) (z := ix) (v := ev) (by omega) dX8_divides_148 (fun H locs X => ?_)
                            refine lv_aload_n hx hb dX8_divides_149 rfl (lv_at hl 1 rfl) ?_
                            refine g_get G X (k := 0) (fs := fM Y) (Nat.le_of_ble_eq_true rfl) (fun _ => rfl) rfl in_X8 21 (by decide) l_f51 rfl (v := .ref (Y.2.1 (14))) rfl dX8_divides_150 ?_
                            refine lv_iload_n hx hb dX8_divides_153 rfl (lv_at hl 4 rfl) ?_
                            refine lv_iload hx hb dX8_divides_154 (lv_at hl 6 rfl) ?_
                            refine lv_iload_n hx hb dX8_divides_156 rfl (lv_at hl 3 rfl) ?_
                            refine g_isub G dX8_divides_157 ?_
                            refine g_iast G X (k := 14) (n := 169) (Nat.le_of_ble_eq_true rfl) (fun _ => rfl) (by decide) (z := ix) (v := (e - g)) (by omega) dX8_divides_158 (fun H locs X => ?_)
                            have hF5 : Fr 13 14 0 0 ρ (up (up ρ 13 ix ev) 14 ix (e - g)) := (Fr.rf.pl (by omega)).pl (by omega)
                            have hMT2 := hMT.fr hF5 (by omega) (by omega)
                            have hJ2 := hJ.keep (hF5.C (by omega) (by omega))
                            have hD2 := (divP_up hD hn12 (by omega) hix ev (e - g)).2
                            have hcv2 : (up (up ρ 13 ix ev) 14 ix (e - g)) 13 ix = ev := by rw [up_ne (by omega), up_same]
                            have hcr2 : -40000000000000000 ≤ ev ∧ ev ≤ 1 := by omega
                            have hV2 := dvI_take hV (by omega) (by omega) hev (fun i i0 i1 => (lvF_rg hPr (k := k) (g := g) (l := i) (by omega) (by omega) (by omega)).1) (by omega)
                            have hln2 : (up (up ρ 13 ix ev) 14 ix (e - g)) 14 ix = e - g := up_same _ _ _ _
                            rw [← hln2] at hV2
                            refine lv_iinc (v := iI (e + (-1))) (lv' := [(5, .int (iI ((e + (-1))))), (6, .long (lI (ev))), (0, .ref (Y.2.1 (0))), (1, .int (iI (k))), (2, .int (iI (g))), (3, .int (iI (ix))), (4, .int (iI (tp)))]) hx hb dX8_divides_159 hl (k := 6) rfl (iI_add _ _) (by decide) rfl (fun ls hl => ?_)
                            refine lv_goto (tgt := 65) hx hb dX8_divides_162 (by decide) ?_
                            exact ih_65 ((e + (-1))) _ ((up (up ρ 13 ix ev) 14 ix (e - g))) (by omega) hMT2 hJ2 hD2 hcv2 hcr2 hV2 (by omega) _ _ _ X (lv_sub hl [2, 3, 4, 5, 6, 0] rfl)
                          ·
                            refine lv_lload hx hb dX8_divides_129 (lv_at hl 0 rfl) ?_
                            refine lv_aload_n hx hb dX8_divides_131 rfl (lv_at hl 1 rfl) ?_
                            refine g_get G X (k := 0) (fs := fM Y) (Nat.le_of_ble_eq_true rfl) (fun _ => rfl) rfl in_X8 20 (by decide) l_f47 rfl (v := .ref (Y.2.1 (13))) rfl dX8_divides_132 ?_
                            refine lv_iload_n hx hb dX8_divides_135 rfl (lv_at hl 4 rfl) ?_
                            refine g_lald G X (k := 13) (n := 169) (Nat.le_of_ble_eq_true rfl) (fun _ => rfl) (by decide) (z := ix) (by omega) dX8_divides_136 ?_
                            refine g_topl (z' := cv) hcv ?_
                            refine g_lif_ge (tgt := 159) G dX8_divides_137 dX8_divides_138 (by decide) (by omega) (by omega) (fun h137 => ?_) (fun h137 => ?_)
                            ·
                              have hMT2 := hMT
                              have hJ2 := hJ
                              have hD2 := hD
                              have hcv2 := hcv
                              have hcr2 := hcr
                              have hV2 := dvI_keep hV hev (by omega)
                              refine lv_iinc (v := iI (e + (-1))) (lv' := [(5, .int (iI ((e + (-1))))), (6, .long (lI (ev))), (0, .ref (Y.2.1 (0))), (1, .int (iI (k))), (2, .int (iI (g))), (3, .int (iI (ix))), (4, .int (iI (tp)))]) hx hb dX8_divides_159 hl (k := 6) rfl (iI_add _ _) (by decide) rfl (fun ls hl => ?_)
                              refine lv_goto (tgt := 65) hx hb dX8_divides_162 (by decide) ?_
                              exact ih_65 ((e + (-1))) _ (ρ) (by omega) hMT2 hJ2 hD2 hcv2 hcr2 hV2 (by omega) _ _ _ X (lv_sub hl [2, 3, 4, 5, 6, 0] rfl)
                            ·
                              refine lv_aload_n hx hb dX8_divides_141 rfl (lv_at hl 1 rfl) ?_
                              refine g_get G X (k := 0) (fs := fM Y) (Nat.le_of_ble_eq_true rfl) (fun _ => rfl) rfl in_X8 20 (by decide) l_f47 rfl (v := .ref (Y.2.1 (13))) rfl dX8_divides_142 ?_
                              refine lv_iload_n hx hb dX8_divides_145 rfl (lv_at hl 4 rfl) ?_
                              refine lv_lload hx hb dX8_divides_146 (lv_at hl 0 rfl) ?_
                              refine g_last G X (k := 13) (n := 169) (Nat.le_of_ble_eq_true rfl) (fun _ => rfl) (by decide) (z := ix) (v := ev) (by omega) dX8_divides_148 (fun H locs X => ?_)
                              refine lv_aload_n hx hb dX8_divides_149 rfl (lv_at hl 1 rfl) ?_
                              refine g_get G X (k := 0) (fs := fM Y) (Nat.le_of_ble_eq_true rfl) (fun _ => rfl) rfl in_X8 21 (by decide) l_f51 rfl (v := .ref (Y.2.1 (14))) rfl dX8_divides_150 ?_
                              refine lv_iload_n hx hb dX8_divides_153 rfl (lv_at hl 4 rfl) ?_
                              refine lv_iload hx hb dX8_divides_154 (lv_at hl 6 rfl) ?_
                              refine lv_iload_n hx hb dX8_divides_156 rfl (lv_at hl 3 rfl) ?_
                              refine g_isub G dX8_divides_157 ?_
                              refine g_iast G X (k := 14) (n := 169) (Nat.le_of_ble_eq_true rfl) (fun _ => rfl) (by decide) (z := ix) (v := (e - g)) (by omega) dX8_divides_158 (fun H locs X => ?_)
                              have hF5 : Fr 13 14 0 0 ρ (up (up ρ 13 ix ev) 14 ix (e - g)) := (Fr.rf.pl (by omega)).pl (by omega)
                              have hMT2 := hMT.fr hF5 (by omega) (by omega)
                              have hJ2 := hJ.keep (hF5.C (by omega) (by omega))
                              have hD2 := (divP_up hD hn12 (by omega) hix ev (e - g)).2
                              have hcv2 : (up (up ρ 13 ix ev) 14 ix (e - g)) 13 ix = ev := by rw [up_ne (by omega), up_same]
                              have hcr2 : -40000000000000000 ≤ ev ∧ ev ≤ 1 := by omega
                              have hV2 := dvI_take hV (by omega) (by omega) hev (fun i i0 i1 => (lvF_rg hPr (k := k) (g := g) (l := i) (by omega) (by omega) (by omega)).1) (by omega)
                              have hln2 : (up (up ρ 13 ix ev) 14 ix (e - g)) 14 ix = e - g := up_same _ _ _ _
                              rw [← hln2] at hV2
                              refine lv_iinc (v := iI (e + (-1))) (lv' := [(5, .int (iI ((e + (-1))))), (6, .long (lI (ev))), (0, .ref (Y.2.1 (0))), (1, .int (iI (k))), (2, .int (iI (g))), (3, .int (iI (ix))), (4, .int (iI (tp)))]) hx hb dX8_divides_159 hl (k := 6) rfl (iI_add _ _) (by decide) rfl (fun ls hl => ?_)
                              refine lv_goto (tgt := 65) hx hb dX8_divides_162 (by decide) ?_
                              exact ih_65 ((e + (-1))) _ ((up (up ρ 13 ix ev) 14 ix (e - g))) (by omega) hMT2 hJ2 hD2 hcv2 hcr2 hV2 (by omega) _ _ _ X (lv_sub hl [2, 3, 4, 5, 6, 0] rfl)
                        ·
                          refine lv_aload_n hx hb dX8_divides_97 rfl (lv_at hl 0 rfl) ?_
                          refine g_get G X (k := 0) (fs := fM Y) (Nat.le_of_ble_eq_true rfl) (fun _ => rfl) rfl in_X8 20 (by decide) l_f47 rfl (v := .ref (Y.2.1 (13))) rfl dX8_divides_98 ?_
                          refine lv_bipush (v := iI 13) hx hb dX8_divides_101 (by decide +kernel) ?_
                          refine lv_iload_n hx hb dX8_divides_103 rfl (lv_at hl 1 rfl) ?_
                          refine lv_iconst (v := iI 1) hx hb dX8_divides_104 rfl ?_
                          refine g_isub G dX8_divides_105 ?_
                          refine g_imul G dX8_divides_106 ?_
                          refine lv_iload hx hb dX8_divides_107 (lv_at hl 5 rfl) ?_
                          refine g_iadd G dX8_divides_109 ?_
                          refine g_lald G X (k := 13) (n := 169) (Nat.le_of_ble_eq_true rfl) (fun _ => rfl) (by decide) (z := ((13 * (k - 1)) + e)) (by omega) dX8_divides_110 ?_
                          refine g_topl (z' := -(lvG (ng P) (gW P) (gM P) (k - 1).toNat e).1) (by rw [show 13 * (k - 1) + e = 13 * (k - 1) + e from rfl]; exact (hD (k - 1) e (by omega) (by omega) (by omega) (by omega)).1) ?_
                          refine lv_goto (tgt := 115) hx hb dX8_divides_111 (by decide) ?_
                          refine g_ladd G dX8_divides_115 ?_
                          refine g_topl (z' := ev) (by rw [hev, hq89.1]; first | (rw [lvF_k (by omega), show e - 1 + 1 = e by omega]; omega) | (rw [show k = 1 by omega, lvF_1]; omega)) ?_
                          refine lv_lstore (lv' := [(6, .long (lI (ev))), (0, .ref (Y.2.1 (0))), (1, .int (iI (k))), (2, .int (iI (g))), (3, .int (iI (ix))), (4, .int (iI (tp))), (5, .int (iI (e)))]) hx hb dX8_divides_116 hl (by decide) rfl (fun ls hl => ?_)
                          refine lv_aload_n hx hb dX8_divides_118 rfl (lv_at hl 1 rfl) ?_
                          refine g_get G X (k := 0) (fs := fM Y) (Nat.le_of_ble_eq_true rfl) (fun _ => rfl) rfl in_X8 20 (by decide) l_f47 rfl (v := .ref (Y.2.1 (13))) rfl dX8_divides_119 ?_
                          refine lv_iload_n hx hb dX8_divides_122 rfl (lv_at hl 4 rfl) ?_
                          refine g_lald G X (k := 13) (n := 169) (Nat.le_of_ble_eq_true rfl) (fun _ => rfl) (by decide) (z := ix) (by omega) dX8_divides_123 ?_
                          refine g_topl (z' := cv) hcv ?_
                          refine lv_lconst (v := lI 0) hx hb dX8_divides_124 (by decide +kernel) ?_
                          refine g_lif_gt (tgt := 141) G dX8_divides_125 dX8_divides_126 (by decide) (by omega) (by omega) (fun h125 => ?_) (fun h125 => ?_)
                          ·
                            refine lv_aload_n hx hb dX8_divides_141 rfl (lv_at hl 1 rfl) ?_
                            refine g_get G X (k := 0) (fs := fM Y) (Nat.le_of_ble_eq_true rfl) (fun _ => rfl) rfl in_X8 20 (by decide) l_f47 rfl (v := .ref (Y.2.1 (13))) rfl dX8_divides_142 ?_
                            refine lv_iload_n hx hb dX8_divides_145 rfl (lv_at hl 4 rfl) ?_
                            refine lv_lload hx hb dX8_divides_146 (lv_at hl 0 rfl) ?_
                            refine g_last G X (k := 13) (n := 169) (Nat.le_of_ble_eq_true rfl) (fun _ => rfl) (by decide) (z := ix) (v := ev) (by omega) dX8_divides_148 (fun H locs X => ?_)
                            refine lv_aload_n hx hb dX8_divides_149 rfl (lv_at hl 1 rfl) ?_
                            refine g_get G X (k := 0) (fs := fM Y) (Nat.le_of_ble_eq_true rfl) (fun _ => rfl) rfl in_X8 21 (by decide) l_f51 rfl (v := .ref (Y.2.1 (14))) rfl dX8_divides_150 ?_
                            refine lv_iload_n hx hb dX8_divides_153 rfl (lv_at hl 4 rfl) ?_
                            refine lv_iload hx hb dX8_divides_154 (lv_at hl 6 rfl) ?_
                            refine lv_iload_n hx hb dX8_divides_156 rfl (lv_at hl 3 rfl) ?_
                            refine g_isub G dX8_divides_157 ?_
                            refine g_iast G X (k := 14) (n := 169) (Nat.le_of_ble_eq_true rfl) (fun _ => rfl) (by decide) (z := ix) (v := (e - g)) (by omega) dX8_divides_158 (fun H locs X => ?_)
                            have hF5 : Fr 13 14 0 0 ρ (up (up ρ 13 ix ev) 14 ix (e - g)) := (Fr.rf.pl (by omega)).pl (by omega)
                            have hMT2 := hMT.fr hF5 (by omega) (by omega)
                            have hJ2 := hJ.keep (hF5.C (by omega) (by omega))
                            have hD2 := (divP_up hD hn12 (by omega) hix ev (e - g)).2
                            have hcv2 : (up (up ρ 13 ix ev) 14 ix (e - g)) 13 ix = ev := by rw [up_ne (by omega), up_same]
                            have hcr2 : -40000000000000000 ≤ ev ∧ ev ≤ 1 := by omega
                            have hV2 := dvI_take hV (by omega) (by omega) hev (fun i i0 i1 => (lvF_rg hPr (k := k) (g := g) (l := i) (by omega) (by omega) (by omega)).1) (by omega)
                            have hln2 : (up (up ρ 13 ix ev) 14 ix (e - g)) 14 ix = e - g := up_same _ _ _ _
                            rw [← hln2] at hV2
                            refine lv_iinc (v := iI (e + (-1))) (lv' := [(5, .int (iI ((e + (-1))))), (6, .long (lI (ev))), (0, .ref (Y.2.1 (0))), (1, .int (iI (k))), (2, .int (iI (g))), (3, .int (iI (ix))), (4, .int (iI (tp)))]) hx hb dX8_divides_159 hl (k := 6) rfl (iI_add _ _) (by decide) rfl (fun ls hl => ?_)
                            refine lv_goto (tgt := 65) hx hb dX8_divides_162 (by decide) ?_
                            exact ih_65 ((e + (-1))) _ ((up (up ρ 13 ix ev) 14 ix (e - g))) (by omega) hMT2 hJ2 hD2 hcv2 hcr2 hV2 (by omega) _ _ _ X (lv_sub hl [2, 3, 4, 5, 6, 0] rfl)
                          ·
                            refine lv_lload hx hb dX8_divides_129 (lv_at hl 0 rfl) ?_
                            refine lv_aload_n hx hb dX8_divides_131 rfl (lv_at hl 1 rfl) ?_
                            refine g_get G X (k := 0) (fs := fM Y) (Nat.le_of_ble_eq_true rfl) (fun _ => rfl) rfl in_X8 20 (by decide) l_f47 rfl (v := .ref (Y.2.1 (13))) rfl dX8_divides_132 ?_
                            refine lv_iload_n hx hb dX8_divides_135 rfl (lv_at hl 4 rfl) ?_
                            refine g_lald G X (k := 13) (n := 169) (Nat.le_of_ble_eq_true rfl) (fun _ => rfl) (by decide) (z := ix) (by omega) dX8_divides_136 ?_
                            refine g_topl (z' := cv) hcv ?_
                            refine g_lif_ge (tgt := 159) G dX8_divides_137 dX8_divides_138 (by decide) (by omega) (by omega) (fun h137 => ?_) (fun h137 => ?_)
                            ·
                              have hMT2 := hMT
                              have hJ2 := hJ
                              have hD2 := hD
                              have hcv2 := hcv
                              have hcr2 := hcr
                              have hV2 := dvI_keep hV hev (by omega)
                              refine lv_iinc (v := iI (e + (-1))) (lv' := [(5, .int (iI ((e + (-1))))), (6, .long (lI (ev))), (0, .ref (Y.2.1 (0))), (1, .int (iI (k))), (2, .int (iI (g))), (3, .int (iI (ix))), (4, .int (iI (tp)))]) hx hb dX8_divides_159 hl (k := 6) rfl (iI_add _ _) (by decide) rfl (fun ls hl => ?_)
                              refine lv_goto (tgt := 65) hx hb dX8_divides_162 (by decide) ?_
                              exact ih_65 ((e + (-1))) _ (ρ) (by omega) hMT2 hJ2 hD2 hcv2 hcr2 hV2 (by omega) _ _ _ X (lv_sub hl [2, 3, 4, 5, 6, 0] rfl)
                            ·
                              refine lv_aload_n hx hb dX8_divides_141 rfl (lv_at hl 1 rfl) ?_
                              refine g_get G X (k := 0) (fs := fM Y) (Nat.le_of_ble_eq_true rfl) (fun _ => rfl) rfl in_X8 20 (by decide) l_f47 rfl (v := .ref (Y.2.1 (13))) rfl dX8_divides_142 ?_
                              refine lv_iload_n hx hb dX8_divides_145 rfl (lv_at hl 4 rfl) ?_
                              refine lv_lload hx hb dX8_divides_146 (lv_at hl 0 rfl) ?_
                              refine g_last G X (k := 13) (n := 169) (Nat.le_of_ble_eq_true rfl) (fun _ => rfl) (by decide) (z := ix) (v := ev) (by omega) dX8_divides_148 (fun H locs X => ?_)
                              refine lv_aload_n hx hb dX8_divides_149 rfl (lv_at hl 1 rfl) ?_
                              refine g_get G X (k := 0) (fs := fM Y) (Nat.le_of_ble_eq_true rfl) (fun _ => rfl) rfl in_X8 21 (by decide) l_f51 rfl (v := .ref (Y.2.1 (14))) rfl dX8_divides_150 ?_
                              refine lv_iload_n hx hb dX8_divides_153 rfl (lv_at hl 4 rfl) ?_
                              refine lv_iload hx hb dX8_divides_154 (lv_at hl 6 rfl) ?_
                              refine lv_iload_n hx hb dX8_divides_156 rfl (lv_at hl 3 rfl) ?_
                              refine g_isub G dX8_divides_157 ?_
                              refine g_iast G X (k := 14) (n := 169) (Nat.le_of_ble_eq_true rfl) (fun _ => rfl) (by decide) (z := ix) (v := (e - g)) (by omega) dX8_divides_158 (fun H locs X => ?_)
                              have hF5 : Fr 13 14 0 0 ρ (up (up ρ 13 ix ev) 14 ix (e - g)) := (Fr.rf.pl (by omega)).pl (by omega)
                              have hMT2 := hMT.fr hF5 (by omega) (by omega)
                              have hJ2 := hJ.keep (hF5.C (by omega) (by omega))
                              have hD2 := (divP_up hD hn12 (by omega) hix ev (e - g)).2
                              have hcv2 : (up (up ρ 13 ix ev) 14 ix (e - g)) 13 ix = ev := by rw [up_ne (by omega), up_same]
                              have hcr2 : -40000000000000000 ≤ ev ∧ ev ≤ 1 := by omega
                              have hV2 := dvI_take hV (by omega) (by omega) hev (fun i i0 i1 => (lvF_rg hPr (k := k) (g := g) (l := i) (by omega) (by omega) (by omega)).1) (by omega)
                              have hln2 : (up (up ρ 13 ix ev) 14 ix (e - g)) 14 ix = e - g := up_same _ _ _ _
                              rw [← hln2] at hV2
                              refine lv_iinc (v := iI (e + (-1))) (lv' := [(5, .int (iI ((e + (-1))))), (6, .long (lI (ev))), (0, .ref (Y.2.1 (0))), (1, .int (iI (k))), (2, .int (iI (g))), (3, .int (iI (ix))), (4, .int (iI (tp)))]) hx hb dX8_divides_159 hl (k := 6) rfl (iI_add _ _) (by decide) rfl (fun ls hl => ?_)
                              refine lv_goto (tgt := 65) hx hb dX8_divides_162 (by decide) ?_
                              exact ih_65 ((e + (-1))) _ ((up (up ρ 13 ix ev) 14 ix (e - g))) (by omega) hMT2 hJ2 hD2 hcv2 hcr2 hV2 (by omega) _ _ _ X (lv_sub hl [2, 3, 4, 5, 6, 0] rfl)
                      ·
                        refine lv_iload hx hb dX8_divides_76 (lv_at hl 5 rfl) ?_
                        refine lv_aload_n hx hb dX8_divides_78 rfl (lv_at hl 0 rfl) ?_
                        refine g_get G X (k := 0) (fs := fM Y) (Nat.le_of_ble_eq_true rfl) (fun _ => rfl) rfl in_X8 8 (by decide) l_f72 rfl (v := .int (iI ((ρ 0 8)))) rfl dX8_divides_79 ?_
                        refine g_topi (z' := ng P) hMT.2.2.1 ?_
                        refine g_icmp_ne (tgt := 159) G dX8_divides_82 (by decide) (by omega) (by omega) (fun h82 => ?_) (fun h82 => ?_)
                        ·
                          have hMT2 := hMT
                          have hJ2 := hJ
                          have hD2 := hD
                          have hcv2 := hcv
                          have hcr2 := hcr
                          have hV2 := dvI_skip hV (by omega) (by omega)
                          refine lv_iinc (v := iI (e + (-1))) (lv' := [(5, .int (iI ((e + (-1))))), (0, .ref (Y.2.1 (0))), (1, .int (iI (k))), (2, .int (iI (g))), (3, .int (iI (ix))), (4, .int (iI (tp)))]) hx hb dX8_divides_159 hl (k := 5) rfl (iI_add _ _) (by decide) rfl (fun ls hl => ?_)
                          refine lv_goto (tgt := 65) hx hb dX8_divides_162 (by decide) ?_
                          exact ih_65 ((e + (-1))) _ (ρ) (by omega) hMT2 hJ2 hD2 hcv2 hcr2 hV2 (by omega) _ _ _ X (lv_sub hl [1, 2, 3, 4, 5, 0] rfl)
                        ·
                          refine lv_aload_n hx hb dX8_divides_85 rfl (lv_at hl 0 rfl) ?_
                          refine lv_iload_n hx hb dX8_divides_86 rfl (lv_at hl 2 rfl) ?_
                          refine lv_iload hx hb dX8_divides_87 (lv_at hl 5 rfl) ?_
                          refine g_callVl G X (rest := []) (As := [.int (iI (g)), .int (iI (e))]) (t_X8_part l Y (ρ) P (g) (e) hMT (by first | assumption | omega)) (cwV 2 hts gX8_divides_X8_part rfl rfl rfl (by decide +kernel) ⟨Nat.le_of_ble_eq_true rfl, Nat.le_of_ble_eq_true rfl⟩) (k := 0) (Nat.le_of_ble_eq_true rfl) rfl rfl rfl rfl hl.1 rfl (Nat.le_of_ble_eq_true rfl) dX8_divides_89 ⟨Nat.le_refl _, Nat.le_refl _⟩ (fun z89 u89 H locs hq89 X => ?_)
                          rw [hq89.1] at X
                          have hq89 := hq89.2
                          try dsimp only at hq89
                          have hzr := hq89.2
                          obtain ⟨ev, hev⟩ : ∃ x : Int, x = -((lvF (ng P) (gW P) (gM P) k g) (e - 1)) := ⟨_, rfl⟩
                          have hlr := lvF_rg hPr (k := k) (g := g) (l := e - 1) (by omega) (by omega) (by omega)
                          refine lv_iload_n hx hb dX8_divides_92 rfl (lv_at hl 1 rfl) ?_
                          refine lv_iconst (v := iI 1) hx hb dX8_divides_93 rfl ?_
                          refine g_icmp_le (tgt := 114) G dX8_divides_94 (by decide) (by omega) (by omega) (fun h94 => ?_) (fun h94 => ?_)
                          ·
                            refine lv_lconst (v := lI 0) hx hb dX8_divides_114 (by decide +kernel) ?_
                            refine g_ladd G dX8_divides_115 ?_
                            refine g_topl (z' := ev) (by rw [hev, hq89.1]; first | (rw [lvF_k (by omega), show e - 1 + 1 = e by omega]; omega) | (rw [show k = 1 by omega, lvF_1]; omega)) ?_
                            refine lv_lstore (lv' := [(6, .long (lI (ev))), (0, .ref (Y.2.1 (0))), (1, .int (iI (k))), (2, .int (iI (g))), (3, .int (iI (ix))), (4, .int (iI (tp))), (5, .int (iI (e)))]) hx hb dX8_divides_116 hl (by decide) rfl (fun ls hl => ?_)
                            refine lv_aload_n hx hb dX8_divides_118 rfl (lv_at hl 1 rfl) ?_
                            refine g_get G X (k := 0) (fs := fM Y) (Nat.le_of_ble_eq_true rfl) (fun _ => rfl) rfl in_X8 20 (by decide) l_f47 rfl (v := .ref (Y.2.1 (13))) rfl dX8_divides_119 ?_
                            refine lv_iload_n hx hb dX8_divides_122 rfl (lv_at hl 4 rfl) ?_
                            refine g_lald G X (k := 13) (n := 169) (Nat.le_of_ble_eq_true rfl) (fun _ => rfl) (by decide) (z := ix) (by omega) dX8_divides_123 ?_
                            refine g_topl (z' := cv) hcv ?_
                            refine lv_lconst (v := lI 0) hx hb dX8_divides_124 (by decide +kernel) ?_
                            refine g_lif_gt (tgt := 141) G dX8_divides_125 dX8_divides_126 (by decide) (by omega) (by omega) (fun h125 => ?_) (fun h125 => ?_)
                            ·
                              refine lv_aload_n hx hb dX8_divides_141 rfl (lv_at hl 1 rfl) ?_
                              refine g_get G X (k := 0) (fs := fM Y) (Nat.le_of_ble_eq_true rfl) (fun _ => rfl) rfl in_X8 20 (by decide) l_f47 rfl (v := .ref (Y.2.1 (13))) rfl dX8_divides_142 ?_
                              refine lv_iload_n hx hb dX8_divides_145 rfl (lv_at hl 4 rfl) ?_
                              refine lv_lload hx hb dX8_divides_146 (lv_at hl 0 rfl) ?_
                              refine g_last G X (k := 13) (n := 169) (Nat.le_of_ble_eq_true rfl) (fun _ => rfl) (by decide) (z := ix) (v := ev) (by omega) dX8_divides_148 (fun H locs X => ?_)
                              refine lv_aload_n hx hb dX8_divides_149 rfl (lv_at hl 1 rfl) ?_
                              refine g_get G X (k := 0) (fs := fM Y) (Nat.le_of_ble_eq_true rfl) (fun _ => rfl) rfl in_X8 21 (by decide) l_f51 rfl (v := .ref (Y.2.1 (14))) rfl dX8_divides_150 ?_
                              refine lv_iload_n hx hb dX8_divides_153 rfl (lv_at hl 4 rfl) ?_
                              refine lv_iload hx hb dX8_divides_154 (lv_at hl 6 rfl) ?_
                              refine lv_iload_n hx hb dX8_divides_156 rfl (lv_at hl 3 rfl) ?_
                              refine g_isub G dX8_divides_157 ?_
                              refine g_iast G X (k := 14) (n := 169) (Nat.le_of_ble_eq_true rfl) (fun _ => rfl) (by decide) (z := ix) (v := (e - g)) (by omega) dX8_divides_158 (fun H locs X => ?_)
                              have hF5 : Fr 13 14 0 0 ρ (up (up ρ 13 ix ev) 14 ix (e - g)) := (Fr.rf.pl (by omega)).pl (by omega)
                              have hMT2 := hMT.fr hF5 (by omega) (by omega)
                              have hJ2 := hJ.keep (hF5.C (by omega) (by omega))
                              have hD2 := (divP_up hD hn12 (by omega) hix ev (e - g)).2
                              have hcv2 : (up (up ρ 13 ix ev) 14 ix (e - g)) 13 ix = ev := by rw [up_ne (by omega), up_same]
                              have hcr2 : -40000000000000000 ≤ ev ∧ ev ≤ 1 := by omega
                              have hV2 := dvI_take hV (by omega) (by omega) hev (fun i i0 i1 => (lvF_rg hPr (k := k) (g := g) (l := i) (by omega) (by omega) (by omega)).1) (by omega)
                              have hln2 : (up (up ρ 13 ix ev) 14 ix (e - g)) 14 ix = e - g := up_same _ _ _ _
                              rw [← hln2] at hV2
                              refine lv_iinc (v := iI (e + (-1))) (lv' := [(5, .int (iI ((e + (-1))))), (6, .long (lI (ev))), (0, .ref (Y.2.1 (0))), (1, .int (iI (k))), (2, .int (iI (g))), (3, .int (iI (ix))), (4, .int (iI (tp)))]) hx hb dX8_divides_159 hl (k := 6) rfl (iI_add _ _) (by decide) rfl (fun ls hl => ?_)
                              refine lv_goto (tgt := 65) hx hb dX8_divides_162 (by decide) ?_
                              exact ih_65 ((e + (-1))) _ ((up (up ρ 13 ix ev) 14 ix (e - g))) (by omega) hMT2 hJ2 hD2 hcv2 hcr2 hV2 (by omega) _ _ _ X (lv_sub hl [2, 3, 4, 5, 6, 0] rfl)
                            ·
                              refine lv_lload hx hb dX8_divides_129 (lv_at hl 0 rfl) ?_
                              refine lv_aload_n hx hb dX8_divides_131 rfl (lv_at hl 1 rfl) ?_
                              refine g_get G X (k := 0) (fs := fM Y) (Nat.le_of_ble_eq_true rfl) (fun _ => rfl) rfl in_X8 20 (by decide) l_f47 rfl (v := .ref (Y.2.1 (13))) rfl dX8_divides_132 ?_
                              refine lv_iload_n hx hb dX8_divides_135 rfl (lv_at hl 4 rfl) ?_
                              refine g_lald G X (k := 13) (n := 169) (Nat.le_of_ble_eq_true rfl) (fun _ => rfl) (by decide) (z := ix) (by omega) dX8_divides_136 ?_
                              refine g_topl (z' := cv) hcv ?_
                              refine g_lif_ge (tgt := 159) G dX8_divides_137 dX8_divides_138 (by decide) (by omega) (by omega) (fun h137 => ?_) (fun h137 => ?_)
                              ·
                                have hMT2 := hMT
                                have hJ2 := hJ
                                have hD2 := hD
                                have hcv2 := hcv
                                have hcr2 := hcr
                                have hV2 := dvI_keep hV hev (by omega)
                                refine lv_iinc (v := iI (e + (-1))) (lv' := [(5, .int (iI ((e + (-1))))), (6, .long (lI (ev))), (0, .ref (Y.2.1 (0))), (1, .int (iI (k))), (2, .int (iI (g))), (3, .int (iI (ix))), (4, .int (iI (tp)))]) hx hb dX8_divides_159 hl (k := 6) rfl (iI_add _ _) (by decide) rfl (fun ls hl => ?_)
                                refine lv_goto (tgt := 65) hx hb dX8_divides_162 (by decide) ?_
                                exact ih_65 ((e + (-1))) _ (ρ) (by omega) hMT2 hJ2 hD2 hcv2 hcr2 hV2 (by omega) _ _ _ X (lv_sub hl [2, 3, 4, 5, 6, 0] rfl)
                              ·
                                refine lv_aload_n hx hb dX8_divides_141 rfl (lv_at hl 1 rfl) ?_
                                refine g_get G X (k := 0) (fs := fM Y) (Nat.le_of_ble_eq_true rfl) (fun _ => rfl) rfl in_X8 20 (by decide) l_f47 rfl (v := .ref (Y.2.1 (13))) rfl dX8_divides_142 ?_
                                refine lv_iload_n hx hb dX8_divides_145 rfl (lv_at hl 4 rfl) ?_
                                refine lv_lload hx hb dX8_divides_146 (lv_at hl 0 rfl) ?_
                                refine g_last G X (k := 13) (n := 169) (Nat.le_of_ble_eq_true rfl) (fun _ => rfl) (by decide) (z := ix) (v := ev) (by omega) dX8_divides_148 (fun H locs X => ?_)
                                refine lv_aload_n hx hb dX8_divides_149 rfl (lv_at hl 1 rfl) ?_
                                refine g_get G X (k := 0) (fs := fM Y) (Nat.le_of_ble_eq_true rfl) (fun _ => rfl) rfl in_X8 21 (by decide) l_f51 rfl (v := .ref (Y.2.1 (14))) rfl dX8_divides_150 ?_
                                refine lv_iload_n hx hb dX8_divides_153 rfl (lv_at hl 4 rfl) ?_
                                refine lv_iload hx hb dX8_divides_154 (lv_at hl 6 rfl) ?_
                                refine lv_iload_n hx hb dX8_divides_156 rfl (lv_at hl 3 rfl) ?_
                                refine g_isub G dX8_divides_157 ?_
                                refine g_iast G X (k := 14) (n := 169) (Nat.le_of_ble_eq_true rfl) (fun _ => rfl) (by decide) (z := ix) (v := (e - g)) (by omega) dX8_divides_158 (fun H locs X => ?_)
                                have hF5 : Fr 13 14 0 0 ρ (up (up ρ 13 ix ev) 14 ix (e - g)) := (Fr.rf.pl (by omega)).pl (by omega)
                                have hMT2 := hMT.fr hF5 (by omega) (by omega)
                                have hJ2 := hJ.keep (hF5.C (by omega) (by omega))
                                have hD2 := (divP_up hD hn12 (by omega) hix ev (e - g)).2
                                have hcv2 : (up (up ρ 13 ix ev) 14 ix (e - g)) 13 ix = ev := by rw [up_ne (by omega), up_same]
                                have hcr2 : -40000000000000000 ≤ ev ∧ ev ≤ 1 := by omega
                                have hV2 := dvI_take hV (by omega) (by omega) hev (fun i i0 i1 => (lvF_rg hPr (k := k) (g := g) (l := i) (by omega) (by omega) (by omega)).1) (by omega)
                                have hln2 : (up (up ρ 13 ix ev) 14 ix (e - g)) 14 ix = e - g := up_same _ _ _ _
                                rw [← hln2] at hV2
                                refine lv_iinc (v := iI (e + (-1))) (lv' := [(5, .int (iI ((e + (-1))))), (6, .long (lI (ev))), (0, .ref (Y.2.1 (0))), (1, .int (iI (k))), (2, .int (iI (g))), (3, .int (iI (ix))), (4, .int (iI (tp)))]) hx hb dX8_divides_159 hl (k := 6) rfl (iI_add _ _) (by decide) rfl (fun ls hl => ?_)
                                refine lv_goto (tgt := 65) hx hb dX8_divides_162 (by decide) ?_
                                exact ih_65 ((e + (-1))) _ ((up (up ρ 13 ix ev) 14 ix (e - g))) (by omega) hMT2 hJ2 hD2 hcv2 hcr2 hV2 (by omega) _ _ _ X (lv_sub hl [2, 3, 4, 5, 6, 0] rfl)
                          ·
                            refine lv_aload_n hx hb dX8_divides_97 rfl (lv_at hl 0 rfl) ?_
                            refine g_get G X (k := 0) (fs := fM Y) (Nat.le_of_ble_eq_true rfl) (fun _ => rfl) rfl in_X8 20 (by decide) l_f47 rfl (v := .ref (Y.2.1 (13))) rfl dX8_divides_98 ?_
                            refine lv_bipush (v := iI 13) hx hb dX8_divides_101 (by decide +kernel) ?_
                            refine lv_iload_n hx hb dX8_divides_103 rfl (lv_at hl 1 rfl) ?_
                            refine lv_iconst (v := iI 1) hx hb dX8_divides_104 rfl ?_
                            refine g_isub G dX8_divides_105 ?_
                            refine g_imul G dX8_divides_106 ?_
                            refine lv_iload hx hb dX8_divides_107 (lv_at hl 5 rfl) ?_
                            refine g_iadd G dX8_divides_109 ?_
                            refine g_lald G X (k := 13) (n := 169) (Nat.le_of_ble_eq_true rfl) (fun _ => rfl) (by decide) (z := ((13 * (k - 1)) + e)) (by omega) dX8_divides_110 ?_
                            refine g_topl (z' := -(lvG (ng P) (gW P) (gM P) (k - 1).toNat e).1) (by rw [show 13 * (k - 1) + e = 13 * (k - 1) + e from rfl]; exact (hD (k - 1) e (by omega) (by omega) (by omega) (by omega)).1) ?_
                            refine lv_goto (tgt := 115) hx hb dX8_divides_111 (by decide) ?_
                            refine g_ladd G dX8_divides_115 ?_
                            refine g_topl (z' := ev) (by rw [hev, hq89.1]; first | (rw [lvF_k (by omega), show e - 1 + 1 = e by omega]; omega) | (rw [show k = 1 by omega, lvF_1]; omega)) ?_
                            refine lv_lstore (lv' := [(6, .long (lI (ev))), (0, .ref (Y.2.1 (0))), (1, .int (iI (k))), (2, .int (iI (g))), (3, .int (iI (ix))), (4, .int (iI (tp))), (5, .int (iI (e)))]) hx hb dX8_divides_116 hl (by decide) rfl (fun ls hl => ?_)
                            refine lv_aload_n hx hb dX8_divides_118 rfl (lv_at hl 1 rfl) ?_
                            refine g_get G X (k := 0) (fs := fM Y) (Nat.le_of_ble_eq_true rfl) (fun _ => rfl) rfl in_X8 20 (by decide) l_f47 rfl (v := .ref (Y.2.1 (13))) rfl dX8_divides_119 ?_
                            refine lv_iload_n hx hb dX8_divides_122 rfl (lv_at hl 4 rfl) ?_
                            refine g_lald G X (k := 13) (n := 169) (Nat.le_of_ble_eq_true rfl) (fun _ => rfl) (by decide) (z := ix) (by omega) dX8_divides_123 ?_
                            refine g_topl (z' := cv) hcv ?_
                            refine lv_lconst (v := lI 0) hx hb dX8_divides_124 (by decide +kernel) ?_
                            refine g_lif_gt (tgt := 141) G dX8_divides_125 dX8_divides_126 (by decide) (by omega) (by omega) (fun h125 => ?_) (fun h125 => ?_)
                            ·
                              refine lv_aload_n hx hb dX8_divides_141 rfl (lv_at hl 1 rfl) ?_
                              refine g_get G X (k := 0) (fs := fM Y) (Nat.le_of_ble_eq_true rfl) (fun _ => rfl) rfl in_X8 20 (by decide) l_f47 rfl (v := .ref (Y.2.1 (13))) rfl dX8_divides_142 ?_
                              refine lv_iload_n hx hb dX8_divides_145 rfl (lv_at hl 4 rfl) ?_
                              refine lv_lload hx hb dX8_divides_146 (lv_at hl 0 rfl) ?_
                              refine g_last G X (k := 13) (n := 169) (Nat.le_of_ble_eq_true rfl) (fun _ => rfl) (by decide) (z := ix) (v := ev) (by omega) dX8_divides_148 (fun H locs X => ?_)
                              refine lv_aload_n hx hb dX8_divides_149 rfl (lv_at hl 1 rfl) ?_
                              refine g_get G X (k := 0) (fs := fM Y) (Nat.le_of_ble_eq_true rfl) (fun _ => rfl) rfl in_X8 21 (by decide) l_f51 rfl (v := .ref (Y.2.1 (14))) rfl dX8_divides_150 ?_
                              refine lv_iload_n hx hb dX8_divides_153 rfl (lv_at hl 4 rfl) ?_
                              refine lv_iload hx hb dX8_divides_154 (lv_at hl 6 rfl) ?_
                              refine lv_iload_n hx hb dX8_divides_156 rfl (lv_at hl 3 rfl) ?_
                              refine g_isub G dX8_divides_157 ?_
                              refine g_iast G X (k := 14) (n := 169) (Nat.le_of_ble_eq_true rfl) (fun _ => rfl) (by decide) (z := ix) (v := (e - g)) (by omega) dX8_divides_158 (fun H locs X => ?_)
                              have hF5 : Fr 13 14 0 0 ρ (up (up ρ 13 ix ev) 14 ix (e - g)) := (Fr.rf.pl (by omega)).pl (by omega)
                              have hMT2 := hMT.fr hF5 (by omega) (by omega)
                              have hJ2 := hJ.keep (hF5.C (by omega) (by omega))
                              have hD2 := (divP_up hD hn12 (by omega) hix ev (e - g)).2
                              have hcv2 : (up (up ρ 13 ix ev) 14 ix (e - g)) 13 ix = ev := by rw [up_ne (by omega), up_same]
                              have hcr2 : -40000000000000000 ≤ ev ∧ ev ≤ 1 := by omega
                              have hV2 := dvI_take hV (by omega) (by omega) hev (fun i i0 i1 => (lvF_rg hPr (k := k) (g := g) (l := i) (by omega) (by omega) (by omega)).1) (by omega)
                              have hln2 : (up (up ρ 13 ix ev) 14 ix (e - g)) 14 ix = e - g := up_same _ _ _ _
                              rw [← hln2] at hV2
                              refine lv_iinc (v := iI (e + (-1))) (lv' := [(5, .int (iI ((e + (-1))))), (6, .long (lI (ev))), (0, .ref (Y.2.1 (0))), (1, .int (iI (k))), (2, .int (iI (g))), (3, .int (iI (ix))), (4, .int (iI (tp)))]) hx hb dX8_divides_159 hl (k := 6) rfl (iI_add _ _) (by decide) rfl (fun ls hl => ?_)
                              refine lv_goto (tgt := 65) hx hb dX8_divides_162 (by decide) ?_
                              exact ih_65 ((e + (-1))) _ ((up (up ρ 13 ix ev) 14 ix (e - g))) (by omega) hMT2 hJ2 hD2 hcv2 hcr2 hV2 (by omega) _ _ _ X (lv_sub hl [2, 3, 4, 5, 6, 0] rfl)
                            ·
                              refine lv_lload hx hb dX8_divides_129 (lv_at hl 0 rfl) ?_
                              refine lv_aload_n hx hb dX8_divides_131 rfl (lv_at hl 1 rfl) ?_
                              refine g_get G X (k := 0) (fs := fM Y) (Nat.le_of_ble_eq_true rfl) (fun _ => rfl) rfl in_X8 20 (by decide) l_f47 rfl (v := .ref (Y.2.1 (13))) rfl dX8_divides_132 ?_
                              refine lv_iload_n hx hb dX8_divides_135 rfl (lv_at hl 4 rfl) ?_
                              refine g_lald G X (k := 13) (n := 169) (Nat.le_of_ble_eq_true rfl) (fun _ => rfl) (by decide) (z := ix) (by omega) dX8_divides_136 ?_
                              refine g_topl (z' := cv) hcv ?_
                              refine g_lif_ge (tgt := 159) G dX8_divides_137 dX8_divides_138 (by decide) (by omega) (by omega) (fun h137 => ?_) (fun h137 => ?_)
                              ·
                                have hMT2 := hMT
                                have hJ2 := hJ
                                have hD2 := hD
                                have hcv2 := hcv
                                have hcr2 := hcr
                                have hV2 := dvI_keep hV hev (by omega)
                                refine lv_iinc (v := iI (e + (-1))) (lv' := [(5, .int (iI ((e + (-1))))), (6, .long (lI (ev))), (0, .ref (Y.2.1 (0))), (1, .int (iI (k))), (2, .int (iI (g))), (3, .int (iI (ix))), (4, .int (iI (tp)))]) hx hb dX8_divides_159 hl (k := 6) rfl (iI_add _ _) (by decide) rfl (fun ls hl => ?_)
                                refine lv_goto (tgt := 65) hx hb dX8_divides_162 (by decide) ?_
                                exact ih_65 ((e + (-1))) _ (ρ) (by omega) hMT2 hJ2 hD2 hcv2 hcr2 hV2 (by omega) _ _ _ X (lv_sub hl [2, 3, 4, 5, 6, 0] rfl)
                              ·
                                refine lv_aload_n hx hb dX8_divides_141 rfl (lv_at hl 1 rfl) ?_
                                refine g_get G X (k := 0) (fs := fM Y) (Nat.le_of_ble_eq_true rfl) (fun _ => rfl) rfl in_X8 20 (by decide) l_f47 rfl (v := .ref (Y.2.1 (13))) rfl dX8_divides_142 ?_
                                refine lv_iload_n hx hb dX8_divides_145 rfl (lv_at hl 4 rfl) ?_
                                refine lv_lload hx hb dX8_divides_146 (lv_at hl 0 rfl) ?_
                                refine g_last G X (k := 13) (n := 169) (Nat.le_of_ble_eq_true rfl) (fun _ => rfl) (by decide) (z := ix) (v := ev) (by omega) dX8_divides_148 (fun H locs X => ?_)
                                refine lv_aload_n hx hb dX8_divides_149 rfl (lv_at hl 1 rfl) ?_
                                refine g_get G X (k := 0) (fs := fM Y) (Nat.le_of_ble_eq_true rfl) (fun _ => rfl) rfl in_X8 21 (by decide) l_f51 rfl (v := .ref (Y.2.1 (14))) rfl dX8_divides_150 ?_
                                refine lv_iload_n hx hb dX8_divides_153 rfl (lv_at hl 4 rfl) ?_
                                refine lv_iload hx hb dX8_divides_154 (lv_at hl 6 rfl) ?_
                                refine lv_iload_n hx hb dX8_divides_156 rfl (lv_at hl 3 rfl) ?_
                                refine g_isub G dX8_divides_157 ?_
                                refine g_iast G X (k := 14) (n := 169) (Nat.le_of_ble_eq_true rfl) (fun _ => rfl) (by decide) (z := ix) (v := (e - g)) (by omega) dX8_divides_158 (fun H locs X => ?_)
                                have hF5 : Fr 13 14 0 0 ρ (up (up ρ 13 ix ev) 14 ix (e - g)) := (Fr.rf.pl (by omega)).pl (by omega)
                                have hMT2 := hMT.fr hF5 (by omega) (by omega)
                                have hJ2 := hJ.keep (hF5.C (by omega) (by omega))
                                have hD2 := (divP_up hD hn12 (by omega) hix ev (e - g)).2
                                have hcv2 : (up (up ρ 13 ix ev) 14 ix (e - g)) 13 ix = ev := by rw [up_ne (by omega), up_same]
                                have hcr2 : -40000000000000000 ≤ ev ∧ ev ≤ 1 := by omega
                                have hV2 := dvI_take hV (by omega) (by omega) hev (fun i i0 i1 => (lvF_rg hPr (k := k) (g := g) (l := i) (by omega) (by omega) (by omega)).1) (by omega)
                                have hln2 : (up (up ρ 13 ix ev) 14 ix (e - g)) 14 ix = e - g := up_same _ _ _ _
                                rw [← hln2] at hV2
                                refine lv_iinc (v := iI (e + (-1))) (lv' := [(5, .int (iI ((e + (-1))))), (6, .long (lI (ev))), (0, .ref (Y.2.1 (0))), (1, .int (iI (k))), (2, .int (iI (g))), (3, .int (iI (ix))), (4, .int (iI (tp)))]) hx hb dX8_divides_159 hl (k := 6) rfl (iI_add _ _) (by decide) rfl (fun ls hl => ?_)
                                refine lv_goto (tgt := 65) hx hb dX8_divides_162 (by decide) ?_
                                exact ih_65 ((e + (-1))) _ ((up (up ρ 13 ix ev) 14 ix (e - g))) (by omega) hMT2 hJ2 hD2 hcv2 hcr2 hV2 (by omega) _ _ _ X (lv_sub hl [2, 3, 4, 5, 6, 0] rfl)
                exact lp_65 (((((tp) - g) : Int).toNat + 1)) (tp) (1) ((up τ 13 ix 1)) (by omega) (hMT.fr hFa (by omega) (by omega)) (hJ.keep (hFa.C (by omega) (by omega))) hDa hcva (by omega) (Or.inl ⟨rfl, rfl⟩) (by omega) _ _ _ X (lv_sub hl [3, 4, 5, 2, 1, 0] rfl)
              ·
                refine lv_aload_n hx hb dX8_divides_37 rfl (lv_at hl 1 rfl) ?_
                refine g_get G X (k := 0) (fs := fM Y) (Nat.le_of_ble_eq_true rfl) (fun _ => rfl) rfl in_X8 8 (by decide) l_f72 rfl (v := .int (iI ((τ 0 8)))) rfl dX8_divides_38 ?_
                refine g_topi (z' := ng P) hMT.2.2.1 ?_
                refine lv_goto (tgt := 52) hx hb dX8_divides_41 (by decide) ?_
                obtain ⟨tp, htp⟩ : ∃ x : Int, x = (if k = 1 then ng P else ng P - k + 1) := ⟨_, rfl⟩
                have htr : tp ≤ ng P ∧ tp = ng P - k + 1 := by rw [htp]; split <;> omega
                refine g_topi (z' := tp) (by rw [htp]; split <;> omega) ?_
                refine lv_istore (lv' := [(4, .int (iI (tp))), (3, .int (iI (ix))), (0, .ref (Y.2.1 (0))), (1, .int (iI (k))), (2, .int (iI (g)))]) hx hb dX8_divides_52 hl (by decide) rfl (fun ls hl => ?_)
                refine lv_aload_n hx hb dX8_divides_54 rfl (lv_at hl 2 rfl) ?_
                refine g_get G X (k := 0) (fs := fM Y) (Nat.le_of_ble_eq_true rfl) (fun _ => rfl) rfl in_X8 20 (by decide) l_f47 rfl (v := .ref (Y.2.1 (13))) rfl dX8_divides_55 ?_
                refine lv_iload_n hx hb dX8_divides_58 rfl (lv_at hl 1 rfl) ?_
                refine lv_lconst (v := lI 1) hx hb dX8_divides_59 (by decide +kernel) ?_
                refine g_last G X (k := 13) (n := 169) (Nat.le_of_ble_eq_true rfl) (fun _ => rfl) (by decide) (z := ix) (v := 1) (by omega) dX8_divides_60 (fun H locs X => ?_)
                have hDa := (divP_up hD hn12 (by omega) hix 1 0).1
                have hFa : Fr 13 14 0 0 τ (up τ 13 ix 1) := Fr.rf.pl (by omega)
                have hcva : (up τ 13 ix 1) 13 ix = 1 := up_same _ _ _ _
                refine lv_iload hx hb dX8_divides_61 (lv_at hl 0 rfl) ?_
                refine lv_istore (lv' := [(5, .int (iI (tp))), (4, .int (iI (tp))), (3, .int (iI (ix))), (0, .ref (Y.2.1 (0))), (1, .int (iI (k))), (2, .int (iI (g)))]) hx hb dX8_divides_63 hl (by decide) rfl (fun ls hl => ?_)
                have lp_65 : ∀ (nn : Nat) (e cv : Int) (ρ : Mem), ∀ he : g ≤ e ∧ e ≤ tp, ∀ hMT : MG ρ P, ∀ hJ : MInv ρ P hs tx ch, ∀ hD : DivP ρ P k g, ∀ hcv : ρ 13 ix = cv, ∀ hcr : -40000000000000000 ≤ cv ∧ cv ≤ 1, ∀ hV : DvI (lvF (ng P) (gW P) (gM P) k g) k (ng P) tp g e cv (ρ 14 ix), ∀ hdec : (e - g) < (nn : Int), ∀ (H : Heap) (locs : List Loc) (ls : Array Slot), wx LM Y ρ ss AA H locs → lv_has ls 8 [(0, .ref (Y.2.1 (0))), (1, .int (iI (k))), (2, .int (iI (g))), (3, .int (iI (ix))), (4, .int (iI (tp))), (5, .int (iI (e)))] → W pp l ee { frames := 1, cells := 0, slots := 0, locals := 25 } ss mm ([.ref (Y.2.1 (0))] : List Value).toArray bw mt cd H locs 0 0 ZZ (F0 mm 65 ls []) := by
                  intro nn
                  induction nn with
                  | zero =>
                    intro e cv ρ he hMT hJ hD hcv hcr hV hdec
                    exact absurd hdec (by omega)
                  | succ nn ih_65 =>
                    intro e cv ρ he hMT hJ hD hcv hcr hV hdec H locs ls X hl
                    refine lv_iload hx hb dX8_divides_65 (lv_at hl 5 rfl) ?_
                    refine lv_iload_n hx hb dX8_divides_67 rfl (lv_at hl 2 rfl) ?_
                    refine g_icmp_le (tgt := 165) G dX8_divides_68 (by decide) (by omega) (by omega) (fun h68 => ?_) (fun h68 => ?_)
                    ·
                      refine lv_iinc (v := iI (g + (-1))) (lv' := [(2, .int (iI ((g + (-1))))), (0, .ref (Y.2.1 (0))), (1, .int (iI (k))), (3, .int (iI (ix))), (4, .int (iI (tp))), (5, .int (iI (e)))]) hx hb dX8_divides_165 hl (k := 2) rfl (iI_add _ _) (by decide) rfl (fun ls hl => ?_)
                      refine lv_goto (tgt := 21) hx hb dX8_divides_168 (by decide) ?_
                      exact ih_21 ((g + (-1))) (ρ) (by omega) hMT hJ (divP_s hD hix (by have e1 := dvI_end hPr (by omega) (by omega) htp (by omega) hV; rw [hcv]; exact e1)) (by omega) _ _ _ X (lv_sub hl [1, 2, 0] rfl)
                    ·
                      refine lv_iload_n hx hb dX8_divides_71 rfl (lv_at hl 1 rfl) ?_
                      refine lv_iconst (v := iI 1) hx hb dX8_divides_72 rfl ?_
                      refine g_icmp_gt (tgt := 85) G dX8_divides_73 (by decide) (by omega) (by omega) (fun h73 => ?_) (fun h73 => ?_)
                      ·
                        refine lv_aload_n hx hb dX8_divides_85 rfl (lv_at hl 0 rfl) ?_
                        refine lv_iload_n hx hb dX8_divides_86 rfl (lv_at hl 2 rfl) ?_
                        refine lv_iload hx hb dX8_divides_87 (lv_at hl 5 rfl) ?_
                        refine g_callVl G X (rest := []) (As := [.int (iI (g)), .int (iI (e))]) (t_X8_part l Y (ρ) P (g) (e) hMT (by first | assumption | omega)) (cwV 2 hts gX8_divides_X8_part rfl rfl rfl (by decide +kernel) ⟨Nat.le_of_ble_eq_true rfl, Nat.le_of_ble_eq_true rfl⟩) (k := 0) (Nat.le_of_ble_eq_true rfl) rfl rfl rfl rfl hl.1 rfl (Nat.le_of_ble_eq_true rfl) dX8_divides_89 ⟨Nat.le_refl _, Nat.le_refl _⟩ (fun z89 u89 H locs hq89 X => ?_)
                        rw [hq89.1] at X
                        have hq89 := hq89.2
                        try dsimp only at hq89
                        have hzr := hq89.2
                        obtain ⟨ev, hev⟩ : ∃ x : Int, x = -((lvF (ng P) (gW P) (gM P) k g) (e - 1)) := ⟨_, rfl⟩
                        have hlr := lvF_rg hPr (k := k) (g := g) (l := e - 1) (by omega) (by omega) (by omega)
                        refine lv_iload_n hx hb dX8_divides_92 rfl (lv_at hl 1 rfl) ?_
                        refine lv_iconst (v := iI 1) hx hb dX8_divides_93 rfl ?_
                        refine g_icmp_le (tgt := 114) G dX8_divides_94 (by decide) (by omega) (by omega) (fun h94 => ?_) (fun h94 => ?_)
                        ·
                          refine lv_lconst (v := lI 0) hx hb dX8_divides_114 (by decide +kernel) ?_
                          refine g_ladd G dX8_divides_115 ?_
                          refine g_topl (z' := ev) (by rw [hev, hq89.1]; first | (rw [lvF_k (by omega), show e - 1 + 1 = e by omega]; omega) | (rw [show k = 1 by omega, lvF_1]; omega)) ?_
                          refine lv_lstore (lv' := [(6, .long (lI (ev))), (0, .ref (Y.2.1 (0))), (1, .int (iI (k))), (2, .int (iI (g))), (3, .int (iI (ix))), (4, .int (iI (tp))), (5, .int (iI (e)))]) hx hb dX8_divides_116 hl (by decide) rfl (fun ls hl => ?_)
                          refine lv_aload_n hx hb dX8_divides_118 rfl (lv_at hl 1 rfl) ?_
                          refine g_get G X (k := 0) (fs := fM Y) (Nat.le_of_ble_eq_true rfl) (fun _ => rfl) rfl in_X8 20 (by decide) l_f47 rfl (v := .ref (Y.2.1 (13))) rfl dX8_divides_119 ?_
                          refine lv_iload_n hx hb dX8_divides_122 rfl (lv_at hl 4 rfl) ?_
                          refine g_lald G X (k := 13) (n := 169) (Nat.le_of_ble_eq_true rfl) (fun _ => rfl) (by decide) (z := ix) (by omega) dX8_divides_123 ?_
                          refine g_topl (z' := cv) hcv ?_
                          refine lv_lconst (v := lI 0) hx hb dX8_divides_124 (by decide +kernel) ?_
                          refine g_lif_gt (tgt := 141) G dX8_divides_125 dX8_divides_126 (by decide) (by omega) (by omega) (fun h125 => ?_) (fun h125 => ?_)
                          ·
                            refine lv_aload_n hx hb dX8_divides_141 rfl (lv_at hl 1 rfl) ?_
                            refine g_get G X (k := 0) (fs := fM Y) (Nat.le_of_ble_eq_true rfl) (fun _ => rfl) rfl in_X8 20 (by decide) l_f47 rfl (v := .ref (Y.2.1 (13))) rfl dX8_divides_142 ?_
                            refine lv_iload_n hx hb dX8_divides_145 rfl (lv_at hl 4 rfl) ?_
                            refine lv_lload hx hb dX8_divides_146 (lv_at hl 0 rfl) ?_
                            refine g_last G X (k := 13) (n := 169) (Nat.le_of_ble_eq_true rfl) (fun _ => rfl) (by decide) (z := ix) (v := ev) (by omega) dX8_divides_148 (fun H locs X => ?_)
                            refine lv_aload_n hx hb dX8_divides_149 rfl (lv_at hl 1 rfl) ?_
                            refine g_get G X (k := 0) (fs := fM Y) (Nat.le_of_ble_eq_true rfl) (fun _ => rfl) rfl in_X8 21 (by decide) l_f51 rfl (v := .ref (Y.2.1 (14))) rfl dX8_divides_150 ?_
                            refine lv_iload_n hx hb dX8_divides_153 rfl (lv_at hl 4 rfl) ?_
                            refine lv_iload hx hb dX8_divides_154 (lv_at hl 6 rfl) ?_
                            refine lv_iload_n hx hb dX8_divides_156 rfl (lv_at hl 3 rfl) ?_
                            refine g_isub G dX8_divides_157 ?_
                            refine g_iast G X (k := 14) (n := 169) (Nat.le_of_ble_eq_true rfl) (fun _ => rfl) (by decide) (z := ix) (v := (e - g)) (by omega) dX8_divides_158 (fun H locs X => ?_)
                            have hF5 : Fr 13 14 0 0 ρ (up (up ρ 13 ix ev) 14 ix (e - g)) := (Fr.rf.pl (by omega)).pl (by omega)
                            have hMT2 := hMT.fr hF5 (by omega) (by omega)
                            have hJ2 := hJ.keep (hF5.C (by omega) (by omega))
                            have hD2 := (divP_up hD hn12 (by omega) hix ev (e - g)).2
                            have hcv2 : (up (up ρ 13 ix ev) 14 ix (e - g)) 13 ix = ev := by rw [up_ne (by omega), up_same]
                            have hcr2 : -40000000000000000 ≤ ev ∧ ev ≤ 1 := by omega
                            have hV2 := dvI_take hV (by omega) (by omega) hev (fun i i0 i1 => (lvF_rg hPr (k := k) (g := g) (l := i) (by omega) (by omega) (by omega)).1) (by omega)
                            have hln2 : (up (up ρ 13 ix ev) 14 ix (e - g)) 14 ix = e - g := up_same _ _ _ _
                            rw [← hln2] at hV2
                            refine lv_iinc (v := iI (e + (-1))) (lv' := [(5, .int (iI ((e + (-1))))), (6, .long (lI (ev))), (0, .ref (Y.2.1 (0))), (1, .int (iI (k))), (2, .int (iI (g))), (3, .int (iI (ix))), (4, .int (iI (tp)))]) hx hb dX8_divides_159 hl (k := 6) rfl (iI_add _ _) (by decide) rfl (fun ls hl => ?_)
                            refine lv_goto (tgt := 65) hx hb dX8_divides_162 (by decide) ?_
                            exact ih_65 ((e + (-1))) _ ((up (up ρ 13 ix ev) 14 ix (e - g))) (by omega) hMT2 hJ2 hD2 hcv2 hcr2 hV2 (by omega) _ _ _ X (lv_sub hl [2, 3, 4, 5, 6, 0] rfl)
                          ·
                            refine lv_lload hx hb dX8_divides_129 (lv_at hl 0 rfl) ?_
                            refine lv_aload_n hx hb dX8_divides_131 rfl (lv_at hl 1 rfl) ?_
                            refine g_get G X (k := 0) (fs := fM Y) (Nat.le_of_ble_eq_true rfl) (fun _ => rfl) rfl in_X8 20 (by decide) l_f47 rfl (v := .ref (Y.2.1 (13))) rfl dX8_divides_132 ?_
                            refine lv_iload_n hx hb dX8_divides_135 rfl (lv_at hl 4 rfl) ?_
                            refine g_lald G X (k := 13) (n := 169) (Nat.le_of_ble_eq_true rfl) (fun _ => rfl) (by decide) (z := ix) (by omega) dX8_divides_136 ?_
                            refine g_topl (z' := cv) hcv ?_
                            refine g_lif_ge (tgt := 159) G dX8_divides_137 dX8_divides_138 (by decide) (by omega) (by omega) (fun h137 => ?_) (fun h137 => ?_)
                            ·
                              have hMT2 := hMT
                              have hJ2 := hJ
                              have hD2 := hD
                              have hcv2 := hcv
                              have hcr2 := hcr
                              have hV2 := dvI_keep hV hev (by omega)
                              refine lv_iinc (v := iI (e + (-1))) (lv' := [(5, .int (iI ((e + (-1))))), (6, .long (lI (ev))), (0, .ref (Y.2.1 (0))), (1, .int (iI (k))), (2, .int (iI (g))), (3, .int (iI (ix))), (4, .int (iI (tp)))]) hx hb dX8_divides_159 hl (k := 6) rfl (iI_add _ _) (by decide) rfl (fun ls hl => ?_)
                              refine lv_goto (tgt := 65) hx hb dX8_divides_162 (by decide) ?_
                              exact ih_65 ((e + (-1))) _ (ρ) (by omega) hMT2 hJ2 hD2 hcv2 hcr2 hV2 (by omega) _ _ _ X (lv_sub hl [2, 3, 4, 5, 6, 0] rfl)
                            ·
                              refine lv_aload_n hx hb dX8_divides_141 rfl (lv_at hl 1 rfl) ?_
                              refine g_get G X (k := 0) (fs := fM Y) (Nat.le_of_ble_eq_true rfl) (fun _ => rfl) rfl in_X8 20 (by decide) l_f47 rfl (v := .ref (Y.2.1 (13))) rfl dX8_divides_142 ?_
                              refine lv_iload_n hx hb dX8_divides_145 rfl (lv_at hl 4 rfl) ?_
                              refine lv_lload hx hb dX8_divides_146 (lv_at hl 0 rfl) ?_
                              refine g_last G X (k := 13) (n := 169) (Nat.le_of_ble_eq_true rfl) (fun _ => rfl) (by decide) (z := ix) (v := ev) (by omega) dX8_divides_148 (fun H locs X => ?_)
                              refine lv_aload_n hx hb dX8_divides_149 rfl (lv_at hl 1 rfl) ?_
                              refine g_get G X (k := 0) (fs := fM Y) (Nat.le_of_ble_eq_true rfl) (fun _ => rfl) rfl in_X8 21 (by decide) l_f51 rfl (v := .ref (Y.2.1 (14))) rfl dX8_divides_150 ?_
                              refine lv_iload_n hx hb dX8_divides_153 rfl (lv_at hl 4 rfl) ?_
                              refine lv_iload hx hb dX8_divides_154 (lv_at hl 6 rfl) ?_
                              refine lv_iload_n hx hb dX8_divides_156 rfl (lv_at hl 3 rfl) ?_
                              refine g_isub G dX8_divides_157 ?_
                              refine g_iast G X (k := 14) (n := 169) (Nat.le_of_ble_eq_true rfl) (fun _ => rfl) (by decide) (z := ix) (v := (e - g)) (by omega) dX8_divides_158 (fun H locs X => ?_)
                              have hF5 : Fr 13 14 0 0 ρ (up (up ρ 13 ix ev) 14 ix (e - g)) := (Fr.rf.pl (by omega)).pl (by omega)
                              have hMT2 := hMT.fr hF5 (by omega) (by omega)
                              have hJ2 := hJ.keep (hF5.C (by omega) (by omega))
                              have hD2 := (divP_up hD hn12 (by omega) hix ev (e - g)).2
                              have hcv2 : (up (up ρ 13 ix ev) 14 ix (e - g)) 13 ix = ev := by rw [up_ne (by omega), up_same]
                              have hcr2 : -40000000000000000 ≤ ev ∧ ev ≤ 1 := by omega
                              have hV2 := dvI_take hV (by omega) (by omega) hev (fun i i0 i1 => (lvF_rg hPr (k := k) (g := g) (l := i) (by omega) (by omega) (by omega)).1) (by omega)
                              have hln2 : (up (up ρ 13 ix ev) 14 ix (e - g)) 14 ix = e - g := up_same _ _ _ _
                              rw [← hln2] at hV2
                              refine lv_iinc (v := iI (e + (-1))) (lv' := [(5, .int (iI ((e + (-1))))), (6, .long (lI (ev))), (0, .ref (Y.2.1 (0))), (1, .int (iI (k))), (2, .int (iI (g))), (3, .int (iI (ix))), (4, .int (iI (tp)))]) hx hb dX8_divides_159 hl (k := 6) rfl (iI_add _ _) (by decide) rfl (fun ls hl => ?_)
                              refine lv_goto (tgt := 65) hx hb dX8_divides_162 (by decide) ?_
                              exact ih_65 ((e + (-1))) _ ((up (up ρ 13 ix ev) 14 ix (e - g))) (by omega) hMT2 hJ2 hD2 hcv2 hcr2 hV2 (by omega) _ _ _ X (lv_sub hl [2, 3, 4, 5, 6, 0] rfl)
                        ·
                          refine lv_aload_n hx hb dX8_divides_97 rfl (lv_at hl 0 rfl) ?_
                          refine g_get G X (k := 0) (fs := fM Y) (Nat.le_of_ble_eq_true rfl) (fun _ => rfl) rfl in_X8 20 (by decide) l_f47 rfl (v := .ref (Y.2.1 (13))) rfl dX8_divides_98 ?_
                          refine lv_bipush (v := iI 13) hx hb dX8_divides_101 (by decide +kernel) ?_
                          refine lv_iload_n hx hb dX8_divides_103 rfl (lv_at hl 1 rfl) ?_
                          refine lv_iconst (v := iI 1) hx hb dX8_divides_104 rfl ?_
                          refine g_isub G dX8_divides_105 ?_
                          refine g_imul G dX8_divides_106 ?_
                          refine lv_iload hx hb dX8_divides_107 (lv_at hl 5 rfl) ?_
                          refine g_iadd G dX8_divides_109 ?_
                          refine g_lald G X (k := 13) (n := 169) (Nat.le_of_ble_eq_true rfl) (fun _ => rfl) (by decide) (z := ((13 * (k - 1)) + e)) (by omega) dX8_divides_110 ?_
                          refine g_topl (z' := -(lvG (ng P) (gW P) (gM P) (k - 1).toNat e).1) (by rw [show 13 * (k - 1) + e = 13 * (k - 1) + e from rfl]; exact (hD (k - 1) e (by omega) (by omega) (by omega) (by omega)).1) ?_
                          refine lv_goto (tgt := 115) hx hb dX8_divides_111 (by decide) ?_
                          refine g_ladd G dX8_divides_115 ?_
                          refine g_topl (z' := ev) (by rw [hev, hq89.1]; first | (rw [lvF_k (by omega), show e - 1 + 1 = e by omega]; omega) | (rw [show k = 1 by omega, lvF_1]; omega)) ?_
                          refine lv_lstore (lv' := [(6, .long (lI (ev))), (0, .ref (Y.2.1 (0))), (1, .int (iI (k))), (2, .int (iI (g))), (3, .int (iI (ix))), (4, .int (iI (tp))), (5, .int (iI (e)))]) hx hb dX8_divides_116 hl (by decide) rfl (fun ls hl => ?_)
                          refine lv_aload_n hx hb dX8_divides_118 rfl (lv_at hl 1 rfl) ?_
                          refine g_get G X (k := 0) (fs := fM Y) (Nat.le_of_ble_eq_true rfl) (fun _ => rfl) rfl in_X8 20 (by decide) l_f47 rfl (v := .ref (Y.2.1 (13))) rfl dX8_divides_119 ?_
                          refine lv_iload_n hx hb dX8_divides_122 rfl (lv_at hl 4 rfl) ?_
                          refine g_lald G X (k := 13) (n := 169) (Nat.le_of_ble_eq_true rfl) (fun _ => rfl) (by decide) (z := ix) (by omega) dX8_divides_123 ?_
                          refine g_topl (z' := cv) hcv ?_
                          refine lv_lconst (v := lI 0) hx hb dX8_divides_124 (by decide +kernel) ?_
                          refine g_lif_gt (tgt := 141) G dX8_divides_125 dX8_divides_126 (by decide) (by omega) (by omega) (fun h125 => ?_) (fun h125 => ?_)
                          ·
                            refine lv_aload_n hx hb dX8_divides_141 rfl (lv_at hl 1 rfl) ?_
                            refine g_get G X (k := 0) (fs := fM Y) (Nat.le_of_ble_eq_true rfl) (fun _ => rfl) rfl in_X8 20 (by decide) l_f47 rfl (v := .ref (Y.2.1 (13))) rfl dX8_divides_142 ?_
                            refine lv_iload_n hx hb dX8_divides_145 rfl (lv_at hl 4 rfl) ?_
                            refine lv_lload hx hb dX8_divides_146 (lv_at hl 0 rfl) ?_
                            refine g_last G X (k := 13) (n := 169) (Nat.le_of_ble_eq_true rfl) (fun _ => rfl) (by decide) (z := ix) (v := ev) (by omega) dX8_divides_148 (fun H locs X => ?_)
                            refine lv_aload_n hx hb dX8_divides_149 rfl (lv_at hl 1 rfl) ?_
                            refine g_get G X (k := 0) (fs := fM Y) (Nat.le_of_ble_eq_true rfl) (fun _ => rfl) rfl in_X8 21 (by decide) l_f51 rfl (v := .ref (Y.2.1 (14))) rfl dX8_divides_150 ?_
                            refine lv_iload_n hx hb dX8_divides_153 rfl (lv_at hl 4 rfl) ?_
                            refine lv_iload hx hb dX8_divides_154 (lv_at hl 6 rfl) ?_
                            refine lv_iload_n hx hb dX8_divides_156 rfl (lv_at hl 3 rfl) ?_
                            refine g_isub G dX8_divides_157 ?_
                            refine g_iast G X (k := 14) (n := 169) (Nat.le_of_ble_eq_true rfl) (fun _ => rfl) (by decide) (z := ix) (v := (e - g)) (by omega) dX8_divides_158 (fun H locs X => ?_)
                            have hF5 : Fr 13 14 0 0 ρ (up (up ρ 13 ix ev) 14 ix (e - g)) := (Fr.rf.pl (by omega)).pl (by omega)
                            have hMT2 := hMT.fr hF5 (by omega) (by omega)
                            have hJ2 := hJ.keep (hF5.C (by omega) (by omega))
                            have hD2 := (divP_up hD hn12 (by omega) hix ev (e - g)).2
                            have hcv2 : (up (up ρ 13 ix ev) 14 ix (e - g)) 13 ix = ev := by rw [up_ne (by omega), up_same]
                            have hcr2 : -40000000000000000 ≤ ev ∧ ev ≤ 1 := by omega
                            have hV2 := dvI_take hV (by omega) (by omega) hev (fun i i0 i1 => (lvF_rg hPr (k := k) (g := g) (l := i) (by omega) (by omega) (by omega)).1) (by omega)
                            have hln2 : (up (up ρ 13 ix ev) 14 ix (e - g)) 14 ix = e - g := up_same _ _ _ _
                            rw [← hln2] at hV2
                            refine lv_iinc (v := iI (e + (-1))) (lv' := [(5, .int (iI ((e + (-1))))), (6, .long (lI (ev))), (0, .ref (Y.2.1 (0))), (1, .int (iI (k))), (2, .int (iI (g))), (3, .int (iI (ix))), (4, .int (iI (tp)))]) hx hb dX8_divides_159 hl (k := 6) rfl (iI_add _ _) (by decide) rfl (fun ls hl => ?_)
                            refine lv_goto (tgt := 65) hx hb dX8_divides_162 (by decide) ?_
                            exact ih_65 ((e + (-1))) _ ((up (up ρ 13 ix ev) 14 ix (e - g))) (by omega) hMT2 hJ2 hD2 hcv2 hcr2 hV2 (by omega) _ _ _ X (lv_sub hl [2, 3, 4, 5, 6, 0] rfl)
                          ·
                            refine lv_lload hx hb dX8_divides_129 (lv_at hl 0 rfl) ?_
                            refine lv_aload_n hx hb dX8_divides_131 rfl (lv_at hl 1 rfl) ?_
                            refine g_get G X (k := 0) (fs := fM Y) (Nat.le_of_ble_eq_true rfl) (fun _ => rfl) rfl in_X8 20 (by decide) l_f47 rfl (v := .ref (Y.2.1 (13))) rfl dX8_divides_132 ?_
                            refine lv_iload_n hx hb dX8_divides_135 rfl (lv_at hl 4 rfl) ?_
                            refine g_lald G X (k := 13) (n := 169) (Nat.le_of_ble_eq_true rfl) (fun _ => rfl) (by decide) (z := ix) (by omega) dX8_divides_136 ?_
                            refine g_topl (z' := cv) hcv ?_
                            refine g_lif_ge (tgt := 159) G dX8_divides_137 dX8_divides_138 (by decide) (by omega) (by omega) (fun h137 => ?_) (fun h137 => ?_)
                            ·
                              have hMT2 := hMT
                              have hJ2 := hJ
                              have hD2 := hD
                              have hcv2 := hcv
                              have hcr2 := hcr
                              have hV2 := dvI_keep hV hev (by omega)
                              refine lv_iinc (v := iI (e + (-1))) (lv' := [(5, .int (iI ((e + (-1))))), (6, .long (lI (ev))), (0, .ref (Y.2.1 (0))), (1, .int (iI (k))), (2, .int (iI (g))), (3, .int (iI (ix))), (4, .int (iI (tp)))]) hx hb dX8_divides_159 hl (k := 6) rfl (iI_add _ _) (by decide) rfl (fun ls hl => ?_)
                              refine lv_goto (tgt := 65) hx hb dX8_divides_162 (by decide) ?_
                              exact ih_65 ((e + (-1))) _ (ρ) (by omega) hMT2 hJ2 hD2 hcv2 hcr2 hV2 (by omega) _ _ _ X (lv_sub hl [2, 3, 4, 5, 6, 0] rfl)
                            ·
                              refine lv_aload_n hx hb dX8_divides_141 rfl (lv_at hl 1 rfl) ?_
                              refine g_get G X (k := 0) (fs := fM Y) (Nat.le_of_ble_eq_true rfl) (fun _ => rfl) rfl in_X8 20 (by decide) l_f47 rfl (v := .ref (Y.2.1 (13))) rfl dX8_divides_142 ?_
                              refine lv_iload_n hx hb dX8_divides_145 rfl (lv_at hl 4 rfl) ?_
                              refine lv_lload hx hb dX8_divides_146 (lv_at hl 0 rfl) ?_
                              refine g_last G X (k := 13) (n := 169) (Nat.le_of_ble_eq_true rfl) (fun _ => rfl) (by decide) (z := ix) (v := ev) (by omega) dX8_divides_148 (fun H locs X => ?_)
                              refine lv_aload_n hx hb dX8_divides_149 rfl (lv_at hl 1 rfl) ?_
                              refine g_get G X (k := 0) (fs := fM Y) (Nat.le_of_ble_eq_true rfl) (fun _ => rfl) rfl in_X8 21 (by decide) l_f51 rfl (v := .ref (Y.2.1 (14))) rfl dX8_divides_150 ?_
                              refine lv_iload_n hx hb dX8_divides_153 rfl (lv_at hl 4 rfl) ?_
                              refine lv_iload hx hb dX8_divides_154 (lv_at hl 6 rfl) ?_
                              refine lv_iload_n hx hb dX8_divides_156 rfl (lv_at hl 3 rfl) ?_
                              refine g_isub G dX8_divides_157 ?_
                              refine g_iast G X (k := 14) (n := 169) (Nat.le_of_ble_eq_true rfl) (fun _ => rfl) (by decide) (z := ix) (v := (e - g)) (by omega) dX8_divides_158 (fun H locs X => ?_)
                              have hF5 : Fr 13 14 0 0 ρ (up (up ρ 13 ix ev) 14 ix (e - g)) := (Fr.rf.pl (by omega)).pl (by omega)
                              have hMT2 := hMT.fr hF5 (by omega) (by omega)
                              have hJ2 := hJ.keep (hF5.C (by omega) (by omega))
                              have hD2 := (divP_up hD hn12 (by omega) hix ev (e - g)).2
                              have hcv2 : (up (up ρ 13 ix ev) 14 ix (e - g)) 13 ix = ev := by rw [up_ne (by omega), up_same]
                              have hcr2 : -40000000000000000 ≤ ev ∧ ev ≤ 1 := by omega
                              have hV2 := dvI_take hV (by omega) (by omega) hev (fun i i0 i1 => (lvF_rg hPr (k := k) (g := g) (l := i) (by omega) (by omega) (by omega)).1) (by omega)
                              have hln2 : (up (up ρ 13 ix ev) 14 ix (e - g)) 14 ix = e - g := up_same _ _ _ _
                              rw [← hln2] at hV2
                              refine lv_iinc (v := iI (e + (-1))) (lv' := [(5, .int (iI ((e + (-1))))), (6, .long (lI (ev))), (0, .ref (Y.2.1 (0))), (1, .int (iI (k))), (2, .int (iI (g))), (3, .int (iI (ix))), (4, .int (iI (tp)))]) hx hb dX8_divides_159 hl (k := 6) rfl (iI_add _ _) (by decide) rfl (fun ls hl => ?_)
                              refine lv_goto (tgt := 65) hx hb dX8_divides_162 (by decide) ?_
                              exact ih_65 ((e + (-1))) _ ((up (up ρ 13 ix ev) 14 ix (e - g))) (by omega) hMT2 hJ2 hD2 hcv2 hcr2 hV2 (by omega) _ _ _ X (lv_sub hl [2, 3, 4, 5, 6, 0] rfl)
                      ·
                        refine lv_iload hx hb dX8_divides_76 (lv_at hl 5 rfl) ?_
                        refine lv_aload_n hx hb dX8_divides_78 rfl (lv_at hl 0 rfl) ?_
                        refine g_get G X (k := 0) (fs := fM Y) (Nat.le_of_ble_eq_true rfl) (fun _ => rfl) rfl in_X8 8 (by decide) l_f72 rfl (v := .int (iI ((ρ 0 8)))) rfl dX8_divides_79 ?_
                        refine g_topi (z' := ng P) hMT.2.2.1 ?_
                        refine g_icmp_ne (tgt := 159) G dX8_divides_82 (by decide) (by omega) (by omega) (fun h82 => ?_) (fun h82 => ?_)
                        ·
                          have hMT2 := hMT
                          have hJ2 := hJ
                          have hD2 := hD
                          have hcv2 := hcv
                          have hcr2 := hcr
                          have hV2 := dvI_skip hV (by omega) (by omega)
                          refine lv_iinc (v := iI (e + (-1))) (lv' := [(5, .int (iI ((e + (-1))))), (0, .ref (Y.2.1 (0))), (1, .int (iI (k))), (2, .int (iI (g))), (3, .int (iI (ix))), (4, .int (iI (tp)))]) hx hb dX8_divides_159 hl (k := 5) rfl (iI_add _ _) (by decide) rfl (fun ls hl => ?_)
                          refine lv_goto (tgt := 65) hx hb dX8_divides_162 (by decide) ?_
                          exact ih_65 ((e + (-1))) _ (ρ) (by omega) hMT2 hJ2 hD2 hcv2 hcr2 hV2 (by omega) _ _ _ X (lv_sub hl [1, 2, 3, 4, 5, 0] rfl)
                        ·
                          refine lv_aload_n hx hb dX8_divides_85 rfl (lv_at hl 0 rfl) ?_
                          refine lv_iload_n hx hb dX8_divides_86 rfl (lv_at hl 2 rfl) ?_
                          refine lv_iload hx hb dX8_divides_87 (lv_at hl 5 rfl) ?_
                          refine g_callVl G X (rest := []) (As := [.int (iI (g)), .int (iI (e))]) (t_X8_part l Y (ρ) P (g) (e) hMT (by first | assumption | omega)) (cwV 2 hts gX8_divides_X8_part rfl rfl rfl (by decide +kernel) ⟨Nat.le_of_ble_eq_true rfl, Nat.le_of_ble_eq_true rfl⟩) (k := 0) (Nat.le_of_ble_eq_true rfl) rfl rfl rfl rfl hl.1 rfl (Nat.le_of_ble_eq_true rfl) dX8_divides_89 ⟨Nat.le_refl _, Nat.le_refl _⟩ (fun z89 u89 H locs hq89 X => ?_)
                          rw [hq89.1] at X
                          have hq89 := hq89.2
                          try dsimp only at hq89
                          have hzr := hq89.2
                          obtain ⟨ev, hev⟩ : ∃ x : Int, x = -((lvF (ng P) (gW P) (gM P) k g) (e - 1)) := ⟨_, rfl⟩
                          have hlr := lvF_rg hPr (k := k) (g := g) (l := e - 1) (by omega) (by omega) (by omega)
                          refine lv_iload_n hx hb dX8_divides_92 rfl (lv_at hl 1 rfl) ?_
                          refine lv_iconst (v := iI 1) hx hb dX8_divides_93 rfl ?_
                          refine g_icmp_le (tgt := 114) G dX8_divides_94 (by decide) (by omega) (by omega) (fun h94 => ?_) (fun h94 => ?_)
                          ·
                            refine lv_lconst (v := lI 0) hx hb dX8_divides_114 (by decide +kernel) ?_
                            refine g_ladd G dX8_divides_115 ?_
                            refine g_topl (z' := ev) (by rw [hev, hq89.1]; first | (rw [lvF_k (by omega), show e - 1 + 1 = e by omega]; omega) | (rw [show k = 1 by omega, lvF_1]; omega)) ?_
                            refine lv_lstore (lv' := [(6, .long (lI (ev))), (0, .ref (Y.2.1 (0))), (1, .int (iI (k))), (2, .int (iI (g))), (3, .int (iI (ix))), (4, .int (iI (tp))), (5, .int (iI (e)))]) hx hb dX8_divides_116 hl (by decide) rfl (fun ls hl => ?_)
                            refine lv_aload_n hx hb dX8_divides_118 rfl (lv_at hl 1 rfl) ?_
                            refine g_get G X (k := 0) (fs := fM Y) (Nat.le_of_ble_eq_true rfl) (fun _ => rfl) rfl in_X8 20 (by decide) l_f47 rfl (v := .ref (Y.2.1 (13))) rfl dX8_divides_119 ?_
                            refine lv_iload_n hx hb dX8_divides_122 rfl (lv_at hl 4 rfl) ?_
                            refine g_lald G X (k := 13) (n := 169) (Nat.le_of_ble_eq_true rfl) (fun _ => rfl) (by decide) (z := ix) (by omega) dX8_divides_123 ?_
                            refine g_topl (z' := cv) hcv ?_
                            refine lv_lconst (v := lI 0) hx hb dX8_divides_124 (by decide +kernel) ?_
                            refine g_lif_gt (tgt := 141) G dX8_divides_125 dX8_divides_126 (by decide) (by omega) (by omega) (fun h125 => ?_) (fun h125 => ?_)
                            ·
                              refine lv_aload_n hx hb dX8_divides_141 rfl (lv_at hl 1 rfl) ?_
                              refine g_get G X (k := 0) (fs := fM Y) (Nat.le_of_ble_eq_true rfl) (fun _ => rfl) rfl in_X8 20 (by decide) l_f47 rfl (v := .ref (Y.2.1 (13))) rfl dX8_divides_142 ?_
                              refine lv_iload_n hx hb dX8_divides_145 rfl (lv_at hl 4 rfl) ?_
                              refine lv_lload hx hb dX8_divides_146 (lv_at hl 0 rfl) ?_
                              refine g_last G X (k := 13) (n := 169) (Nat.le_of_ble_eq_true rfl) (fun _ => rfl) (by decide) (z := ix) (v := ev) (by omega) dX8_divides_148 (fun H locs X => ?_)
                              refine lv_aload_n hx hb dX8_divides_149 rfl (lv_at hl 1 rfl) ?_
                              refine g_get G X (k := 0) (fs := fM Y) (Nat.le_of_ble_eq_true rfl) (fun _ => rfl) rfl in_X8 21 (by decide) l_f51 rfl (v := .ref (Y.2.1 (14))) rfl dX8_divides_150 ?_
                              refine lv_iload_n hx hb dX8_divides_153 rfl (lv_at hl 4 rfl) ?_
                              refine lv_iload hx hb dX8_divides_154 (lv_at hl 6 rfl) ?_
                              refine lv_iload_n hx hb dX8_divides_156 rfl (lv_at hl 3 rfl) ?_
                              refine g_isub G dX8_divides_157 ?_
                              refine g_iast G X (k := 14) (n := 169) (Nat.le_of_ble_eq_true rfl) (fun _ => rfl) (by decide) (z := ix) (v := (e - g)) (by omega) dX8_divides_158 (fun H locs X => ?_)
                              have hF5 : Fr 13 14 0 0 ρ (up (up ρ 13 ix ev) 14 ix (e - g)) := (Fr.rf.pl (by omega)).pl (by omega)
                              have hMT2 := hMT.fr hF5 (by omega) (by omega)
                              have hJ2 := hJ.keep (hF5.C (by omega) (by omega))
                              have hD2 := (divP_up hD hn12 (by omega) hix ev (e - g)).2
                              have hcv2 : (up (up ρ 13 ix ev) 14 ix (e - g)) 13 ix = ev := by rw [up_ne (by omega), up_same]
                              have hcr2 : -40000000000000000 ≤ ev ∧ ev ≤ 1 := by omega
                              have hV2 := dvI_take hV (by omega) (by omega) hev (fun i i0 i1 => (lvF_rg hPr (k := k) (g := g) (l := i) (by omega) (by omega) (by omega)).1) (by omega)
                              have hln2 : (up (up ρ 13 ix ev) 14 ix (e - g)) 14 ix = e - g := up_same _ _ _ _
                              rw [← hln2] at hV2
                              refine lv_iinc (v := iI (e + (-1))) (lv' := [(5, .int (iI ((e + (-1))))), (6, .long (lI (ev))), (0, .ref (Y.2.1 (0))), (1, .int (iI (k))), (2, .int (iI (g))), (3, .int (iI (ix))), (4, .int (iI (tp)))]) hx hb dX8_divides_159 hl (k := 6) rfl (iI_add _ _) (by decide) rfl (fun ls hl => ?_)
                              refine lv_goto (tgt := 65) hx hb dX8_divides_162 (by decide) ?_
                              exact ih_65 ((e + (-1))) _ ((up (up ρ 13 ix ev) 14 ix (e - g))) (by omega) hMT2 hJ2 hD2 hcv2 hcr2 hV2 (by omega) _ _ _ X (lv_sub hl [2, 3, 4, 5, 6, 0] rfl)
                            ·
                              refine lv_lload hx hb dX8_divides_129 (lv_at hl 0 rfl) ?_
                              refine lv_aload_n hx hb dX8_divides_131 rfl (lv_at hl 1 rfl) ?_
                              refine g_get G X (k := 0) (fs := fM Y) (Nat.le_of_ble_eq_true rfl) (fun _ => rfl) rfl in_X8 20 (by decide) l_f47 rfl (v := .ref (Y.2.1 (13))) rfl dX8_divides_132 ?_
                              refine lv_iload_n hx hb dX8_divides_135 rfl (lv_at hl 4 rfl) ?_
                              refine g_lald G X (k := 13) (n := 169) (Nat.le_of_ble_eq_true rfl) (fun _ => rfl) (by decide) (z := ix) (by omega) dX8_divides_136 ?_
                              refine g_topl (z' := cv) hcv ?_
                              refine g_lif_ge (tgt := 159) G dX8_divides_137 dX8_divides_138 (by decide) (by omega) (by omega) (fun h137 => ?_) (fun h137 => ?_)
                              ·
                                have hMT2 := hMT
                                have hJ2 := hJ
                                have hD2 := hD
                                have hcv2 := hcv
                                have hcr2 := hcr
                                have hV2 := dvI_keep hV hev (by omega)
                                refine lv_iinc (v := iI (e + (-1))) (lv' := [(5, .int (iI ((e + (-1))))), (6, .long (lI (ev))), (0, .ref (Y.2.1 (0))), (1, .int (iI (k))), (2, .int (iI (g))), (3, .int (iI (ix))), (4, .int (iI (tp)))]) hx hb dX8_divides_159 hl (k := 6) rfl (iI_add _ _) (by decide) rfl (fun ls hl => ?_)
                                refine lv_goto (tgt := 65) hx hb dX8_divides_162 (by decide) ?_
                                exact ih_65 ((e + (-1))) _ (ρ) (by omega) hMT2 hJ2 hD2 hcv2 hcr2 hV2 (by omega) _ _ _ X (lv_sub hl [2, 3, 4, 5, 6, 0] rfl)
                              ·
                                refine lv_aload_n hx hb dX8_divides_141 rfl (lv_at hl 1 rfl) ?_
                                refine g_get G X (k := 0) (fs := fM Y) (Nat.le_of_ble_eq_true rfl) (fun _ => rfl) rfl in_X8 20 (by decide) l_f47 rfl (v := .ref (Y.2.1 (13))) rfl dX8_divides_142 ?_
                                refine lv_iload_n hx hb dX8_divides_145 rfl (lv_at hl 4 rfl) ?_
                                refine lv_lload hx hb dX8_divides_146 (lv_at hl 0 rfl) ?_
                                refine g_last G X (k := 13) (n := 169) (Nat.le_of_ble_eq_true rfl) (fun _ => rfl) (by decide) (z := ix) (v := ev) (by omega) dX8_divides_148 (fun H locs X => ?_)
                                refine lv_aload_n hx hb dX8_divides_149 rfl (lv_at hl 1 rfl) ?_
                                refine g_get G X (k := 0) (fs := fM Y) (Nat.le_of_ble_eq_true rfl) (fun _ => rfl) rfl in_X8 21 (by decide) l_f51 rfl (v := .ref (Y.2.1 (14))) rfl dX8_divides_150 ?_
                                refine lv_iload_n hx hb dX8_divides_153 rfl (lv_at hl 4 rfl) ?_
                                refine lv_iload hx hb dX8_divides_154 (lv_at hl 6 rfl) ?_
                                refine lv_iload_n hx hb dX8_divides_156 rfl (lv_at hl 3 rfl) ?_
                                refine g_isub G dX8_divides_157 ?_
                                refine g_iast G X (k := 14) (n := 169) (Nat.le_of_ble_eq_true rfl) (fun _ => rfl) (by decide) (z := ix) (v := (e - g)) (by omega) dX8_divides_158 (fun H locs X => ?_)
                                have hF5 : Fr 13 14 0 0 ρ (up (up ρ 13 ix ev) 14 ix (e - g)) := (Fr.rf.pl (by omega)).pl (by omega)
                                have hMT2 := hMT.fr hF5 (by omega) (by omega)
                                have hJ2 := hJ.keep (hF5.C (by omega) (by omega))
                                have hD2 := (divP_up hD hn12 (by omega) hix ev (e - g)).2
                                have hcv2 : (up (up ρ 13 ix ev) 14 ix (e - g)) 13 ix = ev := by rw [up_ne (by omega), up_same]
                                have hcr2 : -40000000000000000 ≤ ev ∧ ev ≤ 1 := by omega
                                have hV2 := dvI_take hV (by omega) (by omega) hev (fun i i0 i1 => (lvF_rg hPr (k := k) (g := g) (l := i) (by omega) (by omega) (by omega)).1) (by omega)
                                have hln2 : (up (up ρ 13 ix ev) 14 ix (e - g)) 14 ix = e - g := up_same _ _ _ _
                                rw [← hln2] at hV2
                                refine lv_iinc (v := iI (e + (-1))) (lv' := [(5, .int (iI ((e + (-1))))), (6, .long (lI (ev))), (0, .ref (Y.2.1 (0))), (1, .int (iI (k))), (2, .int (iI (g))), (3, .int (iI (ix))), (4, .int (iI (tp)))]) hx hb dX8_divides_159 hl (k := 6) rfl (iI_add _ _) (by decide) rfl (fun ls hl => ?_)
                                refine lv_goto (tgt := 65) hx hb dX8_divides_162 (by decide) ?_
                                exact ih_65 ((e + (-1))) _ ((up (up ρ 13 ix ev) 14 ix (e - g))) (by omega) hMT2 hJ2 hD2 hcv2 hcr2 hV2 (by omega) _ _ _ X (lv_sub hl [2, 3, 4, 5, 6, 0] rfl)
                          ·
                            refine lv_aload_n hx hb dX8_divides_97 rfl (lv_at hl 0 rfl) ?_
                            refine g_get G X (k := 0) (fs := fM Y) (Nat.le_of_ble_eq_true rfl) (fun _ => rfl) rfl in_X8 20 (by decide) l_f47 rfl (v := .ref (Y.2.1 (13))) rfl dX8_divides_98 ?_
                            refine lv_bipush (v := iI 13) hx hb dX8_divides_101 (by decide +kernel) ?_
                            refine lv_iload_n hx hb dX8_divides_103 rfl (lv_at hl 1 rfl) ?_
                            refine lv_iconst (v := iI 1) hx hb dX8_divides_104 rfl ?_
                            refine g_isub G dX8_divides_105 ?_
                            refine g_imul G dX8_divides_106 ?_
                            refine lv_iload hx hb dX8_divides_107 (lv_at hl 5 rfl) ?_
                            refine g_iadd G dX8_divides_109 ?_
                            refine g_lald G X (k := 13) (n := 169) (Nat.le_of_ble_eq_true rfl) (fun _ => rfl) (by decide) (z := ((13 * (k - 1)) + e)) (by omega) dX8_divides_110 ?_
                            refine g_topl (z' := -(lvG (ng P) (gW P) (gM P) (k - 1).toNat e).1) (by rw [show 13 * (k - 1) + e = 13 * (k - 1) + e from rfl]; exact (hD (k - 1) e (by omega) (by omega) (by omega) (by omega)).1) ?_
                            refine lv_goto (tgt := 115) hx hb dX8_divides_111 (by decide) ?_
                            refine g_ladd G dX8_divides_115 ?_
                            refine g_topl (z' := ev) (by rw [hev, hq89.1]; first | (rw [lvF_k (by omega), show e - 1 + 1 = e by omega]; omega) | (rw [show k = 1 by omega, lvF_1]; omega)) ?_
                            refine lv_lstore (lv' := [(6, .long (lI (ev))), (0, .ref (Y.2.1 (0))), (1, .int (iI (k))), (2, .int (iI (g))), (3, .int (iI (ix))), (4, .int (iI (tp))), (5, .int (iI (e)))]) hx hb dX8_divides_116 hl (by decide) rfl (fun ls hl => ?_)
                            refine lv_aload_n hx hb dX8_divides_118 rfl (lv_at hl 1 rfl) ?_
                            refine g_get G X (k := 0) (fs := fM Y) (Nat.le_of_ble_eq_true rfl) (fun _ => rfl) rfl in_X8 20 (by decide) l_f47 rfl (v := .ref (Y.2.1 (13))) rfl dX8_divides_119 ?_
                            refine lv_iload_n hx hb dX8_divides_122 rfl (lv_at hl 4 rfl) ?_
                            refine g_lald G X (k := 13) (n := 169) (Nat.le_of_ble_eq_true rfl) (fun _ => rfl) (by decide) (z := ix) (by omega) dX8_divides_123 ?_
                            refine g_topl (z' := cv) hcv ?_
                            refine lv_lconst (v := lI 0) hx hb dX8_divides_124 (by decide +kernel) ?_
                            refine g_lif_gt (tgt := 141) G dX8_divides_125 dX8_divides_126 (by decide) (by omega) (by omega) (fun h125 => ?_) (fun h125 => ?_)
                            ·
                              refine lv_aload_n hx hb dX8_divides_141 rfl (lv_at hl 1 rfl) ?_
                              refine g_get G X (k := 0) (fs := fM Y) (Nat.le_of_ble_eq_true rfl) (fun _ => rfl) rfl in_X8 20 (by decide) l_f47 rfl (v := .ref (Y.2.1 (13))) rfl dX8_divides_142 ?_
                              refine lv_iload_n hx hb dX8_divides_145 rfl (lv_at hl 4 rfl) ?_
                              refine lv_lload hx hb dX8_divides_146 (lv_at hl 0 rfl) ?_
                              refine g_last G X (k := 13) (n := 169) (Nat.le_of_ble_eq_true rfl) (fun _ => rfl) (by decide) (z := ix) (v := ev) (by omega) dX8_divides_148 (fun H locs X => ?_)
                              refine lv_aload_n hx hb dX8_divides_149 rfl (lv_at hl 1 rfl) ?_
                              refine g_get G X (k := 0) (fs := fM Y) (Nat.le_of_ble_eq_true rfl) (fun _ => rfl) rfl in_X8 21 (by decide) l_f51 rfl (v := .ref (Y.2.1 (14))) rfl dX8_divides_150 ?_
                              refine lv_iload_n hx hb dX8_divides_153 rfl (lv_at hl 4 rfl) ?_
                              refine lv_iload hx hb dX8_divides_154 (lv_at hl 6 rfl) ?_
                              refine lv_iload_n hx hb dX8_divides_156 rfl (lv_at hl 3 rfl) ?_
                              refine g_isub G dX8_divides_157 ?_
                              refine g_iast G X (k := 14) (n := 169) (Nat.le_of_ble_eq_true rfl) (fun _ => rfl) (by decide) (z := ix) (v := (e - g)) (by omega) dX8_divides_158 (fun H locs X => ?_)
                              have hF5 : Fr 13 14 0 0 ρ (up (up ρ 13 ix ev) 14 ix (e - g)) := (Fr.rf.pl (by omega)).pl (by omega)
                              have hMT2 := hMT.fr hF5 (by omega) (by omega)
                              have hJ2 := hJ.keep (hF5.C (by omega) (by omega))
                              have hD2 := (divP_up hD hn12 (by omega) hix ev (e - g)).2
                              have hcv2 : (up (up ρ 13 ix ev) 14 ix (e - g)) 13 ix = ev := by rw [up_ne (by omega), up_same]
                              have hcr2 : -40000000000000000 ≤ ev ∧ ev ≤ 1 := by omega
                              have hV2 := dvI_take hV (by omega) (by omega) hev (fun i i0 i1 => (lvF_rg hPr (k := k) (g := g) (l := i) (by omega) (by omega) (by omega)).1) (by omega)
                              have hln2 : (up (up ρ 13 ix ev) 14 ix (e - g)) 14 ix = e - g := up_same _ _ _ _
                              rw [← hln2] at hV2
                              refine lv_iinc (v := iI (e + (-1))) (lv' := [(5, .int (iI ((e + (-1))))), (6, .long (lI (ev))), (0, .ref (Y.2.1 (0))), (1, .int (iI (k))), (2, .int (iI (g))), (3, .int (iI (ix))), (4, .int (iI (tp)))]) hx hb dX8_divides_159 hl (k := 6) rfl (iI_add _ _) (by decide) rfl (fun ls hl => ?_)
                              refine lv_goto (tgt := 65) hx hb dX8_divides_162 (by decide) ?_
                              exact ih_65 ((e + (-1))) _ ((up (up ρ 13 ix ev) 14 ix (e - g))) (by omega) hMT2 hJ2 hD2 hcv2 hcr2 hV2 (by omega) _ _ _ X (lv_sub hl [2, 3, 4, 5, 6, 0] rfl)
                            ·
                              refine lv_lload hx hb dX8_divides_129 (lv_at hl 0 rfl) ?_
                              refine lv_aload_n hx hb dX8_divides_131 rfl (lv_at hl 1 rfl) ?_
                              refine g_get G X (k := 0) (fs := fM Y) (Nat.le_of_ble_eq_true rfl) (fun _ => rfl) rfl in_X8 20 (by decide) l_f47 rfl (v := .ref (Y.2.1 (13))) rfl dX8_divides_132 ?_
                              refine lv_iload_n hx hb dX8_divides_135 rfl (lv_at hl 4 rfl) ?_
                              refine g_lald G X (k := 13) (n := 169) (Nat.le_of_ble_eq_true rfl) (fun _ => rfl) (by decide) (z := ix) (by omega) dX8_divides_136 ?_
                              refine g_topl (z' := cv) hcv ?_
                              refine g_lif_ge (tgt := 159) G dX8_divides_137 dX8_divides_138 (by decide) (by omega) (by omega) (fun h137 => ?_) (fun h137 => ?_)
                              ·
                                have hMT2 := hMT
                                have hJ2 := hJ
                                have hD2 := hD
                                have hcv2 := hcv
                                have hcr2 := hcr
                                have hV2 := dvI_keep hV hev (by omega)
                                refine lv_iinc (v := iI (e + (-1))) (lv' := [(5, .int (iI ((e + (-1))))), (6, .long (lI (ev))), (0, .ref (Y.2.1 (0))), (1, .int (iI (k))), (2, .int (iI (g))), (3, .int (iI (ix))), (4, .int (iI (tp)))]) hx hb dX8_divides_159 hl (k := 6) rfl (iI_add _ _) (by decide) rfl (fun ls hl => ?_)
                                refine lv_goto (tgt := 65) hx hb dX8_divides_162 (by decide) ?_
                                exact ih_65 ((e + (-1))) _ (ρ) (by omega) hMT2 hJ2 hD2 hcv2 hcr2 hV2 (by omega) _ _ _ X (lv_sub hl [2, 3, 4, 5, 6, 0] rfl)
                              ·
                                refine lv_aload_n hx hb dX8_divides_141 rfl (lv_at hl 1 rfl) ?_
                                refine g_get G X (k := 0) (fs := fM Y) (Nat.le_of_ble_eq_true rfl) (fun _ => rfl) rfl in_X8 20 (by decide) l_f47 rfl (v := .ref (Y.2.1 (13))) rfl dX8_divides_142 ?_
                                refine lv_iload_n hx hb dX8_divides_145 rfl (lv_at hl 4 rfl) ?_
                                refine lv_lload hx hb dX8_divides_146 (lv_at hl 0 rfl) ?_
                                refine g_last G X (k := 13) (n := 169) (Nat.le_of_ble_eq_true rfl) (fun _ => rfl) (by decide) (z := ix) (v := ev) (by omega) dX8_divides_148 (fun H locs X => ?_)
                                refine lv_aload_n hx hb dX8_divides_149 rfl (lv_at hl 1 rfl) ?_
                                refine g_get G X (k := 0) (fs := fM Y) (Nat.le_of_ble_eq_true rfl) (fun _ => rfl) rfl in_X8 21 (by decide) l_f51 rfl (v := .ref (Y.2.1 (14))) rfl dX8_divides_150 ?_
                                refine lv_iload_n hx hb dX8_divides_153 rfl (lv_at hl 4 rfl) ?_
                                refine lv_iload hx hb dX8_divides_154 (lv_at hl 6 rfl) ?_
                                refine lv_iload_n hx hb dX8_divides_156 rfl (lv_at hl 3 rfl) ?_
                                refine g_isub G dX8_divides_157 ?_
                                refine g_iast G X (k := 14) (n := 169) (Nat.le_of_ble_eq_true rfl) (fun _ => rfl) (by decide) (z := ix) (v := (e - g)) (by omega) dX8_divides_158 (fun H locs X => ?_)
                                have hF5 : Fr 13 14 0 0 ρ (up (up ρ 13 ix ev) 14 ix (e - g)) := (Fr.rf.pl (by omega)).pl (by omega)
                                have hMT2 := hMT.fr hF5 (by omega) (by omega)
                                have hJ2 := hJ.keep (hF5.C (by omega) (by omega))
                                have hD2 := (divP_up hD hn12 (by omega) hix ev (e - g)).2
                                have hcv2 : (up (up ρ 13 ix ev) 14 ix (e - g)) 13 ix = ev := by rw [up_ne (by omega), up_same]
                                have hcr2 : -40000000000000000 ≤ ev ∧ ev ≤ 1 := by omega
                                have hV2 := dvI_take hV (by omega) (by omega) hev (fun i i0 i1 => (lvF_rg hPr (k := k) (g := g) (l := i) (by omega) (by omega) (by omega)).1) (by omega)
                                have hln2 : (up (up ρ 13 ix ev) 14 ix (e - g)) 14 ix = e - g := up_same _ _ _ _
                                rw [← hln2] at hV2
                                refine lv_iinc (v := iI (e + (-1))) (lv' := [(5, .int (iI ((e + (-1))))), (6, .long (lI (ev))), (0, .ref (Y.2.1 (0))), (1, .int (iI (k))), (2, .int (iI (g))), (3, .int (iI (ix))), (4, .int (iI (tp)))]) hx hb dX8_divides_159 hl (k := 6) rfl (iI_add _ _) (by decide) rfl (fun ls hl => ?_)
                                refine lv_goto (tgt := 65) hx hb dX8_divides_162 (by decide) ?_
                                exact ih_65 ((e + (-1))) _ ((up (up ρ 13 ix ev) 14 ix (e - g))) (by omega) hMT2 hJ2 hD2 hcv2 hcr2 hV2 (by omega) _ _ _ X (lv_sub hl [2, 3, 4, 5, 6, 0] rfl)
                exact lp_65 (((((tp) - g) : Int).toNat + 1)) (tp) (1) ((up τ 13 ix 1)) (by omega) (hMT.fr hFa (by omega) (by omega)) (hJ.keep (hFa.C (by omega) (by omega))) hDa hcva (by omega) (Or.inl ⟨rfl, rfl⟩) (by omega) _ _ _ X (lv_sub hl [3, 4, 5, 2, 1, 0] rfl)
        exact lp_21 (((((((ng P) - k)) + 1) : Int).toNat + 1)) (((ng P) - k)) (τ) (by omega) hMT hJ hD (by omega) _ _ _ X (lv_sub hl [1, 2, 0] rfl)
  exact lp_6 ((((ng P + 1 - (1)) : Int).toNat + 1)) (1) (u1) (by omega) hMG hI2 (divP_0 (by omega)) (by omega) _ _ _ X (lv_sub hl [1, 0] rfl)

set_option maxHeartbeats 4000000 in
set_option maxRecDepth 100000 in
theorem t_X8_errorBy (l : Launch) (Y : Yt) (σ : Mem) (P : List Pt) (k : Int) (hMG : MG σ P) (hk : 1 ≤ k ∧ k ≤ ng P) (hD : DivP σ P (ng P + 1) 0) : MXl l LM Y yX8_errorBy wsX8_errorBy { frames := 1, cells := 0, slots := 0, locals := 23 } [.ref (Y.2.1 (0)), .int (iI (k))] σ (fun z u => (z = lE P k ∧ -1260000000000000 ≤ z ∧ z ≤ 1260000000000000) ∧ Fr 9 11 12 12 σ u) := by
  obtain ⟨hP, hok, hG⟩ := id hMG
  have hPr := hMG.prof
  obtain ⟨⟨hn0, hn12, hW0, hM0, hW24⟩, hstep, hXa, hXr⟩ := id hPr
  have hq0 : 0 ≤ gQ P ∧ gQ P ≤ 235224 := gQ_rg hok hP.2.1
  have hlr := lvE_rg hPr hq0 hk
  have hlE : lE P k = 5354228880 * gQ P - (lvG (ng P) (gW P) (gM P) k.toNat 0).1 := rfl
  have hlE2 : lvE (ng P) (gW P) (gM P) (gQ P) k = lE P k := rfl
  refine g_startl (cc := cX8_errorBy) (nL := 2) (own := RX8) (by decide) rfl rfl (Nat.le_of_ble_eq_true rfl) ?_
  intro pp ee ss mm bw mt cd AA ZZ ls G hret X hl
  have hl : lv_has ls 2 [(0, .ref (Y.2.1 (0))), (1, .int (iI (k)))] := hl
  have hx := G.1
  have hb := G.2.1
  have hts := G.2.2.2.2.1
  have l_f47 := hts (.fieldLink RX8 47 "ShapeFitsModel" "least" "[J") (List.mem_of_getElem? (i := 2) rfl)
  have l_f96 := hts (.fieldLink RX8 96 "ShapeFitsModel" "blocks" "I") (List.mem_of_getElem? (i := 1) rfl)
  have in_X8 : ∀ w ∈ u_ws RX8 TX8 24, w ∈ wsX8_errorBy := by decide +kernel
  refine lv_aload_n hx hb dX8_errorBy_0 rfl (lv_at hl 0 rfl) ?_
  refine lv_iconst (v := iI 0) hx hb dX8_errorBy_1 rfl ?_
  refine g_puti G X (k := 0) (fs := fM Y) (z := 0) (Nat.le_of_ble_eq_true rfl) (fun _ => rfl) rfl in_X8 tyX8 tyX8_ok nmX8 12 12 (by decide) l_f96 rfl rfl (by decide +kernel) (Nat.le_of_ble_eq_true rfl) (fun _ => rfl) dX8_errorBy_2 (fun H locs X => ?_)
  have hF0 : Fr 9 11 12 12 σ (up σ 0 12 0) := Fr.rf.fl (Or.inl rfl)
  refine lv_aload_n hx hb dX8_errorBy_5 rfl (lv_at hl 0 rfl) ?_
  refine g_callVl G X (rest := []) (As := []) (t_X8_errorOf l Y ((up σ 0 12 0)) P ([]) (hMG.fr hF0 (by omega) (by omega)) mblk_0 (fun h => absurd h (by simp))) (cwV 0 hts gX8_errorBy_X8_errorOf rfl rfl rfl (by decide +kernel) ⟨Nat.le_of_ble_eq_true rfl, Nat.le_of_ble_eq_true rfl⟩) (k := 0) (Nat.le_of_ble_eq_true rfl) rfl rfl rfl rfl hl.1 rfl (Nat.le_of_ble_eq_true rfl) dX8_errorBy_6 ⟨Nat.le_refl _, Nat.le_refl _⟩ (fun z6 u6 H locs hq6 X => ?_)
  rw [hq6.1] at X
  have hq6 := hq6.2
  try dsimp only at hq6
  refine g_topl (z' := 5354228880 * gQ P) (by rw [hq6]; unfold Err; show 5354228880 * gQ P - smI _ 0 = _; rw [smI_0]; omega) ?_
  refine lv_aload_n hx hb dX8_errorBy_9 rfl (lv_at hl 0 rfl) ?_
  refine g_get G X (k := 0) (fs := fM Y) (Nat.le_of_ble_eq_true rfl) (fun _ => rfl) rfl in_X8 20 (by decide) l_f47 rfl (v := .ref (Y.2.1 (13))) rfl dX8_errorBy_10 ?_
  refine lv_bipush (v := iI 13) hx hb dX8_errorBy_13 (by decide +kernel) ?_
  refine lv_iload_n hx hb dX8_errorBy_15 rfl (lv_at hl 1 rfl) ?_
  refine g_imul G dX8_errorBy_16 ?_
  refine g_lald G X (k := 13) (n := 169) (Nat.le_of_ble_eq_true rfl) (fun _ => rfl) (by decide) (z := (13 * k)) (by omega) dX8_errorBy_17 ?_
  refine g_topl (z' := (σ 13 (13 * k))) rfl ?_
  refine g_topl (z' := -(lvG (ng P) (gW P) (gM P) k.toNat 0).1) (by have e := (hD k 0 (by omega) (by omega) (by omega) (by omega)).1; rw [show 13 * k + 0 = 13 * k by omega] at e; exact e) ?_
  refine g_ladd G dX8_errorBy_18 ?_
  refine g_topl (z' := lE P k) (by rw [hlE]; omega) ?_
  exact hret _ _ _ _ _ _ (⟨⟨rfl, by omega, by omega⟩, hF0⟩) X dX8_errorBy_19

set_option maxHeartbeats 4000000 in
set_option maxRecDepth 100000 in
theorem t_X8_levelError (l : Launch) (Y : Yt) (σ : Mem) (P : List Pt) (hs : List (List Pt)) (tx : List Int) (ch : List Int) (k : Int) (w : Int) (hI : MInv σ P hs tx ch) (h_k : -2147483648 ≤ k ∧ k ≤ 2147483647) (h_w : -2147483648 ≤ w ∧ w ≤ 2147483647) : MXl l LM Y yX8_levelError wsX8_levelError { frames := 2, cells := 0, slots := 0, locals := 55 } [.ref (Y.2.1 (0)), .int (iI (k)), .int (iI (w))] σ (fun z u => z = leA P k w ∧ MInv u P hs tx ch) := by
  obtain ⟨⟨hP, hok⟩, ⟨hW, hHok⟩, ⟨hTx, htok⟩, hC, hC3⟩ := id hI
  obtain ⟨hd0, h12, hd⟩ := hP.d
  have hh6 := hW.2.1
  have hkp := hW.1
  have h90 := htok.1
  have hty := hTx.1
  have hre := hC.1
  have hPr := prof_of hok hP.2.1
  obtain ⟨⟨hn0, hn12, hW0, hM0, hW24⟩, hstep, hXa, hXr⟩ := id hPr
  have hq0 : 0 ≤ gQ P ∧ gQ P ≤ 235224 := gQ_rg hok hP.2.1
  have hn9 := ng_0 hok
  refine g_startl (cc := cX8_levelError) (nL := 3) (own := RX8) (by decide) rfl rfl (Nat.le_of_ble_eq_true rfl) ?_
  intro pp ee ss mm bw mt cd AA ZZ ls G hret X hl
  have hl : lv_has ls 3 [(0, .ref (Y.2.1 (0))), (1, .int (iI (k))), (2, .int (iI (w)))] := hl
  have hx := G.1
  have hb := G.2.1
  have hts := G.2.2.2.2.1
  have l_f72 := hts (.fieldLink RX8 72 "ShapeFitsModel" "groups" "I") (List.mem_of_getElem? (i := 2) rfl)
  have l_k113 := hts (.constantLong RX8 113 (5354228880)) (List.mem_of_getElem? (i := 4) rfl)
  have l_k136 := hts (.constantLong RX8 136 (-1000001)) (List.mem_of_getElem? (i := 1) rfl)
  have l_k170 := hts (.constantLong RX8 170 (-1000004)) (List.mem_of_getElem? (i := 3) rfl)
  have in_X8 : ∀ w ∈ u_ws RX8 TX8 24, w ∈ wsX8_levelError := by decide +kernel
  refine lv_iload_n hx hb dX8_levelError_0 rfl (lv_at hl 1 rfl) ?_
  refine lv_iconst (v := iI 1) hx hb dX8_levelError_1 rfl ?_
  refine lv_bipush (v := iI 12) hx hb dX8_levelError_2 (by decide +kernel) ?_
  refine g_callSi G X (rest := []) (As := [.int (iI (k)), .int (iI (1)), .int (iI (12))]) (t_X8_in l Y (σ) (k) (1) (12) (by first | assumption | omega) (by first | assumption | omega) (by first | assumption | omega)) (va_cwS 3 hts gX8_levelError_X8_in rfl rfl rfl (by decide +kernel) ⟨Nat.le_of_ble_eq_true rfl, Nat.le_of_ble_eq_true rfl⟩) rfl hl.1 rfl (Nat.le_of_ble_eq_true rfl) dX8_levelError_4 ⟨Nat.le_refl _, Nat.le_refl _⟩ (fun z4 u4 H locs hq4 X => ?_)
  rw [hq4.1] at X
  have hq4 := hq4.2
  try dsimp only at hq4
  refine g_if_eq (tgt := 19) G dX8_levelError_7 (by decide) (by omega) (fun h7 => ?_) (fun h7 => ?_)
  ·
    refine g_ldc2 G (z := (-1000001)) l_k136 (by decide +kernel) dX8_levelError_19 ?_
    exact hret _ _ _ _ _ _ (⟨(if_pos (by omega)).symm, hI⟩) X dX8_levelError_22
  ·
    refine lv_iload_n hx hb dX8_levelError_10 rfl (lv_at hl 2 rfl) ?_
    refine lv_iconst (v := iI 0) hx hb dX8_levelError_11 rfl ?_
    refine lv_iconst (v := iI 1) hx hb dX8_levelError_12 rfl ?_
    refine g_callSi G X (rest := []) (As := [.int (iI (w)), .int (iI (0)), .int (iI (1))]) (t_X8_in l Y (σ) (w) (0) (1) (by first | assumption | omega) (by first | assumption | omega) (by first | assumption | omega)) (va_cwS 3 hts gX8_levelError_X8_in rfl rfl rfl (by decide +kernel) ⟨Nat.le_of_ble_eq_true rfl, Nat.le_of_ble_eq_true rfl⟩) rfl hl.1 rfl (Nat.le_of_ble_eq_true rfl) dX8_levelError_13 ⟨Nat.le_refl _, Nat.le_refl _⟩ (fun z13 u13 H locs hq13 X => ?_)
    rw [hq13.1] at X
    have hq13 := hq13.2
    try dsimp only at hq13
    refine g_if_ne (tgt := 23) G dX8_levelError_16 (by decide) (by omega) (fun h16 => ?_) (fun h16 => ?_)
    ·
      refine lv_aload_n hx hb dX8_levelError_23 rfl (lv_at hl 0 rfl) ?_
      refine g_callVv G X (rest := []) (As := []) (t_X8_divides l Y (σ) P hs tx ch (by first | assumption | omega)) (cwV 0 hts gX8_levelError_X8_divides rfl rfl rfl (by decide +kernel) ⟨Nat.le_of_ble_eq_true rfl, Nat.le_of_ble_eq_true rfl⟩) (k := 0) (Nat.le_of_ble_eq_true rfl) rfl rfl rfl rfl hl.1 rfl (Nat.le_of_ble_eq_true rfl) dX8_levelError_24 ⟨Nat.le_refl _, Nat.le_refl _⟩ (fun u24 H locs hq24 X => ?_)
      obtain ⟨hI2, hMG, hD⟩ := id hq24
      refine lv_iload_n hx hb dX8_levelError_27 rfl (lv_at hl 1 rfl) ?_
      refine lv_aload_n hx hb dX8_levelError_28 rfl (lv_at hl 0 rfl) ?_
      refine g_get G X (k := 0) (fs := fM Y) (Nat.le_of_ble_eq_true rfl) (fun _ => rfl) rfl in_X8 8 (by decide) l_f72 rfl (v := .int (iI ((u24 0 8)))) rfl dX8_levelError_29 ?_
      refine g_topi (z' := ng P) hMG.2.2.1 ?_
      refine g_icmp_le (tgt := 39) G dX8_levelError_32 (by decide) (by omega) (by omega) (fun h32 => ?_) (fun h32 => ?_)
      ·
        refine lv_aload_n hx hb dX8_levelError_39 rfl (lv_at hl 0 rfl) ?_
        refine lv_aload_n hx hb dX8_levelError_40 rfl (lv_at hl 0 rfl) ?_
        refine lv_iload_n hx hb dX8_levelError_41 rfl (lv_at hl 1 rfl) ?_
        refine g_callVl G X (rest := [.ref (Y.2.1 (0))]) (As := [.int (iI (k))]) (t_X8_errorBy l Y (u24) P (k) hMG (by omega) hD) (cwV 1 hts gX8_levelError_X8_errorBy rfl rfl rfl (by decide +kernel) ⟨Nat.le_of_ble_eq_true rfl, Nat.le_of_ble_eq_true rfl⟩) (k := 0) (Nat.le_of_ble_eq_true rfl) rfl rfl rfl rfl hl.1 rfl (Nat.le_of_ble_eq_true rfl) dX8_levelError_42 ⟨Nat.le_refl _, Nat.le_refl _⟩ (fun z42 u42 H locs hq42 X => ?_)
        have hI3 := hI2.keep (hq42.2.C (by omega) (by omega))
        refine g_topl (z' := lE P k) hq42.1.1 ?_
        have hzr := hq42.1
        rw [hq42.1.1] at hzr
        refine g_ldc2 G (z := 5354228880) l_k113 (by decide +kernel) dX8_levelError_45 ?_
        refine g_callVv G X (rest := []) (As := [.long (lI ((lE P k))), .long (lI (5354228880))]) (t_X8_lowers l Y (u42) ((lE P k)) (5354228880) (by first | assumption | omega) (by first | assumption | omega)) (cwV 2 hts gX8_levelError_X8_lowers rfl rfl rfl (by decide +kernel) ⟨Nat.le_of_ble_eq_true rfl, Nat.le_of_ble_eq_true rfl⟩) (k := 0) (Nat.le_of_ble_eq_true rfl) rfl rfl rfl rfl hl.1 rfl (Nat.le_of_ble_eq_true rfl) dX8_levelError_48 ⟨Nat.le_refl _, Nat.le_refl _⟩ (fun u48 H locs hq48 X => ?_)
        have hI4 := hI3.keep (hq48.2.2.C (by omega) (by omega))
        have htl : (if w = 0 then u48 0 18 else u48 0 19) = leA P k w := by { rw [tells_low (by omega) hq48.1 hq48.2.1]; unfold leA; exact ((if_neg (by omega)).trans (if_neg (by omega))).symm }
        refine lv_aload_n hx hb dX8_levelError_51 rfl (lv_at hl 0 rfl) ?_
        refine lv_iload_n hx hb dX8_levelError_52 rfl (lv_at hl 2 rfl) ?_
        refine g_callVl G X (rest := []) (As := [.int (iI (w))]) (t_X8_tells l Y (u48) (w) (by first | assumption | omega)) (cwV 1 hts gX8_levelError_X8_tells rfl rfl rfl (by decide +kernel) ⟨Nat.le_of_ble_eq_true rfl, Nat.le_of_ble_eq_true rfl⟩) (k := 0) (Nat.le_of_ble_eq_true rfl) rfl rfl rfl rfl hl.1 rfl (Nat.le_of_ble_eq_true rfl) dX8_levelError_53 ⟨Nat.le_refl _, Nat.le_refl _⟩ (fun z53 u53 H locs hq53 X => ?_)
        rw [hq53.1] at X
        have hq53 := hq53.2
        try dsimp only at hq53
        exact hret _ _ _ _ _ _ (⟨hq53.trans htl, hI4⟩) X dX8_levelError_56
      ·
        refine g_ldc2 G (z := (-1000004)) l_k170 (by decide +kernel) dX8_levelError_35 ?_
        exact hret _ _ _ _ _ _ (⟨by { unfold leA; exact ((if_neg (by omega)).trans (if_pos (by omega))).symm }, hI2⟩) X dX8_levelError_38
    ·
      refine g_ldc2 G (z := (-1000001)) l_k136 (by decide +kernel) dX8_levelError_19 ?_
      exact hret _ _ _ _ _ _ (⟨(if_pos (by omega)).symm, hI⟩) X dX8_levelError_22

set_option maxHeartbeats 4000000 in
set_option maxRecDepth 100000 in
theorem t_X8_levelBegin (l : Launch) (Y : Yt) (σ : Mem) (P : List Pt) (hs : List (List Pt)) (tx : List Int) (ch : List Int) (k : Int) (lv : Int) (hI : MInv σ P hs tx ch) (h_k : -2147483648 ≤ k ∧ k ≤ 2147483647) (h_lv : -2147483648 ≤ lv ∧ lv ≤ 2147483647) : MXi l LM Y yX8_levelBegin wsX8_levelBegin { frames := 2, cells := 0, slots := 0, locals := 52 } [.ref (Y.2.1 (0)), .int (iI (k)), .int (iI (lv))] σ (fun z u => z = lbA P k lv ∧ MInv u P hs tx ch) := by
  obtain ⟨⟨hP, hok⟩, ⟨hW, hHok⟩, ⟨hTx, htok⟩, hC, hC3⟩ := id hI
  obtain ⟨hd0, h12, hd⟩ := hP.d
  have hh6 := hW.2.1
  have hkp := hW.1
  have h90 := htok.1
  have hty := hTx.1
  have hre := hC.1
  have hPr := prof_of hok hP.2.1
  obtain ⟨⟨hn0, hn12, hW0, hM0, hW24⟩, hstep, hXa, hXr⟩ := id hPr
  have hq0 : 0 ≤ gQ P ∧ gQ P ≤ 235224 := gQ_rg hok hP.2.1
  have hn9 := ng_0 hok
  refine g_starti (rty := .int) (fun _ _ _ => rfl) (cc := cX8_levelBegin) (nL := 5) (own := RX8) (by decide) rfl rfl (Nat.le_of_ble_eq_true rfl) ?_
  intro pp ee ss mm bw mt cd AA ZZ ls G hret X hl
  have hl : lv_has ls 5 [(0, .ref (Y.2.1 (0))), (1, .int (iI (k))), (2, .int (iI (lv)))] := hl
  have hx := G.1
  have hb := G.2.1
  have hts := G.2.2.2.2.1
  have l_f51 := hts (.fieldLink RX8 51 "ShapeFitsModel" "length" "[I") (List.mem_of_getElem? (i := 4) rfl)
  have l_c62 := hts (.constant RX8 62 (-1000001)) (List.mem_of_getElem? (i := 1) rfl)
  have l_f72 := hts (.fieldLink RX8 72 "ShapeFitsModel" "groups" "I") (List.mem_of_getElem? (i := 2) rfl)
  have l_c159 := hts (.constant RX8 159 (-1000004)) (List.mem_of_getElem? (i := 3) rfl)
  have in_X8 : ∀ w ∈ u_ws RX8 TX8 24, w ∈ wsX8_levelBegin := by decide +kernel
  refine lv_iload_n hx hb dX8_levelBegin_0 rfl (lv_at hl 1 rfl) ?_
  refine lv_iconst (v := iI 1) hx hb dX8_levelBegin_1 rfl ?_
  refine lv_bipush (v := iI 12) hx hb dX8_levelBegin_2 (by decide +kernel) ?_
  refine g_callSi G X (rest := []) (As := [.int (iI (k)), .int (iI (1)), .int (iI (12))]) (t_X8_in l Y (σ) (k) (1) (12) (by first | assumption | omega) (by first | assumption | omega) (by first | assumption | omega)) (va_cwS 3 hts gX8_levelBegin_X8_in rfl rfl rfl (by decide +kernel) ⟨Nat.le_of_ble_eq_true rfl, Nat.le_of_ble_eq_true rfl⟩) rfl hl.1 rfl (Nat.le_of_ble_eq_true rfl) dX8_levelBegin_4 ⟨Nat.le_refl _, Nat.le_refl _⟩ (fun z4 u4 H locs hq4 X => ?_)
  rw [hq4.1] at X
  have hq4 := hq4.2
  try dsimp only at hq4
  refine g_if_eq (tgt := 21) G dX8_levelBegin_7 (by decide) (by omega) (fun h7 => ?_) (fun h7 => ?_)
  ·
    refine g_ldc G (z := (-1000001)) l_c62 (by decide +kernel) dX8_levelBegin_21 ?_
    exact hret _ _ _ _ _ _ (⟨(if_pos (by omega)).symm, hI⟩) X dX8_levelBegin_23
  ·
    refine lv_iload_n hx hb dX8_levelBegin_10 rfl (lv_at hl 2 rfl) ?_
    refine lv_iconst (v := iI 0) hx hb dX8_levelBegin_11 rfl ?_
    refine lv_iload_n hx hb dX8_levelBegin_12 rfl (lv_at hl 1 rfl) ?_
    refine lv_iconst (v := iI 1) hx hb dX8_levelBegin_13 rfl ?_
    refine g_isub G dX8_levelBegin_14 ?_
    refine g_callSi G X (rest := []) (As := [.int (iI (lv)), .int (iI (0)), .int (iI ((k - 1)))]) (t_X8_in l Y (σ) (lv) (0) ((k - 1)) (by first | assumption | omega) (by first | assumption | omega) (by first | assumption | omega)) (va_cwS 3 hts gX8_levelBegin_X8_in rfl rfl rfl (by decide +kernel) ⟨Nat.le_of_ble_eq_true rfl, Nat.le_of_ble_eq_true rfl⟩) rfl hl.1 rfl (Nat.le_of_ble_eq_true rfl) dX8_levelBegin_15 ⟨Nat.le_refl _, Nat.le_refl _⟩ (fun z15 u15 H locs hq15 X => ?_)
    rw [hq15.1] at X
    have hq15 := hq15.2
    try dsimp only at hq15
    refine g_if_ne (tgt := 24) G dX8_levelBegin_18 (by decide) (by omega) (fun h18 => ?_) (fun h18 => ?_)
    ·
      refine lv_aload_n hx hb dX8_levelBegin_24 rfl (lv_at hl 0 rfl) ?_
      refine g_callVv G X (rest := []) (As := []) (t_X8_divides l Y (σ) P hs tx ch (by first | assumption | omega)) (cwV 0 hts gX8_levelBegin_X8_divides rfl rfl rfl (by decide +kernel) ⟨Nat.le_of_ble_eq_true rfl, Nat.le_of_ble_eq_true rfl⟩) (k := 0) (Nat.le_of_ble_eq_true rfl) rfl rfl rfl rfl hl.1 rfl (Nat.le_of_ble_eq_true rfl) dX8_levelBegin_25 ⟨Nat.le_refl _, Nat.le_refl _⟩ (fun u25 H locs hq25 X => ?_)
      obtain ⟨hI2, hMG, hD⟩ := id hq25
      refine lv_iload_n hx hb dX8_levelBegin_28 rfl (lv_at hl 1 rfl) ?_
      refine lv_aload_n hx hb dX8_levelBegin_29 rfl (lv_at hl 0 rfl) ?_
      refine g_get G X (k := 0) (fs := fM Y) (Nat.le_of_ble_eq_true rfl) (fun _ => rfl) rfl in_X8 8 (by decide) l_f72 rfl (v := .int (iI ((u25 0 8)))) rfl dX8_levelBegin_30 ?_
      refine g_topi (z' := ng P) hMG.2.2.1 ?_
      refine g_icmp_le (tgt := 39) G dX8_levelBegin_33 (by decide) (by omega) (by omega) (fun h33 => ?_) (fun h33 => ?_)
      ·
        refine lv_iconst (v := iI 0) hx hb dX8_levelBegin_39 rfl ?_
        refine lv_istore_n (lv' := [(3, .int (iI (0))), (0, .ref (Y.2.1 (0))), (1, .int (iI (k))), (2, .int (iI (lv)))]) hx hb dX8_levelBegin_40 rfl hl (by decide) rfl (fun ls hl => ?_)
        refine lv_iconst (v := iI 0) hx hb dX8_levelBegin_41 rfl ?_
        refine lv_istore (lv' := [(4, .int (iI (0))), (3, .int (iI (0))), (0, .ref (Y.2.1 (0))), (1, .int (iI (k))), (2, .int (iI (lv)))]) hx hb dX8_levelBegin_42 hl (by decide) rfl (fun ls hl => ?_)
        have lp_44 : ∀ (nn : Nat) (g j : Int), ∀ hj : (0 ≤ j ∧ j ≤ lv) ∧ lv ≤ k - 1 ∧ 1 ≤ k ∧ k ≤ 12 ∧ k ≤ ng P, ∀ hg : 0 ≤ g ∧ g + (k - j) ≤ ng P, ∀ hgv : g = lvB (ng P) (gW P) (gM P) k j.toNat, ∀ hdec : (lv - j) < (nn : Int), ∀ (H : Heap) (locs : List Loc) (ls : Array Slot), wx LM Y u25 ss AA H locs → lv_has ls 5 [(0, .ref (Y.2.1 (0))), (1, .int (iI (k))), (2, .int (iI (lv))), (3, .int (iI (g))), (4, .int (iI (j)))] → W pp l ee { frames := 2, cells := 0, slots := 0, locals := 52 } ss mm ([.ref (Y.2.1 (0)), .int (iI (k)), .int (iI (lv))] : List Value).toArray bw mt cd H locs 0 0 ZZ (F0 mm 44 ls []) := by
          intro nn
          induction nn with
          | zero =>
            intro g j hj hg hgv hdec
            exact absurd hdec (by omega)
          | succ nn ih_44 =>
            intro g j hj hg hgv hdec H locs ls X hl
            refine lv_iload hx hb dX8_levelBegin_44 (lv_at hl 4 rfl) ?_
            refine lv_iload_n hx hb dX8_levelBegin_46 rfl (lv_at hl 2 rfl) ?_
            refine g_icmp_ge (tgt := 73) G dX8_levelBegin_47 (by decide) (by omega) (by omega) (fun h47 => ?_) (fun h47 => ?_)
            ·
              refine lv_iload_n hx hb dX8_levelBegin_73 rfl (lv_at hl 3 rfl) ?_
              exact hret _ _ _ _ _ _ (⟨by { unfold lbA; rw [hgv, show j = lv by omega]; exact ((if_neg (by omega)).trans (if_neg (by omega))).symm }, hI2⟩) X dX8_levelBegin_74
            ·
              have hgr := lvG_rg hPr (k - j).toNat g (by omega) (by omega) (by omega)
              refine lv_iload_n hx hb dX8_levelBegin_50 rfl (lv_at hl 3 rfl) ?_
              refine lv_aload_n hx hb dX8_levelBegin_51 rfl (lv_at hl 0 rfl) ?_
              refine g_get G X (k := 0) (fs := fM Y) (Nat.le_of_ble_eq_true rfl) (fun _ => rfl) rfl in_X8 21 (by decide) l_f51 rfl (v := .ref (Y.2.1 (14))) rfl dX8_levelBegin_52 ?_
              refine lv_bipush (v := iI 13) hx hb dX8_levelBegin_55 (by decide +kernel) ?_
              refine lv_iload_n hx hb dX8_levelBegin_57 rfl (lv_at hl 1 rfl) ?_
              refine lv_iload hx hb dX8_levelBegin_58 (lv_at hl 4 rfl) ?_
              refine g_isub G dX8_levelBegin_60 ?_
              refine g_imul G dX8_levelBegin_61 ?_
              refine lv_iload_n hx hb dX8_levelBegin_62 rfl (lv_at hl 3 rfl) ?_
              refine g_iadd G dX8_levelBegin_63 ?_
              refine g_iald G X (k := 14) (n := 169) (Nat.le_of_ble_eq_true rfl) (fun _ => rfl) (by decide) (z := ((13 * (k - j)) + g)) (by omega) dX8_levelBegin_64 ?_
              refine g_topi (z' := (lvG (ng P) (gW P) (gM P) (k - j).toNat g).2 - g) ((hD (k - j) g (by omega) (by omega) (by omega) (by omega)).2) ?_
              refine g_iadd G dX8_levelBegin_65 ?_
              refine g_topi (z' := (lvG (ng P) (gW P) (gM P) (k - j).toNat g).2) (by omega) ?_
              refine lv_istore_n (lv' := [(3, .int (iI (((lvG (ng P) (gW P) (gM P) (k - j).toNat g).2)))), (0, .ref (Y.2.1 (0))), (1, .int (iI (k))), (2, .int (iI (lv))), (4, .int (iI (j)))]) hx hb dX8_levelBegin_66 rfl hl (by decide) rfl (fun ls hl => ?_)
              refine lv_iinc (v := iI (j + 1)) (lv' := [(4, .int (iI ((j + 1)))), (3, .int (iI (((lvG (ng P) (gW P) (gM P) (k - j).toNat g).2)))), (0, .ref (Y.2.1 (0))), (1, .int (iI (k))), (2, .int (iI (lv)))]) hx hb dX8_levelBegin_67 hl (k := 4) rfl (iI_add _ _) (by decide) rfl (fun ls hl => ?_)
              refine lv_goto (tgt := 44) hx hb dX8_levelBegin_70 (by decide) ?_
              exact ih_44 (((lvG (ng P) (gW P) (gM P) (k - j).toNat g).2)) ((j + 1)) (by omega) (by omega) (by rw [lvB_s hj.1.1, ← hgv]) (by omega) _ _ _ X (lv_sub hl [2, 3, 4, 1, 0] rfl)
        exact lp_44 ((((lv - (0)) : Int).toNat + 1)) (0) (0) (by omega) (by omega) rfl (by omega) _ _ _ X (lv_sub hl [2, 3, 4, 1, 0] rfl)
      ·
        refine g_ldc G (z := (-1000004)) l_c159 (by decide +kernel) dX8_levelBegin_36 ?_
        exact hret _ _ _ _ _ _ (⟨by { unfold lbA; exact ((if_neg (by omega)).trans (if_pos (by omega))).symm }, hI2⟩) X dX8_levelBegin_38
    ·
      refine g_ldc G (z := (-1000001)) l_c62 (by decide +kernel) dX8_levelBegin_21 ?_
      exact hret _ _ _ _ _ _ (⟨(if_pos (by omega)).symm, hI⟩) X dX8_levelBegin_23

set_option maxHeartbeats 4000000 in
set_option maxRecDepth 100000 in
theorem t_X8_levels (l : Launch) (Y : Yt) (σ : Mem) (P : List Pt) (hs : List (List Pt)) (tx : List Int) (ch : List Int) (num : Int) (den : Int) (hI : MInv σ P hs tx ch) (h_num : -2147483648 ≤ num ∧ num ≤ 2147483647) (h_den : -2147483648 ≤ den ∧ den ≤ 2147483647) : MXi l LM Y yX8_levels wsX8_levels { frames := 2, cells := 0, slots := 0, locals := 52 } [.ref (Y.2.1 (0)), .int (iI (num)), .int (iI (den))] σ (fun z u => z = levA P num den ∧ MInv u P hs tx ch) := by
  obtain ⟨⟨hP, hok⟩, ⟨hW, hHok⟩, ⟨hTx, htok⟩, hC, hC3⟩ := id hI
  obtain ⟨hd0, h12, hd⟩ := hP.d
  have hh6 := hW.2.1
  have hkp := hW.1
  have h90 := htok.1
  have hty := hTx.1
  have hre := hC.1
  have hPr := prof_of hok hP.2.1
  obtain ⟨⟨hn0, hn12, hW0, hM0, hW24⟩, hstep, hXa, hXr⟩ := id hPr
  have hq0 : 0 ≤ gQ P ∧ gQ P ≤ 235224 := gQ_rg hok hP.2.1
  have hn9 := ng_0 hok
  refine g_starti (rty := .int) (fun _ _ _ => rfl) (cc := cX8_levels) (nL := 9) (own := RX8) (by decide) rfl rfl (Nat.le_of_ble_eq_true rfl) ?_
  intro pp ee ss mm bw mt cd AA ZZ ls G hret X hl
  have hl : lv_has ls 9 [(0, .ref (Y.2.1 (0))), (1, .int (iI (num))), (2, .int (iI (den)))] := hl
  have hx := G.1
  have hb := G.2.1
  have hts := G.2.2.2.2.1
  have l_f7 := hts (.fieldLink RX8 7 "ShapeFitsModel" "d" "[I") (List.mem_of_getElem? (i := 3) rfl)
  have l_c62 := hts (.constant RX8 62 (-1000001)) (List.mem_of_getElem? (i := 2) rfl)
  have l_c71 := hts (.constant RX8 71 (-1000002)) (List.mem_of_getElem? (i := 4) rfl)
  have l_f72 := hts (.fieldLink RX8 72 "ShapeFitsModel" "groups" "I") (List.mem_of_getElem? (i := 5) rfl)
  have l_k113 := hts (.constantLong RX8 113 (5354228880)) (List.mem_of_getElem? (i := 6) rfl)
  have l_c175 := hts (.constant RX8 175 (1000000)) (List.mem_of_getElem? (i := 1) rfl)
  have in_X8 : ∀ w ∈ u_ws RX8 TX8 24, w ∈ wsX8_levels := by decide +kernel
  refine lv_iload_n hx hb dX8_levels_0 rfl (lv_at hl 1 rfl) ?_
  refine lv_iconst (v := iI 0) hx hb dX8_levels_1 rfl ?_
  refine g_ldc G (z := 1000000) l_c175 (by decide +kernel) dX8_levels_2 ?_
  refine g_callSi G X (rest := []) (As := [.int (iI (num)), .int (iI (0)), .int (iI (1000000))]) (t_X8_in l Y (σ) (num) (0) (1000000) (by first | assumption | omega) (by first | assumption | omega) (by first | assumption | omega)) (va_cwS 3 hts gX8_levels_X8_in rfl rfl rfl (by decide +kernel) ⟨Nat.le_of_ble_eq_true rfl, Nat.le_of_ble_eq_true rfl⟩) rfl hl.1 rfl (Nat.le_of_ble_eq_true rfl) dX8_levels_4 ⟨Nat.le_refl _, Nat.le_refl _⟩ (fun z4 u4 H locs hq4 X => ?_)
  rw [hq4.1] at X
  have hq4 := hq4.2
  try dsimp only at hq4
  refine g_if_eq (tgt := 20) G dX8_levels_7 (by decide) (by omega) (fun h7 => ?_) (fun h7 => ?_)
  ·
    refine g_ldc G (z := (-1000001)) l_c62 (by decide +kernel) dX8_levels_20 ?_
    exact hret _ _ _ _ _ _ (⟨(if_pos (by omega)).symm, hI⟩) X dX8_levels_22
  ·
    refine lv_iload_n hx hb dX8_levels_10 rfl (lv_at hl 2 rfl) ?_
    refine lv_iconst (v := iI 1) hx hb dX8_levels_11 rfl ?_
    refine lv_bipush (v := iI 100) hx hb dX8_levels_12 (by decide +kernel) ?_
    refine g_callSi G X (rest := []) (As := [.int (iI (den)), .int (iI (1)), .int (iI (100))]) (t_X8_in l Y (σ) (den) (1) (100) (by first | assumption | omega) (by first | assumption | omega) (by first | assumption | omega)) (va_cwS 3 hts gX8_levels_X8_in rfl rfl rfl (by decide +kernel) ⟨Nat.le_of_ble_eq_true rfl, Nat.le_of_ble_eq_true rfl⟩) rfl hl.1 rfl (Nat.le_of_ble_eq_true rfl) dX8_levels_14 ⟨Nat.le_refl _, Nat.le_refl _⟩ (fun z14 u14 H locs hq14 X => ?_)
    rw [hq14.1] at X
    have hq14 := hq14.2
    try dsimp only at hq14
    refine g_if_ne (tgt := 23) G dX8_levels_17 (by decide) (by omega) (fun h17 => ?_) (fun h17 => ?_)
    ·
      refine lv_aload_n hx hb dX8_levels_23 rfl (lv_at hl 0 rfl) ?_
      refine g_get G X (k := 0) (fs := fM Y) (Nat.le_of_ble_eq_true rfl) (fun _ => rfl) rfl in_X8 0 (by decide) l_f7 rfl (v := .ref (Y.2.1 (1))) rfl dX8_levels_24 ?_
      refine lv_iconst (v := iI 0) hx hb dX8_levels_27 rfl ?_
      refine g_iald G X (k := 1) (n := 37) (Nat.le_of_ble_eq_true rfl) (fun _ => rfl) (by decide) (z := 0) (by omega) dX8_levels_28 ?_
      refine g_topi (z' := (P.length : Int)) hd0 ?_
      refine g_if_ne (tgt := 35) G dX8_levels_29 (by decide) (by omega) (fun h29 => ?_) (fun h29 => ?_)
      ·
        refine lv_aload_n hx hb dX8_levels_35 rfl (lv_at hl 0 rfl) ?_
        refine g_callVv G X (rest := []) (As := []) (t_X8_divides l Y (σ) P hs tx ch (by first | assumption | omega)) (cwV 0 hts gX8_levels_X8_divides rfl rfl rfl (by decide +kernel) ⟨Nat.le_of_ble_eq_true rfl, Nat.le_of_ble_eq_true rfl⟩) (k := 0) (Nat.le_of_ble_eq_true rfl) rfl rfl rfl rfl hl.1 rfl (Nat.le_of_ble_eq_true rfl) dX8_levels_36 ⟨Nat.le_refl _, Nat.le_refl _⟩ (fun u36 H locs hq36 X => ?_)
        obtain ⟨hI2, hMG, hD⟩ := id hq36
        refine lv_iconst (v := iI 1) hx hb dX8_levels_39 rfl ?_
        refine lv_istore_n (lv' := [(3, .int (iI (1))), (0, .ref (Y.2.1 (0))), (1, .int (iI (num))), (2, .int (iI (den)))]) hx hb dX8_levels_40 rfl hl (by decide) rfl (fun ls hl => ?_)
        refine lv_lconst (v := lI 0) hx hb dX8_levels_41 (by decide +kernel) ?_
        refine lv_lstore (lv' := [(4, .long (lI (0))), (3, .int (iI (1))), (0, .ref (Y.2.1 (0))), (1, .int (iI (num))), (2, .int (iI (den)))]) hx hb dX8_levels_42 hl (by decide) rfl (fun ls hl => ?_)
        refine lv_iconst (v := iI 1) hx hb dX8_levels_44 rfl ?_
        refine lv_istore (lv' := [(6, .int (iI (1))), (4, .long (lI (0))), (3, .int (iI (1))), (0, .ref (Y.2.1 (0))), (1, .int (iI (num))), (2, .int (iI (den)))]) hx hb dX8_levels_45 hl (by decide) rfl (fun ls hl => ?_)
        have lp_47 : ∀ (nn : Nat) (z2 le k : Int) (τ : Mem), ∀ hpr : ((0 ≤ num ∧ num ≤ 1000000) ∧ 1 ≤ den ∧ den ≤ 100) ∧ 0 < ng P, ∀ hk : 1 ≤ k ∧ k ≤ ng P + 1, ∀ hMT : MG τ P, ∀ hD : DivP τ P (ng P + 1) 0, ∀ hJ : MInv τ P hs tx ch, ∀ hler : -900000000000000000 ≤ le ∧ le ≤ 900000000000000000, ∀ hch : 1 < k → ChIs (k - 1) (lvC (ng P) (gW P) (gM P) (gQ P) num den) z2 ∧ le = lvC (ng P) (gW P) (gM P) (gQ P) num den z2, ∀ hdec : (ng P + 1 - k) < (nn : Int), ∀ (H : Heap) (locs : List Loc) (ls : Array Slot), wx LM Y τ ss AA H locs → lv_has ls 9 [(0, .ref (Y.2.1 (0))), (1, .int (iI (num))), (2, .int (iI (den))), (3, .int (iI (z2))), (4, .long (lI (le))), (6, .int (iI (k)))] → W pp l ee { frames := 2, cells := 0, slots := 0, locals := 52 } ss mm ([.ref (Y.2.1 (0)), .int (iI (num)), .int (iI (den))] : List Value).toArray bw mt cd H locs 0 0 ZZ (F0 mm 47 ls []) := by
          intro nn
          induction nn with
          | zero =>
            intro z2 le k τ hpr hk hMT hD hJ hler hch hdec
            exact absurd hdec (by omega)
          | succ nn ih_47 =>
            intro z2 le k τ hpr hk hMT hD hJ hler hch hdec H locs ls X hl
            refine lv_iload hx hb dX8_levels_47 (lv_at hl 5 rfl) ?_
            refine lv_aload_n hx hb dX8_levels_49 rfl (lv_at hl 0 rfl) ?_
            refine g_get G X (k := 0) (fs := fM Y) (Nat.le_of_ble_eq_true rfl) (fun _ => rfl) rfl in_X8 8 (by decide) l_f72 rfl (v := .int (iI ((τ 0 8)))) rfl dX8_levels_50 ?_
            refine g_topi (z' := ng P) hMT.2.2.1 ?_
            refine g_icmp_gt (tgt := 105) G dX8_levels_53 (by decide) (by omega) (by omega) (fun h53 => ?_) (fun h53 => ?_)
            ·
              have hze : levA P num den = z2 := levA_eq (by omega) (by omega) (by have e := hch (by omega); rw [show k - 1 = ng P by omega] at e; exact e.1)
              refine lv_iload_n hx hb dX8_levels_105 rfl (lv_at hl 3 rfl) ?_
              exact hret _ _ _ _ _ _ (⟨hze.symm, hJ⟩) X dX8_levels_106
            ·
              refine lv_aload_n hx hb dX8_levels_56 rfl (lv_at hl 0 rfl) ?_
              refine lv_iload hx hb dX8_levels_57 (lv_at hl 5 rfl) ?_
              refine g_callVl G X (rest := []) (As := [.int (iI (k))]) (t_X8_errorBy l Y (τ) P (k) hMT (by omega) hD) (cwV 1 hts gX8_levels_X8_errorBy rfl rfl rfl (by decide +kernel) ⟨Nat.le_of_ble_eq_true rfl, Nat.le_of_ble_eq_true rfl⟩) (k := 0) (Nat.le_of_ble_eq_true rfl) rfl rfl rfl rfl hl.1 rfl (Nat.le_of_ble_eq_true rfl) dX8_levels_59 ⟨Nat.le_refl _, Nat.le_refl _⟩ (fun z59 u59 H locs hq59 X => ?_)
              have hMT2 := hMT.fr hq59.2 (by omega) (by omega)
              have hD2 := hD.fr hq59.2 (by omega)
              have hJ2 := hJ.keep (hq59.2.C (by omega) (by omega))
              refine g_topl (z' := lE P k) hq59.1.1 ?_
              refine lv_iload_n hx hb dX8_levels_62 rfl (lv_at hl 2 rfl) ?_
              refine g_i2l G (by omega) dX8_levels_63 ?_
              refine g_lmul G dX8_levels_64 ?_
              refine g_ldc2 G (z := 5354228880) l_k113 (by decide +kernel) dX8_levels_65 ?_
              refine lv_iload_n hx hb dX8_levels_68 rfl (lv_at hl 1 rfl) ?_
              refine g_i2l G (by omega) dX8_levels_69 ?_
              refine g_lmul G dX8_levels_70 ?_
              refine lv_iload hx hb dX8_levels_71 (lv_at hl 5 rfl) ?_
              refine g_i2l G (by omega) dX8_levels_73 ?_
              refine g_lmul G dX8_levels_74 ?_
              refine g_ladd G dX8_levels_75 ?_
              obtain ⟨cv, hcv⟩ : ∃ x : Int, x = lvC (ng P) (gW P) (gM P) (gQ P) num den k := ⟨_, rfl⟩
              refine g_topl (z' := cv) (by rw [hcv]; rfl) ?_
              have hcr := lvC_rg hPr hq0 (k := k) (num := num) (den := den) (by omega) (by omega) (by omega)
              rw [← hcv] at hcr
              refine lv_lstore (lv' := [(7, .long (lI (cv))), (0, .ref (Y.2.1 (0))), (1, .int (iI (num))), (2, .int (iI (den))), (3, .int (iI (z2))), (4, .long (lI (le))), (6, .int (iI (k)))]) hx hb dX8_levels_76 hl (by decide) rfl (fun ls hl => ?_)
              refine lv_iload hx hb dX8_levels_78 (lv_at hl 6 rfl) ?_
              refine lv_iconst (v := iI 1) hx hb dX8_levels_80 rfl ?_
              refine g_icmp_eq (tgt := 92) G dX8_levels_81 (by decide) (by omega) (by omega) (fun h81 => ?_) (fun h81 => ?_)
              ·
                have hk1 : k = 1 := by omega
                refine lv_lload hx hb dX8_levels_92 (lv_at hl 0 rfl) ?_
                refine lv_lstore (lv' := [(4, .long (lI (cv))), (7, .long (lI (cv))), (0, .ref (Y.2.1 (0))), (1, .int (iI (num))), (2, .int (iI (den))), (3, .int (iI (z2))), (6, .int (iI (k)))]) hx hb dX8_levels_94 hl (by decide) rfl (fun ls hl => ?_)
                refine lv_iload hx hb dX8_levels_96 (lv_at hl 6 rfl) ?_
                refine lv_istore_n (lv' := [(3, .int (iI (k))), (4, .long (lI (cv))), (7, .long (lI (cv))), (0, .ref (Y.2.1 (0))), (1, .int (iI (num))), (2, .int (iI (den))), (6, .int (iI (k)))]) hx hb dX8_levels_98 rfl hl (by decide) rfl (fun ls hl => ?_)
                refine lv_iinc (v := iI (k + 1)) (lv' := [(6, .int (iI ((k + 1)))), (3, .int (iI (k))), (4, .long (lI (cv))), (7, .long (lI (cv))), (0, .ref (Y.2.1 (0))), (1, .int (iI (num))), (2, .int (iI (den)))]) hx hb dX8_levels_99 hl (k := 6) rfl (iI_add _ _) (by decide) rfl (fun ls hl => ?_)
                refine lv_goto (tgt := 47) hx hb dX8_levels_102 (by decide) ?_
                exact ih_47 (k) (cv) ((k + 1)) (u59) (by omega) (by omega) hMT2 hD2 hJ2 (by omega) (fun _ => by rw [show k + 1 - 1 = k by omega]; first | exact ⟨ch_first hk1, hcv.trans (by rw [hk1])⟩ | exact ch_take (by omega) (hch (by omega)) hcv (by omega) | exact ch_keep (by omega) (hch (by omega)) hcv (by omega)) (by omega) _ _ _ X (lv_sub hl [4, 5, 6, 1, 2, 0] rfl)
              ·
                refine lv_lload hx hb dX8_levels_84 (lv_at hl 0 rfl) ?_
                refine lv_lload hx hb dX8_levels_86 (lv_at hl 5 rfl) ?_
                refine g_lif_ge (tgt := 99) G dX8_levels_88 dX8_levels_89 (by decide) (by omega) (by omega) (fun h88 => ?_) (fun h88 => ?_)
                ·
                  refine lv_iinc (v := iI (k + 1)) (lv' := [(6, .int (iI ((k + 1)))), (7, .long (lI (cv))), (0, .ref (Y.2.1 (0))), (1, .int (iI (num))), (2, .int (iI (den))), (3, .int (iI (z2))), (4, .long (lI (le)))]) hx hb dX8_levels_99 hl (k := 6) rfl (iI_add _ _) (by decide) rfl (fun ls hl => ?_)
                  refine lv_goto (tgt := 47) hx hb dX8_levels_102 (by decide) ?_
                  exact ih_47 (z2) (le) ((k + 1)) (u59) (by omega) (by omega) hMT2 hD2 hJ2 (by omega) (fun _ => by rw [show k + 1 - 1 = k by omega]; first | exact ⟨ch_first hk1, hcv.trans (by rw [hk1])⟩ | exact ch_take (by omega) (hch (by omega)) hcv (by omega) | exact ch_keep (by omega) (hch (by omega)) hcv (by omega)) (by omega) _ _ _ X (lv_sub hl [2, 3, 4, 5, 6, 0] rfl)
                ·
                  refine lv_lload hx hb dX8_levels_92 (lv_at hl 0 rfl) ?_
                  refine lv_lstore (lv' := [(4, .long (lI (cv))), (7, .long (lI (cv))), (0, .ref (Y.2.1 (0))), (1, .int (iI (num))), (2, .int (iI (den))), (3, .int (iI (z2))), (6, .int (iI (k)))]) hx hb dX8_levels_94 hl (by decide) rfl (fun ls hl => ?_)
                  refine lv_iload hx hb dX8_levels_96 (lv_at hl 6 rfl) ?_
                  refine lv_istore_n (lv' := [(3, .int (iI (k))), (4, .long (lI (cv))), (7, .long (lI (cv))), (0, .ref (Y.2.1 (0))), (1, .int (iI (num))), (2, .int (iI (den))), (6, .int (iI (k)))]) hx hb dX8_levels_98 rfl hl (by decide) rfl (fun ls hl => ?_)
                  refine lv_iinc (v := iI (k + 1)) (lv' := [(6, .int (iI ((k + 1)))), (3, .int (iI (k))), (4, .long (lI (cv))), (7, .long (lI (cv))), (0, .ref (Y.2.1 (0))), (1, .int (iI (num))), (2, .int (iI (den)))]) hx hb dX8_levels_99 hl (k := 6) rfl (iI_add _ _) (by decide) rfl (fun ls hl => ?_)
                  refine lv_goto (tgt := 47) hx hb dX8_levels_102 (by decide) ?_
                  exact ih_47 (k) (cv) ((k + 1)) (u59) (by omega) (by omega) hMT2 hD2 hJ2 (by omega) (fun _ => by rw [show k + 1 - 1 = k by omega]; first | exact ⟨ch_first hk1, hcv.trans (by rw [hk1])⟩ | exact ch_take (by omega) (hch (by omega)) hcv (by omega) | exact ch_keep (by omega) (hch (by omega)) hcv (by omega)) (by omega) _ _ _ X (lv_sub hl [4, 5, 6, 1, 2, 0] rfl)
        exact lp_47 ((((ng P + 1 - (1)) : Int).toNat + 1)) (1) (0) (1) (u36) (by omega) (by omega) hMG hD hI2 (by omega) (fun h => absurd h (by omega)) (by omega) _ _ _ X (lv_sub hl [3, 4, 5, 2, 1, 0] rfl)
      ·
        refine g_ldc G (z := (-1000002)) l_c71 (by decide +kernel) dX8_levels_32 ?_
        exact hret _ _ _ _ _ _ (⟨((if_neg (by omega)).trans (if_pos (by omega))).symm, hI⟩) X dX8_levels_34
    ·
      refine g_ldc G (z := (-1000001)) l_c62 (by decide +kernel) dX8_levels_20 ?_
      exact hret _ _ _ _ _ _ (⟨(if_pos (by omega)).symm, hI⟩) X dX8_levels_22

