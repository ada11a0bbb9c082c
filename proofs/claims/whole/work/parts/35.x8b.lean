set_option maxHeartbeats 4000000 in
set_option maxRecDepth 100000 in
theorem t_X8_finds (l : Launch) (Y : Yt) (σ : Mem) (P : List Pt) (hs : List (List Pt)) (tx : List Int) (ch : List Int) (hI : MInv σ P hs tx ch) : MXv l LM Y yX8_finds wsX8_finds { frames := 0, cells := 0, slots := 0, locals := 0 } [.ref (Y.2.1 (0))] σ (fun u => GrIs u P ∧ Fr 6 8 8 8 σ u) := by
  obtain ⟨⟨hP, hok⟩, ⟨hW, hHok⟩, ⟨hTx, htok⟩, hC, hC3⟩ := id hI
  obtain ⟨hd0, h12, hd⟩ := hP.d
  have hh6 := hW.2.1
  have hkp := hW.1
  have h90 := htok.1
  have hty := hTx.1
  have hre := hC.1
  refine g_startv (cc := cX8_finds) (nL := 5) (own := RX8) (by decide) rfl rfl (Nat.le_of_ble_eq_true rfl) ?_
  intro pp ee ss mm bw mt cd AA ZZ ls G hret X hl
  have hl : lv_has ls 5 [(0, .ref (Y.2.1 (0)))] := hl
  have hx := G.1
  have hb := G.2.1
  have hts := G.2.2.2.2.1
  have l_f7 := hts (.fieldLink RX8 7 "ShapeFitsModel" "d" "[I") (List.mem_of_getElem? (i := 2) rfl)
  have l_f26 := hts (.fieldLink RX8 26 "ShapeFitsModel" "spot" "[I") (List.mem_of_getElem? (i := 3) rfl)
  have l_f29 := hts (.fieldLink RX8 29 "ShapeFitsModel" "weight" "[I") (List.mem_of_getElem? (i := 4) rfl)
  have l_f32 := hts (.fieldLink RX8 32 "ShapeFitsModel" "moment" "[I") (List.mem_of_getElem? (i := 5) rfl)
  have l_f72 := hts (.fieldLink RX8 72 "ShapeFitsModel" "groups" "I") (List.mem_of_getElem? (i := 1) rfl)
  have in_X8 : ∀ w ∈ u_ws RX8 TX8 24, w ∈ wsX8_finds := by decide +kernel
  refine lv_aload_n hx hb dX8_finds_0 rfl (lv_at hl 0 rfl) ?_
  refine lv_iconst (v := iI 0) hx hb dX8_finds_1 rfl ?_
  refine g_puti G X (k := 0) (fs := fM Y) (z := 0) (Nat.le_of_ble_eq_true rfl) (fun _ => rfl) rfl in_X8 tyX8 tyX8_ok nmX8 8 8 (by decide) l_f72 rfl rfl (by decide +kernel) (Nat.le_of_ble_eq_true rfl) (fun _ => rfl) dX8_finds_2 (fun H locs X => ?_)
  refine lv_iconst (v := iI 0) hx hb dX8_finds_5 rfl ?_
  refine lv_istore_n (lv' := [(1, .int (iI (0))), (0, .ref (Y.2.1 (0)))]) hx hb dX8_finds_6 rfl hl (by decide) rfl (fun ls hl => ?_)
  have lp_7 : ∀ (nn : Nat) (x : Int) (τ : Mem), ∀ hxx : 0 ≤ x ∧ x ≤ 41, ∀ hg : GrP τ P x, ∀ hF : Fr 6 8 8 8 σ τ, ∀ hdec : (41 - x) < (nn : Int), ∀ (H : Heap) (locs : List Loc) (ls : Array Slot), wx LM Y τ ss AA H locs → lv_has ls 5 [(0, .ref (Y.2.1 (0))), (1, .int (iI (x)))] → W pp l ee { frames := 0, cells := 0, slots := 0, locals := 0 } ss mm ([.ref (Y.2.1 (0))] : List Value).toArray bw mt cd H locs 0 0 ZZ (F0 mm 7 ls []) := by
    intro nn
    induction nn with
    | zero =>
      intro x τ hxx hg hF hdec
      exact absurd hdec (by omega)
    | succ nn ih_7 =>
      intro x τ hxx hg hF hdec H locs ls X hl
      refine lv_iload_n hx hb dX8_finds_7 rfl (lv_at hl 1 rfl) ?_
      refine lv_bipush (v := iI 40) hx hb dX8_finds_8 (by decide +kernel) ?_
      refine g_icmp_gt (tgt := 158) G dX8_finds_10 (by decide) (by omega) (by omega) (fun h10 => ?_) (fun h10 => ?_)
      ·
        exact hret _ _ _ _ _ (⟨grP_e (by rw [show (41 : Int) = x by omega]; exact hg), hF⟩) X dX8_finds_158
      ·
        refine lv_iconst (v := iI 0) hx hb dX8_finds_13 rfl ?_
        refine lv_istore_n (lv' := [(2, .int (iI (0))), (0, .ref (Y.2.1 (0))), (1, .int (iI (x)))]) hx hb dX8_finds_14 rfl hl (by decide) rfl (fun ls hl => ?_)
        refine lv_iconst (v := iI 0) hx hb dX8_finds_15 rfl ?_
        refine lv_istore_n (lv' := [(3, .int (iI (0))), (2, .int (iI (0))), (0, .ref (Y.2.1 (0))), (1, .int (iI (x)))]) hx hb dX8_finds_16 rfl hl (by decide) rfl (fun ls hl => ?_)
        refine lv_iconst (v := iI 0) hx hb dX8_finds_17 rfl ?_
        refine lv_istore (lv' := [(4, .int (iI (0))), (3, .int (iI (0))), (2, .int (iI (0))), (0, .ref (Y.2.1 (0))), (1, .int (iI (x)))]) hx hb dX8_finds_18 hl (by decide) rfl (fun ls hl => ?_)
        have lp_20 : ∀ (nn : Nat) (w m p : Int), ∀ hp : 0 ≤ p ∧ p ≤ P.length, ∀ hw : w = fS P (pw P) x p ∧ m = fS P (fm P) x p, ∀ hdec : (P.length - p) < (nn : Int), ∀ (H : Heap) (locs : List Loc) (ls : Array Slot), wx LM Y τ ss AA H locs → lv_has ls 5 [(0, .ref (Y.2.1 (0))), (1, .int (iI (x))), (2, .int (iI (w))), (3, .int (iI (m))), (4, .int (iI (p)))] → W pp l ee { frames := 0, cells := 0, slots := 0, locals := 0 } ss mm ([.ref (Y.2.1 (0))] : List Value).toArray bw mt cd H locs 0 0 ZZ (F0 mm 20 ls []) := by
          intro nn
          induction nn with
          | zero =>
            intro w m p hp hw hdec
            exact absurd hdec (by omega)
          | succ nn ih_20 =>
            intro w m p hp hw hdec H locs ls X hl
            have hPu := (hP.eq (hF.1 1 (by omega) (by omega))).d
            have hlt := fun hc => gLen_lt (P := P) (x := x) hxx.1 (by omega) hc
            have hgn := (prof_of hok hP.2.1).1
            refine lv_iload hx hb dX8_finds_20 (lv_at hl 4 rfl) ?_
            refine lv_aload_n hx hb dX8_finds_22 rfl (lv_at hl 0 rfl) ?_
            refine g_get G X (k := 0) (fs := fM Y) (Nat.le_of_ble_eq_true rfl) (fun _ => rfl) rfl in_X8 0 (by decide) l_f7 rfl (v := .ref (Y.2.1 (1))) rfl dX8_finds_23 ?_
            refine lv_iconst (v := iI 0) hx hb dX8_finds_26 rfl ?_
            refine g_iald G X (k := 1) (n := 37) (Nat.le_of_ble_eq_true rfl) (fun _ => rfl) (by decide) (z := 0) (by omega) dX8_finds_27 ?_
            refine g_topi (z' := (P.length : Int)) hPu.1 ?_
            refine g_icmp_ge (tgt := 108) G dX8_finds_28 (by decide) (by omega) (by omega) (fun h28 => ?_) (fun h28 => ?_)
            ·
              have hw2 : w = fAt P (pw P) x ∧ m = fAt P (fm P) x := by rw [show p = (P.length : Int) by omega, fS_all, fS_all] at hw; exact hw
              have hwr := w_rg hok hP.2.1 x
              have hw3 := hw2.1
              refine lv_iload_n hx hb dX8_finds_108 rfl (lv_at hl 2 rfl) ?_
              refine g_if_le (tgt := 152) G dX8_finds_109 (by decide) (by omega) (fun h109 => ?_) (fun h109 => ?_)
              ·
                have hoc : ¬ occ P x := fun hc => by have := hwr.2.2.1 hc; omega
                refine lv_iinc (v := iI (x + 1)) (lv' := [(1, .int (iI ((x + 1)))), (0, .ref (Y.2.1 (0))), (2, .int (iI (w))), (3, .int (iI (m))), (4, .int (iI (p)))]) hx hb dX8_finds_152 hl (k := 1) rfl (iI_add _ _) (by decide) rfl (fun ls hl => ?_)
                refine lv_goto (tgt := 7) hx hb dX8_finds_155 (by decide) ?_
                exact ih_7 ((x + 1)) (τ) (by omega) (by first | exact grP_hit hg hxx.1 hoc hw2 | exact grP_miss hg hxx.1 hoc) (by first | exact (((hF.pl (by omega)).pl (by omega)).pl (by omega)).fl (Or.inl rfl) | exact hF) (by omega) _ _ _ X (lv_sub hl [1, 0] rfl)
              ·
                have hoc : occ P x := by by_cases q : occ P x; exact q; exact absurd (hwr.2.2.2 q) (by omega)
                have hlt2 := hlt hoc
                have hL0 : 0 ≤ gLen P x := by unfold gLen; omega
                refine lv_aload_n hx hb dX8_finds_112 rfl (lv_at hl 0 rfl) ?_
                refine g_get G X (k := 0) (fs := fM Y) (Nat.le_of_ble_eq_true rfl) (fun _ => rfl) rfl in_X8 9 (by decide) l_f26 rfl (v := .ref (Y.2.1 (6))) rfl dX8_finds_113 ?_
                refine lv_aload_n hx hb dX8_finds_116 rfl (lv_at hl 0 rfl) ?_
                refine g_get G X (k := 0) (fs := fM Y) (Nat.le_of_ble_eq_true rfl) (fun _ => rfl) rfl in_X8 8 (by decide) l_f72 rfl (v := .int (iI ((τ 0 8)))) rfl dX8_finds_117 ?_
                refine g_topi (z' := gLen P x) hg.1 ?_
                refine lv_iload_n hx hb dX8_finds_120 rfl (lv_at hl 1 rfl) ?_
                refine g_iast G X (k := 6) (n := 12) (Nat.le_of_ble_eq_true rfl) (fun _ => rfl) (by decide) (z := (gLen P x)) (v := x) (by omega) dX8_finds_121 (fun H locs X => ?_)
                refine lv_aload_n hx hb dX8_finds_122 rfl (lv_at hl 0 rfl) ?_
                refine g_get G X (k := 0) (fs := fM Y) (Nat.le_of_ble_eq_true rfl) (fun _ => rfl) rfl in_X8 10 (by decide) l_f29 rfl (v := .ref (Y.2.1 (7))) rfl dX8_finds_123 ?_
                refine lv_aload_n hx hb dX8_finds_126 rfl (lv_at hl 0 rfl) ?_
                refine g_get G X (k := 0) (fs := fM Y) (Nat.le_of_ble_eq_true rfl) (fun _ => rfl) rfl in_X8 8 (by decide) l_f72 rfl (v := .int (iI ((τ 0 8)))) rfl dX8_finds_127 ?_
                refine g_topi (z' := gLen P x) hg.1 ?_
                refine lv_iload_n hx hb dX8_finds_130 rfl (lv_at hl 2 rfl) ?_
                refine g_iast G X (k := 7) (n := 12) (Nat.le_of_ble_eq_true rfl) (fun _ => rfl) (by decide) (z := (gLen P x)) (v := w) (by omega) dX8_finds_131 (fun H locs X => ?_)
                refine lv_aload_n hx hb dX8_finds_132 rfl (lv_at hl 0 rfl) ?_
                refine g_get G X (k := 0) (fs := fM Y) (Nat.le_of_ble_eq_true rfl) (fun _ => rfl) rfl in_X8 11 (by decide) l_f32 rfl (v := .ref (Y.2.1 (8))) rfl dX8_finds_133 ?_
                refine lv_aload_n hx hb dX8_finds_136 rfl (lv_at hl 0 rfl) ?_
                refine g_get G X (k := 0) (fs := fM Y) (Nat.le_of_ble_eq_true rfl) (fun _ => rfl) rfl in_X8 8 (by decide) l_f72 rfl (v := .int (iI ((τ 0 8)))) rfl dX8_finds_137 ?_
                refine g_topi (z' := gLen P x) hg.1 ?_
                refine lv_iload_n hx hb dX8_finds_140 rfl (lv_at hl 3 rfl) ?_
                refine g_iast G X (k := 8) (n := 12) (Nat.le_of_ble_eq_true rfl) (fun _ => rfl) (by decide) (z := (gLen P x)) (v := m) (by omega) dX8_finds_141 (fun H locs X => ?_)
                refine lv_aload_n hx hb dX8_finds_142 rfl (lv_at hl 0 rfl) ?_
                refine lv_dup hx hb dX8_finds_143 rfl ?_
                refine g_get G X (k := 0) (fs := fM Y) (Nat.le_of_ble_eq_true rfl) (fun _ => rfl) rfl in_X8 8 (by decide) l_f72 rfl (v := .int (iI ((τ 0 8)))) rfl dX8_finds_144 ?_
                refine g_topi (z' := gLen P x) hg.1 ?_
                refine lv_iconst (v := iI 1) hx hb dX8_finds_147 rfl ?_
                refine g_iadd G dX8_finds_148 ?_
                refine g_puti G X (k := 0) (fs := fM Y) (z := ((gLen P x) + 1)) (Nat.le_of_ble_eq_true rfl) (fun _ => rfl) rfl in_X8 tyX8 tyX8_ok nmX8 8 8 (by decide) l_f72 rfl rfl (by decide +kernel) (Nat.le_of_ble_eq_true rfl) (fun _ => rfl) dX8_finds_149 (fun H locs X => ?_)
                refine lv_iinc (v := iI (x + 1)) (lv' := [(1, .int (iI ((x + 1)))), (0, .ref (Y.2.1 (0))), (2, .int (iI (w))), (3, .int (iI (m))), (4, .int (iI (p)))]) hx hb dX8_finds_152 hl (k := 1) rfl (iI_add _ _) (by decide) rfl (fun ls hl => ?_)
                refine lv_goto (tgt := 7) hx hb dX8_finds_155 (by decide) ?_
                exact ih_7 ((x + 1)) ((up (up (up (up τ 6 (gLen P x) x) 7 (gLen P x) w) 8 (gLen P x) m) 0 8 ((gLen P x) + 1))) (by omega) (by first | exact grP_hit hg hxx.1 hoc hw2 | exact grP_miss hg hxx.1 hoc) (by first | exact (((hF.pl (by omega)).pl (by omega)).pl (by omega)).fl (Or.inl rfl) | exact hF) (by omega) _ _ _ X (lv_sub hl [1, 0] rfl)
            ·
              have hdp := hPu.2.2 p (by omega) (by omega)
              have hpr := px_ok hok (i := p) (by omega) (by omega)
              refine lv_iload_n hx hb dX8_finds_31 rfl (lv_at hl 2 rfl) ?_
              refine lv_aload_n hx hb dX8_finds_32 rfl (lv_at hl 0 rfl) ?_
              refine g_get G X (k := 0) (fs := fM Y) (Nat.le_of_ble_eq_true rfl) (fun _ => rfl) rfl in_X8 0 (by decide) l_f7 rfl (v := .ref (Y.2.1 (1))) rfl dX8_finds_33 ?_
              refine lv_iconst (v := iI 1) hx hb dX8_finds_36 rfl ?_
              refine lv_iload hx hb dX8_finds_37 (lv_at hl 4 rfl) ?_
              refine g_iadd G dX8_finds_39 ?_
              refine g_iald G X (k := 1) (n := 37) (Nat.le_of_ble_eq_true rfl) (fun _ => rfl) (by decide) (z := (1 + p)) (by omega) dX8_finds_40 ?_
              refine g_topi (z' := px P p) hdp.1 ?_
              refine lv_iload_n hx hb dX8_finds_41 rfl (lv_at hl 1 rfl) ?_
              refine g_icmp_ne (tgt := 58) G dX8_finds_42 (by decide) (by omega) (by omega) (fun h42 => ?_) (fun h42 => ?_)
              ·
                refine lv_iconst (v := iI 0) hx hb dX8_finds_58 rfl ?_
                refine g_iadd G dX8_finds_59 ?_
                refine lv_istore_n (lv' := [(2, .int (iI ((w + 0)))), (0, .ref (Y.2.1 (0))), (1, .int (iI (x))), (3, .int (iI (m))), (4, .int (iI (p)))]) hx hb dX8_finds_60 rfl hl (by decide) rfl (fun ls hl => ?_)
                refine lv_iload_n hx hb dX8_finds_61 rfl (lv_at hl 3 rfl) ?_
                refine lv_aload_n hx hb dX8_finds_62 rfl (lv_at hl 1 rfl) ?_
                refine g_get G X (k := 0) (fs := fM Y) (Nat.le_of_ble_eq_true rfl) (fun _ => rfl) rfl in_X8 0 (by decide) l_f7 rfl (v := .ref (Y.2.1 (1))) rfl dX8_finds_63 ?_
                refine lv_iconst (v := iI 1) hx hb dX8_finds_66 rfl ?_
                refine lv_iload hx hb dX8_finds_67 (lv_at hl 4 rfl) ?_
                refine g_iadd G dX8_finds_69 ?_
                refine g_iald G X (k := 1) (n := 37) (Nat.le_of_ble_eq_true rfl) (fun _ => rfl) (by decide) (z := (1 + p)) (by omega) dX8_finds_70 ?_
                refine g_topi (z' := px P p) hdp.1 ?_
                refine lv_iload_n hx hb dX8_finds_71 rfl (lv_at hl 2 rfl) ?_
                refine g_icmp_ne (tgt := 99) G dX8_finds_72 (by decide) (by omega) (by omega) (fun h72 => ?_) (fun h72 => ?_)
                ·
                  refine lv_iconst (v := iI 0) hx hb dX8_finds_99 rfl ?_
                  refine g_iadd G dX8_finds_100 ?_
                  refine lv_istore_n (lv' := [(3, .int (iI ((m + 0)))), (2, .int (iI ((w + 0)))), (0, .ref (Y.2.1 (0))), (1, .int (iI (x))), (4, .int (iI (p)))]) hx hb dX8_finds_101 rfl hl (by decide) rfl (fun ls hl => ?_)
                  refine lv_iinc (v := iI (p + 1)) (lv' := [(4, .int (iI ((p + 1)))), (3, .int (iI ((m + 0)))), (2, .int (iI ((w + 0)))), (0, .ref (Y.2.1 (0))), (1, .int (iI (x)))]) hx hb dX8_finds_102 hl (k := 4) rfl (iI_add _ _) (by decide) rfl (fun ls hl => ?_)
                  refine lv_goto (tgt := 20) hx hb dX8_finds_105 (by decide) ?_
                  exact ih_20 ((w + 0)) ((m + 0)) ((p + 1)) (by omega) (by have e : fm P p = pw P p * pv P p := rfl; obtain ⟨hwa, hwb⟩ := hw; by_cases q : px P p = x; (rw [fS_hit hp.1 q, fS_hit hp.1 q]; exact ⟨by omega, by first | omega | (exfalso; omega)⟩); (rw [fS_miss hp.1 q, fS_miss hp.1 q]; exact ⟨by omega, by first | omega | (exfalso; omega)⟩)) (by omega) _ _ _ X (lv_sub hl [3, 4, 2, 1, 0] rfl)
                ·
                  refine lv_aload_n hx hb dX8_finds_75 rfl (lv_at hl 1 rfl) ?_
                  refine g_get G X (k := 0) (fs := fM Y) (Nat.le_of_ble_eq_true rfl) (fun _ => rfl) rfl in_X8 0 (by decide) l_f7 rfl (v := .ref (Y.2.1 (1))) rfl dX8_finds_76 ?_
                  refine lv_bipush (v := iI 25) hx hb dX8_finds_79 (by decide +kernel) ?_
                  refine lv_iload hx hb dX8_finds_81 (lv_at hl 4 rfl) ?_
                  refine g_iadd G dX8_finds_83 ?_
                  refine g_iald G X (k := 1) (n := 37) (Nat.le_of_ble_eq_true rfl) (fun _ => rfl) (by decide) (z := (25 + p)) (by omega) dX8_finds_84 ?_
                  refine g_topi (z' := pw P p) hdp.2.2 ?_
                  refine lv_aload_n hx hb dX8_finds_85 rfl (lv_at hl 1 rfl) ?_
                  refine g_get G X (k := 0) (fs := fM Y) (Nat.le_of_ble_eq_true rfl) (fun _ => rfl) rfl in_X8 0 (by decide) l_f7 rfl (v := .ref (Y.2.1 (1))) rfl dX8_finds_86 ?_
                  refine lv_bipush (v := iI 13) hx hb dX8_finds_89 (by decide +kernel) ?_
                  refine lv_iload hx hb dX8_finds_91 (lv_at hl 4 rfl) ?_
                  refine g_iadd G dX8_finds_93 ?_
                  refine g_iald G X (k := 1) (n := 37) (Nat.le_of_ble_eq_true rfl) (fun _ => rfl) (by decide) (z := (13 + p)) (by omega) dX8_finds_94 ?_
                  refine g_topi (z' := pv P p) hdp.2.1 ?_
                  refine g_imul G dX8_finds_95 ?_
                  refine lv_goto (tgt := 100) hx hb dX8_finds_96 (by decide) ?_
                  refine g_iadd G dX8_finds_100 ?_
                  refine lv_istore_n (lv' := [(3, .int (iI ((m + ((pw P p) * (pv P p)))))), (2, .int (iI ((w + 0)))), (0, .ref (Y.2.1 (0))), (1, .int (iI (x))), (4, .int (iI (p)))]) hx hb dX8_finds_101 rfl hl (by decide) rfl (fun ls hl => ?_)
                  refine lv_iinc (v := iI (p + 1)) (lv' := [(4, .int (iI ((p + 1)))), (3, .int (iI ((m + ((pw P p) * (pv P p)))))), (2, .int (iI ((w + 0)))), (0, .ref (Y.2.1 (0))), (1, .int (iI (x)))]) hx hb dX8_finds_102 hl (k := 4) rfl (iI_add _ _) (by decide) rfl (fun ls hl => ?_)
                  refine lv_goto (tgt := 20) hx hb dX8_finds_105 (by decide) ?_
                  exact ih_20 ((w + 0)) ((m + ((pw P p) * (pv P p)))) ((p + 1)) (by omega) (by have e : fm P p = pw P p * pv P p := rfl; obtain ⟨hwa, hwb⟩ := hw; by_cases q : px P p = x; (rw [fS_hit hp.1 q, fS_hit hp.1 q]; exact ⟨by omega, by first | omega | (exfalso; omega)⟩); (rw [fS_miss hp.1 q, fS_miss hp.1 q]; exact ⟨by omega, by first | omega | (exfalso; omega)⟩)) (by omega) _ _ _ X (lv_sub hl [3, 4, 2, 1, 0] rfl)
              ·
                refine lv_aload_n hx hb dX8_finds_45 rfl (lv_at hl 0 rfl) ?_
                refine g_get G X (k := 0) (fs := fM Y) (Nat.le_of_ble_eq_true rfl) (fun _ => rfl) rfl in_X8 0 (by decide) l_f7 rfl (v := .ref (Y.2.1 (1))) rfl dX8_finds_46 ?_
                refine lv_bipush (v := iI 25) hx hb dX8_finds_49 (by decide +kernel) ?_
                refine lv_iload hx hb dX8_finds_51 (lv_at hl 4 rfl) ?_
                refine g_iadd G dX8_finds_53 ?_
                refine g_iald G X (k := 1) (n := 37) (Nat.le_of_ble_eq_true rfl) (fun _ => rfl) (by decide) (z := (25 + p)) (by omega) dX8_finds_54 ?_
                refine g_topi (z' := pw P p) hdp.2.2 ?_
                refine lv_goto (tgt := 59) hx hb dX8_finds_55 (by decide) ?_
                refine g_iadd G dX8_finds_59 ?_
                refine lv_istore_n (lv' := [(2, .int (iI ((w + (pw P p))))), (0, .ref (Y.2.1 (0))), (1, .int (iI (x))), (3, .int (iI (m))), (4, .int (iI (p)))]) hx hb dX8_finds_60 rfl hl (by decide) rfl (fun ls hl => ?_)
                refine lv_iload_n hx hb dX8_finds_61 rfl (lv_at hl 3 rfl) ?_
                refine lv_aload_n hx hb dX8_finds_62 rfl (lv_at hl 1 rfl) ?_
                refine g_get G X (k := 0) (fs := fM Y) (Nat.le_of_ble_eq_true rfl) (fun _ => rfl) rfl in_X8 0 (by decide) l_f7 rfl (v := .ref (Y.2.1 (1))) rfl dX8_finds_63 ?_
                refine lv_iconst (v := iI 1) hx hb dX8_finds_66 rfl ?_
                refine lv_iload hx hb dX8_finds_67 (lv_at hl 4 rfl) ?_
                refine g_iadd G dX8_finds_69 ?_
                refine g_iald G X (k := 1) (n := 37) (Nat.le_of_ble_eq_true rfl) (fun _ => rfl) (by decide) (z := (1 + p)) (by omega) dX8_finds_70 ?_
                refine g_topi (z' := px P p) hdp.1 ?_
                refine lv_iload_n hx hb dX8_finds_71 rfl (lv_at hl 2 rfl) ?_
                refine g_icmp_ne (tgt := 99) G dX8_finds_72 (by decide) (by omega) (by omega) (fun h72 => ?_) (fun h72 => ?_)
                ·
                  refine lv_iconst (v := iI 0) hx hb dX8_finds_99 rfl ?_
                  refine g_iadd G dX8_finds_100 ?_
                  refine lv_istore_n (lv' := [(3, .int (iI ((m + 0)))), (2, .int (iI ((w + (pw P p))))), (0, .ref (Y.2.1 (0))), (1, .int (iI (x))), (4, .int (iI (p)))]) hx hb dX8_finds_101 rfl hl (by decide) rfl (fun ls hl => ?_)
                  refine lv_iinc (v := iI (p + 1)) (lv' := [(4, .int (iI ((p + 1)))), (3, .int (iI ((m + 0)))), (2, .int (iI ((w + (pw P p))))), (0, .ref (Y.2.1 (0))), (1, .int (iI (x)))]) hx hb dX8_finds_102 hl (k := 4) rfl (iI_add _ _) (by decide) rfl (fun ls hl => ?_)
                  refine lv_goto (tgt := 20) hx hb dX8_finds_105 (by decide) ?_
                  exact ih_20 ((w + (pw P p))) ((m + 0)) ((p + 1)) (by omega) (by have e : fm P p = pw P p * pv P p := rfl; obtain ⟨hwa, hwb⟩ := hw; by_cases q : px P p = x; (rw [fS_hit hp.1 q, fS_hit hp.1 q]; exact ⟨by omega, by first | omega | (exfalso; omega)⟩); (rw [fS_miss hp.1 q, fS_miss hp.1 q]; exact ⟨by omega, by first | omega | (exfalso; omega)⟩)) (by omega) _ _ _ X (lv_sub hl [3, 4, 2, 1, 0] rfl)
                ·
                  refine lv_aload_n hx hb dX8_finds_75 rfl (lv_at hl 1 rfl) ?_
                  refine g_get G X (k := 0) (fs := fM Y) (Nat.le_of_ble_eq_true rfl) (fun _ => rfl) rfl in_X8 0 (by decide) l_f7 rfl (v := .ref (Y.2.1 (1))) rfl dX8_finds_76 ?_
                  refine lv_bipush (v := iI 25) hx hb dX8_finds_79 (by decide +kernel) ?_
                  refine lv_iload hx hb dX8_finds_81 (lv_at hl 4 rfl) ?_
                  refine g_iadd G dX8_finds_83 ?_
                  refine g_iald G X (k := 1) (n := 37) (Nat.le_of_ble_eq_true rfl) (fun _ => rfl) (by decide) (z := (25 + p)) (by omega) dX8_finds_84 ?_
                  refine g_topi (z' := pw P p) hdp.2.2 ?_
                  refine lv_aload_n hx hb dX8_finds_85 rfl (lv_at hl 1 rfl) ?_
                  refine g_get G X (k := 0) (fs := fM Y) (Nat.le_of_ble_eq_true rfl) (fun _ => rfl) rfl in_X8 0 (by decide) l_f7 rfl (v := .ref (Y.2.1 (1))) rfl dX8_finds_86 ?_
                  refine lv_bipush (v := iI 13) hx hb dX8_finds_89 (by decide +kernel) ?_
                  refine lv_iload hx hb dX8_finds_91 (lv_at hl 4 rfl) ?_
                  refine g_iadd G dX8_finds_93 ?_
                  refine g_iald G X (k := 1) (n := 37) (Nat.le_of_ble_eq_true rfl) (fun _ => rfl) (by decide) (z := (13 + p)) (by omega) dX8_finds_94 ?_
                  refine g_topi (z' := pv P p) hdp.2.1 ?_
                  refine g_imul G dX8_finds_95 ?_
                  refine lv_goto (tgt := 100) hx hb dX8_finds_96 (by decide) ?_
                  refine g_iadd G dX8_finds_100 ?_
                  refine lv_istore_n (lv' := [(3, .int (iI ((m + ((pw P p) * (pv P p)))))), (2, .int (iI ((w + (pw P p))))), (0, .ref (Y.2.1 (0))), (1, .int (iI (x))), (4, .int (iI (p)))]) hx hb dX8_finds_101 rfl hl (by decide) rfl (fun ls hl => ?_)
                  refine lv_iinc (v := iI (p + 1)) (lv' := [(4, .int (iI ((p + 1)))), (3, .int (iI ((m + ((pw P p) * (pv P p)))))), (2, .int (iI ((w + (pw P p))))), (0, .ref (Y.2.1 (0))), (1, .int (iI (x)))]) hx hb dX8_finds_102 hl (k := 4) rfl (iI_add _ _) (by decide) rfl (fun ls hl => ?_)
                  refine lv_goto (tgt := 20) hx hb dX8_finds_105 (by decide) ?_
                  exact ih_20 ((w + (pw P p))) ((m + ((pw P p) * (pv P p)))) ((p + 1)) (by omega) (by have e : fm P p = pw P p * pv P p := rfl; obtain ⟨hwa, hwb⟩ := hw; by_cases q : px P p = x; (rw [fS_hit hp.1 q, fS_hit hp.1 q]; exact ⟨by omega, by first | omega | (exfalso; omega)⟩); (rw [fS_miss hp.1 q, fS_miss hp.1 q]; exact ⟨by omega, by first | omega | (exfalso; omega)⟩)) (by omega) _ _ _ X (lv_sub hl [3, 4, 2, 1, 0] rfl)
        exact lp_20 ((((P.length - (0)) : Int).toNat + 1)) (0) (0) (0) (by omega) ⟨rfl, rfl⟩ (by omega) _ _ _ X (lv_sub hl [3, 4, 2, 1, 0] rfl)
  exact lp_7 ((((41 - (0)) : Int).toNat + 1)) (0) ((up σ 0 8 0)) (by omega) grP_0 (Fr.rf.fl (Or.inl rfl)) (by omega) _ _ _ X (lv_sub hl [1, 0] rfl)

set_option maxHeartbeats 4000000 in
set_option maxRecDepth 100000 in
theorem t_X8_groupOf (l : Launch) (Y : Yt) (σ : Mem) (P : List Pt) (hs : List (List Pt)) (tx : List Int) (ch : List Int) (x : Int) (hI : MInv σ P hs tx ch) (h_x : -2147483648 ≤ x ∧ x ≤ 2147483647) (hoc : occ P x) : MXi l LM Y yX8_groupOf wsX8_groupOf { frames := 1, cells := 0, slots := 0, locals := 24 } [.ref (Y.2.1 (0)), .int (iI (x))] σ (fun z u => (z = grpA P x ∧ 0 ≤ z ∧ z < ng P) ∧ MInv u P hs tx ch) := by
  obtain ⟨⟨hP, hok⟩, ⟨hW, hHok⟩, ⟨hTx, htok⟩, hC, hC3⟩ := id hI
  obtain ⟨hd0, h12, hd⟩ := hP.d
  have hh6 := hW.2.1
  have hkp := hW.1
  have h90 := htok.1
  have hty := hTx.1
  have hre := hC.1
  refine g_starti (rty := .int) (fun _ _ _ => rfl) (cc := cX8_groupOf) (nL := 3) (own := RX8) (by decide) rfl rfl (Nat.le_of_ble_eq_true rfl) ?_
  intro pp ee ss mm bw mt cd AA ZZ ls G hret X hl
  have hl : lv_has ls 3 [(0, .ref (Y.2.1 (0))), (1, .int (iI (x)))] := hl
  have hx := G.1
  have hb := G.2.1
  have hts := G.2.2.2.2.1
  have l_f26 := hts (.fieldLink RX8 26 "ShapeFitsModel" "spot" "[I") (List.mem_of_getElem? (i := 1) rfl)
  have in_X8 : ∀ w ∈ u_ws RX8 TX8 24, w ∈ wsX8_groupOf := by decide +kernel
  refine lv_aload_n hx hb dX8_groupOf_0 rfl (lv_at hl 0 rfl) ?_
  refine g_callVv G X (rest := []) (As := []) (t_X8_finds l Y (σ) P hs tx ch (by first | assumption | omega)) (cwV 0 hts gX8_groupOf_X8_finds rfl rfl rfl (by decide +kernel) ⟨Nat.le_of_ble_eq_true rfl, Nat.le_of_ble_eq_true rfl⟩) (k := 0) (Nat.le_of_ble_eq_true rfl) rfl rfl rfl rfl hl.1 rfl (Nat.le_of_ble_eq_true rfl) dX8_groupOf_1 ⟨Nat.le_refl _, Nat.le_refl _⟩ (fun u1 H locs hq1 X => ?_)
  obtain ⟨hG, hF⟩ := id hq1
  obtain ⟨g0, hg0, hg1, hgx⟩ := occ_g hok hoc
  have hgn := (prof_of hok hP.2.1).1
  refine lv_iconst (v := iI 0) hx hb dX8_groupOf_4 rfl ?_
  refine lv_istore_n (lv' := [(2, .int (iI (0))), (0, .ref (Y.2.1 (0))), (1, .int (iI (x)))]) hx hb dX8_groupOf_5 rfl hl (by decide) rfl (fun ls hl => ?_)
  have lp_6 : ∀ (nn : Nat) (g : Int), ∀ hg : 0 ≤ g ∧ g ≤ g0, ∀ hdec : (g0 - g) < (nn : Int), ∀ (H : Heap) (locs : List Loc) (ls : Array Slot), wx LM Y u1 ss AA H locs → lv_has ls 3 [(0, .ref (Y.2.1 (0))), (1, .int (iI (x))), (2, .int (iI (g)))] → W pp l ee { frames := 1, cells := 0, slots := 0, locals := 24 } ss mm ([.ref (Y.2.1 (0)), .int (iI (x))] : List Value).toArray bw mt cd H locs 0 0 ZZ (F0 mm 6 ls []) := by
    intro nn
    induction nn with
    | zero =>
      intro g hg hdec
      exact absurd hdec (by omega)
    | succ nn ih_6 =>
      intro g hg hdec H locs ls X hl
      refine lv_aload_n hx hb dX8_groupOf_6 rfl (lv_at hl 0 rfl) ?_
      refine g_get G X (k := 0) (fs := fM Y) (Nat.le_of_ble_eq_true rfl) (fun _ => rfl) rfl in_X8 9 (by decide) l_f26 rfl (v := .ref (Y.2.1 (6))) rfl dX8_groupOf_7 ?_
      refine lv_iload_n hx hb dX8_groupOf_10 rfl (lv_at hl 2 rfl) ?_
      refine g_iald G X (k := 6) (n := 12) (Nat.le_of_ble_eq_true rfl) (fun _ => rfl) (by decide) (z := g) (by omega) dX8_groupOf_11 ?_
      refine g_topi (z' := gX P g) (hG.2 g (by omega) (by omega)).1 ?_
      have hxr := gX_occ (P := P) (g := g) (by omega) (by omega)
      refine lv_iload_n hx hb dX8_groupOf_12 rfl (lv_at hl 1 rfl) ?_
      refine g_icmp_eq (tgt := 22) G dX8_groupOf_13 (by decide) (by omega) (by omega) (fun h13 => ?_) (fun h13 => ?_)
      ·
        refine lv_iload_n hx hb dX8_groupOf_22 rfl (lv_at hl 2 rfl) ?_
        exact hret _ _ _ _ _ _ (⟨⟨(grpA_eq hg.1 (by omega) (by omega)).symm, hg.1, by omega⟩, hI.keep (hF.C (by omega) (by omega))⟩) X dX8_groupOf_23
      ·
        have hgl : g < g0 := by by_cases q : g = g0; (rw [q] at h13; omega); omega
        refine lv_iinc (v := iI (g + 1)) (lv' := [(2, .int (iI ((g + 1)))), (0, .ref (Y.2.1 (0))), (1, .int (iI (x)))]) hx hb dX8_groupOf_16 hl (k := 2) rfl (iI_add _ _) (by decide) rfl (fun ls hl => ?_)
        refine lv_goto (tgt := 6) hx hb dX8_groupOf_19 (by decide) ?_
        exact ih_6 ((g + 1)) (by omega) (by omega) _ _ _ X (lv_sub hl [1, 2, 0] rfl)
  exact lp_6 ((((g0 - (0)) : Int).toNat + 1)) (0) (by omega) (by omega) _ _ _ X (lv_sub hl [1, 2, 0] rfl)

set_option maxHeartbeats 4000000 in
set_option maxRecDepth 100000 in
theorem t_X8_pointInfo (l : Launch) (Y : Yt) (σ : Mem) (P : List Pt) (hs : List (List Pt)) (tx : List Int) (ch : List Int) (p : Int) (w : Int) (hI : MInv σ P hs tx ch) (h_p : -2147483648 ≤ p ∧ p ≤ 2147483647) (h_w : -2147483648 ≤ w ∧ w ≤ 2147483647) : MXi l LM Y yX8_pointInfo wsX8_pointInfo { frames := 2, cells := 0, slots := 0, locals := 46 } [.ref (Y.2.1 (0)), .int (iI (p)), .int (iI (w))] σ (fun z u => z = pinA P p w ∧ MInv u P hs tx ch) := by
  obtain ⟨⟨hP, hok⟩, ⟨hW, hHok⟩, ⟨hTx, htok⟩, hC, hC3⟩ := id hI
  obtain ⟨hd0, h12, hd⟩ := hP.d
  have hh6 := hW.2.1
  have hkp := hW.1
  have h90 := htok.1
  have hty := hTx.1
  have hre := hC.1
  refine g_starti (rty := .int) (fun _ _ _ => rfl) (cc := cX8_pointInfo) (nL := 3) (own := RX8) (by decide) rfl rfl (Nat.le_of_ble_eq_true rfl) ?_
  intro pp ee ss mm bw mt cd AA ZZ ls G hret X hl
  have hl : lv_has ls 3 [(0, .ref (Y.2.1 (0))), (1, .int (iI (p))), (2, .int (iI (w)))] := hl
  have hx := G.1
  have hb := G.2.1
  have hts := G.2.2.2.2.1
  have l_f7 := hts (.fieldLink RX8 7 "ShapeFitsModel" "d" "[I") (List.mem_of_getElem? (i := 2) rfl)
  have l_c62 := hts (.constant RX8 62 (-1000001)) (List.mem_of_getElem? (i := 1) rfl)
  have in_X8 : ∀ w ∈ u_ws RX8 TX8 24, w ∈ wsX8_pointInfo := by decide +kernel
  refine lv_aload_n hx hb dX8_pointInfo_0 rfl (lv_at hl 0 rfl) ?_
  refine lv_iload_n hx hb dX8_pointInfo_1 rfl (lv_at hl 1 rfl) ?_
  refine g_callVi G X (rest := []) (As := [.int (iI (p))]) (t_X8_isPoint l Y (σ) P hs tx ch (p) (by first | assumption | omega) (by first | assumption | omega)) (cwV 1 hts gX8_pointInfo_X8_isPoint rfl rfl rfl (by decide +kernel) ⟨Nat.le_of_ble_eq_true rfl, Nat.le_of_ble_eq_true rfl⟩) (k := 0) (Nat.le_of_ble_eq_true rfl) rfl rfl rfl rfl hl.1 rfl (Nat.le_of_ble_eq_true rfl) dX8_pointInfo_2 ⟨Nat.le_refl _, Nat.le_refl _⟩ (fun z2 u2 H locs hq2 X => ?_)
  rw [hq2.1] at X
  have hq2 := hq2.2
  try dsimp only at hq2
  refine g_if_eq (tgt := 17) G dX8_pointInfo_5 (by decide) (by omega) (fun h5 => ?_) (fun h5 => ?_)
  ·
    refine g_ldc G (z := (-1000001)) l_c62 (by decide +kernel) dX8_pointInfo_17 ?_
    exact hret _ _ _ _ _ _ (⟨(if_pos (by omega)).symm, hI⟩) X dX8_pointInfo_19
  ·
    refine lv_iload_n hx hb dX8_pointInfo_8 rfl (lv_at hl 2 rfl) ?_
    refine lv_iconst (v := iI 0) hx hb dX8_pointInfo_9 rfl ?_
    refine lv_iconst (v := iI 3) hx hb dX8_pointInfo_10 rfl ?_
    refine g_callSi G X (rest := []) (As := [.int (iI (w)), .int (iI (0)), .int (iI (3))]) (t_X8_in l Y (σ) (w) (0) (3) (by first | assumption | omega) (by first | assumption | omega) (by first | assumption | omega)) (va_cwS 3 hts gX8_pointInfo_X8_in rfl rfl rfl (by decide +kernel) ⟨Nat.le_of_ble_eq_true rfl, Nat.le_of_ble_eq_true rfl⟩) rfl hl.1 rfl (Nat.le_of_ble_eq_true rfl) dX8_pointInfo_11 ⟨Nat.le_refl _, Nat.le_refl _⟩ (fun z11 u11 H locs hq11 X => ?_)
    rw [hq11.1] at X
    have hq11 := hq11.2
    try dsimp only at hq11
    refine g_if_ne (tgt := 20) G dX8_pointInfo_14 (by decide) (by omega) (fun h14 => ?_) (fun h14 => ?_)
    ·
      refine lv_iload_n hx hb dX8_pointInfo_20 rfl (lv_at hl 2 rfl) ?_
      refine lv_iconst (v := iI 3) hx hb dX8_pointInfo_21 rfl ?_
      refine g_icmp_ne (tgt := 40) G dX8_pointInfo_22 (by decide) (by omega) (by omega) (fun h22 => ?_) (fun h22 => ?_)
      ·
        refine lv_aload_n hx hb dX8_pointInfo_40 rfl (lv_at hl 0 rfl) ?_
        refine g_get G X (k := 0) (fs := fM Y) (Nat.le_of_ble_eq_true rfl) (fun _ => rfl) rfl in_X8 0 (by decide) l_f7 rfl (v := .ref (Y.2.1 (1))) rfl dX8_pointInfo_41 ?_
        refine lv_iconst (v := iI 1) hx hb dX8_pointInfo_44 rfl ?_
        refine lv_bipush (v := iI 12) hx hb dX8_pointInfo_45 (by decide +kernel) ?_
        refine lv_iload_n hx hb dX8_pointInfo_47 rfl (lv_at hl 2 rfl) ?_
        refine g_imul G dX8_pointInfo_48 ?_
        refine g_iadd G dX8_pointInfo_49 ?_
        refine lv_iload_n hx hb dX8_pointInfo_50 rfl (lv_at hl 1 rfl) ?_
        refine g_iadd G dX8_pointInfo_51 ?_
        refine g_iald G X (k := 1) (n := 37) (Nat.le_of_ble_eq_true rfl) (fun _ => rfl) (by decide) (z := ((1 + (12 * w)) + p)) (by omega) dX8_pointInfo_52 ?_
        refine g_topi (z' := pinA P p w) (pin_read hd (by omega) (by omega)) ?_
        have hI2 := hI
        exact hret _ _ _ _ _ _ (⟨rfl, hI2⟩) X dX8_pointInfo_53
      ·
        refine lv_aload_n hx hb dX8_pointInfo_25 rfl (lv_at hl 0 rfl) ?_
        refine lv_aload_n hx hb dX8_pointInfo_26 rfl (lv_at hl 0 rfl) ?_
        refine g_get G X (k := 0) (fs := fM Y) (Nat.le_of_ble_eq_true rfl) (fun _ => rfl) rfl in_X8 0 (by decide) l_f7 rfl (v := .ref (Y.2.1 (1))) rfl dX8_pointInfo_27 ?_
        refine lv_iconst (v := iI 1) hx hb dX8_pointInfo_30 rfl ?_
        refine lv_iload_n hx hb dX8_pointInfo_31 rfl (lv_at hl 1 rfl) ?_
        refine g_iadd G dX8_pointInfo_32 ?_
        refine g_iald G X (k := 1) (n := 37) (Nat.le_of_ble_eq_true rfl) (fun _ => rfl) (by decide) (z := (1 + p)) (by omega) dX8_pointInfo_33 ?_
        refine g_topi (z' := px P p) (hd p (by omega) (by omega)).1 ?_
        have hpr := px_ok hok (i := p) (by omega) (by omega)
        refine g_callVi G X (rest := []) (As := [.int (iI ((px P p)))]) (t_X8_groupOf l Y (σ) P hs tx ch ((px P p)) (by first | assumption | omega) (by first | assumption | omega) ⟨p, by omega, by omega, rfl⟩) (cwV 1 hts gX8_pointInfo_X8_groupOf rfl rfl rfl (by decide +kernel) ⟨Nat.le_of_ble_eq_true rfl, Nat.le_of_ble_eq_true rfl⟩) (k := 0) (Nat.le_of_ble_eq_true rfl) rfl rfl rfl rfl hl.1 rfl (Nat.le_of_ble_eq_true rfl) dX8_pointInfo_34 ⟨Nat.le_refl _, Nat.le_refl _⟩ (fun z34 u34 H locs hq34 X => ?_)
        obtain ⟨hga, hI2⟩ := id hq34
        refine g_topi (z' := pinA P p w) (by rw [hga.1, show w = 3 by omega]; exact (pin_3 (by omega)).symm) ?_
        refine lv_goto (tgt := 53) hx hb dX8_pointInfo_37 (by decide) ?_
        exact hret _ _ _ _ _ _ (⟨rfl, hI2⟩) X dX8_pointInfo_53
    ·
      refine g_ldc G (z := (-1000001)) l_c62 (by decide +kernel) dX8_pointInfo_17 ?_
      exact hret _ _ _ _ _ _ (⟨(if_pos (by omega)).symm, hI⟩) X dX8_pointInfo_19

set_option maxHeartbeats 4000000 in
set_option maxRecDepth 100000 in
theorem t_X8_groups (l : Launch) (Y : Yt) (σ : Mem) (P : List Pt) (hs : List (List Pt)) (tx : List Int) (ch : List Int) (hI : MInv σ P hs tx ch) : MXi l LM Y yX8_groups wsX8_groups { frames := 1, cells := 0, slots := 0, locals := 24 } [.ref (Y.2.1 (0))] σ (fun z u => z = ng P ∧ MInv u P hs tx ch) := by
  obtain ⟨⟨hP, hok⟩, ⟨hW, hHok⟩, ⟨hTx, htok⟩, hC, hC3⟩ := id hI
  obtain ⟨hd0, h12, hd⟩ := hP.d
  have hh6 := hW.2.1
  have hkp := hW.1
  have h90 := htok.1
  have hty := hTx.1
  have hre := hC.1
  refine g_starti (rty := .int) (fun _ _ _ => rfl) (cc := cX8_groups) (nL := 1) (own := RX8) (by decide) rfl rfl (Nat.le_of_ble_eq_true rfl) ?_
  intro pp ee ss mm bw mt cd AA ZZ ls G hret X hl
  have hl : lv_has ls 1 [(0, .ref (Y.2.1 (0)))] := hl
  have hx := G.1
  have hb := G.2.1
  have hts := G.2.2.2.2.1
  have l_f72 := hts (.fieldLink RX8 72 "ShapeFitsModel" "groups" "I") (List.mem_of_getElem? (i := 1) rfl)
  have in_X8 : ∀ w ∈ u_ws RX8 TX8 24, w ∈ wsX8_groups := by decide +kernel
  refine lv_aload_n hx hb dX8_groups_0 rfl (lv_at hl 0 rfl) ?_
  refine g_callVv G X (rest := []) (As := []) (t_X8_finds l Y (σ) P hs tx ch (by first | assumption | omega)) (cwV 0 hts gX8_groups_X8_finds rfl rfl rfl (by decide +kernel) ⟨Nat.le_of_ble_eq_true rfl, Nat.le_of_ble_eq_true rfl⟩) (k := 0) (Nat.le_of_ble_eq_true rfl) rfl rfl rfl rfl hl.1 rfl (Nat.le_of_ble_eq_true rfl) dX8_groups_1 ⟨Nat.le_refl _, Nat.le_refl _⟩ (fun u1 H locs hq1 X => ?_)
  obtain ⟨hG, hF⟩ := id hq1
  refine lv_aload_n hx hb dX8_groups_4 rfl (lv_at hl 0 rfl) ?_
  refine g_get G X (k := 0) (fs := fM Y) (Nat.le_of_ble_eq_true rfl) (fun _ => rfl) rfl in_X8 8 (by decide) l_f72 rfl (v := .int (iI ((u1 0 8)))) rfl dX8_groups_5 ?_
  exact hret _ _ _ _ _ _ (⟨hG.1, hI.keep (hF.C (by omega) (by omega))⟩) X dX8_groups_8

set_option maxHeartbeats 4000000 in
set_option maxRecDepth 100000 in
theorem t_X8_isGroup (l : Launch) (Y : Yt) (σ : Mem) (P : List Pt) (hs : List (List Pt)) (tx : List Int) (ch : List Int) (g : Int) (hI : MInv σ P hs tx ch) (h_g : -2147483648 ≤ g ∧ g ≤ 2147483647) : MXi l LM Y yX8_isGroup wsX8_isGroup { frames := 1, cells := 0, slots := 0, locals := 24 } [.ref (Y.2.1 (0)), .int (iI (g))] σ (fun z u => ((z = 1 ∧ 0 ≤ g ∧ g < ng P) ∨ (z = 0 ∧ ¬ (0 ≤ g ∧ g < ng P))) ∧ GrIs u P ∧ Fr 6 8 8 8 σ u) := by
  obtain ⟨⟨hP, hok⟩, ⟨hW, hHok⟩, ⟨hTx, htok⟩, hC, hC3⟩ := id hI
  obtain ⟨hd0, h12, hd⟩ := hP.d
  have hh6 := hW.2.1
  have hkp := hW.1
  have h90 := htok.1
  have hty := hTx.1
  have hre := hC.1
  refine g_starti (rty := .boolean) (fun z u h => nrZ (by have := h.1; omega)) (cc := cX8_isGroup) (nL := 2) (own := RX8) (by decide) rfl rfl (Nat.le_of_ble_eq_true rfl) ?_
  intro pp ee ss mm bw mt cd AA ZZ ls G hret X hl
  have hl : lv_has ls 2 [(0, .ref (Y.2.1 (0))), (1, .int (iI (g)))] := hl
  have hx := G.1
  have hb := G.2.1
  have hts := G.2.2.2.2.1
  have l_f72 := hts (.fieldLink RX8 72 "ShapeFitsModel" "groups" "I") (List.mem_of_getElem? (i := 1) rfl)
  have in_X8 : ∀ w ∈ u_ws RX8 TX8 24, w ∈ wsX8_isGroup := by decide +kernel
  refine lv_aload_n hx hb dX8_isGroup_0 rfl (lv_at hl 0 rfl) ?_
  refine g_callVv G X (rest := []) (As := []) (t_X8_finds l Y (σ) P hs tx ch (by first | assumption | omega)) (cwV 0 hts gX8_isGroup_X8_finds rfl rfl rfl (by decide +kernel) ⟨Nat.le_of_ble_eq_true rfl, Nat.le_of_ble_eq_true rfl⟩) (k := 0) (Nat.le_of_ble_eq_true rfl) rfl rfl rfl rfl hl.1 rfl (Nat.le_of_ble_eq_true rfl) dX8_isGroup_1 ⟨Nat.le_refl _, Nat.le_refl _⟩ (fun u1 H locs hq1 X => ?_)
  obtain ⟨hG, hF⟩ := id hq1
  have hgn := (prof_of hok hP.2.1).1
  refine lv_iload_n hx hb dX8_isGroup_4 rfl (lv_at hl 1 rfl) ?_
  refine lv_iconst (v := iI 0) hx hb dX8_isGroup_5 rfl ?_
  refine lv_aload_n hx hb dX8_isGroup_6 rfl (lv_at hl 0 rfl) ?_
  refine g_get G X (k := 0) (fs := fM Y) (Nat.le_of_ble_eq_true rfl) (fun _ => rfl) rfl in_X8 8 (by decide) l_f72 rfl (v := .int (iI ((u1 0 8)))) rfl dX8_isGroup_7 ?_
  refine g_topi (z' := ng P) hG.1 ?_
  refine lv_iconst (v := iI 1) hx hb dX8_isGroup_10 rfl ?_
  refine g_isub G dX8_isGroup_11 ?_
  refine g_callSi G X (rest := []) (As := [.int (iI (g)), .int (iI (0)), .int (iI (((ng P) - 1)))]) (t_X8_in l Y (u1) (g) (0) (((ng P) - 1)) (by first | assumption | omega) (by first | assumption | omega) (by first | assumption | omega)) (va_cwS 3 hts gX8_isGroup_X8_in rfl rfl rfl (by decide +kernel) ⟨Nat.le_of_ble_eq_true rfl, Nat.le_of_ble_eq_true rfl⟩) rfl hl.1 rfl (Nat.le_of_ble_eq_true rfl) dX8_isGroup_12 ⟨Nat.le_refl _, Nat.le_refl _⟩ (fun z12 u12 H locs hq12 X => ?_)
  rw [hq12.1] at X
  have hq12 := hq12.2
  try dsimp only at hq12
  exact hret _ _ _ _ _ _ (⟨by omega, hG, hF⟩) X dX8_isGroup_15

set_option maxHeartbeats 4000000 in
set_option maxRecDepth 100000 in
theorem t_X8_groupInfo (l : Launch) (Y : Yt) (σ : Mem) (P : List Pt) (hs : List (List Pt)) (tx : List Int) (ch : List Int) (g : Int) (w : Int) (hI : MInv σ P hs tx ch) (h_g : -2147483648 ≤ g ∧ g ≤ 2147483647) (h_w : -2147483648 ≤ w ∧ w ≤ 2147483647) : MXi l LM Y yX8_groupInfo wsX8_groupInfo { frames := 2, cells := 0, slots := 0, locals := 45 } [.ref (Y.2.1 (0)), .int (iI (g)), .int (iI (w))] σ (fun z u => z = ginA P g w ∧ MInv u P hs tx ch) := by
  obtain ⟨⟨hP, hok⟩, ⟨hW, hHok⟩, ⟨hTx, htok⟩, hC, hC3⟩ := id hI
  obtain ⟨hd0, h12, hd⟩ := hP.d
  have hh6 := hW.2.1
  have hkp := hW.1
  have h90 := htok.1
  have hty := hTx.1
  have hre := hC.1
  refine g_starti (rty := .int) (fun _ _ _ => rfl) (cc := cX8_groupInfo) (nL := 5) (own := RX8) (by decide) rfl rfl (Nat.le_of_ble_eq_true rfl) ?_
  intro pp ee ss mm bw mt cd AA ZZ ls G hret X hl
  have hl : lv_has ls 5 [(0, .ref (Y.2.1 (0))), (1, .int (iI (g))), (2, .int (iI (w)))] := hl
  have hx := G.1
  have hb := G.2.1
  have hts := G.2.2.2.2.1
  have l_f7 := hts (.fieldLink RX8 7 "ShapeFitsModel" "d" "[I") (List.mem_of_getElem? (i := 2) rfl)
  have l_f26 := hts (.fieldLink RX8 26 "ShapeFitsModel" "spot" "[I") (List.mem_of_getElem? (i := 3) rfl)
  have l_f29 := hts (.fieldLink RX8 29 "ShapeFitsModel" "weight" "[I") (List.mem_of_getElem? (i := 4) rfl)
  have l_f32 := hts (.fieldLink RX8 32 "ShapeFitsModel" "moment" "[I") (List.mem_of_getElem? (i := 5) rfl)
  have l_c62 := hts (.constant RX8 62 (-1000001)) (List.mem_of_getElem? (i := 1) rfl)
  have in_X8 : ∀ w ∈ u_ws RX8 TX8 24, w ∈ wsX8_groupInfo := by decide +kernel
  refine lv_aload_n hx hb dX8_groupInfo_0 rfl (lv_at hl 0 rfl) ?_
  refine lv_iload_n hx hb dX8_groupInfo_1 rfl (lv_at hl 1 rfl) ?_
  refine g_callVi G X (rest := []) (As := [.int (iI (g))]) (t_X8_isGroup l Y (σ) P hs tx ch (g) (by first | assumption | omega) (by first | assumption | omega)) (cwV 1 hts gX8_groupInfo_X8_isGroup rfl rfl rfl (by decide +kernel) ⟨Nat.le_of_ble_eq_true rfl, Nat.le_of_ble_eq_true rfl⟩) (k := 0) (Nat.le_of_ble_eq_true rfl) rfl rfl rfl rfl hl.1 rfl (Nat.le_of_ble_eq_true rfl) dX8_groupInfo_2 ⟨Nat.le_refl _, Nat.le_refl _⟩ (fun z2 u2 H locs hq2 X => ?_)
  obtain ⟨hz2, hG, hF⟩ := id hq2
  have hI2 := hI.keep (hF.C (by omega) (by omega))
  have hPu := (hP.eq (hF.1 1 (by omega) (by omega))).d
  have hgn := (prof_of hok hP.2.1).1
  refine g_if_eq (tgt := 17) G dX8_groupInfo_5 (by decide) (by omega) (fun h5 => ?_) (fun h5 => ?_)
  ·
    refine g_ldc G (z := (-1000001)) l_c62 (by decide +kernel) dX8_groupInfo_17 ?_
    exact hret _ _ _ _ _ _ (⟨(if_pos (by omega)).symm, hI2⟩) X dX8_groupInfo_19
  ·
    refine lv_iload_n hx hb dX8_groupInfo_8 rfl (lv_at hl 2 rfl) ?_
    refine lv_iconst (v := iI 0) hx hb dX8_groupInfo_9 rfl ?_
    refine lv_iconst (v := iI 3) hx hb dX8_groupInfo_10 rfl ?_
    refine g_callSi G X (rest := []) (As := [.int (iI (w)), .int (iI (0)), .int (iI (3))]) (t_X8_in l Y (u2) (w) (0) (3) (by first | assumption | omega) (by first | assumption | omega) (by first | assumption | omega)) (va_cwS 3 hts gX8_groupInfo_X8_in rfl rfl rfl (by decide +kernel) ⟨Nat.le_of_ble_eq_true rfl, Nat.le_of_ble_eq_true rfl⟩) rfl hl.1 rfl (Nat.le_of_ble_eq_true rfl) dX8_groupInfo_11 ⟨Nat.le_refl _, Nat.le_refl _⟩ (fun z11 u11 H locs hq11 X => ?_)
    rw [hq11.1] at X
    have hq11 := hq11.2
    try dsimp only at hq11
    refine g_if_ne (tgt := 20) G dX8_groupInfo_14 (by decide) (by omega) (fun h14 => ?_) (fun h14 => ?_)
    ·
      refine lv_iload_n hx hb dX8_groupInfo_20 rfl (lv_at hl 2 rfl) ?_
      refine lv_iconst (v := iI 3) hx hb dX8_groupInfo_21 rfl ?_
      refine g_icmp_ne (tgt := 75) G dX8_groupInfo_22 (by decide) (by omega) (by omega) (fun h22 => ?_) (fun h22 => ?_)
      ·
        refine lv_iload_n hx hb dX8_groupInfo_75 rfl (lv_at hl 2 rfl) ?_
        refine g_if_ne (tgt := 88) G dX8_groupInfo_76 (by decide) (by omega) (fun h76 => ?_) (fun h76 => ?_)
        ·
          refine lv_iload_n hx hb dX8_groupInfo_88 rfl (lv_at hl 2 rfl) ?_
          refine lv_iconst (v := iI 1) hx hb dX8_groupInfo_89 rfl ?_
          refine g_icmp_ne (tgt := 102) G dX8_groupInfo_90 (by decide) (by omega) (by omega) (fun h90 => ?_) (fun h90 => ?_)
          ·
            refine lv_aload_n hx hb dX8_groupInfo_102 rfl (lv_at hl 0 rfl) ?_
            refine g_get G X (k := 0) (fs := fM Y) (Nat.le_of_ble_eq_true rfl) (fun _ => rfl) rfl in_X8 11 (by decide) l_f32 rfl (v := .ref (Y.2.1 (8))) rfl dX8_groupInfo_103 ?_
            refine lv_iload_n hx hb dX8_groupInfo_106 rfl (lv_at hl 1 rfl) ?_
            refine g_iald G X (k := 8) (n := 12) (Nat.le_of_ble_eq_true rfl) (fun _ => rfl) (by decide) (z := g) (by omega) dX8_groupInfo_107 ?_
            refine g_topi (z' := gM P (g + 1) - gM P g) (hG.2 g (by omega) (by omega)).2.2 ?_
            refine g_topi (z' := ginA P g w) (by unfold ginA; exact ((if_neg (by omega)).trans ((if_neg (by omega)).trans ((if_neg (by omega)).trans (if_pos (by omega))))).symm) ?_
            exact hret _ _ _ _ _ _ (⟨rfl, hI2⟩) X dX8_groupInfo_108
          ·
            refine lv_aload_n hx hb dX8_groupInfo_93 rfl (lv_at hl 0 rfl) ?_
            refine g_get G X (k := 0) (fs := fM Y) (Nat.le_of_ble_eq_true rfl) (fun _ => rfl) rfl in_X8 10 (by decide) l_f29 rfl (v := .ref (Y.2.1 (7))) rfl dX8_groupInfo_94 ?_
            refine lv_iload_n hx hb dX8_groupInfo_97 rfl (lv_at hl 1 rfl) ?_
            refine g_iald G X (k := 7) (n := 12) (Nat.le_of_ble_eq_true rfl) (fun _ => rfl) (by decide) (z := g) (by omega) dX8_groupInfo_98 ?_
            refine g_topi (z' := gW P (g + 1) - gW P g) (hG.2 g (by omega) (by omega)).2.1 ?_
            refine g_topi (z' := ginA P g w) (by unfold ginA; exact ((if_neg (by omega)).trans ((if_neg (by omega)).trans (if_pos (by omega)))).symm) ?_
            refine lv_goto (tgt := 108) hx hb dX8_groupInfo_99 (by decide) ?_
            exact hret _ _ _ _ _ _ (⟨rfl, hI2⟩) X dX8_groupInfo_108
        ·
          refine lv_aload_n hx hb dX8_groupInfo_79 rfl (lv_at hl 0 rfl) ?_
          refine g_get G X (k := 0) (fs := fM Y) (Nat.le_of_ble_eq_true rfl) (fun _ => rfl) rfl in_X8 9 (by decide) l_f26 rfl (v := .ref (Y.2.1 (6))) rfl dX8_groupInfo_80 ?_
          refine lv_iload_n hx hb dX8_groupInfo_83 rfl (lv_at hl 1 rfl) ?_
          refine g_iald G X (k := 6) (n := 12) (Nat.le_of_ble_eq_true rfl) (fun _ => rfl) (by decide) (z := g) (by omega) dX8_groupInfo_84 ?_
          refine g_topi (z' := gX P g) (hG.2 g (by omega) (by omega)).1 ?_
          refine g_topi (z' := ginA P g w) (by unfold ginA; exact ((if_neg (by omega)).trans (if_pos (by omega))).symm) ?_
          refine lv_goto (tgt := 108) hx hb dX8_groupInfo_85 (by decide) ?_
          exact hret _ _ _ _ _ _ (⟨rfl, hI2⟩) X dX8_groupInfo_108
      ·
        refine lv_iconst (v := iI 0) hx hb dX8_groupInfo_25 rfl ?_
        refine lv_istore_n (lv' := [(3, .int (iI (0))), (0, .ref (Y.2.1 (0))), (1, .int (iI (g))), (2, .int (iI (w)))]) hx hb dX8_groupInfo_26 rfl hl (by decide) rfl (fun ls hl => ?_)
        refine lv_iconst (v := iI 0) hx hb dX8_groupInfo_27 rfl ?_
        refine lv_istore (lv' := [(4, .int (iI (0))), (3, .int (iI (0))), (0, .ref (Y.2.1 (0))), (1, .int (iI (g))), (2, .int (iI (w)))]) hx hb dX8_groupInfo_28 hl (by decide) rfl (fun ls hl => ?_)
        have lp_30 : ∀ (nn : Nat) (c p : Int), ∀ hp : 0 ≤ p ∧ p ≤ P.length, ∀ hc : c = fS P (fun _ => 1) (gX P g) p, ∀ hdec : (P.length - p) < (nn : Int), ∀ (H : Heap) (locs : List Loc) (ls : Array Slot), wx LM Y u2 ss AA H locs → lv_has ls 5 [(0, .ref (Y.2.1 (0))), (1, .int (iI (g))), (2, .int (iI (w))), (3, .int (iI (c))), (4, .int (iI (p)))] → W pp l ee { frames := 2, cells := 0, slots := 0, locals := 45 } ss mm ([.ref (Y.2.1 (0)), .int (iI (g)), .int (iI (w))] : List Value).toArray bw mt cd H locs 0 0 ZZ (F0 mm 30 ls []) := by
          intro nn
          induction nn with
          | zero =>
            intro c p hp hc hdec
            exact absurd hdec (by omega)
          | succ nn ih_30 =>
            intro c p hp hc hdec H locs ls X hl
            refine lv_iload hx hb dX8_groupInfo_30 (lv_at hl 4 rfl) ?_
            refine lv_aload_n hx hb dX8_groupInfo_32 rfl (lv_at hl 0 rfl) ?_
            refine g_get G X (k := 0) (fs := fM Y) (Nat.le_of_ble_eq_true rfl) (fun _ => rfl) rfl in_X8 0 (by decide) l_f7 rfl (v := .ref (Y.2.1 (1))) rfl dX8_groupInfo_33 ?_
            refine lv_iconst (v := iI 0) hx hb dX8_groupInfo_36 rfl ?_
            refine g_iald G X (k := 1) (n := 37) (Nat.le_of_ble_eq_true rfl) (fun _ => rfl) (by decide) (z := 0) (by omega) dX8_groupInfo_37 ?_
            refine g_topi (z' := (P.length : Int)) hPu.1 ?_
            refine g_icmp_ge (tgt := 73) G dX8_groupInfo_38 (by decide) (by omega) (by omega) (fun h38 => ?_) (fun h38 => ?_)
            ·
              refine lv_iload_n hx hb dX8_groupInfo_73 rfl (lv_at hl 3 rfl) ?_
              exact hret _ _ _ _ _ _ (⟨by rw [hc, show p = (P.length : Int) by omega, fS_all]; unfold ginA; exact ((if_neg (by omega)).trans ((if_neg (by omega)).trans ((if_neg (by omega)).trans (if_neg (by omega))))).symm, hI2⟩) X dX8_groupInfo_74
            ·
              have hdp := hPu.2.2 p (by omega) (by omega)
              have hpr := px_ok hok (i := p) (by omega) (by omega)
              have hxr := gX_occ (P := P) (g := g) (by omega) (by omega)
              refine lv_iload_n hx hb dX8_groupInfo_41 rfl (lv_at hl 3 rfl) ?_
              refine lv_aload_n hx hb dX8_groupInfo_42 rfl (lv_at hl 0 rfl) ?_
              refine g_get G X (k := 0) (fs := fM Y) (Nat.le_of_ble_eq_true rfl) (fun _ => rfl) rfl in_X8 0 (by decide) l_f7 rfl (v := .ref (Y.2.1 (1))) rfl dX8_groupInfo_43 ?_
              refine lv_iconst (v := iI 1) hx hb dX8_groupInfo_46 rfl ?_
              refine lv_iload hx hb dX8_groupInfo_47 (lv_at hl 4 rfl) ?_
              refine g_iadd G dX8_groupInfo_49 ?_
              refine g_iald G X (k := 1) (n := 37) (Nat.le_of_ble_eq_true rfl) (fun _ => rfl) (by decide) (z := (1 + p)) (by omega) dX8_groupInfo_50 ?_
              refine g_topi (z' := px P p) hdp.1 ?_
              refine lv_aload_n hx hb dX8_groupInfo_51 rfl (lv_at hl 0 rfl) ?_
              refine g_get G X (k := 0) (fs := fM Y) (Nat.le_of_ble_eq_true rfl) (fun _ => rfl) rfl in_X8 9 (by decide) l_f26 rfl (v := .ref (Y.2.1 (6))) rfl dX8_groupInfo_52 ?_
              refine lv_iload_n hx hb dX8_groupInfo_55 rfl (lv_at hl 1 rfl) ?_
              refine g_iald G X (k := 6) (n := 12) (Nat.le_of_ble_eq_true rfl) (fun _ => rfl) (by decide) (z := g) (by omega) dX8_groupInfo_56 ?_
              refine g_topi (z' := gX P g) (hG.2 g (by omega) (by omega)).1 ?_
              refine g_icmp_ne (tgt := 64) G dX8_groupInfo_57 (by decide) (by omega) (by omega) (fun h57 => ?_) (fun h57 => ?_)
              ·
                refine lv_iconst (v := iI 0) hx hb dX8_groupInfo_64 rfl ?_
                refine g_iadd G dX8_groupInfo_65 ?_
                refine lv_istore_n (lv' := [(3, .int (iI ((c + 0)))), (0, .ref (Y.2.1 (0))), (1, .int (iI (g))), (2, .int (iI (w))), (4, .int (iI (p)))]) hx hb dX8_groupInfo_66 rfl hl (by decide) rfl (fun ls hl => ?_)
                refine lv_iinc (v := iI (p + 1)) (lv' := [(4, .int (iI ((p + 1)))), (3, .int (iI ((c + 0)))), (0, .ref (Y.2.1 (0))), (1, .int (iI (g))), (2, .int (iI (w)))]) hx hb dX8_groupInfo_67 hl (k := 4) rfl (iI_add _ _) (by decide) rfl (fun ls hl => ?_)
                refine lv_goto (tgt := 30) hx hb dX8_groupInfo_70 (by decide) ?_
                exact ih_30 ((c + 0)) ((p + 1)) (by omega) (by by_cases q : px P p = gX P g; (rw [fS_hit hp.1 q]; omega); (rw [fS_miss hp.1 q]; omega)) (by omega) _ _ _ X (lv_sub hl [2, 3, 4, 1, 0] rfl)
              ·
                refine lv_iconst (v := iI 1) hx hb dX8_groupInfo_60 rfl ?_
                refine lv_goto (tgt := 65) hx hb dX8_groupInfo_61 (by decide) ?_
                refine g_iadd G dX8_groupInfo_65 ?_
                refine lv_istore_n (lv' := [(3, .int (iI ((c + 1)))), (0, .ref (Y.2.1 (0))), (1, .int (iI (g))), (2, .int (iI (w))), (4, .int (iI (p)))]) hx hb dX8_groupInfo_66 rfl hl (by decide) rfl (fun ls hl => ?_)
                refine lv_iinc (v := iI (p + 1)) (lv' := [(4, .int (iI ((p + 1)))), (3, .int (iI ((c + 1)))), (0, .ref (Y.2.1 (0))), (1, .int (iI (g))), (2, .int (iI (w)))]) hx hb dX8_groupInfo_67 hl (k := 4) rfl (iI_add _ _) (by decide) rfl (fun ls hl => ?_)
                refine lv_goto (tgt := 30) hx hb dX8_groupInfo_70 (by decide) ?_
                exact ih_30 ((c + 1)) ((p + 1)) (by omega) (by by_cases q : px P p = gX P g; (rw [fS_hit hp.1 q]; omega); (rw [fS_miss hp.1 q]; omega)) (by omega) _ _ _ X (lv_sub hl [2, 3, 4, 1, 0] rfl)
        exact lp_30 ((((P.length - (0)) : Int).toNat + 1)) (0) (0) (by omega) rfl (by omega) _ _ _ X (lv_sub hl [2, 3, 4, 1, 0] rfl)
    ·
      refine g_ldc G (z := (-1000001)) l_c62 (by decide +kernel) dX8_groupInfo_17 ?_
      exact hret _ _ _ _ _ _ (⟨(if_pos (by omega)).symm, hI2⟩) X dX8_groupInfo_19

