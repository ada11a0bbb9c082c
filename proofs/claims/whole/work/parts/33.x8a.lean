set_option maxHeartbeats 4000000 in
set_option maxRecDepth 100000 in
theorem t_X8_in (l : Launch) (Y : Yt) (σ : Mem) (v : Int) (lo : Int) (hi : Int) (hv0 : -2147483648 ≤ v ∧ v ≤ 2147483647) (hlo : -2147483648 ≤ lo ∧ lo ≤ 2147483647) (hhi : -2147483648 ≤ hi ∧ hi ≤ 2147483647) : MXi l LM Y yX8_in wsX8_in { frames := 0, cells := 0, slots := 0, locals := 0 } [.int (iI (v)), .int (iI (lo)), .int (iI (hi))] σ (fun z u => u = σ ∧ ((z = 1 ∧ lo ≤ v ∧ v ≤ hi) ∨ (z = 0 ∧ ¬ (lo ≤ v ∧ v ≤ hi)))) := by
  refine g_starti (rty := .boolean) (fun z u h => nrZ (by have := h.2; omega)) (cc := cX8_in) (nL := 3) (own := RX8) (by decide) rfl rfl (Nat.le_of_ble_eq_true rfl) ?_
  intro pp ee ss mm bw mt cd AA ZZ ls G hret X hl
  have hl : lv_has ls 3 [(0, .int (iI (v))), (1, .int (iI (lo))), (2, .int (iI (hi)))] := hl
  have hx := G.1
  have hb := G.2.1
  have hts := G.2.2.2.2.1
  refine lv_iload_n hx hb dX8_in_0 rfl (lv_at hl 0 rfl) ?_
  refine lv_iload_n hx hb dX8_in_1 rfl (lv_at hl 1 rfl) ?_
  refine g_icmp_lt (tgt := 14) G dX8_in_2 (by decide) (by omega) (by omega) (fun h2 => ?_) (fun h2 => ?_)
  ·
    refine lv_iconst (v := iI 0) hx hb dX8_in_14 rfl ?_
    exact hret _ _ _ _ _ _ (⟨rfl, by omega⟩) X dX8_in_15
  ·
    refine lv_iload_n hx hb dX8_in_5 rfl (lv_at hl 0 rfl) ?_
    refine lv_iload_n hx hb dX8_in_6 rfl (lv_at hl 2 rfl) ?_
    refine g_icmp_gt (tgt := 14) G dX8_in_7 (by decide) (by omega) (by omega) (fun h7 => ?_) (fun h7 => ?_)
    ·
      refine lv_iconst (v := iI 0) hx hb dX8_in_14 rfl ?_
      exact hret _ _ _ _ _ _ (⟨rfl, by omega⟩) X dX8_in_15
    ·
      refine lv_iconst (v := iI 1) hx hb dX8_in_10 rfl ?_
      refine lv_goto (tgt := 15) hx hb dX8_in_11 (by decide) ?_
      exact hret _ _ _ _ _ _ (⟨rfl, by omega⟩) X dX8_in_15

set_option maxHeartbeats 4000000 in
set_option maxRecDepth 100000 in
theorem t_X8_isPoint (l : Launch) (Y : Yt) (σ : Mem) (P : List Pt) (hs : List (List Pt)) (tx : List Int) (ch : List Int) (p : Int) (hI : MInv σ P hs tx ch) (h_p : -2147483648 ≤ p ∧ p ≤ 2147483647) : MXi l LM Y yX8_isPoint wsX8_isPoint { frames := 1, cells := 0, slots := 0, locals := 22 } [.ref (Y.2.1 (0)), .int (iI (p))] σ (fun z u => u = σ ∧ ((z = 1 ∧ 0 ≤ p ∧ p < P.length) ∨ (z = 0 ∧ ¬ (0 ≤ p ∧ p < P.length)))) := by
  obtain ⟨⟨hP, hok⟩, ⟨hW, hHok⟩, ⟨hTx, htok⟩, hC, hC3⟩ := id hI
  obtain ⟨hd0, h12, hd⟩ := hP.d
  have hh6 := hW.2.1
  have hkp := hW.1
  have h90 := htok.1
  have hty := hTx.1
  have hre := hC.1
  refine g_starti (rty := .boolean) (fun z u h => nrZ (by have := h.2; omega)) (cc := cX8_isPoint) (nL := 2) (own := RX8) (by decide) rfl rfl (Nat.le_of_ble_eq_true rfl) ?_
  intro pp ee ss mm bw mt cd AA ZZ ls G hret X hl
  have hl : lv_has ls 2 [(0, .ref (Y.2.1 (0))), (1, .int (iI (p)))] := hl
  have hx := G.1
  have hb := G.2.1
  have hts := G.2.2.2.2.1
  have l_f7 := hts (.fieldLink RX8 7 "ShapeFitsModel" "d" "[I") (List.mem_of_getElem? (i := 1) rfl)
  have in_X8 : ∀ w ∈ u_ws RX8 TX8 24, w ∈ wsX8_isPoint := by decide +kernel
  refine lv_iload_n hx hb dX8_isPoint_0 rfl (lv_at hl 1 rfl) ?_
  refine lv_iconst (v := iI 0) hx hb dX8_isPoint_1 rfl ?_
  refine lv_aload_n hx hb dX8_isPoint_2 rfl (lv_at hl 0 rfl) ?_
  refine g_get G X (k := 0) (fs := fM Y) (Nat.le_of_ble_eq_true rfl) (fun _ => rfl) rfl in_X8 0 (by decide) l_f7 rfl (v := .ref (Y.2.1 (1))) rfl dX8_isPoint_3 ?_
  refine lv_iconst (v := iI 0) hx hb dX8_isPoint_6 rfl ?_
  refine g_iald G X (k := 1) (n := 37) (Nat.le_of_ble_eq_true rfl) (fun _ => rfl) (by decide) (z := 0) (by omega) dX8_isPoint_7 ?_
  refine lv_iconst (v := iI 1) hx hb dX8_isPoint_8 rfl ?_
  refine g_isub G dX8_isPoint_9 ?_
  refine g_callSi G X (rest := []) (As := [.int (iI (p)), .int (iI (0)), .int (iI (((σ 1 0) - 1)))]) (t_X8_in l Y (σ) (p) (0) (((σ 1 0) - 1)) (by first | assumption | omega) (by first | assumption | omega) (by first | assumption | omega)) (va_cwS 3 hts gX8_isPoint_X8_in rfl rfl rfl (by decide +kernel) ⟨Nat.le_of_ble_eq_true rfl, Nat.le_of_ble_eq_true rfl⟩) rfl hl.1 rfl (Nat.le_of_ble_eq_true rfl) dX8_isPoint_10 ⟨Nat.le_refl _, Nat.le_refl _⟩ (fun z10 u10 H locs hq10 X => ?_)
  rw [hq10.1] at X
  have hq10 := hq10.2
  try dsimp only at hq10
  exact hret _ _ _ _ _ _ (⟨rfl, by omega⟩) X dX8_isPoint_13

set_option maxHeartbeats 4000000 in
set_option maxRecDepth 100000 in
theorem t_X8_points (l : Launch) (Y : Yt) (σ : Mem) (P : List Pt) (hs : List (List Pt)) (tx : List Int) (ch : List Int) (hI : MInv σ P hs tx ch) : MXi l LM Y yX8_points wsX8_points { frames := 0, cells := 0, slots := 0, locals := 0 } [.ref (Y.2.1 (0))] σ (fun z u => u = σ ∧ (z = P.length)) := by
  obtain ⟨⟨hP, hok⟩, ⟨hW, hHok⟩, ⟨hTx, htok⟩, hC, hC3⟩ := id hI
  obtain ⟨hd0, h12, hd⟩ := hP.d
  have hh6 := hW.2.1
  have hkp := hW.1
  have h90 := htok.1
  have hty := hTx.1
  have hre := hC.1
  refine g_starti (rty := .int) (fun _ _ _ => rfl) (cc := cX8_points) (nL := 1) (own := RX8) (by decide) rfl rfl (Nat.le_of_ble_eq_true rfl) ?_
  intro pp ee ss mm bw mt cd AA ZZ ls G hret X hl
  have hl : lv_has ls 1 [(0, .ref (Y.2.1 (0)))] := hl
  have hx := G.1
  have hb := G.2.1
  have hts := G.2.2.2.2.1
  have l_f7 := hts (.fieldLink RX8 7 "ShapeFitsModel" "d" "[I") (List.mem_of_getElem? (i := 1) rfl)
  have in_X8 : ∀ w ∈ u_ws RX8 TX8 24, w ∈ wsX8_points := by decide +kernel
  refine lv_aload_n hx hb dX8_points_0 rfl (lv_at hl 0 rfl) ?_
  refine g_get G X (k := 0) (fs := fM Y) (Nat.le_of_ble_eq_true rfl) (fun _ => rfl) rfl in_X8 0 (by decide) l_f7 rfl (v := .ref (Y.2.1 (1))) rfl dX8_points_1 ?_
  refine lv_iconst (v := iI 0) hx hb dX8_points_4 rfl ?_
  refine g_iald G X (k := 1) (n := 37) (Nat.le_of_ble_eq_true rfl) (fun _ => rfl) (by decide) (z := 0) (by omega) dX8_points_5 ?_
  exact hret _ _ _ _ _ _ (⟨rfl, by omega⟩) X dX8_points_6

set_option maxHeartbeats 4000000 in
set_option maxRecDepth 100000 in
theorem t_X8_records (l : Launch) (Y : Yt) (σ : Mem) (P : List Pt) (hs : List (List Pt)) (tx : List Int) (ch : List Int) (hI : MInv σ P hs tx ch) : MXv l LM Y yX8_records wsX8_records { frames := 0, cells := 0, slots := 0, locals := 0 } [.ref (Y.2.1 (0))] σ (fun u => WasIs u (recd hs P) ∧ SameR σ u) := by
  obtain ⟨⟨hP, hok⟩, ⟨hW, hHok⟩, ⟨hTx, htok⟩, hC, hC3⟩ := id hI
  obtain ⟨hd0, h12, hd⟩ := hP.d
  have hh6 := hW.2.1
  have hkp := hW.1
  have h90 := htok.1
  have hty := hTx.1
  have hre := hC.1
  refine g_startv (cc := cX8_records) (nL := 2) (own := RX8) (by decide) rfl rfl (Nat.le_of_ble_eq_true rfl) ?_
  intro pp ee ss mm bw mt cd AA ZZ ls G hret X hl
  have hl : lv_has ls 2 [(0, .ref (Y.2.1 (0)))] := hl
  have hx := G.1
  have hb := G.2.1
  have hts := G.2.2.2.2.1
  have l_f7 := hts (.fieldLink RX8 7 "ShapeFitsModel" "d" "[I") (List.mem_of_getElem? (i := 3) rfl)
  have l_f13 := hts (.fieldLink RX8 13 "ShapeFitsModel" "was" "[I") (List.mem_of_getElem? (i := 2) rfl)
  have l_f58 := hts (.fieldLink RX8 58 "ShapeFitsModel" "kept" "I") (List.mem_of_getElem? (i := 1) rfl)
  have in_X8 : ∀ w ∈ u_ws RX8 TX8 24, w ∈ wsX8_records := by decide +kernel
  refine lv_aload_n hx hb dX8_records_0 rfl (lv_at hl 0 rfl) ?_
  refine g_get G X (k := 0) (fs := fM Y) (Nat.le_of_ble_eq_true rfl) (fun _ => rfl) rfl in_X8 2 (by decide) l_f58 rfl (v := .int (iI ((σ 0 2)))) rfl dX8_records_1 ?_
  refine lv_bipush (v := iI 6) hx hb dX8_records_4 (by decide +kernel) ?_
  refine g_icmp_ne (tgt := 49) G dX8_records_6 (by decide) (by omega) (by omega) (fun h6 => ?_) (fun h6 => ?_)
  ·
    obtain ⟨hs', hW', hlen', hrec, hP', hSR⟩ : ∃ hs', WasIs σ hs' ∧ hs'.length < 6 ∧ recd hs P = hs' ++ [P] ∧ PtsAt σ 1 0 P ∧ SameR σ σ := ⟨hs, hW, by omega, recd_lt (by omega), hP, fun _ _ _ => rfl, fun _ _ => rfl⟩
    obtain ⟨ρ0, hρ0, hW', hP', hSR⟩ : ∃ ρ0, ρ0 = σ ∧ WasIs ρ0 hs' ∧ PtsAt ρ0 1 0 P ∧ SameR σ ρ0 := ⟨_, rfl, hW', hP', hSR⟩
    have X := (show σ = ρ0 from hρ0.symm) ▸ X
    have hk' := hW'.1
    refine lv_iconst (v := iI 0) hx hb dX8_records_49 rfl ?_
    refine lv_istore_n (lv' := [(1, .int (iI (0))), (0, .ref (Y.2.1 (0)))]) hx hb dX8_records_50 rfl hl (by decide) rfl (fun ls hl => ?_)
    have lp_51 : ∀ (nn : Nat) (k : Int) (τ : Mem), ∀ hk : 0 ≤ k ∧ k ≤ 37, ∀ hM2 : MapO ρ0 τ 2 (37 * (hs'.length : Int)) (fun i => ρ0 1 i) k, ∀ hdec : (37 - k) < (nn : Int), ∀ (H : Heap) (locs : List Loc) (ls : Array Slot), wx LM Y τ ss AA H locs → lv_has ls 2 [(0, .ref (Y.2.1 (0))), (1, .int (iI (k)))] → W pp l ee { frames := 0, cells := 0, slots := 0, locals := 0 } ss mm ([.ref (Y.2.1 (0))] : List Value).toArray bw mt cd H locs 0 0 ZZ (F0 mm 51 ls []) := by
      intro nn
      induction nn with
      | zero =>
        intro k τ hk hM2 hdec
        exact absurd hdec (by omega)
      | succ nn ih_51 =>
        intro k τ hk hM2 hdec H locs ls X hl
        refine lv_iload_n hx hb dX8_records_51 rfl (lv_at hl 1 rfl) ?_
        refine lv_bipush (v := iI 37) hx hb dX8_records_52 (by decide +kernel) ?_
        refine g_icmp_ge (tgt := 83) G dX8_records_54 (by decide) (by omega) (by omega) (fun h54 => ?_) (fun h54 => ?_)
        ·
          refine lv_aload_n hx hb dX8_records_83 rfl (lv_at hl 0 rfl) ?_
          refine lv_dup hx hb dX8_records_84 rfl ?_
          refine g_get G X (k := 0) (fs := fM Y) (Nat.le_of_ble_eq_true rfl) (fun _ => rfl) rfl in_X8 2 (by decide) l_f58 rfl (v := .int (iI ((τ 0 2)))) rfl dX8_records_85 ?_
          refine lv_iconst (v := iI 1) hx hb dX8_records_88 rfl ?_
          refine g_iadd G dX8_records_89 ?_
          refine g_puti G X (k := 0) (fs := fM Y) (z := ((τ 0 2) + 1)) (Nat.le_of_ble_eq_true rfl) (fun _ => rfl) rfl in_X8 tyX8 tyX8_ok nmX8 2 2 (by decide) l_f58 rfl rfl (by decide +kernel) (Nat.le_of_ble_eq_true rfl) (fun _ => rfl) dX8_records_90 (fun H locs X => ?_)
          exact hret _ _ _ _ _ ((by have e := was_push hW' hlen' hP' hM2 (by omega); rw [hrec]; exact ⟨e.1, fun a h0 h2 => (e.2.1 a h0 h2).trans (hSR.1 a h0 h2), fun j hj => (e.2.2 j hj).trans (hSR.2 j hj)⟩)) X dX8_records_93
        ·
          refine lv_aload_n hx hb dX8_records_57 rfl (lv_at hl 0 rfl) ?_
          refine g_get G X (k := 0) (fs := fM Y) (Nat.le_of_ble_eq_true rfl) (fun _ => rfl) rfl in_X8 1 (by decide) l_f13 rfl (v := .ref (Y.2.1 (2))) rfl dX8_records_58 ?_
          refine lv_bipush (v := iI 37) hx hb dX8_records_61 (by decide +kernel) ?_
          refine lv_aload_n hx hb dX8_records_63 rfl (lv_at hl 0 rfl) ?_
          refine g_get G X (k := 0) (fs := fM Y) (Nat.le_of_ble_eq_true rfl) (fun _ => rfl) rfl in_X8 2 (by decide) l_f58 rfl (v := .int (iI ((τ 0 2)))) rfl dX8_records_64 ?_
          refine g_topi (z' := (hs'.length : Int)) (by rw [hM2.2.2 0 (by omega)]; exact hk') ?_
          refine g_imul G dX8_records_67 ?_
          refine lv_iload_n hx hb dX8_records_68 rfl (lv_at hl 1 rfl) ?_
          refine g_iadd G dX8_records_69 ?_
          refine lv_aload_n hx hb dX8_records_70 rfl (lv_at hl 0 rfl) ?_
          refine g_get G X (k := 0) (fs := fM Y) (Nat.le_of_ble_eq_true rfl) (fun _ => rfl) rfl in_X8 0 (by decide) l_f7 rfl (v := .ref (Y.2.1 (1))) rfl dX8_records_71 ?_
          refine lv_iload_n hx hb dX8_records_74 rfl (lv_at hl 1 rfl) ?_
          refine g_iald G X (k := 1) (n := 37) (Nat.le_of_ble_eq_true rfl) (fun _ => rfl) (by decide) (z := k) (by omega) dX8_records_75 ?_
          refine g_iast G X (k := 2) (n := 222) (Nat.le_of_ble_eq_true rfl) (fun _ => rfl) (by decide) (z := ((37 * (hs'.length : Int)) + k)) (v := (τ 1 k)) (by omega) dX8_records_76 (fun H locs X => ?_)
          refine lv_iinc (v := iI (k + 1)) (lv' := [(1, .int (iI ((k + 1)))), (0, .ref (Y.2.1 (0)))]) hx hb dX8_records_77 hl (k := 1) rfl (iI_add _ _) (by decide) rfl (fun ls hl => ?_)
          refine lv_goto (tgt := 51) hx hb dX8_records_80 (by decide) ?_
          exact ih_51 ((k + 1)) ((up τ 2 ((37 * (hs'.length : Int)) + k) (τ 1 k))) (by omega) (mapO_s hM2 hk.1 rfl (by rw [hM2.2.2 1 (by omega)])) (by omega) _ _ _ X (lv_sub hl [1, 0] rfl)
    exact lp_51 ((((37 - (0)) : Int).toNat + 1)) (0) (ρ0) (by omega) mapO_0 (by omega) _ _ _ X (lv_sub hl [1, 0] rfl)
  ·
    refine lv_iconst (v := iI 0) hx hb dX8_records_9 rfl ?_
    refine lv_istore_n (lv' := [(1, .int (iI (0))), (0, .ref (Y.2.1 (0)))]) hx hb dX8_records_10 rfl hl (by decide) rfl (fun ls hl => ?_)
    have lp_11 : ∀ (nn : Nat) (k : Int) (τ : Mem), ∀ hk : 0 ≤ k ∧ k ≤ 185, ∀ hM : MapInv σ τ 2 (fun i => σ 2 (i + 37)) k, ∀ hdec : (185 - k) < (nn : Int), ∀ (H : Heap) (locs : List Loc) (ls : Array Slot), wx LM Y τ ss AA H locs → lv_has ls 2 [(0, .ref (Y.2.1 (0))), (1, .int (iI (k)))] → W pp l ee { frames := 0, cells := 0, slots := 0, locals := 0 } ss mm ([.ref (Y.2.1 (0))] : List Value).toArray bw mt cd H locs 0 0 ZZ (F0 mm 11 ls []) := by
      intro nn
      induction nn with
      | zero =>
        intro k τ hk hM hdec
        exact absurd hdec (by omega)
      | succ nn ih_11 =>
        intro k τ hk hM hdec H locs ls X hl
        refine lv_iload_n hx hb dX8_records_11 rfl (lv_at hl 1 rfl) ?_
        refine lv_sipush (v := iI 185) hx hb dX8_records_12 (by decide +kernel) ?_
        refine g_icmp_ge (tgt := 39) G dX8_records_15 (by decide) (by omega) (by omega) (fun h15 => ?_) (fun h15 => ?_)
        ·
          refine lv_aload_n hx hb dX8_records_39 rfl (lv_at hl 0 rfl) ?_
          refine lv_dup hx hb dX8_records_40 rfl ?_
          refine g_get G X (k := 0) (fs := fM Y) (Nat.le_of_ble_eq_true rfl) (fun _ => rfl) rfl in_X8 2 (by decide) l_f58 rfl (v := .int (iI ((τ 0 2)))) rfl dX8_records_41 ?_
          refine lv_iconst (v := iI 1) hx hb dX8_records_44 rfl ?_
          refine g_isub G dX8_records_45 ?_
          refine g_puti G X (k := 0) (fs := fM Y) (z := ((τ 0 2) - 1)) (Nat.le_of_ble_eq_true rfl) (fun _ => rfl) rfl in_X8 tyX8 tyX8_ok nmX8 2 2 (by decide) l_f58 rfl rfl (by decide +kernel) (Nat.le_of_ble_eq_true rfl) (fun _ => rfl) dX8_records_46 (fun H locs X => ?_)
          have hws := was_shift hW (by omega) hM (by omega)
          obtain ⟨hs', hW', hlen', hrec, hP', hSR⟩ : ∃ hs', WasIs (up τ 0 2 ((τ 0 2) - 1)) hs' ∧ hs'.length < 6 ∧ recd hs P = hs' ++ [P] ∧ PtsAt (up τ 0 2 ((τ 0 2) - 1)) 1 0 P ∧ SameR σ (up τ 0 2 ((τ 0 2) - 1)) := ⟨hs.tail, hws.1, by rw [List.length_tail]; omega, recd_6 (by omega), hP.eq (hws.2.C (by omega) (by omega)), hws.2⟩
          obtain ⟨ρ0, hρ0, hW', hP', hSR⟩ : ∃ ρ0, ρ0 = (up τ 0 2 ((τ 0 2) - 1)) ∧ WasIs ρ0 hs' ∧ PtsAt ρ0 1 0 P ∧ SameR σ ρ0 := ⟨_, rfl, hW', hP', hSR⟩
          have X := (show (up τ 0 2 ((τ 0 2) - 1)) = ρ0 from hρ0.symm) ▸ X
          have hk' := hW'.1
          refine lv_iconst (v := iI 0) hx hb dX8_records_49 rfl ?_
          refine lv_istore_n (lv' := [(1, .int (iI (0))), (0, .ref (Y.2.1 (0)))]) hx hb dX8_records_50 rfl hl (by decide) rfl (fun ls hl => ?_)
          have lp_51 : ∀ (nn : Nat) (k : Int) (τ : Mem), ∀ hk : 0 ≤ k ∧ k ≤ 37, ∀ hM2 : MapO ρ0 τ 2 (37 * (hs'.length : Int)) (fun i => ρ0 1 i) k, ∀ hdec : (37 - k) < (nn : Int), ∀ (H : Heap) (locs : List Loc) (ls : Array Slot), wx LM Y τ ss AA H locs → lv_has ls 2 [(0, .ref (Y.2.1 (0))), (1, .int (iI (k)))] → W pp l ee { frames := 0, cells := 0, slots := 0, locals := 0 } ss mm ([.ref (Y.2.1 (0))] : List Value).toArray bw mt cd H locs 0 0 ZZ (F0 mm 51 ls []) := by
            intro nn
            induction nn with
            | zero =>
              intro k τ hk hM2 hdec
              exact absurd hdec (by omega)
            | succ nn ih_51 =>
              intro k τ hk hM2 hdec H locs ls X hl
              refine lv_iload_n hx hb dX8_records_51 rfl (lv_at hl 1 rfl) ?_
              refine lv_bipush (v := iI 37) hx hb dX8_records_52 (by decide +kernel) ?_
              refine g_icmp_ge (tgt := 83) G dX8_records_54 (by decide) (by omega) (by omega) (fun h54 => ?_) (fun h54 => ?_)
              ·
                refine lv_aload_n hx hb dX8_records_83 rfl (lv_at hl 0 rfl) ?_
                refine lv_dup hx hb dX8_records_84 rfl ?_
                refine g_get G X (k := 0) (fs := fM Y) (Nat.le_of_ble_eq_true rfl) (fun _ => rfl) rfl in_X8 2 (by decide) l_f58 rfl (v := .int (iI ((τ 0 2)))) rfl dX8_records_85 ?_
                refine lv_iconst (v := iI 1) hx hb dX8_records_88 rfl ?_
                refine g_iadd G dX8_records_89 ?_
                refine g_puti G X (k := 0) (fs := fM Y) (z := ((τ 0 2) + 1)) (Nat.le_of_ble_eq_true rfl) (fun _ => rfl) rfl in_X8 tyX8 tyX8_ok nmX8 2 2 (by decide) l_f58 rfl rfl (by decide +kernel) (Nat.le_of_ble_eq_true rfl) (fun _ => rfl) dX8_records_90 (fun H locs X => ?_)
                exact hret _ _ _ _ _ ((by have e := was_push hW' hlen' hP' hM2 (by omega); rw [hrec]; exact ⟨e.1, fun a h0 h2 => (e.2.1 a h0 h2).trans (hSR.1 a h0 h2), fun j hj => (e.2.2 j hj).trans (hSR.2 j hj)⟩)) X dX8_records_93
              ·
                refine lv_aload_n hx hb dX8_records_57 rfl (lv_at hl 0 rfl) ?_
                refine g_get G X (k := 0) (fs := fM Y) (Nat.le_of_ble_eq_true rfl) (fun _ => rfl) rfl in_X8 1 (by decide) l_f13 rfl (v := .ref (Y.2.1 (2))) rfl dX8_records_58 ?_
                refine lv_bipush (v := iI 37) hx hb dX8_records_61 (by decide +kernel) ?_
                refine lv_aload_n hx hb dX8_records_63 rfl (lv_at hl 0 rfl) ?_
                refine g_get G X (k := 0) (fs := fM Y) (Nat.le_of_ble_eq_true rfl) (fun _ => rfl) rfl in_X8 2 (by decide) l_f58 rfl (v := .int (iI ((τ 0 2)))) rfl dX8_records_64 ?_
                refine g_topi (z' := (hs'.length : Int)) (by rw [hM2.2.2 0 (by omega)]; exact hk') ?_
                refine g_imul G dX8_records_67 ?_
                refine lv_iload_n hx hb dX8_records_68 rfl (lv_at hl 1 rfl) ?_
                refine g_iadd G dX8_records_69 ?_
                refine lv_aload_n hx hb dX8_records_70 rfl (lv_at hl 0 rfl) ?_
                refine g_get G X (k := 0) (fs := fM Y) (Nat.le_of_ble_eq_true rfl) (fun _ => rfl) rfl in_X8 0 (by decide) l_f7 rfl (v := .ref (Y.2.1 (1))) rfl dX8_records_71 ?_
                refine lv_iload_n hx hb dX8_records_74 rfl (lv_at hl 1 rfl) ?_
                refine g_iald G X (k := 1) (n := 37) (Nat.le_of_ble_eq_true rfl) (fun _ => rfl) (by decide) (z := k) (by omega) dX8_records_75 ?_
                refine g_iast G X (k := 2) (n := 222) (Nat.le_of_ble_eq_true rfl) (fun _ => rfl) (by decide) (z := ((37 * (hs'.length : Int)) + k)) (v := (τ 1 k)) (by omega) dX8_records_76 (fun H locs X => ?_)
                refine lv_iinc (v := iI (k + 1)) (lv' := [(1, .int (iI ((k + 1)))), (0, .ref (Y.2.1 (0)))]) hx hb dX8_records_77 hl (k := 1) rfl (iI_add _ _) (by decide) rfl (fun ls hl => ?_)
                refine lv_goto (tgt := 51) hx hb dX8_records_80 (by decide) ?_
                exact ih_51 ((k + 1)) ((up τ 2 ((37 * (hs'.length : Int)) + k) (τ 1 k))) (by omega) (mapO_s hM2 hk.1 rfl (by rw [hM2.2.2 1 (by omega)])) (by omega) _ _ _ X (lv_sub hl [1, 0] rfl)
          exact lp_51 ((((37 - (0)) : Int).toNat + 1)) (0) (ρ0) (by omega) mapO_0 (by omega) _ _ _ X (lv_sub hl [1, 0] rfl)
        ·
          refine lv_aload_n hx hb dX8_records_18 rfl (lv_at hl 0 rfl) ?_
          refine g_get G X (k := 0) (fs := fM Y) (Nat.le_of_ble_eq_true rfl) (fun _ => rfl) rfl in_X8 1 (by decide) l_f13 rfl (v := .ref (Y.2.1 (2))) rfl dX8_records_19 ?_
          refine lv_iload_n hx hb dX8_records_22 rfl (lv_at hl 1 rfl) ?_
          refine lv_aload_n hx hb dX8_records_23 rfl (lv_at hl 0 rfl) ?_
          refine g_get G X (k := 0) (fs := fM Y) (Nat.le_of_ble_eq_true rfl) (fun _ => rfl) rfl in_X8 1 (by decide) l_f13 rfl (v := .ref (Y.2.1 (2))) rfl dX8_records_24 ?_
          refine lv_iload_n hx hb dX8_records_27 rfl (lv_at hl 1 rfl) ?_
          refine lv_bipush (v := iI 37) hx hb dX8_records_28 (by decide +kernel) ?_
          refine g_iadd G dX8_records_30 ?_
          refine g_iald G X (k := 2) (n := 222) (Nat.le_of_ble_eq_true rfl) (fun _ => rfl) (by decide) (z := (k + 37)) (by omega) dX8_records_31 ?_
          refine g_topi (z' := (σ 2 (k + 37))) (hM.2.1 (k + 37) (by omega)) ?_
          refine g_iast G X (k := 2) (n := 222) (Nat.le_of_ble_eq_true rfl) (fun _ => rfl) (by decide) (z := k) (v := (σ 2 (k + 37))) (by omega) dX8_records_32 (fun H locs X => ?_)
          refine lv_iinc (v := iI (k + 1)) (lv' := [(1, .int (iI ((k + 1)))), (0, .ref (Y.2.1 (0)))]) hx hb dX8_records_33 hl (k := 1) rfl (iI_add _ _) (by decide) rfl (fun ls hl => ?_)
          refine lv_goto (tgt := 11) hx hb dX8_records_36 (by decide) ?_
          exact ih_11 ((k + 1)) ((up τ 2 k (σ 2 (k + 37)))) (by omega) (map_s hM rfl) (by omega) _ _ _ X (lv_sub hl [1, 0] rfl)
    exact lp_11 ((((185 - (0)) : Int).toNat + 1)) (0) (σ) (by omega) map_0 (by omega) _ _ _ X (lv_sub hl [1, 0] rfl)

set_option maxHeartbeats 4000000 in
set_option maxRecDepth 100000 in
theorem t_X8_add (l : Launch) (Y : Yt) (σ : Mem) (P : List Pt) (hs : List (List Pt)) (tx : List Int) (ch : List Int) (x : Int) (v : Int) (w : Int) (hI : MInv σ P hs tx ch) (h_x : -2147483648 ≤ x ∧ x ≤ 2147483647) (h_v : -2147483648 ≤ v ∧ v ≤ 2147483647) (h_w : -2147483648 ≤ w ∧ w ≤ 2147483647) : MXi l LM Y yX8_add wsX8_add { frames := 1, cells := 0, slots := 0, locals := 22 } [.ref (Y.2.1 (0)), .int (iI (x)), .int (iI (v)), .int (iI (w))] σ (fun z u => z = (stAdd P hs x v w).1 ∧ MInv u (stAdd P hs x v w).2.1 (stAdd P hs x v w).2.2 tx ch) := by
  obtain ⟨⟨hP, hok⟩, ⟨hW, hHok⟩, ⟨hTx, htok⟩, hC, hC3⟩ := id hI
  obtain ⟨hd0, h12, hd⟩ := hP.d
  have hh6 := hW.2.1
  have hkp := hW.1
  have h90 := htok.1
  have hty := hTx.1
  have hre := hC.1
  refine g_starti (rty := .int) (fun _ _ _ => rfl) (cc := cX8_add) (nL := 4) (own := RX8) (by decide) rfl rfl (Nat.le_of_ble_eq_true rfl) ?_
  intro pp ee ss mm bw mt cd AA ZZ ls G hret X hl
  have hl : lv_has ls 4 [(0, .ref (Y.2.1 (0))), (1, .int (iI (x))), (2, .int (iI (v))), (3, .int (iI (w)))] := hl
  have hx := G.1
  have hb := G.2.1
  have hts := G.2.2.2.2.1
  have l_f7 := hts (.fieldLink RX8 7 "ShapeFitsModel" "d" "[I") (List.mem_of_getElem? (i := 2) rfl)
  have l_c62 := hts (.constant RX8 62 (-1000001)) (List.mem_of_getElem? (i := 1) rfl)
  have l_c63 := hts (.constant RX8 63 (-1000003)) (List.mem_of_getElem? (i := 3) rfl)
  have in_X8 : ∀ w ∈ u_ws RX8 TX8 24, w ∈ wsX8_add := by decide +kernel
  refine lv_iload_n hx hb dX8_add_0 rfl (lv_at hl 1 rfl) ?_
  refine lv_iconst (v := iI 0) hx hb dX8_add_1 rfl ?_
  refine lv_bipush (v := iI 40) hx hb dX8_add_2 (by decide +kernel) ?_
  refine g_callSi G X (rest := []) (As := [.int (iI (x)), .int (iI (0)), .int (iI (40))]) (t_X8_in l Y (σ) (x) (0) (40) (by first | assumption | omega) (by first | assumption | omega) (by first | assumption | omega)) (va_cwS 3 hts gX8_add_X8_in rfl rfl rfl (by decide +kernel) ⟨Nat.le_of_ble_eq_true rfl, Nat.le_of_ble_eq_true rfl⟩) rfl hl.1 rfl (Nat.le_of_ble_eq_true rfl) dX8_add_4 ⟨Nat.le_refl _, Nat.le_refl _⟩ (fun z4 u4 H locs hq4 X => ?_)
  rw [hq4.1] at X
  have hq4 := hq4.2
  try dsimp only at hq4
  refine g_if_eq (tgt := 30) G dX8_add_7 (by decide) (by omega) (fun h7 => ?_) (fun h7 => ?_)
  ·
    refine g_ldc G (z := (-1000001)) l_c62 (by decide +kernel) dX8_add_30 ?_
    exact hret _ _ _ _ _ _ ((by have e : stAdd P hs x v w = (-1000001, P, hs) := by { unfold stAdd; exact if_pos (by omega) }; rw [e]; exact ⟨rfl, hI⟩)) X dX8_add_32
  ·
    refine lv_iload_n hx hb dX8_add_10 rfl (lv_at hl 2 rfl) ?_
    refine lv_bipush (v := iI (-99)) hx hb dX8_add_11 (by decide +kernel) ?_
    refine lv_bipush (v := iI 99) hx hb dX8_add_13 (by decide +kernel) ?_
    refine g_callSi G X (rest := []) (As := [.int (iI (v)), .int (iI ((-99))), .int (iI (99))]) (t_X8_in l Y (σ) (v) ((-99)) (99) (by first | assumption | omega) (by first | assumption | omega) (by first | assumption | omega)) (va_cwS 3 hts gX8_add_X8_in rfl rfl rfl (by decide +kernel) ⟨Nat.le_of_ble_eq_true rfl, Nat.le_of_ble_eq_true rfl⟩) rfl hl.1 rfl (Nat.le_of_ble_eq_true rfl) dX8_add_15 ⟨Nat.le_refl _, Nat.le_refl _⟩ (fun z15 u15 H locs hq15 X => ?_)
    rw [hq15.1] at X
    have hq15 := hq15.2
    try dsimp only at hq15
    refine g_if_eq (tgt := 30) G dX8_add_18 (by decide) (by omega) (fun h18 => ?_) (fun h18 => ?_)
    ·
      refine g_ldc G (z := (-1000001)) l_c62 (by decide +kernel) dX8_add_30 ?_
      exact hret _ _ _ _ _ _ ((by have e : stAdd P hs x v w = (-1000001, P, hs) := by { unfold stAdd; exact if_pos (by omega) }; rw [e]; exact ⟨rfl, hI⟩)) X dX8_add_32
    ·
      refine lv_iload_n hx hb dX8_add_21 rfl (lv_at hl 3 rfl) ?_
      refine lv_iconst (v := iI 1) hx hb dX8_add_22 rfl ?_
      refine lv_iconst (v := iI 2) hx hb dX8_add_23 rfl ?_
      refine g_callSi G X (rest := []) (As := [.int (iI (w)), .int (iI (1)), .int (iI (2))]) (t_X8_in l Y (σ) (w) (1) (2) (by first | assumption | omega) (by first | assumption | omega) (by first | assumption | omega)) (va_cwS 3 hts gX8_add_X8_in rfl rfl rfl (by decide +kernel) ⟨Nat.le_of_ble_eq_true rfl, Nat.le_of_ble_eq_true rfl⟩) rfl hl.1 rfl (Nat.le_of_ble_eq_true rfl) dX8_add_24 ⟨Nat.le_refl _, Nat.le_refl _⟩ (fun z24 u24 H locs hq24 X => ?_)
      rw [hq24.1] at X
      have hq24 := hq24.2
      try dsimp only at hq24
      refine g_if_ne (tgt := 33) G dX8_add_27 (by decide) (by omega) (fun h27 => ?_) (fun h27 => ?_)
      ·
        refine lv_aload_n hx hb dX8_add_33 rfl (lv_at hl 0 rfl) ?_
        refine g_get G X (k := 0) (fs := fM Y) (Nat.le_of_ble_eq_true rfl) (fun _ => rfl) rfl in_X8 0 (by decide) l_f7 rfl (v := .ref (Y.2.1 (1))) rfl dX8_add_34 ?_
        refine lv_iconst (v := iI 0) hx hb dX8_add_37 rfl ?_
        refine g_iald G X (k := 1) (n := 37) (Nat.le_of_ble_eq_true rfl) (fun _ => rfl) (by decide) (z := 0) (by omega) dX8_add_38 ?_
        refine g_topi (z' := (P.length : Int)) hd0 ?_
        refine lv_bipush (v := iI 12) hx hb dX8_add_39 (by decide +kernel) ?_
        refine g_icmp_ne (tgt := 47) G dX8_add_41 (by decide) (by omega) (by omega) (fun h41 => ?_) (fun h41 => ?_)
        ·
          refine lv_aload_n hx hb dX8_add_47 rfl (lv_at hl 0 rfl) ?_
          refine g_callVv G X (rest := []) (As := []) (t_X8_records l Y (σ) P hs tx ch (by first | assumption | omega)) (cwV 0 hts gX8_add_X8_records rfl rfl rfl (by decide +kernel) ⟨Nat.le_of_ble_eq_true rfl, Nat.le_of_ble_eq_true rfl⟩) (k := 0) (Nat.le_of_ble_eq_true rfl) rfl rfl rfl rfl hl.1 rfl (Nat.le_of_ble_eq_true rfl) dX8_add_48 ⟨Nat.le_refl _, Nat.le_refl _⟩ (fun u48 H locs hq48 X => ?_)
          have hPu := hP.eq (hq48.2.C (a := 1) (by omega) (by omega))
          have hdu := hPu.d.1
          refine lv_aload_n hx hb dX8_add_51 rfl (lv_at hl 0 rfl) ?_
          refine g_get G X (k := 0) (fs := fM Y) (Nat.le_of_ble_eq_true rfl) (fun _ => rfl) rfl in_X8 0 (by decide) l_f7 rfl (v := .ref (Y.2.1 (1))) rfl dX8_add_52 ?_
          refine lv_iconst (v := iI 1) hx hb dX8_add_55 rfl ?_
          refine lv_aload_n hx hb dX8_add_56 rfl (lv_at hl 0 rfl) ?_
          refine g_get G X (k := 0) (fs := fM Y) (Nat.le_of_ble_eq_true rfl) (fun _ => rfl) rfl in_X8 0 (by decide) l_f7 rfl (v := .ref (Y.2.1 (1))) rfl dX8_add_57 ?_
          refine lv_iconst (v := iI 0) hx hb dX8_add_60 rfl ?_
          refine g_iald G X (k := 1) (n := 37) (Nat.le_of_ble_eq_true rfl) (fun _ => rfl) (by decide) (z := 0) (by omega) dX8_add_61 ?_
          refine g_topi (z' := (P.length : Int)) hdu ?_
          refine g_iadd G dX8_add_62 ?_
          refine lv_iload_n hx hb dX8_add_63 rfl (lv_at hl 1 rfl) ?_
          refine g_iast G X (k := 1) (n := 37) (Nat.le_of_ble_eq_true rfl) (fun _ => rfl) (by decide) (z := (1 + (P.length : Int))) (v := x) (by omega) dX8_add_64 (fun H locs X => ?_)
          refine lv_aload_n hx hb dX8_add_65 rfl (lv_at hl 0 rfl) ?_
          refine g_get G X (k := 0) (fs := fM Y) (Nat.le_of_ble_eq_true rfl) (fun _ => rfl) rfl in_X8 0 (by decide) l_f7 rfl (v := .ref (Y.2.1 (1))) rfl dX8_add_66 ?_
          refine lv_bipush (v := iI 13) hx hb dX8_add_69 (by decide +kernel) ?_
          refine lv_aload_n hx hb dX8_add_71 rfl (lv_at hl 0 rfl) ?_
          refine g_get G X (k := 0) (fs := fM Y) (Nat.le_of_ble_eq_true rfl) (fun _ => rfl) rfl in_X8 0 (by decide) l_f7 rfl (v := .ref (Y.2.1 (1))) rfl dX8_add_72 ?_
          refine lv_iconst (v := iI 0) hx hb dX8_add_75 rfl ?_
          refine g_iald G X (k := 1) (n := 37) (Nat.le_of_ble_eq_true rfl) (fun _ => rfl) (by decide) (z := 0) (by omega) dX8_add_76 ?_
          refine g_topi (z' := (P.length : Int)) (by rw [up_nj (by omega)]; exact hdu) ?_
          refine g_iadd G dX8_add_77 ?_
          refine lv_iload_n hx hb dX8_add_78 rfl (lv_at hl 2 rfl) ?_
          refine g_iast G X (k := 1) (n := 37) (Nat.le_of_ble_eq_true rfl) (fun _ => rfl) (by decide) (z := (13 + (P.length : Int))) (v := v) (by omega) dX8_add_79 (fun H locs X => ?_)
          refine lv_aload_n hx hb dX8_add_80 rfl (lv_at hl 0 rfl) ?_
          refine g_get G X (k := 0) (fs := fM Y) (Nat.le_of_ble_eq_true rfl) (fun _ => rfl) rfl in_X8 0 (by decide) l_f7 rfl (v := .ref (Y.2.1 (1))) rfl dX8_add_81 ?_
          refine lv_bipush (v := iI 25) hx hb dX8_add_84 (by decide +kernel) ?_
          refine lv_aload_n hx hb dX8_add_86 rfl (lv_at hl 0 rfl) ?_
          refine g_get G X (k := 0) (fs := fM Y) (Nat.le_of_ble_eq_true rfl) (fun _ => rfl) rfl in_X8 0 (by decide) l_f7 rfl (v := .ref (Y.2.1 (1))) rfl dX8_add_87 ?_
          refine lv_iconst (v := iI 0) hx hb dX8_add_90 rfl ?_
          refine g_iald G X (k := 1) (n := 37) (Nat.le_of_ble_eq_true rfl) (fun _ => rfl) (by decide) (z := 0) (by omega) dX8_add_91 ?_
          refine g_topi (z' := (P.length : Int)) (by rw [up_nj (by omega), up_nj (by omega)]; exact hdu) ?_
          refine g_iadd G dX8_add_92 ?_
          refine lv_iload_n hx hb dX8_add_93 rfl (lv_at hl 3 rfl) ?_
          refine g_iast G X (k := 1) (n := 37) (Nat.le_of_ble_eq_true rfl) (fun _ => rfl) (by decide) (z := (25 + (P.length : Int))) (v := w) (by omega) dX8_add_94 (fun H locs X => ?_)
          refine lv_aload_n hx hb dX8_add_95 rfl (lv_at hl 0 rfl) ?_
          refine g_get G X (k := 0) (fs := fM Y) (Nat.le_of_ble_eq_true rfl) (fun _ => rfl) rfl in_X8 0 (by decide) l_f7 rfl (v := .ref (Y.2.1 (1))) rfl dX8_add_96 ?_
          refine lv_iconst (v := iI 0) hx hb dX8_add_99 rfl ?_
          refine lv_dup2_11 hx hb dX8_add_100 rfl rfl ?_
          refine g_iald G X (k := 1) (n := 37) (Nat.le_of_ble_eq_true rfl) (fun _ => rfl) (by decide) (z := 0) (by omega) dX8_add_101 ?_
          refine g_topi (z' := (P.length : Int)) (by rw [up_nj (by omega), up_nj (by omega), up_nj (by omega)]; exact hdu) ?_
          refine lv_iconst (v := iI 1) hx hb dX8_add_102 rfl ?_
          refine g_iadd G dX8_add_103 ?_
          refine g_iast G X (k := 1) (n := 37) (Nat.le_of_ble_eq_true rfl) (fun _ => rfl) (by decide) (z := 0) (v := ((P.length : Int) + 1)) (by omega) dX8_add_104 (fun H locs X => ?_)
          refine lv_aload_n hx hb dX8_add_105 rfl (lv_at hl 0 rfl) ?_
          refine g_get G X (k := 0) (fs := fM Y) (Nat.le_of_ble_eq_true rfl) (fun _ => rfl) rfl in_X8 0 (by decide) l_f7 rfl (v := .ref (Y.2.1 (1))) rfl dX8_add_106 ?_
          refine lv_iconst (v := iI 0) hx hb dX8_add_109 rfl ?_
          refine g_iald G X (k := 1) (n := 37) (Nat.le_of_ble_eq_true rfl) (fun _ => rfl) (by decide) (z := 0) (by omega) dX8_add_110 ?_
          refine g_topi (z' := ((P.length : Int) + 1)) rfl ?_
          refine lv_iconst (v := iI 1) hx hb dX8_add_111 rfl ?_
          refine g_isub G dX8_add_112 ?_
          exact hret _ _ _ _ _ _ ((by have e : stAdd P hs x v w = ((P.length : Int), P ++ [(x, v, w)], recd hs P) := by { unfold stAdd; exact (if_neg (by omega)).trans (if_neg (by omega)) }; rw [e]; exact ⟨by show _ = (P.length : Int); omega, minv_change hI hq48 (m_add hPu (by omega)) (fun b hb => by rw [up_ne hb, up_ne hb, up_ne hb, up_ne hb]) (ptsOk_app hok (ptOk_mk (by omega) (by omega) (by omega)))⟩)) X dX8_add_113
        ·
          refine g_ldc G (z := (-1000003)) l_c63 (by decide +kernel) dX8_add_44 ?_
          exact hret _ _ _ _ _ _ ((by have e : stAdd P hs x v w = (-1000003, P, hs) := by { unfold stAdd; exact (if_neg (by omega)).trans (if_pos (by omega)) }; rw [e]; exact ⟨rfl, hI⟩)) X dX8_add_46
      ·
        refine g_ldc G (z := (-1000001)) l_c62 (by decide +kernel) dX8_add_30 ?_
        exact hret _ _ _ _ _ _ ((by have e : stAdd P hs x v w = (-1000001, P, hs) := by { unfold stAdd; exact if_pos (by omega) }; rw [e]; exact ⟨rfl, hI⟩)) X dX8_add_32

set_option maxHeartbeats 4000000 in
set_option maxRecDepth 100000 in
theorem t_X8_remove (l : Launch) (Y : Yt) (σ : Mem) (P : List Pt) (hs : List (List Pt)) (tx : List Int) (ch : List Int) (p : Int) (hI : MInv σ P hs tx ch) (h_p : -2147483648 ≤ p ∧ p ≤ 2147483647) : MXi l LM Y yX8_remove wsX8_remove { frames := 2, cells := 0, slots := 0, locals := 43 } [.ref (Y.2.1 (0)), .int (iI (p))] σ (fun z u => z = (stRem P hs p).1 ∧ MInv u (stRem P hs p).2.1 (stRem P hs p).2.2 tx ch) := by
  obtain ⟨⟨hP, hok⟩, ⟨hW, hHok⟩, ⟨hTx, htok⟩, hC, hC3⟩ := id hI
  obtain ⟨hd0, h12, hd⟩ := hP.d
  have hh6 := hW.2.1
  have hkp := hW.1
  have h90 := htok.1
  have hty := hTx.1
  have hre := hC.1
  refine g_starti (rty := .int) (fun _ _ _ => rfl) (cc := cX8_remove) (nL := 3) (own := RX8) (by decide) rfl rfl (Nat.le_of_ble_eq_true rfl) ?_
  intro pp ee ss mm bw mt cd AA ZZ ls G hret X hl
  have hl : lv_has ls 3 [(0, .ref (Y.2.1 (0))), (1, .int (iI (p)))] := hl
  have hx := G.1
  have hb := G.2.1
  have hts := G.2.2.2.2.1
  have l_f7 := hts (.fieldLink RX8 7 "ShapeFitsModel" "d" "[I") (List.mem_of_getElem? (i := 2) rfl)
  have l_c62 := hts (.constant RX8 62 (-1000001)) (List.mem_of_getElem? (i := 1) rfl)
  have in_X8 : ∀ w ∈ u_ws RX8 TX8 24, w ∈ wsX8_remove := by decide +kernel
  refine lv_aload_n hx hb dX8_remove_0 rfl (lv_at hl 0 rfl) ?_
  refine lv_iload_n hx hb dX8_remove_1 rfl (lv_at hl 1 rfl) ?_
  refine g_callVi G X (rest := []) (As := [.int (iI (p))]) (t_X8_isPoint l Y (σ) P hs tx ch (p) (by first | assumption | omega) (by first | assumption | omega)) (cwV 1 hts gX8_remove_X8_isPoint rfl rfl rfl (by decide +kernel) ⟨Nat.le_of_ble_eq_true rfl, Nat.le_of_ble_eq_true rfl⟩) (k := 0) (Nat.le_of_ble_eq_true rfl) rfl rfl rfl rfl hl.1 rfl (Nat.le_of_ble_eq_true rfl) dX8_remove_2 ⟨Nat.le_refl _, Nat.le_refl _⟩ (fun z2 u2 H locs hq2 X => ?_)
  rw [hq2.1] at X
  have hq2 := hq2.2
  try dsimp only at hq2
  refine g_if_ne (tgt := 11) G dX8_remove_5 (by decide) (by omega) (fun h5 => ?_) (fun h5 => ?_)
  ·
    refine lv_aload_n hx hb dX8_remove_11 rfl (lv_at hl 0 rfl) ?_
    refine g_callVv G X (rest := []) (As := []) (t_X8_records l Y (σ) P hs tx ch (by first | assumption | omega)) (cwV 0 hts gX8_remove_X8_records rfl rfl rfl (by decide +kernel) ⟨Nat.le_of_ble_eq_true rfl, Nat.le_of_ble_eq_true rfl⟩) (k := 0) (Nat.le_of_ble_eq_true rfl) rfl rfl rfl rfl hl.1 rfl (Nat.le_of_ble_eq_true rfl) dX8_remove_12 ⟨Nat.le_refl _, Nat.le_refl _⟩ (fun u12 H locs hq12 X => ?_)
    have hPu := hP.eq (hq12.2.C (a := 1) (by omega) (by omega))
    have hdu := hPu.d.1
    refine lv_aload_n hx hb dX8_remove_15 rfl (lv_at hl 0 rfl) ?_
    refine g_get G X (k := 0) (fs := fM Y) (Nat.le_of_ble_eq_true rfl) (fun _ => rfl) rfl in_X8 0 (by decide) l_f7 rfl (v := .ref (Y.2.1 (1))) rfl dX8_remove_16 ?_
    refine lv_iconst (v := iI 0) hx hb dX8_remove_19 rfl ?_
    refine lv_dup2_11 hx hb dX8_remove_20 rfl rfl ?_
    refine g_iald G X (k := 1) (n := 37) (Nat.le_of_ble_eq_true rfl) (fun _ => rfl) (by decide) (z := 0) (by omega) dX8_remove_21 ?_
    refine g_topi (z' := (P.length : Int)) hdu ?_
    refine lv_iconst (v := iI 1) hx hb dX8_remove_22 rfl ?_
    refine g_isub G dX8_remove_23 ?_
    refine g_iast G X (k := 1) (n := 37) (Nat.le_of_ble_eq_true rfl) (fun _ => rfl) (by decide) (z := 0) (v := ((P.length : Int) - 1)) (by omega) dX8_remove_24 (fun H locs X => ?_)
    refine lv_iload_n hx hb dX8_remove_25 rfl (lv_at hl 1 rfl) ?_
    refine lv_istore_n (lv' := [(2, .int (iI (p))), (0, .ref (Y.2.1 (0))), (1, .int (iI (p)))]) hx hb dX8_remove_26 rfl hl (by decide) rfl (fun ls hl => ?_)
    have lp_27 : ∀ (nn : Nat) (k : Int) (τ : Mem), ∀ hk : p ≤ k ∧ k < P.length, ∀ hD : DropM u12 τ P p k, ∀ hdec : (P.length - k) < (nn : Int), ∀ (H : Heap) (locs : List Loc) (ls : Array Slot), wx LM Y τ ss AA H locs → lv_has ls 3 [(0, .ref (Y.2.1 (0))), (1, .int (iI (p))), (2, .int (iI (k)))] → W pp l ee { frames := 2, cells := 0, slots := 0, locals := 43 } ss mm ([.ref (Y.2.1 (0)), .int (iI (p))] : List Value).toArray bw mt cd H locs 0 0 ZZ (F0 mm 27 ls []) := by
      intro nn
      induction nn with
      | zero =>
        intro k τ hk hD hdec
        exact absurd hdec (by omega)
      | succ nn ih_27 =>
        intro k τ hk hD hdec H locs ls X hl
        refine lv_iload_n hx hb dX8_remove_27 rfl (lv_at hl 2 rfl) ?_
        refine lv_aload_n hx hb dX8_remove_28 rfl (lv_at hl 0 rfl) ?_
        refine g_get G X (k := 0) (fs := fM Y) (Nat.le_of_ble_eq_true rfl) (fun _ => rfl) rfl in_X8 0 (by decide) l_f7 rfl (v := .ref (Y.2.1 (1))) rfl dX8_remove_29 ?_
        refine lv_iconst (v := iI 0) hx hb dX8_remove_32 rfl ?_
        refine g_iald G X (k := 1) (n := 37) (Nat.le_of_ble_eq_true rfl) (fun _ => rfl) (by decide) (z := 0) (by omega) dX8_remove_33 ?_
        refine g_topi (z' := ((P.length : Int) - 1)) hD.1 ?_
        refine g_icmp_ge (tgt := 99) G dX8_remove_34 (by decide) (by omega) (by omega) (fun h34 => ?_) (fun h34 => ?_)
        ·
          refine lv_aload_n hx hb dX8_remove_99 rfl (lv_at hl 0 rfl) ?_
          refine g_get G X (k := 0) (fs := fM Y) (Nat.le_of_ble_eq_true rfl) (fun _ => rfl) rfl in_X8 0 (by decide) l_f7 rfl (v := .ref (Y.2.1 (1))) rfl dX8_remove_100 ?_
          refine lv_iconst (v := iI 0) hx hb dX8_remove_103 rfl ?_
          refine g_iald G X (k := 1) (n := 37) (Nat.le_of_ble_eq_true rfl) (fun _ => rfl) (by decide) (z := 0) (by omega) dX8_remove_104 ?_
          refine g_topi (z' := ((P.length : Int) - 1)) hD.1 ?_
          exact hret _ _ _ _ _ _ ((by have e : stRem P hs p = ((P.length : Int) - 1, P.eraseIdx p.toNat, recd hs P) := by { unfold stRem; exact if_neg (by omega) }; rw [e]; exact ⟨rfl, minv_change hI hq12 (dropM_e hD (by omega) h12 (by omega)) hD.2.2 (ptsOk_era hok _)⟩)) X dX8_remove_105
        ·
          have hdk := ((hD.2.1 (k + 1) (by omega) (by omega)).1 (Or.inr (by omega)))
          refine lv_aload_n hx hb dX8_remove_37 rfl (lv_at hl 0 rfl) ?_
          refine g_get G X (k := 0) (fs := fM Y) (Nat.le_of_ble_eq_true rfl) (fun _ => rfl) rfl in_X8 0 (by decide) l_f7 rfl (v := .ref (Y.2.1 (1))) rfl dX8_remove_38 ?_
          refine lv_iconst (v := iI 1) hx hb dX8_remove_41 rfl ?_
          refine lv_iload_n hx hb dX8_remove_42 rfl (lv_at hl 2 rfl) ?_
          refine g_iadd G dX8_remove_43 ?_
          refine lv_aload_n hx hb dX8_remove_44 rfl (lv_at hl 0 rfl) ?_
          refine g_get G X (k := 0) (fs := fM Y) (Nat.le_of_ble_eq_true rfl) (fun _ => rfl) rfl in_X8 0 (by decide) l_f7 rfl (v := .ref (Y.2.1 (1))) rfl dX8_remove_45 ?_
          refine lv_iconst (v := iI 2) hx hb dX8_remove_48 rfl ?_
          refine lv_iload_n hx hb dX8_remove_49 rfl (lv_at hl 2 rfl) ?_
          refine g_iadd G dX8_remove_50 ?_
          refine g_iald G X (k := 1) (n := 37) (Nat.le_of_ble_eq_true rfl) (fun _ => rfl) (by decide) (z := (2 + k)) (by omega) dX8_remove_51 ?_
          refine g_topi (z' := px P (k + 1)) (by rw [show 2 + k = 1 + (k + 1) by omega]; exact hdk.1) ?_
          refine g_iast G X (k := 1) (n := 37) (Nat.le_of_ble_eq_true rfl) (fun _ => rfl) (by decide) (z := (1 + k)) (v := (px P (k + 1))) (by omega) dX8_remove_52 (fun H locs X => ?_)
          refine lv_aload_n hx hb dX8_remove_53 rfl (lv_at hl 0 rfl) ?_
          refine g_get G X (k := 0) (fs := fM Y) (Nat.le_of_ble_eq_true rfl) (fun _ => rfl) rfl in_X8 0 (by decide) l_f7 rfl (v := .ref (Y.2.1 (1))) rfl dX8_remove_54 ?_
          refine lv_bipush (v := iI 13) hx hb dX8_remove_57 (by decide +kernel) ?_
          refine lv_iload_n hx hb dX8_remove_59 rfl (lv_at hl 2 rfl) ?_
          refine g_iadd G dX8_remove_60 ?_
          refine lv_aload_n hx hb dX8_remove_61 rfl (lv_at hl 0 rfl) ?_
          refine g_get G X (k := 0) (fs := fM Y) (Nat.le_of_ble_eq_true rfl) (fun _ => rfl) rfl in_X8 0 (by decide) l_f7 rfl (v := .ref (Y.2.1 (1))) rfl dX8_remove_62 ?_
          refine lv_bipush (v := iI 13) hx hb dX8_remove_65 (by decide +kernel) ?_
          refine lv_iload_n hx hb dX8_remove_67 rfl (lv_at hl 2 rfl) ?_
          refine g_iadd G dX8_remove_68 ?_
          refine lv_iconst (v := iI 1) hx hb dX8_remove_69 rfl ?_
          refine g_iadd G dX8_remove_70 ?_
          refine g_iald G X (k := 1) (n := 37) (Nat.le_of_ble_eq_true rfl) (fun _ => rfl) (by decide) (z := ((13 + k) + 1)) (by omega) dX8_remove_71 ?_
          refine g_topi (z' := pv P (k + 1)) (by rw [up_nj (by omega), show 13 + k + 1 = 13 + (k + 1) by omega]; exact hdk.2.1) ?_
          refine g_iast G X (k := 1) (n := 37) (Nat.le_of_ble_eq_true rfl) (fun _ => rfl) (by decide) (z := (13 + k)) (v := (pv P (k + 1))) (by omega) dX8_remove_72 (fun H locs X => ?_)
          refine lv_aload_n hx hb dX8_remove_73 rfl (lv_at hl 0 rfl) ?_
          refine g_get G X (k := 0) (fs := fM Y) (Nat.le_of_ble_eq_true rfl) (fun _ => rfl) rfl in_X8 0 (by decide) l_f7 rfl (v := .ref (Y.2.1 (1))) rfl dX8_remove_74 ?_
          refine lv_bipush (v := iI 25) hx hb dX8_remove_77 (by decide +kernel) ?_
          refine lv_iload_n hx hb dX8_remove_79 rfl (lv_at hl 2 rfl) ?_
          refine g_iadd G dX8_remove_80 ?_
          refine lv_aload_n hx hb dX8_remove_81 rfl (lv_at hl 0 rfl) ?_
          refine g_get G X (k := 0) (fs := fM Y) (Nat.le_of_ble_eq_true rfl) (fun _ => rfl) rfl in_X8 0 (by decide) l_f7 rfl (v := .ref (Y.2.1 (1))) rfl dX8_remove_82 ?_
          refine lv_bipush (v := iI 25) hx hb dX8_remove_85 (by decide +kernel) ?_
          refine lv_iload_n hx hb dX8_remove_87 rfl (lv_at hl 2 rfl) ?_
          refine g_iadd G dX8_remove_88 ?_
          refine lv_iconst (v := iI 1) hx hb dX8_remove_89 rfl ?_
          refine g_iadd G dX8_remove_90 ?_
          refine g_iald G X (k := 1) (n := 37) (Nat.le_of_ble_eq_true rfl) (fun _ => rfl) (by decide) (z := ((25 + k) + 1)) (by omega) dX8_remove_91 ?_
          refine g_topi (z' := pw P (k + 1)) (by rw [up_nj (by omega), up_nj (by omega), show 25 + k + 1 = 25 + (k + 1) by omega]; exact hdk.2.2) ?_
          refine g_iast G X (k := 1) (n := 37) (Nat.le_of_ble_eq_true rfl) (fun _ => rfl) (by decide) (z := (25 + k)) (v := (pw P (k + 1))) (by omega) dX8_remove_92 (fun H locs X => ?_)
          refine lv_iinc (v := iI (k + 1)) (lv' := [(2, .int (iI ((k + 1)))), (0, .ref (Y.2.1 (0))), (1, .int (iI (p)))]) hx hb dX8_remove_93 hl (k := 2) rfl (iI_add _ _) (by decide) rfl (fun ls hl => ?_)
          refine lv_goto (tgt := 27) hx hb dX8_remove_96 (by decide) ?_
          exact ih_27 ((k + 1)) ((up (up (up τ 1 (1 + k) (px P (k + 1))) 1 (13 + k) (pv P (k + 1))) 1 (25 + k) (pw P (k + 1)))) (by omega) (dropM_s hD (by omega) h12 (by omega)) (by omega) _ _ _ X (lv_sub hl [1, 2, 0] rfl)
    exact lp_27 ((((P.length - (p)) : Int).toNat + 1)) (p) ((up u12 1 0 ((P.length : Int) - 1))) (by omega) (dropM_0 hPu) (by omega) _ _ _ X (lv_sub hl [1, 2, 0] rfl)
  ·
    refine g_ldc G (z := (-1000001)) l_c62 (by decide +kernel) dX8_remove_8 ?_
    exact hret _ _ _ _ _ _ ((by have e : stRem P hs p = (-1000001, P, hs) := by { unfold stRem; exact if_pos (by omega) }; rw [e]; exact ⟨rfl, hI⟩)) X dX8_remove_10

set_option maxHeartbeats 4000000 in
set_option maxRecDepth 100000 in
theorem t_X8_setPoint (l : Launch) (Y : Yt) (σ : Mem) (P : List Pt) (hs : List (List Pt)) (tx : List Int) (ch : List Int) (p : Int) (v : Int) (w : Int) (hI : MInv σ P hs tx ch) (h_p : -2147483648 ≤ p ∧ p ≤ 2147483647) (h_v : -2147483648 ≤ v ∧ v ≤ 2147483647) (h_w : -2147483648 ≤ w ∧ w ≤ 2147483647) : MXi l LM Y yX8_setPoint wsX8_setPoint { frames := 2, cells := 0, slots := 0, locals := 43 } [.ref (Y.2.1 (0)), .int (iI (p)), .int (iI (v)), .int (iI (w))] σ (fun z u => z = (stSet P hs p v w).1 ∧ MInv u (stSet P hs p v w).2.1 (stSet P hs p v w).2.2 tx ch) := by
  obtain ⟨⟨hP, hok⟩, ⟨hW, hHok⟩, ⟨hTx, htok⟩, hC, hC3⟩ := id hI
  obtain ⟨hd0, h12, hd⟩ := hP.d
  have hh6 := hW.2.1
  have hkp := hW.1
  have h90 := htok.1
  have hty := hTx.1
  have hre := hC.1
  refine g_starti (rty := .int) (fun _ _ _ => rfl) (cc := cX8_setPoint) (nL := 5) (own := RX8) (by decide) rfl rfl (Nat.le_of_ble_eq_true rfl) ?_
  intro pp ee ss mm bw mt cd AA ZZ ls G hret X hl
  have hl : lv_has ls 5 [(0, .ref (Y.2.1 (0))), (1, .int (iI (p))), (2, .int (iI (v))), (3, .int (iI (w)))] := hl
  have hx := G.1
  have hb := G.2.1
  have hts := G.2.2.2.2.1
  have l_f7 := hts (.fieldLink RX8 7 "ShapeFitsModel" "d" "[I") (List.mem_of_getElem? (i := 2) rfl)
  have l_c62 := hts (.constant RX8 62 (-1000001)) (List.mem_of_getElem? (i := 1) rfl)
  have in_X8 : ∀ w ∈ u_ws RX8 TX8 24, w ∈ wsX8_setPoint := by decide +kernel
  refine lv_aload_n hx hb dX8_setPoint_0 rfl (lv_at hl 0 rfl) ?_
  refine lv_iload_n hx hb dX8_setPoint_1 rfl (lv_at hl 1 rfl) ?_
  refine g_callVi G X (rest := []) (As := [.int (iI (p))]) (t_X8_isPoint l Y (σ) P hs tx ch (p) (by first | assumption | omega) (by first | assumption | omega)) (cwV 1 hts gX8_setPoint_X8_isPoint rfl rfl rfl (by decide +kernel) ⟨Nat.le_of_ble_eq_true rfl, Nat.le_of_ble_eq_true rfl⟩) (k := 0) (Nat.le_of_ble_eq_true rfl) rfl rfl rfl rfl hl.1 rfl (Nat.le_of_ble_eq_true rfl) dX8_setPoint_2 ⟨Nat.le_refl _, Nat.le_refl _⟩ (fun z2 u2 H locs hq2 X => ?_)
  rw [hq2.1] at X
  have hq2 := hq2.2
  try dsimp only at hq2
  refine g_if_eq (tgt := 28) G dX8_setPoint_5 (by decide) (by omega) (fun h5 => ?_) (fun h5 => ?_)
  ·
    refine g_ldc G (z := (-1000001)) l_c62 (by decide +kernel) dX8_setPoint_28 ?_
    exact hret _ _ _ _ _ _ ((by have e : stSet P hs p v w = (-1000001, P, hs) := by { unfold stSet; exact if_pos (by omega) }; rw [e]; exact ⟨rfl, hI⟩)) X dX8_setPoint_30
  ·
    refine lv_iload_n hx hb dX8_setPoint_8 rfl (lv_at hl 2 rfl) ?_
    refine lv_bipush (v := iI (-99)) hx hb dX8_setPoint_9 (by decide +kernel) ?_
    refine lv_bipush (v := iI 99) hx hb dX8_setPoint_11 (by decide +kernel) ?_
    refine g_callSi G X (rest := []) (As := [.int (iI (v)), .int (iI ((-99))), .int (iI (99))]) (t_X8_in l Y (σ) (v) ((-99)) (99) (by first | assumption | omega) (by first | assumption | omega) (by first | assumption | omega)) (va_cwS 3 hts gX8_setPoint_X8_in rfl rfl rfl (by decide +kernel) ⟨Nat.le_of_ble_eq_true rfl, Nat.le_of_ble_eq_true rfl⟩) rfl hl.1 rfl (Nat.le_of_ble_eq_true rfl) dX8_setPoint_13 ⟨Nat.le_refl _, Nat.le_refl _⟩ (fun z13 u13 H locs hq13 X => ?_)
    rw [hq13.1] at X
    have hq13 := hq13.2
    try dsimp only at hq13
    refine g_if_eq (tgt := 28) G dX8_setPoint_16 (by decide) (by omega) (fun h16 => ?_) (fun h16 => ?_)
    ·
      refine g_ldc G (z := (-1000001)) l_c62 (by decide +kernel) dX8_setPoint_28 ?_
      exact hret _ _ _ _ _ _ ((by have e : stSet P hs p v w = (-1000001, P, hs) := by { unfold stSet; exact if_pos (by omega) }; rw [e]; exact ⟨rfl, hI⟩)) X dX8_setPoint_30
    ·
      refine lv_iload_n hx hb dX8_setPoint_19 rfl (lv_at hl 3 rfl) ?_
      refine lv_iconst (v := iI 1) hx hb dX8_setPoint_20 rfl ?_
      refine lv_iconst (v := iI 2) hx hb dX8_setPoint_21 rfl ?_
      refine g_callSi G X (rest := []) (As := [.int (iI (w)), .int (iI (1)), .int (iI (2))]) (t_X8_in l Y (σ) (w) (1) (2) (by first | assumption | omega) (by first | assumption | omega) (by first | assumption | omega)) (va_cwS 3 hts gX8_setPoint_X8_in rfl rfl rfl (by decide +kernel) ⟨Nat.le_of_ble_eq_true rfl, Nat.le_of_ble_eq_true rfl⟩) rfl hl.1 rfl (Nat.le_of_ble_eq_true rfl) dX8_setPoint_22 ⟨Nat.le_refl _, Nat.le_refl _⟩ (fun z22 u22 H locs hq22 X => ?_)
      rw [hq22.1] at X
      have hq22 := hq22.2
      try dsimp only at hq22
      refine g_if_ne (tgt := 31) G dX8_setPoint_25 (by decide) (by omega) (fun h25 => ?_) (fun h25 => ?_)
      ·
        refine lv_aload_n hx hb dX8_setPoint_31 rfl (lv_at hl 0 rfl) ?_
        refine g_callVv G X (rest := []) (As := []) (t_X8_records l Y (σ) P hs tx ch (by first | assumption | omega)) (cwV 0 hts gX8_setPoint_X8_records rfl rfl rfl (by decide +kernel) ⟨Nat.le_of_ble_eq_true rfl, Nat.le_of_ble_eq_true rfl⟩) (k := 0) (Nat.le_of_ble_eq_true rfl) rfl rfl rfl rfl hl.1 rfl (Nat.le_of_ble_eq_true rfl) dX8_setPoint_32 ⟨Nat.le_refl _, Nat.le_refl _⟩ (fun u32 H locs hq32 X => ?_)
        have hPu := hP.eq (hq32.2.C (a := 1) (by omega) (by omega))
        have hdp := hPu.d.2.2 p (by omega) (by omega)
        refine lv_bipush (v := iI 10) hx hb dX8_setPoint_35 (by decide +kernel) ?_
        refine lv_aload_n hx hb dX8_setPoint_37 rfl (lv_at hl 0 rfl) ?_
        refine g_get G X (k := 0) (fs := fM Y) (Nat.le_of_ble_eq_true rfl) (fun _ => rfl) rfl in_X8 0 (by decide) l_f7 rfl (v := .ref (Y.2.1 (1))) rfl dX8_setPoint_38 ?_
        refine lv_bipush (v := iI 13) hx hb dX8_setPoint_41 (by decide +kernel) ?_
        refine lv_iload_n hx hb dX8_setPoint_43 rfl (lv_at hl 1 rfl) ?_
        refine g_iadd G dX8_setPoint_44 ?_
        refine g_iald G X (k := 1) (n := 37) (Nat.le_of_ble_eq_true rfl) (fun _ => rfl) (by decide) (z := (13 + p)) (by omega) dX8_setPoint_45 ?_
        refine g_topi (z' := pv P p) hdp.2.1 ?_
        refine g_imul G dX8_setPoint_46 ?_
        refine lv_aload_n hx hb dX8_setPoint_47 rfl (lv_at hl 0 rfl) ?_
        refine g_get G X (k := 0) (fs := fM Y) (Nat.le_of_ble_eq_true rfl) (fun _ => rfl) rfl in_X8 0 (by decide) l_f7 rfl (v := .ref (Y.2.1 (1))) rfl dX8_setPoint_48 ?_
        refine lv_bipush (v := iI 25) hx hb dX8_setPoint_51 (by decide +kernel) ?_
        refine lv_iload_n hx hb dX8_setPoint_53 rfl (lv_at hl 1 rfl) ?_
        refine g_iadd G dX8_setPoint_54 ?_
        refine g_iald G X (k := 1) (n := 37) (Nat.le_of_ble_eq_true rfl) (fun _ => rfl) (by decide) (z := (25 + p)) (by omega) dX8_setPoint_55 ?_
        refine g_topi (z' := pw P p) hdp.2.2 ?_
        refine g_iadd G dX8_setPoint_56 ?_
        refine lv_istore (lv' := [(4, .int (iI (((10 * (pv P p)) + (pw P p))))), (0, .ref (Y.2.1 (0))), (1, .int (iI (p))), (2, .int (iI (v))), (3, .int (iI (w)))]) hx hb dX8_setPoint_57 hl (by decide) rfl (fun ls hl => ?_)
        refine lv_aload_n hx hb dX8_setPoint_59 rfl (lv_at hl 1 rfl) ?_
        refine g_get G X (k := 0) (fs := fM Y) (Nat.le_of_ble_eq_true rfl) (fun _ => rfl) rfl in_X8 0 (by decide) l_f7 rfl (v := .ref (Y.2.1 (1))) rfl dX8_setPoint_60 ?_
        refine lv_bipush (v := iI 13) hx hb dX8_setPoint_63 (by decide +kernel) ?_
        refine lv_iload_n hx hb dX8_setPoint_65 rfl (lv_at hl 2 rfl) ?_
        refine g_iadd G dX8_setPoint_66 ?_
        refine lv_iload_n hx hb dX8_setPoint_67 rfl (lv_at hl 3 rfl) ?_
        refine g_iast G X (k := 1) (n := 37) (Nat.le_of_ble_eq_true rfl) (fun _ => rfl) (by decide) (z := (13 + p)) (v := v) (by omega) dX8_setPoint_68 (fun H locs X => ?_)
        refine lv_aload_n hx hb dX8_setPoint_69 rfl (lv_at hl 1 rfl) ?_
        refine g_get G X (k := 0) (fs := fM Y) (Nat.le_of_ble_eq_true rfl) (fun _ => rfl) rfl in_X8 0 (by decide) l_f7 rfl (v := .ref (Y.2.1 (1))) rfl dX8_setPoint_70 ?_
        refine lv_bipush (v := iI 25) hx hb dX8_setPoint_73 (by decide +kernel) ?_
        refine lv_iload_n hx hb dX8_setPoint_75 rfl (lv_at hl 2 rfl) ?_
        refine g_iadd G dX8_setPoint_76 ?_
        refine lv_iload_n hx hb dX8_setPoint_77 rfl (lv_at hl 4 rfl) ?_
        refine g_iast G X (k := 1) (n := 37) (Nat.le_of_ble_eq_true rfl) (fun _ => rfl) (by decide) (z := (25 + p)) (v := w) (by omega) dX8_setPoint_78 (fun H locs X => ?_)
        refine lv_iload hx hb dX8_setPoint_79 (lv_at hl 0 rfl) ?_
        exact hret _ _ _ _ _ _ ((by have e : stSet P hs p v w = (10 * pv P p + pw P p, P.set p.toNat (px P p, v, w), recd hs P) := by { unfold stSet; exact if_neg (by omega) }; rw [e]; exact ⟨rfl, minv_change hI hq32 (m_set hPu (by omega)) (fun b hb => by rw [up_ne hb, up_ne hb]) (ptsOk_set hok (ptOk_mk (px_ok hok (by omega) (by omega)) (by omega) (by omega)))⟩)) X dX8_setPoint_81
      ·
        refine g_ldc G (z := (-1000001)) l_c62 (by decide +kernel) dX8_setPoint_28 ?_
        exact hret _ _ _ _ _ _ ((by have e : stSet P hs p v w = (-1000001, P, hs) := by { unfold stSet; exact if_pos (by omega) }; rw [e]; exact ⟨rfl, hI⟩)) X dX8_setPoint_30

set_option maxHeartbeats 4000000 in
set_option maxRecDepth 100000 in
theorem t_X8_mirror (l : Launch) (Y : Yt) (σ : Mem) (P : List Pt) (hs : List (List Pt)) (tx : List Int) (ch : List Int) (w : Int) (hI : MInv σ P hs tx ch) (h_w : -2147483648 ≤ w ∧ w ≤ 2147483647) : MXi l LM Y yX8_mirror wsX8_mirror { frames := 1, cells := 0, slots := 0, locals := 22 } [.ref (Y.2.1 (0)), .int (iI (w))] σ (fun z u => z = (stMir P hs w).1 ∧ MInv u (stMir P hs w).2.1 (stMir P hs w).2.2 tx ch) := by
  obtain ⟨⟨hP, hok⟩, ⟨hW, hHok⟩, ⟨hTx, htok⟩, hC, hC3⟩ := id hI
  obtain ⟨hd0, h12, hd⟩ := hP.d
  have hh6 := hW.2.1
  have hkp := hW.1
  have h90 := htok.1
  have hty := hTx.1
  have hre := hC.1
  refine g_starti (rty := .int) (fun _ _ _ => rfl) (cc := cX8_mirror) (nL := 3) (own := RX8) (by decide) rfl rfl (Nat.le_of_ble_eq_true rfl) ?_
  intro pp ee ss mm bw mt cd AA ZZ ls G hret X hl
  have hl : lv_has ls 3 [(0, .ref (Y.2.1 (0))), (1, .int (iI (w)))] := hl
  have hx := G.1
  have hb := G.2.1
  have hts := G.2.2.2.2.1
  have l_f7 := hts (.fieldLink RX8 7 "ShapeFitsModel" "d" "[I") (List.mem_of_getElem? (i := 2) rfl)
  have l_c62 := hts (.constant RX8 62 (-1000001)) (List.mem_of_getElem? (i := 1) rfl)
  have in_X8 : ∀ w ∈ u_ws RX8 TX8 24, w ∈ wsX8_mirror := by decide +kernel
  refine lv_iload_n hx hb dX8_mirror_0 rfl (lv_at hl 1 rfl) ?_
  refine lv_iconst (v := iI 0) hx hb dX8_mirror_1 rfl ?_
  refine lv_iconst (v := iI 1) hx hb dX8_mirror_2 rfl ?_
  refine g_callSi G X (rest := []) (As := [.int (iI (w)), .int (iI (0)), .int (iI (1))]) (t_X8_in l Y (σ) (w) (0) (1) (by first | assumption | omega) (by first | assumption | omega) (by first | assumption | omega)) (va_cwS 3 hts gX8_mirror_X8_in rfl rfl rfl (by decide +kernel) ⟨Nat.le_of_ble_eq_true rfl, Nat.le_of_ble_eq_true rfl⟩) rfl hl.1 rfl (Nat.le_of_ble_eq_true rfl) dX8_mirror_3 ⟨Nat.le_refl _, Nat.le_refl _⟩ (fun z3 u3 H locs hq3 X => ?_)
  rw [hq3.1] at X
  have hq3 := hq3.2
  try dsimp only at hq3
  refine g_if_ne (tgt := 12) G dX8_mirror_6 (by decide) (by omega) (fun h6 => ?_) (fun h6 => ?_)
  ·
    refine lv_aload_n hx hb dX8_mirror_12 rfl (lv_at hl 0 rfl) ?_
    refine g_callVv G X (rest := []) (As := []) (t_X8_records l Y (σ) P hs tx ch (by first | assumption | omega)) (cwV 0 hts gX8_mirror_X8_records rfl rfl rfl (by decide +kernel) ⟨Nat.le_of_ble_eq_true rfl, Nat.le_of_ble_eq_true rfl⟩) (k := 0) (Nat.le_of_ble_eq_true rfl) rfl rfl rfl rfl hl.1 rfl (Nat.le_of_ble_eq_true rfl) dX8_mirror_13 ⟨Nat.le_refl _, Nat.le_refl _⟩ (fun u13 H locs hq13 X => ?_)
    have hPu := hP.eq (hq13.2.C (a := 1) (by omega) (by omega))
    obtain ⟨P2, hP2, hok2⟩ : ∃ P2, (if w = 0 then mirP P else mirV P) = P2 ∧ ptsOk P2 := ⟨_, rfl, by split; exact ptsOk_mirP hok; exact ptsOk_mirV hok⟩
    have hl2 : P2.length = P.length := by rw [← hP2]; split; exact mirP_len P; exact mirV_len P
    have hx2 : ∀ i : Int, 0 ≤ i → i < P.length → (w = 0 → px P2 i = 40 - px P i ∧ pv P2 i = pv P i) ∧ (w ≠ 0 → px P2 i = px P i ∧ pv P2 i = -pv P i) ∧ pw P2 i = pw P i := fun i a b => by { rw [← hP2]; by_cases h9 : w = 0; (rw [if_pos h9]; have e := mirP_at a b; exact ⟨fun _ => ⟨e.1, e.2.1⟩, fun q => absurd h9 q, e.2.2⟩); (rw [if_neg h9]; have e := mirV_at a b; exact ⟨fun q => absurd q h9, fun _ => ⟨e.1, e.2.1⟩, e.2.2⟩) }
    refine lv_iconst (v := iI 0) hx hb dX8_mirror_16 rfl ?_
    refine lv_istore_n (lv' := [(2, .int (iI (0))), (0, .ref (Y.2.1 (0))), (1, .int (iI (w)))]) hx hb dX8_mirror_17 rfl hl (by decide) rfl (fun ls hl => ?_)
    have lp_18 : ∀ (nn : Nat) (p : Int) (τ : Mem), ∀ hp : 0 ≤ p ∧ p ≤ P.length, ∀ hM : MirM u13 τ P P2 p, ∀ hdec : (P.length - p) < (nn : Int), ∀ (H : Heap) (locs : List Loc) (ls : Array Slot), wx LM Y τ ss AA H locs → lv_has ls 3 [(0, .ref (Y.2.1 (0))), (1, .int (iI (w))), (2, .int (iI (p)))] → W pp l ee { frames := 1, cells := 0, slots := 0, locals := 22 } ss mm ([.ref (Y.2.1 (0)), .int (iI (w))] : List Value).toArray bw mt cd H locs 0 0 ZZ (F0 mm 18 ls []) := by
      intro nn
      induction nn with
      | zero =>
        intro p τ hp hM hdec
        exact absurd hdec (by omega)
      | succ nn ih_18 =>
        intro p τ hp hM hdec H locs ls X hl
        refine lv_iload_n hx hb dX8_mirror_18 rfl (lv_at hl 2 rfl) ?_
        refine lv_aload_n hx hb dX8_mirror_19 rfl (lv_at hl 0 rfl) ?_
        refine g_get G X (k := 0) (fs := fM Y) (Nat.le_of_ble_eq_true rfl) (fun _ => rfl) rfl in_X8 0 (by decide) l_f7 rfl (v := .ref (Y.2.1 (1))) rfl dX8_mirror_20 ?_
        refine lv_iconst (v := iI 0) hx hb dX8_mirror_23 rfl ?_
        refine g_iald G X (k := 1) (n := 37) (Nat.le_of_ble_eq_true rfl) (fun _ => rfl) (by decide) (z := 0) (by omega) dX8_mirror_24 ?_
        refine g_topi (z' := (P.length : Int)) hM.1 ?_
        refine g_icmp_ge (tgt := 104) G dX8_mirror_25 (by decide) (by omega) (by omega) (fun h25 => ?_) (fun h25 => ?_)
        ·
          refine lv_aload_n hx hb dX8_mirror_104 rfl (lv_at hl 0 rfl) ?_
          refine g_get G X (k := 0) (fs := fM Y) (Nat.le_of_ble_eq_true rfl) (fun _ => rfl) rfl in_X8 0 (by decide) l_f7 rfl (v := .ref (Y.2.1 (1))) rfl dX8_mirror_105 ?_
          refine lv_iconst (v := iI 0) hx hb dX8_mirror_108 rfl ?_
          refine g_iald G X (k := 1) (n := 37) (Nat.le_of_ble_eq_true rfl) (fun _ => rfl) (by decide) (z := 0) (by omega) dX8_mirror_109 ?_
          refine g_topi (z' := (P.length : Int)) hM.1 ?_
          exact hret _ _ _ _ _ _ ((by have e : stMir P hs w = ((P.length : Int), if w = 0 then mirP P else mirV P, recd hs P) := by { unfold stMir; exact if_neg (by omega) }; rw [e]; exact ⟨rfl, by rw [hP2]; exact minv_change hI hq13 (mirM_e hM (by omega) h12 hl2) hM.2.2 hok2⟩)) X dX8_mirror_110
        ·
          have hdp := (hM.2.1 p (by omega) (by omega)).2 (Int.le_refl p)
          have hx3 := hx2 p (by omega) (by omega)
          refine lv_aload_n hx hb dX8_mirror_28 rfl (lv_at hl 0 rfl) ?_
          refine g_get G X (k := 0) (fs := fM Y) (Nat.le_of_ble_eq_true rfl) (fun _ => rfl) rfl in_X8 0 (by decide) l_f7 rfl (v := .ref (Y.2.1 (1))) rfl dX8_mirror_29 ?_
          refine lv_iconst (v := iI 1) hx hb dX8_mirror_32 rfl ?_
          refine lv_iload_n hx hb dX8_mirror_33 rfl (lv_at hl 2 rfl) ?_
          refine g_iadd G dX8_mirror_34 ?_
          refine lv_iload_n hx hb dX8_mirror_35 rfl (lv_at hl 1 rfl) ?_
          refine g_if_ne (tgt := 53) G dX8_mirror_36 (by decide) (by omega) (fun h36 => ?_) (fun h36 => ?_)
          ·
            refine lv_aload_n hx hb dX8_mirror_53 rfl (lv_at hl 0 rfl) ?_
            refine g_get G X (k := 0) (fs := fM Y) (Nat.le_of_ble_eq_true rfl) (fun _ => rfl) rfl in_X8 0 (by decide) l_f7 rfl (v := .ref (Y.2.1 (1))) rfl dX8_mirror_54 ?_
            refine lv_iconst (v := iI 1) hx hb dX8_mirror_57 rfl ?_
            refine lv_iload_n hx hb dX8_mirror_58 rfl (lv_at hl 2 rfl) ?_
            refine g_iadd G dX8_mirror_59 ?_
            refine g_iald G X (k := 1) (n := 37) (Nat.le_of_ble_eq_true rfl) (fun _ => rfl) (by decide) (z := (1 + p)) (by omega) dX8_mirror_60 ?_
            refine g_topi (z' := px P p) hdp.1 ?_
            refine g_topi (z' := px P2 p) (by omega) ?_
            refine g_iast G X (k := 1) (n := 37) (Nat.le_of_ble_eq_true rfl) (fun _ => rfl) (by decide) (z := (1 + p)) (v := (px P2 p)) (by omega) dX8_mirror_61 (fun H locs X => ?_)
            refine lv_aload_n hx hb dX8_mirror_62 rfl (lv_at hl 0 rfl) ?_
            refine g_get G X (k := 0) (fs := fM Y) (Nat.le_of_ble_eq_true rfl) (fun _ => rfl) rfl in_X8 0 (by decide) l_f7 rfl (v := .ref (Y.2.1 (1))) rfl dX8_mirror_63 ?_
            refine lv_bipush (v := iI 13) hx hb dX8_mirror_66 (by decide +kernel) ?_
            refine lv_iload_n hx hb dX8_mirror_68 rfl (lv_at hl 2 rfl) ?_
            refine g_iadd G dX8_mirror_69 ?_
            refine lv_iload_n hx hb dX8_mirror_70 rfl (lv_at hl 1 rfl) ?_
            refine lv_iconst (v := iI 1) hx hb dX8_mirror_71 rfl ?_
            refine g_icmp_ne (tgt := 88) G dX8_mirror_72 (by decide) (by omega) (by omega) (fun h72 => ?_) (fun h72 => ?_)
            ·
              refine lv_aload_n hx hb dX8_mirror_88 rfl (lv_at hl 0 rfl) ?_
              refine g_get G X (k := 0) (fs := fM Y) (Nat.le_of_ble_eq_true rfl) (fun _ => rfl) rfl in_X8 0 (by decide) l_f7 rfl (v := .ref (Y.2.1 (1))) rfl dX8_mirror_89 ?_
              refine lv_bipush (v := iI 13) hx hb dX8_mirror_92 (by decide +kernel) ?_
              refine lv_iload_n hx hb dX8_mirror_94 rfl (lv_at hl 2 rfl) ?_
              refine g_iadd G dX8_mirror_95 ?_
              refine g_iald G X (k := 1) (n := 37) (Nat.le_of_ble_eq_true rfl) (fun _ => rfl) (by decide) (z := (13 + p)) (by omega) dX8_mirror_96 ?_
              refine g_topi (z' := pv P p) (by rw [up_nj (by omega)]; exact hdp.2.1) ?_
              refine g_topi (z' := pv P2 p) (by omega) ?_
              refine g_iast G X (k := 1) (n := 37) (Nat.le_of_ble_eq_true rfl) (fun _ => rfl) (by decide) (z := (13 + p)) (v := (pv P2 p)) (by omega) dX8_mirror_97 (fun H locs X => ?_)
              refine lv_iinc (v := iI (p + 1)) (lv' := [(2, .int (iI ((p + 1)))), (0, .ref (Y.2.1 (0))), (1, .int (iI (w)))]) hx hb dX8_mirror_98 hl (k := 2) rfl (iI_add _ _) (by decide) rfl (fun ls hl => ?_)
              refine lv_goto (tgt := 18) hx hb dX8_mirror_101 (by decide) ?_
              exact ih_18 ((p + 1)) ((up (up τ 1 (1 + p) (px P2 p)) 1 (13 + p) (pv P2 p))) (by omega) (mirM_s hM (by omega) h12 hx3.2.2) (by omega) _ _ _ X (lv_sub hl [1, 2, 0] rfl)
            ·
              refine lv_aload_n hx hb dX8_mirror_75 rfl (lv_at hl 0 rfl) ?_
              refine g_get G X (k := 0) (fs := fM Y) (Nat.le_of_ble_eq_true rfl) (fun _ => rfl) rfl in_X8 0 (by decide) l_f7 rfl (v := .ref (Y.2.1 (1))) rfl dX8_mirror_76 ?_
              refine lv_bipush (v := iI 13) hx hb dX8_mirror_79 (by decide +kernel) ?_
              refine lv_iload_n hx hb dX8_mirror_81 rfl (lv_at hl 2 rfl) ?_
              refine g_iadd G dX8_mirror_82 ?_
              refine g_iald G X (k := 1) (n := 37) (Nat.le_of_ble_eq_true rfl) (fun _ => rfl) (by decide) (z := (13 + p)) (by omega) dX8_mirror_83 ?_
              refine g_topi (z' := pv P p) (by rw [up_nj (by omega)]; exact hdp.2.1) ?_
              refine g_ineg G dX8_mirror_84 ?_
              refine lv_goto (tgt := 97) hx hb dX8_mirror_85 (by decide) ?_
              refine g_topi (z' := pv P2 p) (by omega) ?_
              refine g_iast G X (k := 1) (n := 37) (Nat.le_of_ble_eq_true rfl) (fun _ => rfl) (by decide) (z := (13 + p)) (v := (pv P2 p)) (by omega) dX8_mirror_97 (fun H locs X => ?_)
              refine lv_iinc (v := iI (p + 1)) (lv' := [(2, .int (iI ((p + 1)))), (0, .ref (Y.2.1 (0))), (1, .int (iI (w)))]) hx hb dX8_mirror_98 hl (k := 2) rfl (iI_add _ _) (by decide) rfl (fun ls hl => ?_)
              refine lv_goto (tgt := 18) hx hb dX8_mirror_101 (by decide) ?_
              exact ih_18 ((p + 1)) ((up (up τ 1 (1 + p) (px P2 p)) 1 (13 + p) (pv P2 p))) (by omega) (mirM_s hM (by omega) h12 hx3.2.2) (by omega) _ _ _ X (lv_sub hl [1, 2, 0] rfl)
          ·
            refine lv_bipush (v := iI 40) hx hb dX8_mirror_39 (by decide +kernel) ?_
            refine lv_aload_n hx hb dX8_mirror_41 rfl (lv_at hl 0 rfl) ?_
            refine g_get G X (k := 0) (fs := fM Y) (Nat.le_of_ble_eq_true rfl) (fun _ => rfl) rfl in_X8 0 (by decide) l_f7 rfl (v := .ref (Y.2.1 (1))) rfl dX8_mirror_42 ?_
            refine lv_iconst (v := iI 1) hx hb dX8_mirror_45 rfl ?_
            refine lv_iload_n hx hb dX8_mirror_46 rfl (lv_at hl 2 rfl) ?_
            refine g_iadd G dX8_mirror_47 ?_
            refine g_iald G X (k := 1) (n := 37) (Nat.le_of_ble_eq_true rfl) (fun _ => rfl) (by decide) (z := (1 + p)) (by omega) dX8_mirror_48 ?_
            refine g_topi (z' := px P p) hdp.1 ?_
            refine g_isub G dX8_mirror_49 ?_
            refine lv_goto (tgt := 61) hx hb dX8_mirror_50 (by decide) ?_
            refine g_topi (z' := px P2 p) (by omega) ?_
            refine g_iast G X (k := 1) (n := 37) (Nat.le_of_ble_eq_true rfl) (fun _ => rfl) (by decide) (z := (1 + p)) (v := (px P2 p)) (by omega) dX8_mirror_61 (fun H locs X => ?_)
            refine lv_aload_n hx hb dX8_mirror_62 rfl (lv_at hl 0 rfl) ?_
            refine g_get G X (k := 0) (fs := fM Y) (Nat.le_of_ble_eq_true rfl) (fun _ => rfl) rfl in_X8 0 (by decide) l_f7 rfl (v := .ref (Y.2.1 (1))) rfl dX8_mirror_63 ?_
            refine lv_bipush (v := iI 13) hx hb dX8_mirror_66 (by decide +kernel) ?_
            refine lv_iload_n hx hb dX8_mirror_68 rfl (lv_at hl 2 rfl) ?_
            refine g_iadd G dX8_mirror_69 ?_
            refine lv_iload_n hx hb dX8_mirror_70 rfl (lv_at hl 1 rfl) ?_
            refine lv_iconst (v := iI 1) hx hb dX8_mirror_71 rfl ?_
            refine g_icmp_ne (tgt := 88) G dX8_mirror_72 (by decide) (by omega) (by omega) (fun h72 => ?_) (fun h72 => ?_)
            ·
              refine lv_aload_n hx hb dX8_mirror_88 rfl (lv_at hl 0 rfl) ?_
              refine g_get G X (k := 0) (fs := fM Y) (Nat.le_of_ble_eq_true rfl) (fun _ => rfl) rfl in_X8 0 (by decide) l_f7 rfl (v := .ref (Y.2.1 (1))) rfl dX8_mirror_89 ?_
              refine lv_bipush (v := iI 13) hx hb dX8_mirror_92 (by decide +kernel) ?_
              refine lv_iload_n hx hb dX8_mirror_94 rfl (lv_at hl 2 rfl) ?_
              refine g_iadd G dX8_mirror_95 ?_
              refine g_iald G X (k := 1) (n := 37) (Nat.le_of_ble_eq_true rfl) (fun _ => rfl) (by decide) (z := (13 + p)) (by omega) dX8_mirror_96 ?_
              refine g_topi (z' := pv P p) (by rw [up_nj (by omega)]; exact hdp.2.1) ?_
              refine g_topi (z' := pv P2 p) (by omega) ?_
              refine g_iast G X (k := 1) (n := 37) (Nat.le_of_ble_eq_true rfl) (fun _ => rfl) (by decide) (z := (13 + p)) (v := (pv P2 p)) (by omega) dX8_mirror_97 (fun H locs X => ?_)
              refine lv_iinc (v := iI (p + 1)) (lv' := [(2, .int (iI ((p + 1)))), (0, .ref (Y.2.1 (0))), (1, .int (iI (w)))]) hx hb dX8_mirror_98 hl (k := 2) rfl (iI_add _ _) (by decide) rfl (fun ls hl => ?_)
              refine lv_goto (tgt := 18) hx hb dX8_mirror_101 (by decide) ?_
              exact ih_18 ((p + 1)) ((up (up τ 1 (1 + p) (px P2 p)) 1 (13 + p) (pv P2 p))) (by omega) (mirM_s hM (by omega) h12 hx3.2.2) (by omega) _ _ _ X (lv_sub hl [1, 2, 0] rfl)
            ·
              refine lv_aload_n hx hb dX8_mirror_75 rfl (lv_at hl 0 rfl) ?_
              refine g_get G X (k := 0) (fs := fM Y) (Nat.le_of_ble_eq_true rfl) (fun _ => rfl) rfl in_X8 0 (by decide) l_f7 rfl (v := .ref (Y.2.1 (1))) rfl dX8_mirror_76 ?_
              refine lv_bipush (v := iI 13) hx hb dX8_mirror_79 (by decide +kernel) ?_
              refine lv_iload_n hx hb dX8_mirror_81 rfl (lv_at hl 2 rfl) ?_
              refine g_iadd G dX8_mirror_82 ?_
              refine g_iald G X (k := 1) (n := 37) (Nat.le_of_ble_eq_true rfl) (fun _ => rfl) (by decide) (z := (13 + p)) (by omega) dX8_mirror_83 ?_
              refine g_topi (z' := pv P p) (by rw [up_nj (by omega)]; exact hdp.2.1) ?_
              refine g_ineg G dX8_mirror_84 ?_
              refine lv_goto (tgt := 97) hx hb dX8_mirror_85 (by decide) ?_
              refine g_topi (z' := pv P2 p) (by omega) ?_
              refine g_iast G X (k := 1) (n := 37) (Nat.le_of_ble_eq_true rfl) (fun _ => rfl) (by decide) (z := (13 + p)) (v := (pv P2 p)) (by omega) dX8_mirror_97 (fun H locs X => ?_)
              refine lv_iinc (v := iI (p + 1)) (lv' := [(2, .int (iI ((p + 1)))), (0, .ref (Y.2.1 (0))), (1, .int (iI (w)))]) hx hb dX8_mirror_98 hl (k := 2) rfl (iI_add _ _) (by decide) rfl (fun ls hl => ?_)
              refine lv_goto (tgt := 18) hx hb dX8_mirror_101 (by decide) ?_
              exact ih_18 ((p + 1)) ((up (up τ 1 (1 + p) (px P2 p)) 1 (13 + p) (pv P2 p))) (by omega) (mirM_s hM (by omega) h12 hx3.2.2) (by omega) _ _ _ X (lv_sub hl [1, 2, 0] rfl)
    exact lp_18 ((((P.length - (0)) : Int).toNat + 1)) (0) (u13) (by omega) (mirM_0 hPu) (by omega) _ _ _ X (lv_sub hl [1, 2, 0] rfl)
  ·
    refine g_ldc G (z := (-1000001)) l_c62 (by decide +kernel) dX8_mirror_9 ?_
    exact hret _ _ _ _ _ _ ((by have e : stMir P hs w = (-1000001, P, hs) := by { unfold stMir; exact if_pos (by omega) }; rw [e]; exact ⟨rfl, hI⟩)) X dX8_mirror_11

set_option maxHeartbeats 4000000 in
set_option maxRecDepth 100000 in
theorem t_X8_undo (l : Launch) (Y : Yt) (σ : Mem) (P : List Pt) (hs : List (List Pt)) (tx : List Int) (ch : List Int) (hI : MInv σ P hs tx ch) : MXi l LM Y yX8_undo wsX8_undo { frames := 0, cells := 0, slots := 0, locals := 0 } [.ref (Y.2.1 (0))] σ (fun z u => z = (stUndo P hs).1 ∧ MInv u (stUndo P hs).2.1 (stUndo P hs).2.2 tx ch) := by
  obtain ⟨⟨hP, hok⟩, ⟨hW, hHok⟩, ⟨hTx, htok⟩, hC, hC3⟩ := id hI
  obtain ⟨hd0, h12, hd⟩ := hP.d
  have hh6 := hW.2.1
  have hkp := hW.1
  have h90 := htok.1
  have hty := hTx.1
  have hre := hC.1
  refine g_starti (rty := .int) (fun _ _ _ => rfl) (cc := cX8_undo) (nL := 2) (own := RX8) (by decide) rfl rfl (Nat.le_of_ble_eq_true rfl) ?_
  intro pp ee ss mm bw mt cd AA ZZ ls G hret X hl
  have hl : lv_has ls 2 [(0, .ref (Y.2.1 (0)))] := hl
  have hx := G.1
  have hb := G.2.1
  have hts := G.2.2.2.2.1
  have l_f7 := hts (.fieldLink RX8 7 "ShapeFitsModel" "d" "[I") (List.mem_of_getElem? (i := 3) rfl)
  have l_f13 := hts (.fieldLink RX8 13 "ShapeFitsModel" "was" "[I") (List.mem_of_getElem? (i := 4) rfl)
  have l_f58 := hts (.fieldLink RX8 58 "ShapeFitsModel" "kept" "I") (List.mem_of_getElem? (i := 1) rfl)
  have l_c71 := hts (.constant RX8 71 (-1000002)) (List.mem_of_getElem? (i := 2) rfl)
  have in_X8 : ∀ w ∈ u_ws RX8 TX8 24, w ∈ wsX8_undo := by decide +kernel
  refine lv_aload_n hx hb dX8_undo_0 rfl (lv_at hl 0 rfl) ?_
  refine g_get G X (k := 0) (fs := fM Y) (Nat.le_of_ble_eq_true rfl) (fun _ => rfl) rfl in_X8 2 (by decide) l_f58 rfl (v := .int (iI ((σ 0 2)))) rfl dX8_undo_1 ?_
  refine g_if_ne (tgt := 10) G dX8_undo_4 (by decide) (by omega) (fun h4 => ?_) (fun h4 => ?_)
  ·
    refine lv_aload_n hx hb dX8_undo_10 rfl (lv_at hl 0 rfl) ?_
    refine lv_dup hx hb dX8_undo_11 rfl ?_
    refine g_get G X (k := 0) (fs := fM Y) (Nat.le_of_ble_eq_true rfl) (fun _ => rfl) rfl in_X8 2 (by decide) l_f58 rfl (v := .int (iI ((σ 0 2)))) rfl dX8_undo_12 ?_
    refine lv_iconst (v := iI 1) hx hb dX8_undo_15 rfl ?_
    refine g_isub G dX8_undo_16 ?_
    refine g_puti G X (k := 0) (fs := fM Y) (z := ((σ 0 2) - 1)) (Nat.le_of_ble_eq_true rfl) (fun _ => rfl) rfl in_X8 tyX8 tyX8_ok nmX8 2 2 (by decide) l_f58 rfl rfl (by decide +kernel) (Nat.le_of_ble_eq_true rfl) (fun _ => rfl) dX8_undo_17 (fun H locs X => ?_)
    have X := (show (up σ 0 2 ((σ 0 2) - 1)) = (up σ 0 2 ((hs.length : Int) - 1)) from (by rw [hkp])) ▸ X
    obtain ⟨ρ0, hρ0⟩ : ∃ ρ0, ρ0 = (up σ 0 2 ((hs.length : Int) - 1)) := ⟨_, rfl⟩
    have hpa : PtsAt ρ0 2 (37 * ((hs.length : Int) - 1)) (hAt hs ((hs.length : Int) - 1)) := by rw [hρ0]; exact (hW.2.2 _ (by omega) (by omega)).eq rfl
    have hk0 : ρ0 0 2 = (hs.length : Int) - 1 := by rw [hρ0]; exact up_same _ _ _ _
    have X := (show (up σ 0 2 ((hs.length : Int) - 1)) = ρ0 from hρ0.symm) ▸ X
    refine lv_iconst (v := iI 0) hx hb dX8_undo_20 rfl ?_
    refine lv_istore_n (lv' := [(1, .int (iI (0))), (0, .ref (Y.2.1 (0)))]) hx hb dX8_undo_21 rfl hl (by decide) rfl (fun ls hl => ?_)
    have lp_22 : ∀ (nn : Nat) (k : Int) (τ : Mem), ∀ hk : 0 ≤ k ∧ k ≤ 37, ∀ hM : MapO ρ0 τ 1 0 (fun i => ρ0 2 (37 * ((hs.length : Int) - 1) + i)) k, ∀ hdec : (37 - k) < (nn : Int), ∀ (H : Heap) (locs : List Loc) (ls : Array Slot), wx LM Y τ ss AA H locs → lv_has ls 2 [(0, .ref (Y.2.1 (0))), (1, .int (iI (k)))] → W pp l ee { frames := 0, cells := 0, slots := 0, locals := 0 } ss mm ([.ref (Y.2.1 (0))] : List Value).toArray bw mt cd H locs 0 0 ZZ (F0 mm 22 ls []) := by
      intro nn
      induction nn with
      | zero =>
        intro k τ hk hM hdec
        exact absurd hdec (by omega)
      | succ nn ih_22 =>
        intro k τ hk hM hdec H locs ls X hl
        refine lv_iload_n hx hb dX8_undo_22 rfl (lv_at hl 1 rfl) ?_
        refine lv_bipush (v := iI 37) hx hb dX8_undo_23 (by decide +kernel) ?_
        refine g_icmp_ge (tgt := 54) G dX8_undo_25 (by decide) (by omega) (by omega) (fun h25 => ?_) (fun h25 => ?_)
        ·
          refine lv_aload_n hx hb dX8_undo_54 rfl (lv_at hl 0 rfl) ?_
          refine g_get G X (k := 0) (fs := fM Y) (Nat.le_of_ble_eq_true rfl) (fun _ => rfl) rfl in_X8 2 (by decide) l_f58 rfl (v := .int (iI ((τ 0 2)))) rfl dX8_undo_55 ?_
          refine g_topi (z' := ((hs.length : Int) - 1)) (by rw [hM.2.2 0 (by omega)]; exact hk0) ?_
          exact hret _ _ _ _ _ _ ((by have e : stUndo P hs = ((hs.length : Int) - 1, hAt hs (hs.length - 1), hs.dropLast) := by { unfold stUndo; exact if_neg (by omega) }; rw [e]; exact ⟨rfl, minv_undo hI (by omega) hρ0 hk0 hM.2.2 (undo_e hpa hM (by omega))⟩)) X dX8_undo_58
        ·
          refine lv_aload_n hx hb dX8_undo_28 rfl (lv_at hl 0 rfl) ?_
          refine g_get G X (k := 0) (fs := fM Y) (Nat.le_of_ble_eq_true rfl) (fun _ => rfl) rfl in_X8 0 (by decide) l_f7 rfl (v := .ref (Y.2.1 (1))) rfl dX8_undo_29 ?_
          refine lv_iload_n hx hb dX8_undo_32 rfl (lv_at hl 1 rfl) ?_
          refine lv_aload_n hx hb dX8_undo_33 rfl (lv_at hl 0 rfl) ?_
          refine g_get G X (k := 0) (fs := fM Y) (Nat.le_of_ble_eq_true rfl) (fun _ => rfl) rfl in_X8 1 (by decide) l_f13 rfl (v := .ref (Y.2.1 (2))) rfl dX8_undo_34 ?_
          refine lv_bipush (v := iI 37) hx hb dX8_undo_37 (by decide +kernel) ?_
          refine lv_aload_n hx hb dX8_undo_39 rfl (lv_at hl 0 rfl) ?_
          refine g_get G X (k := 0) (fs := fM Y) (Nat.le_of_ble_eq_true rfl) (fun _ => rfl) rfl in_X8 2 (by decide) l_f58 rfl (v := .int (iI ((τ 0 2)))) rfl dX8_undo_40 ?_
          refine g_topi (z' := ((hs.length : Int) - 1)) (by rw [hM.2.2 0 (by omega)]; exact hk0) ?_
          refine g_imul G dX8_undo_43 ?_
          refine lv_iload_n hx hb dX8_undo_44 rfl (lv_at hl 1 rfl) ?_
          refine g_iadd G dX8_undo_45 ?_
          refine g_iald G X (k := 2) (n := 222) (Nat.le_of_ble_eq_true rfl) (fun _ => rfl) (by decide) (z := ((37 * ((hs.length : Int) - 1)) + k)) (by omega) dX8_undo_46 ?_
          refine g_topi (z' := (ρ0 2 (37 * ((hs.length : Int) - 1) + k))) (by rw [hM.2.2 2 (by omega)]) ?_
          refine g_iast G X (k := 1) (n := 37) (Nat.le_of_ble_eq_true rfl) (fun _ => rfl) (by decide) (z := k) (v := (ρ0 2 (37 * ((hs.length : Int) - 1) + k))) (by omega) dX8_undo_47 (fun H locs X => ?_)
          refine lv_iinc (v := iI (k + 1)) (lv' := [(1, .int (iI ((k + 1)))), (0, .ref (Y.2.1 (0)))]) hx hb dX8_undo_48 hl (k := 1) rfl (iI_add _ _) (by decide) rfl (fun ls hl => ?_)
          refine lv_goto (tgt := 22) hx hb dX8_undo_51 (by decide) ?_
          exact ih_22 ((k + 1)) ((up τ 1 k (ρ0 2 (37 * ((hs.length : Int) - 1) + k)))) (by omega) (mapO_s hM hk.1 (by omega) rfl) (by omega) _ _ _ X (lv_sub hl [1, 0] rfl)
    exact lp_22 ((((37 - (0)) : Int).toNat + 1)) (0) (ρ0) (by omega) mapO_0 (by omega) _ _ _ X (lv_sub hl [1, 0] rfl)
  ·
    refine g_ldc G (z := (-1000002)) l_c71 (by decide +kernel) dX8_undo_7 ?_
    exact hret _ _ _ _ _ _ ((by have e : stUndo P hs = (-1000002, P, hs) := by { unfold stUndo; exact if_pos (by omega) }; rw [e]; exact ⟨rfl, hI⟩)) X dX8_undo_9

