set_option maxHeartbeats 4000000 in
set_option maxRecDepth 100000 in
theorem t_X2_size (l : Launch) (Y : Yt) (σ : Mem) (hs : List (List Pt)) (hH : HistIs σ hs) : MXi l LX Y yX2_size wsX2_size { frames := 0, cells := 0, slots := 0, locals := 0 } [.ref (Y.2.1 (12))] σ (fun z u => u = σ ∧ (z = hs.length)) := by
  obtain ⟨hc, h6, hr, hi, hrow⟩ := id hH
  refine g_starti (rty := .int) (fun _ _ _ => rfl) (cc := cX2_size) (nL := 1) (own := RX2) (by decide) rfl rfl (Nat.le_of_ble_eq_true rfl) ?_
  intro pp ee ss mm bw mt cd AA ZZ ls G hret X hl
  have hl : lv_has ls 1 [(0, .ref (Y.2.1 (12)))] := hl
  have hx := G.1
  have hb := G.2.1
  have hts := G.2.2.2.2.1
  have l_f18 := hts (.fieldLink RX2 18 "ShapeFits$History" "count" "I") (List.mem_of_getElem? (i := 1) rfl)
  have in_X2 : ∀ w ∈ u_ws RX2 TX2 2, w ∈ wsX2_size := by decide +kernel
  refine lv_aload_n hx hb dX2_size_0 rfl (lv_at hl 0 rfl) ?_
  refine g_get G X (k := 12) (fs := fHist Y) (Nat.le_of_ble_eq_true rfl) (fun _ => rfl) rfl in_X2 1 (by decide) l_f18 rfl (v := .int (iI ((σ 12 1)))) rfl dX2_size_1 ?_
  exact hret _ _ _ _ _ _ (⟨rfl, by omega⟩) X dX2_size_4

set_option maxHeartbeats 4000000 in
set_option maxRecDepth 100000 in
theorem t_X2_forgetOldest (l : Launch) (Y : Yt) (σ : Mem) (hs : List (List Pt)) (hH : HistIs σ hs) (h66 : hs.length = 6) : MXv l LX Y yX2_forgetOldest wsX2_forgetOldest { frames := 0, cells := 0, slots := 0, locals := 0 } [.ref (Y.2.1 (12))] σ (fun u => HistIs u hs.tail ∧ SameH σ u) := by
  obtain ⟨hc, h6, hr, hi, hrow⟩ := id hH
  have ho := (hr 0 (by omega) (by omega)).is Y
  refine g_startv (cc := cX2_forgetOldest) (nL := 3) (own := RX2) (by decide) rfl rfl (Nat.le_of_ble_eq_true rfl) ?_
  intro pp ee ss mm bw mt cd AA ZZ ls G hret X hl
  have hl : lv_has ls 3 [(0, .ref (Y.2.1 (12)))] := hl
  have hx := G.1
  have hb := G.2.1
  have hts := G.2.2.2.2.1
  have l_f11 := hts (.fieldLink RX2 11 "ShapeFits$History" "states" "[LShapeFits$PointRow;") (List.mem_of_getElem? (i := 1) rfl)
  have l_f18 := hts (.fieldLink RX2 18 "ShapeFits$History" "count" "I") (List.mem_of_getElem? (i := 2) rfl)
  have in_X2 : ∀ w ∈ u_ws RX2 TX2 2, w ∈ wsX2_forgetOldest := by decide +kernel
  refine lv_aload_n hx hb dX2_forgetOldest_0 rfl (lv_at hl 0 rfl) ?_
  refine g_get G X (k := 12) (fs := fHist Y) (Nat.le_of_ble_eq_true rfl) (fun _ => rfl) rfl in_X2 0 (by decide) l_f11 rfl (v := .ref (Y.2.1 (13))) rfl dX2_forgetOldest_1 ?_
  refine lv_iconst (v := iI 0) hx hb dX2_forgetOldest_4 rfl ?_
  refine g_aaldR G X (k := 13) (n := 6) (Nat.le_of_ble_eq_true rfl) (fun _ => rfl) (by decide) (z := 0) (by omega) dX2_forgetOldest_5 ?_
  refine lv_astore_n (lv' := [(1, .ref (Y.2.1 ((σ 13 0).toNat))), (0, .ref (Y.2.1 (12)))]) hx hb dX2_forgetOldest_6 rfl hl (by decide) rfl (fun ls hl => ?_)
  refine lv_iconst (v := iI 1) hx hb dX2_forgetOldest_7 rfl ?_
  refine lv_istore_n (lv' := [(2, .int (iI (1))), (1, .ref (Y.2.1 ((σ 13 0).toNat))), (0, .ref (Y.2.1 (12)))]) hx hb dX2_forgetOldest_8 rfl hl (by decide) rfl (fun ls hl => ?_)
  have lp_9 : ∀ (nn : Nat) (st : Int) (τ : Mem), ∀ hst : 1 ≤ st ∧ st ≤ 6, ∀ hM : MapInv σ τ 13 (fun i => σ 13 (i + 1)) (st - 1), ∀ hdec : (6 - st) < (nn : Int), ∀ (H : Heap) (locs : List Loc) (ls : Array Slot), wx LX Y τ ss AA H locs → lv_has ls 3 [(0, .ref (Y.2.1 (12))), (1, .ref (Y.2.1 ((σ 13 0).toNat))), (2, .int (iI (st)))] → W pp l ee { frames := 0, cells := 0, slots := 0, locals := 0 } ss mm ([.ref (Y.2.1 (12))] : List Value).toArray bw mt cd H locs 0 0 ZZ (F0 mm 9 ls []) := by
    intro nn
    induction nn with
    | zero =>
      intro st τ hst hM hdec
      exact absurd hdec (by omega)
    | succ nn ih_9 =>
      intro st τ hst hM hdec H locs ls X hl
      refine lv_iload_n hx hb dX2_forgetOldest_9 rfl (lv_at hl 2 rfl) ?_
      refine lv_bipush (v := iI 6) hx hb dX2_forgetOldest_10 (by decide +kernel) ?_
      refine g_icmp_ge (tgt := 35) G dX2_forgetOldest_12 (by decide) (by omega) (by omega) (fun h12 => ?_) (fun h12 => ?_)
      ·
        refine lv_aload_n hx hb dX2_forgetOldest_35 rfl (lv_at hl 0 rfl) ?_
        refine g_get G X (k := 12) (fs := fHist Y) (Nat.le_of_ble_eq_true rfl) (fun _ => rfl) rfl in_X2 0 (by decide) l_f11 rfl (v := .ref (Y.2.1 (13))) rfl dX2_forgetOldest_36 ?_
        refine lv_iconst (v := iI 5) hx hb dX2_forgetOldest_39 rfl ?_
        refine lv_aload_n hx hb dX2_forgetOldest_40 rfl (lv_at hl 1 rfl) ?_
        refine g_aastR G X (k := 13) (n := 6) (v := (σ 13 0).toNat) (Nat.le_of_ble_eq_true rfl) (fun _ => rfl) ho.k0 ho.2.1 (by decide) (z := 5) (by omega) dX2_forgetOldest_41 (fun H locs X => ?_)
        refine lv_aload_n hx hb dX2_forgetOldest_42 rfl (lv_at hl 0 rfl) ?_
        refine lv_iconst (v := iI 5) hx hb dX2_forgetOldest_43 rfl ?_
        refine g_puti G X (k := 12) (fs := fHist Y) (z := 5) (Nat.le_of_ble_eq_true rfl) (fun _ => rfl) rfl in_X2 tyX2 tyX2_ok nmX2 1 1 (by decide) l_f18 rfl rfl (by decide +kernel) (Nat.le_of_ble_eq_true rfl) (fun _ => rfl) dX2_forgetOldest_44 (fun H locs X => ?_)
        exact hret _ _ _ _ _ (hist_forget hH h66 hM (by omega)) X dX2_forgetOldest_47
      ·
        refine lv_aload_n hx hb dX2_forgetOldest_15 rfl (lv_at hl 0 rfl) ?_
        refine g_get G X (k := 12) (fs := fHist Y) (Nat.le_of_ble_eq_true rfl) (fun _ => rfl) rfl in_X2 0 (by decide) l_f11 rfl (v := .ref (Y.2.1 (13))) rfl dX2_forgetOldest_16 ?_
        refine lv_iload_n hx hb dX2_forgetOldest_19 rfl (lv_at hl 2 rfl) ?_
        refine lv_iconst (v := iI 1) hx hb dX2_forgetOldest_20 rfl ?_
        refine g_isub G dX2_forgetOldest_21 ?_
        refine lv_aload_n hx hb dX2_forgetOldest_22 rfl (lv_at hl 0 rfl) ?_
        refine g_get G X (k := 12) (fs := fHist Y) (Nat.le_of_ble_eq_true rfl) (fun _ => rfl) rfl in_X2 0 (by decide) l_f11 rfl (v := .ref (Y.2.1 (13))) rfl dX2_forgetOldest_23 ?_
        refine lv_iload_n hx hb dX2_forgetOldest_26 rfl (lv_at hl 2 rfl) ?_
        refine g_aaldR G X (k := 13) (n := 6) (Nat.le_of_ble_eq_true rfl) (fun _ => rfl) (by decide) (z := st) (by omega) dX2_forgetOldest_27 ?_
        have hkv : 0 ≤ τ 13 st := by rw [hM.2.1 st (by omega)]; have := hH.row (i := st) (by omega) (by omega); omega
        obtain ⟨kk, hkk, hkr⟩ : ∃ kk, (τ 13 st).toNat = kk ∧ isRow Y kk := ⟨_, rfl, by rw [hM.2.1 st (by omega)]; exact (hr st (by omega) (by omega)).is Y⟩
        refine g_topr hkk ?_
        refine g_aastR G X (k := 13) (n := 6) (v := kk) (Nat.le_of_ble_eq_true rfl) (fun _ => rfl) hkr.k0 hkr.2.1 (by decide) (z := (st - 1)) (by omega) dX2_forgetOldest_28 (fun H locs X => ?_)
        refine lv_iinc (v := iI (st + 1)) (lv' := [(2, .int (iI ((st + 1)))), (0, .ref (Y.2.1 (12))), (1, .ref (Y.2.1 ((σ 13 0).toNat)))]) hx hb dX2_forgetOldest_29 hl (k := 2) rfl (iI_add _ _) (by decide) rfl (fun ls hl => ?_)
        refine lv_goto (tgt := 9) hx hb dX2_forgetOldest_32 (by decide) ?_
        exact ih_9 ((st + 1)) ((up τ 13 (st - 1) ((kk : Nat) : Int))) (by omega) (by have e := map_s hM (v := ((kk : Nat) : Int)) (by show ((kk : Nat) : Int) = σ 13 (st - 1 + 1); rw [show st - 1 + 1 = st by omega, ← hM.2.1 st (by omega)]; have := hkv; omega); rw [show st - 1 + 1 = st + 1 - 1 by omega] at e; exact e) (by omega) _ _ _ X (lv_sub hl [1, 2, 0] rfl)
  exact lp_9 ((((6 - (1)) : Int).toNat + 1)) (1) (σ) (by omega) map_0 (by omega) _ _ _ X (lv_sub hl [2, 1, 0] rfl)

set_option maxHeartbeats 4000000 in
set_option maxRecDepth 100000 in
theorem t_X2_record (l : Launch) (Y : Yt) (σ : Mem) (hs : List (List Pt)) (P : List Pt) (hH : HistIs σ hs) (hR : RowIs σ 1 P) : MXv l LX Y yX2_record wsX2_record { frames := 2, cells := 0, slots := 0, locals := 45 } [.ref (Y.2.1 (12)), .ref (Y.2.1 (1))] σ (fun u => HistIs u (recd hs P) ∧ SameH σ u) := by
  obtain ⟨hc, h6, hr, hi, hrow⟩ := id hH
  have hr1 : isRow Y 1 := isRow_of Y (by omega)
  refine g_startv (cc := cX2_record) (nL := 2) (own := RX2) (by decide) rfl rfl (Nat.le_of_ble_eq_true rfl) ?_
  intro pp ee ss mm bw mt cd AA ZZ ls G hret X hl
  have hl : lv_has ls 2 [(0, .ref (Y.2.1 (12))), (1, .ref (Y.2.1 (1)))] := hl
  have hx := G.1
  have hb := G.2.1
  have hts := G.2.2.2.2.1
  have l_f11 := hts (.fieldLink RX2 11 "ShapeFits$History" "states" "[LShapeFits$PointRow;") (List.mem_of_getElem? (i := 2) rfl)
  have l_f18 := hts (.fieldLink RX2 18 "ShapeFits$History" "count" "I") (List.mem_of_getElem? (i := 1) rfl)
  have in_X2 : ∀ w ∈ u_ws RX2 TX2 2, w ∈ wsX2_record := by decide +kernel
  refine lv_aload_n hx hb dX2_record_0 rfl (lv_at hl 0 rfl) ?_
  refine g_get G X (k := 12) (fs := fHist Y) (Nat.le_of_ble_eq_true rfl) (fun _ => rfl) rfl in_X2 1 (by decide) l_f18 rfl (v := .int (iI ((σ 12 1)))) rfl dX2_record_1 ?_
  refine lv_bipush (v := iI 6) hx hb dX2_record_4 (by decide +kernel) ?_
  refine g_icmp_lt (tgt := 13) G dX2_record_6 (by decide) (by omega) (by omega) (fun h6 => ?_) (fun h6 => ?_)
  ·
    obtain ⟨hs', hH', hlen', hrec, hR', hS'⟩ : ∃ hs', HistIs σ hs' ∧ hs'.length < 6 ∧ recd hs P = hs' ++ [P] ∧ RowIs σ 1 P ∧ SameH σ σ := ⟨hs, hH, by omega, recd_lt (by omega), hR, fun _ _ => rfl⟩
    refine lv_aload_n hx hb dX2_record_13 rfl (lv_at hl 1 rfl) ?_
    refine lv_aload_n hx hb dX2_record_14 rfl (lv_at hl 0 rfl) ?_
    refine g_get G X (k := 12) (fs := fHist Y) (Nat.le_of_ble_eq_true rfl) (fun _ => rfl) rfl in_X2 0 (by decide) l_f11 rfl (v := .ref (Y.2.1 (13))) rfl dX2_record_15 ?_
    refine lv_aload_n hx hb dX2_record_18 rfl (lv_at hl 0 rfl) ?_
    refine g_get G X (k := 12) (fs := fHist Y) (Nat.le_of_ble_eq_true rfl) (fun _ => rfl) rfl in_X2 1 (by decide) l_f18 rfl (v := .int (iI ((σ 12 1)))) rfl dX2_record_19 ?_
    have hcc := hH'.1
    refine g_aaldR G X (k := 13) (n := 6) (Nat.le_of_ble_eq_true rfl) (fun _ => rfl) (by decide) (z := (σ 12 1)) (by omega) dX2_record_22 ?_
    obtain ⟨kk, hkk, hkr, hkb⟩ : ∃ kk, (σ 13 (σ 12 1)).toNat = kk ∧ isRow Y kk ∧ 14 ≤ kk := ⟨_, rfl, (hH'.2.2.1 _ (by omega) (by omega)).is Y, by have := hH'.row (i := σ 12 1) (by omega) (by omega); omega⟩
    refine g_topr hkk ?_
    refine g_callVv G X (rest := []) (As := [.ref (Y.2.1 (kk))]) (t_X5_copyTo l Y (σ) (1) P (kk) (by first | assumption | omega) hR' (by first | assumption | omega) (by first | assumption | omega)) (cwV 1 hts gX2_record_X5_copyTo rfl rfl rfl (by decide +kernel) ⟨Nat.le_of_ble_eq_true rfl, Nat.le_of_ble_eq_true rfl⟩) (k := 1) (Nat.le_of_ble_eq_true rfl) rfl rfl rfl rfl hl.1 rfl (Nat.le_of_ble_eq_true rfl) dX2_record_23 ⟨Nat.le_refl _, Nat.le_refl _⟩ (fun u23 H locs hq23 X => ?_)
    have hfin := hist_push hH' hlen' hkk hq23.1 hq23.2
    refine lv_aload_n hx hb dX2_record_26 rfl (lv_at hl 0 rfl) ?_
    refine lv_dup hx hb dX2_record_27 rfl ?_
    refine g_get G X (k := 12) (fs := fHist Y) (Nat.le_of_ble_eq_true rfl) (fun _ => rfl) rfl in_X2 1 (by decide) l_f18 rfl (v := .int (iI ((u23 12 1)))) rfl dX2_record_28 ?_
    refine lv_iconst (v := iI 1) hx hb dX2_record_31 rfl ?_
    refine g_iadd G dX2_record_32 ?_
    refine g_puti G X (k := 12) (fs := fHist Y) (z := ((u23 12 1) + 1)) (Nat.le_of_ble_eq_true rfl) (fun _ => rfl) rfl in_X2 tyX2 tyX2_ok nmX2 1 1 (by decide) l_f18 rfl rfl (by decide +kernel) (Nat.le_of_ble_eq_true rfl) (fun _ => rfl) dX2_record_33 (fun H locs X => ?_)
    exact hret _ _ _ _ _ (by rw [hrec]; exact ⟨hfin.1, fun a ha => (hfin.2 a ha).trans (hS' a ha)⟩) X dX2_record_36
  ·
    refine lv_aload_n hx hb dX2_record_9 rfl (lv_at hl 0 rfl) ?_
    refine g_callVv G X (rest := []) (As := []) (t_X2_forgetOldest l Y (σ) hs (by first | assumption | omega) (by first | assumption | omega)) (cwV 0 hts gX2_record_X2_forgetOldest rfl rfl rfl (by decide +kernel) ⟨Nat.le_of_ble_eq_true rfl, Nat.le_of_ble_eq_true rfl⟩) (k := 12) (Nat.le_of_ble_eq_true rfl) rfl rfl rfl rfl hl.1 rfl (Nat.le_of_ble_eq_true rfl) dX2_record_10 ⟨Nat.le_refl _, Nat.le_refl _⟩ (fun u10 H locs hq10 X => ?_)
    obtain ⟨hs', hH', hlen', hrec, hR', hS'⟩ : ∃ hs', HistIs u10 hs' ∧ hs'.length < 6 ∧ recd hs P = hs' ++ [P] ∧ RowIs u10 1 P ∧ SameH σ u10 := ⟨hs.tail, hq10.1, by rw [List.length_tail]; omega, recd_6 (by omega), hR.eq (hq10.2 1 (by omega)) (hq10.2 2 (by omega)) (hq10.2 3 (by omega)) (hq10.2 4 (by omega)), hq10.2⟩
    refine lv_aload_n hx hb dX2_record_13 rfl (lv_at hl 1 rfl) ?_
    refine lv_aload_n hx hb dX2_record_14 rfl (lv_at hl 0 rfl) ?_
    refine g_get G X (k := 12) (fs := fHist Y) (Nat.le_of_ble_eq_true rfl) (fun _ => rfl) rfl in_X2 0 (by decide) l_f11 rfl (v := .ref (Y.2.1 (13))) rfl dX2_record_15 ?_
    refine lv_aload_n hx hb dX2_record_18 rfl (lv_at hl 0 rfl) ?_
    refine g_get G X (k := 12) (fs := fHist Y) (Nat.le_of_ble_eq_true rfl) (fun _ => rfl) rfl in_X2 1 (by decide) l_f18 rfl (v := .int (iI ((u10 12 1)))) rfl dX2_record_19 ?_
    have hcc := hH'.1
    refine g_aaldR G X (k := 13) (n := 6) (Nat.le_of_ble_eq_true rfl) (fun _ => rfl) (by decide) (z := (u10 12 1)) (by omega) dX2_record_22 ?_
    obtain ⟨kk, hkk, hkr, hkb⟩ : ∃ kk, (u10 13 (u10 12 1)).toNat = kk ∧ isRow Y kk ∧ 14 ≤ kk := ⟨_, rfl, (hH'.2.2.1 _ (by omega) (by omega)).is Y, by have := hH'.row (i := u10 12 1) (by omega) (by omega); omega⟩
    refine g_topr hkk ?_
    refine g_callVv G X (rest := []) (As := [.ref (Y.2.1 (kk))]) (t_X5_copyTo l Y (u10) (1) P (kk) (by first | assumption | omega) hR' (by first | assumption | omega) (by first | assumption | omega)) (cwV 1 hts gX2_record_X5_copyTo rfl rfl rfl (by decide +kernel) ⟨Nat.le_of_ble_eq_true rfl, Nat.le_of_ble_eq_true rfl⟩) (k := 1) (Nat.le_of_ble_eq_true rfl) rfl rfl rfl rfl hl.1 rfl (Nat.le_of_ble_eq_true rfl) dX2_record_23 ⟨Nat.le_refl _, Nat.le_refl _⟩ (fun u23 H locs hq23 X => ?_)
    have hfin := hist_push hH' hlen' hkk hq23.1 hq23.2
    refine lv_aload_n hx hb dX2_record_26 rfl (lv_at hl 0 rfl) ?_
    refine lv_dup hx hb dX2_record_27 rfl ?_
    refine g_get G X (k := 12) (fs := fHist Y) (Nat.le_of_ble_eq_true rfl) (fun _ => rfl) rfl in_X2 1 (by decide) l_f18 rfl (v := .int (iI ((u23 12 1)))) rfl dX2_record_28 ?_
    refine lv_iconst (v := iI 1) hx hb dX2_record_31 rfl ?_
    refine g_iadd G dX2_record_32 ?_
    refine g_puti G X (k := 12) (fs := fHist Y) (z := ((u23 12 1) + 1)) (Nat.le_of_ble_eq_true rfl) (fun _ => rfl) rfl in_X2 tyX2 tyX2_ok nmX2 1 1 (by decide) l_f18 rfl rfl (by decide +kernel) (Nat.le_of_ble_eq_true rfl) (fun _ => rfl) dX2_record_33 (fun H locs X => ?_)
    exact hret _ _ _ _ _ (by rw [hrec]; exact ⟨hfin.1, fun a ha => (hfin.2 a ha).trans (hS' a ha)⟩) X dX2_record_36

set_option maxHeartbeats 4000000 in
set_option maxRecDepth 100000 in
theorem t_X2_restore (l : Launch) (Y : Yt) (σ : Mem) (hs : List (List Pt)) (P : List Pt) (hH : HistIs σ hs) (hl0 : 0 < hs.length) (hR : RowIs σ 1 P) : MXv l LX Y yX2_restore wsX2_restore { frames := 2, cells := 0, slots := 0, locals := 45 } [.ref (Y.2.1 (12)), .ref (Y.2.1 (1))] σ (fun u => HistIs u hs.dropLast ∧ RowIs u 1 (hAt hs (hs.length - 1)) ∧ SameU σ u) := by
  obtain ⟨hc, h6, hr, hi, hrow⟩ := id hH
  have hr1 : isRow Y 1 := isRow_of Y (by omega)
  refine g_startv (cc := cX2_restore) (nL := 3) (own := RX2) (by decide) rfl rfl (Nat.le_of_ble_eq_true rfl) ?_
  intro pp ee ss mm bw mt cd AA ZZ ls G hret X hl
  have hl : lv_has ls 3 [(0, .ref (Y.2.1 (12))), (1, .ref (Y.2.1 (1)))] := hl
  have hx := G.1
  have hb := G.2.1
  have hts := G.2.2.2.2.1
  have l_f11 := hts (.fieldLink RX2 11 "ShapeFits$History" "states" "[LShapeFits$PointRow;") (List.mem_of_getElem? (i := 2) rfl)
  have l_f18 := hts (.fieldLink RX2 18 "ShapeFits$History" "count" "I") (List.mem_of_getElem? (i := 1) rfl)
  have in_X2 : ∀ w ∈ u_ws RX2 TX2 2, w ∈ wsX2_restore := by decide +kernel
  refine lv_aload_n hx hb dX2_restore_0 rfl (lv_at hl 0 rfl) ?_
  refine g_get G X (k := 12) (fs := fHist Y) (Nat.le_of_ble_eq_true rfl) (fun _ => rfl) rfl in_X2 1 (by decide) l_f18 rfl (v := .int (iI ((σ 12 1)))) rfl dX2_restore_1 ?_
  refine g_if_gt (tgt := 8) G dX2_restore_4 (by decide) (by omega) (fun h4 => ?_) (fun h4 => ?_)
  ·
    refine lv_aload_n hx hb dX2_restore_8 rfl (lv_at hl 0 rfl) ?_
    refine lv_dup hx hb dX2_restore_9 rfl ?_
    refine g_get G X (k := 12) (fs := fHist Y) (Nat.le_of_ble_eq_true rfl) (fun _ => rfl) rfl in_X2 1 (by decide) l_f18 rfl (v := .int (iI ((σ 12 1)))) rfl dX2_restore_10 ?_
    refine lv_iconst (v := iI 1) hx hb dX2_restore_13 rfl ?_
    refine g_isub G dX2_restore_14 ?_
    refine g_puti G X (k := 12) (fs := fHist Y) (z := ((σ 12 1) - 1)) (Nat.le_of_ble_eq_true rfl) (fun _ => rfl) rfl in_X2 tyX2 tyX2_ok nmX2 1 1 (by decide) l_f18 rfl rfl (by decide +kernel) (Nat.le_of_ble_eq_true rfl) (fun _ => rfl) dX2_restore_15 (fun H locs X => ?_)
    refine lv_aload_n hx hb dX2_restore_18 rfl (lv_at hl 0 rfl) ?_
    refine g_get G X (k := 12) (fs := fHist Y) (Nat.le_of_ble_eq_true rfl) (fun _ => rfl) rfl in_X2 0 (by decide) l_f11 rfl (v := .ref (Y.2.1 (13))) rfl dX2_restore_19 ?_
    refine lv_aload_n hx hb dX2_restore_22 rfl (lv_at hl 0 rfl) ?_
    refine g_get G X (k := 12) (fs := fHist Y) (Nat.le_of_ble_eq_true rfl) (fun _ => rfl) rfl in_X2 1 (by decide) l_f18 rfl (v := .int (iI (((σ 12 1) - 1)))) rfl dX2_restore_23 ?_
    refine g_aaldR G X (k := 13) (n := 6) (Nat.le_of_ble_eq_true rfl) (fun _ => rfl) (by decide) (z := ((σ 12 1) - 1)) (by omega) dX2_restore_26 ?_
    obtain ⟨kk, hkk, hkr, hkb⟩ : ∃ kk, ((σ 13 ((σ 12 1) - 1)).toNat) = kk ∧ isRow Y kk ∧ 14 ≤ kk := ⟨_, rfl, (hr _ (by omega) (by omega)).is Y, by have := hH.row (i := σ 12 1 - 1) (by omega) (by omega); omega⟩
    refine g_topr hkk ?_
    have hRk : RowIs (up σ 12 1 (σ 12 1 - 1)) kk (hAt hs (hs.length - 1)) := by have e := hrow (σ 12 1 - 1) (by omega) (by omega); rw [hkk] at e; rw [show (hs.length : Int) - 1 = σ 12 1 - 1 by omega]; exact e.eq (up_ne (by omega)) (up_ne (by omega)) (up_ne (by omega)) (up_ne (by omega))
    refine lv_astore_n (lv' := [(2, .ref (Y.2.1 (kk))), (0, .ref (Y.2.1 (12))), (1, .ref (Y.2.1 (1)))]) hx hb dX2_restore_27 rfl hl (by decide) rfl (fun ls hl => ?_)
    refine lv_aload_n hx hb dX2_restore_28 rfl (lv_at hl 0 rfl) ?_
    refine lv_ifnull hx hb dX2_restore_29 ?_
    refine lv_aload_n hx hb dX2_restore_32 rfl (lv_at hl 0 rfl) ?_
    refine lv_aload_n hx hb dX2_restore_33 rfl (lv_at hl 2 rfl) ?_
    refine g_callVv G X (rest := []) (As := [.ref (Y.2.1 (1))]) (t_X5_copyTo l Y ((up σ 12 1 ((σ 12 1) - 1))) (kk) (hAt hs (hs.length - 1)) (1) (by first | assumption | omega) hRk (by first | assumption | omega) (by first | assumption | omega)) (cwV 1 hts gX2_restore_X5_copyTo rfl rfl rfl (by decide +kernel) ⟨Nat.le_of_ble_eq_true rfl, Nat.le_of_ble_eq_true rfl⟩) (k := kk) hkr.k0 rfl (hkr.2.1 _) rfl rfl hl.1 rfl (Nat.le_of_ble_eq_true rfl) dX2_restore_34 ⟨Nat.le_refl _, Nat.le_refl _⟩ (fun u34 H locs hq34 X => ?_)
    exact hret _ _ _ _ _ (⟨(hist_pop hH hl0 hq34.1 hq34.2).1, hq34.1, (hist_pop hH hl0 hq34.1 hq34.2).2⟩) X dX2_restore_37
  ·
    exact absurd hl0 (by omega)

