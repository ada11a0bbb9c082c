set_option maxHeartbeats 4000000 in
set_option maxRecDepth 100000 in
theorem t_X0_size (l : Launch) (Y : Yt) (σ : Mem) (n : Int) (Xf : Int → Int) (Cf : Int → Int) (Wf : Int → Int) (Mf : Int → Int) (q : Int) (B : List Int) (hT : Tb σ n Xf Cf Wf Mf q) (hPf : Prof n Xf Wf Mf) (hB : BlkIs σ B) (hAs : Asc n B) : MXi l LX Y yX0_size wsX0_size { frames := 0, cells := 0, slots := 0, locals := 0 } [.ref (Y.2.1 (43))] σ (fun z u => u = σ ∧ (z = B.length)) := by
  obtain ⟨⟨hn0, hn12, hW0, hM0, hW24⟩, hstep, hXa, hXr⟩ := id hPf
  obtain ⟨hTn, hTq, hTx, hTw⟩ := id hT
  obtain ⟨hB1, hB2⟩ := id hB
  obtain ⟨hA0, hA1, hA2, hA3⟩ := id hAs
  refine g_starti (rty := .int) (fun _ _ _ => rfl) (cc := cX0_size) (nL := 1) (own := RX0) (by decide) rfl rfl (Nat.le_of_ble_eq_true rfl) ?_
  intro pp ee ss mm bw mt cd AA ZZ ls G hret X hl
  have hl : lv_has ls 1 [(0, .ref (Y.2.1 (43)))] := hl
  have hx := G.1
  have hb := G.2.1
  have hts := G.2.2.2.2.1
  have l_f19 := hts (.fieldLink RX0 19 "ShapeFits$BlockFit" "count" "I") (List.mem_of_getElem? (i := 1) rfl)
  have in_X0 : ∀ w ∈ u_ws RX0 TX0 5, w ∈ wsX0_size := by decide +kernel
  refine lv_aload_n hx hb dX0_size_0 rfl (lv_at hl 0 rfl) ?_
  refine g_get G X (k := 43) (fs := fBlk Y) (Nat.le_of_ble_eq_true rfl) (fun _ => rfl) rfl in_X0 2 (by decide) l_f19 rfl (v := .int (iI ((σ 43 2)))) rfl dX0_size_1 ?_
  exact hret _ _ _ _ _ _ (⟨rfl, by omega⟩) X dX0_size_4

set_option maxHeartbeats 4000000 in
set_option maxRecDepth 100000 in
theorem t_X0_firstOf (l : Launch) (Y : Yt) (σ : Mem) (n : Int) (Xf : Int → Int) (Cf : Int → Int) (Wf : Int → Int) (Mf : Int → Int) (q : Int) (x : Int) (B : List Int) (hT : Tb σ n Xf Cf Wf Mf q) (hPf : Prof n Xf Wf Mf) (hB : BlkIs σ B) (hAs : Asc n B) (hx0 : 0 ≤ x ∧ x < B.length) : MXi l LX Y yX0_firstOf wsX0_firstOf { frames := 0, cells := 0, slots := 0, locals := 0 } [.ref (Y.2.1 (43)), .int (iI (x))] σ (fun z u => u = σ ∧ (z = at0 B x)) := by
  obtain ⟨⟨hn0, hn12, hW0, hM0, hW24⟩, hstep, hXa, hXr⟩ := id hPf
  obtain ⟨hTn, hTq, hTx, hTw⟩ := id hT
  obtain ⟨hB1, hB2⟩ := id hB
  obtain ⟨hA0, hA1, hA2, hA3⟩ := id hAs
  refine g_starti (rty := .int) (fun _ _ _ => rfl) (cc := cX0_firstOf) (nL := 2) (own := RX0) (by decide) rfl rfl (Nat.le_of_ble_eq_true rfl) ?_
  intro pp ee ss mm bw mt cd AA ZZ ls G hret X hl
  have hl : lv_has ls 2 [(0, .ref (Y.2.1 (43))), (1, .int (iI (x)))] := hl
  have hx := G.1
  have hb := G.2.1
  have hts := G.2.2.2.2.1
  have l_f9 := hts (.fieldLink RX0 9 "ShapeFits$BlockFit" "begin" "[I") (List.mem_of_getElem? (i := 2) rfl)
  have l_f19 := hts (.fieldLink RX0 19 "ShapeFits$BlockFit" "count" "I") (List.mem_of_getElem? (i := 1) rfl)
  have in_X0 : ∀ w ∈ u_ws RX0 TX0 5, w ∈ wsX0_firstOf := by decide +kernel
  refine lv_iload_n hx hb dX0_firstOf_0 rfl (lv_at hl 1 rfl) ?_
  refine g_if_lt (tgt := 21) G dX0_firstOf_1 (by decide) (by omega) (fun h1 => ?_) (fun h1 => ?_)
  ·
    refine lv_iconst (v := iI (-1)) hx hb dX0_firstOf_21 rfl ?_
    exact hret _ _ _ _ _ _ (⟨rfl, by have := hB2 x (by omega) (by omega); omega⟩) X dX0_firstOf_22
  ·
    refine lv_iload_n hx hb dX0_firstOf_4 rfl (lv_at hl 1 rfl) ?_
    refine lv_aload_n hx hb dX0_firstOf_5 rfl (lv_at hl 0 rfl) ?_
    refine g_get G X (k := 43) (fs := fBlk Y) (Nat.le_of_ble_eq_true rfl) (fun _ => rfl) rfl in_X0 2 (by decide) l_f19 rfl (v := .int (iI ((σ 43 2)))) rfl dX0_firstOf_6 ?_
    refine g_icmp_ge (tgt := 21) G dX0_firstOf_9 (by decide) (by omega) (by omega) (fun h9 => ?_) (fun h9 => ?_)
    ·
      refine lv_iconst (v := iI (-1)) hx hb dX0_firstOf_21 rfl ?_
      exact hret _ _ _ _ _ _ (⟨rfl, by have := hB2 x (by omega) (by omega); omega⟩) X dX0_firstOf_22
    ·
      refine lv_aload_n hx hb dX0_firstOf_12 rfl (lv_at hl 0 rfl) ?_
      refine g_get G X (k := 43) (fs := fBlk Y) (Nat.le_of_ble_eq_true rfl) (fun _ => rfl) rfl in_X0 1 (by decide) l_f9 rfl (v := .ref (Y.2.1 (44))) rfl dX0_firstOf_13 ?_
      refine lv_iload_n hx hb dX0_firstOf_16 rfl (lv_at hl 1 rfl) ?_
      refine g_iald G X (k := 44) (n := 12) (Nat.le_of_ble_eq_true rfl) (fun _ => rfl) (by decide) (z := x) (by omega) dX0_firstOf_17 ?_
      refine lv_goto (tgt := 22) hx hb dX0_firstOf_18 (by decide) ?_
      exact hret _ _ _ _ _ _ (⟨rfl, by have := hB2 x (by omega) (by omega); omega⟩) X dX0_firstOf_22

set_option maxHeartbeats 4000000 in
set_option maxRecDepth 100000 in
theorem t_X0_lastOf (l : Launch) (Y : Yt) (σ : Mem) (n : Int) (Xf : Int → Int) (Cf : Int → Int) (Wf : Int → Int) (Mf : Int → Int) (q : Int) (x : Int) (B : List Int) (hT : Tb σ n Xf Cf Wf Mf q) (hPf : Prof n Xf Wf Mf) (hB : BlkIs σ B) (hAs : Asc n B) (hx0 : 0 ≤ x ∧ x < B.length) : MXi l LX Y yX0_lastOf wsX0_lastOf { frames := 1, cells := 0, slots := 0, locals := 20 } [.ref (Y.2.1 (43)), .int (iI (x))] σ (fun z u => u = σ ∧ (z = bEnd B n x)) := by
  obtain ⟨⟨hn0, hn12, hW0, hM0, hW24⟩, hstep, hXa, hXr⟩ := id hPf
  obtain ⟨hTn, hTq, hTx, hTw⟩ := id hT
  obtain ⟨hB1, hB2⟩ := id hB
  obtain ⟨hA0, hA1, hA2, hA3⟩ := id hAs
  refine g_starti (rty := .int) (fun _ _ _ => rfl) (cc := cX0_lastOf) (nL := 2) (own := RX0) (by decide) rfl rfl (Nat.le_of_ble_eq_true rfl) ?_
  intro pp ee ss mm bw mt cd AA ZZ ls G hret X hl
  have hl : lv_has ls 2 [(0, .ref (Y.2.1 (43))), (1, .int (iI (x)))] := hl
  have hx := G.1
  have hb := G.2.1
  have hts := G.2.2.2.2.1
  have l_f9 := hts (.fieldLink RX0 9 "ShapeFits$BlockFit" "begin" "[I") (List.mem_of_getElem? (i := 2) rfl)
  have l_f15 := hts (.fieldLink RX0 15 "ShapeFits$BlockFit" "table" "LShapeFits$GroupTable;") (List.mem_of_getElem? (i := 3) rfl)
  have l_f19 := hts (.fieldLink RX0 19 "ShapeFits$BlockFit" "count" "I") (List.mem_of_getElem? (i := 1) rfl)
  have in_X0 : ∀ w ∈ u_ws RX0 TX0 5, w ∈ wsX0_lastOf := by decide +kernel
  refine lv_iload_n hx hb dX0_lastOf_0 rfl (lv_at hl 1 rfl) ?_
  refine g_if_lt (tgt := 27) G dX0_lastOf_1 (by decide) (by omega) (fun h1 => ?_) (fun h1 => ?_)
  ·
    refine lv_aload_n hx hb dX0_lastOf_27 rfl (lv_at hl 0 rfl) ?_
    refine g_get G X (k := 43) (fs := fBlk Y) (Nat.le_of_ble_eq_true rfl) (fun _ => rfl) rfl in_X0 0 (by decide) l_f15 rfl (v := .ref (Y.2.1 (38))) rfl dX0_lastOf_28 ?_
    refine g_callVi G X (rest := []) (As := []) (t_X1_size l Y (σ) n Xf Cf Wf Mf q (by first | assumption | omega) (by first | assumption | omega)) (cwV 0 hts gX0_lastOf_X1_size rfl rfl rfl (by decide +kernel) ⟨Nat.le_of_ble_eq_true rfl, Nat.le_of_ble_eq_true rfl⟩) (k := 38) (Nat.le_of_ble_eq_true rfl) rfl rfl rfl rfl hl.1 rfl (Nat.le_of_ble_eq_true rfl) dX0_lastOf_31 ⟨Nat.le_refl _, Nat.le_refl _⟩ (fun z31 u31 H locs hq31 X => ?_)
    rw [hq31.1] at X
    have hq31 := hq31.2
    try dsimp only at hq31
    refine lv_iconst (v := iI 1) hx hb dX0_lastOf_34 rfl ?_
    refine g_isub G dX0_lastOf_35 ?_
    exact hret _ _ _ _ _ _ (⟨rfl, by unfold bEnd; first | (rw [if_pos (by omega)]; have := hB2 (x + 1) (by omega) (by omega); omega) | (rw [if_neg (by omega)]; omega)⟩) X dX0_lastOf_36
  ·
    refine lv_iload_n hx hb dX0_lastOf_4 rfl (lv_at hl 1 rfl) ?_
    refine lv_aload_n hx hb dX0_lastOf_5 rfl (lv_at hl 0 rfl) ?_
    refine g_get G X (k := 43) (fs := fBlk Y) (Nat.le_of_ble_eq_true rfl) (fun _ => rfl) rfl in_X0 2 (by decide) l_f19 rfl (v := .int (iI ((σ 43 2)))) rfl dX0_lastOf_6 ?_
    refine lv_iconst (v := iI 1) hx hb dX0_lastOf_9 rfl ?_
    refine g_isub G dX0_lastOf_10 ?_
    refine g_icmp_ge (tgt := 27) G dX0_lastOf_11 (by decide) (by omega) (by omega) (fun h11 => ?_) (fun h11 => ?_)
    ·
      refine lv_aload_n hx hb dX0_lastOf_27 rfl (lv_at hl 0 rfl) ?_
      refine g_get G X (k := 43) (fs := fBlk Y) (Nat.le_of_ble_eq_true rfl) (fun _ => rfl) rfl in_X0 0 (by decide) l_f15 rfl (v := .ref (Y.2.1 (38))) rfl dX0_lastOf_28 ?_
      refine g_callVi G X (rest := []) (As := []) (t_X1_size l Y (σ) n Xf Cf Wf Mf q (by first | assumption | omega) (by first | assumption | omega)) (cwV 0 hts gX0_lastOf_X1_size rfl rfl rfl (by decide +kernel) ⟨Nat.le_of_ble_eq_true rfl, Nat.le_of_ble_eq_true rfl⟩) (k := 38) (Nat.le_of_ble_eq_true rfl) rfl rfl rfl rfl hl.1 rfl (Nat.le_of_ble_eq_true rfl) dX0_lastOf_31 ⟨Nat.le_refl _, Nat.le_refl _⟩ (fun z31 u31 H locs hq31 X => ?_)
      rw [hq31.1] at X
      have hq31 := hq31.2
      try dsimp only at hq31
      refine lv_iconst (v := iI 1) hx hb dX0_lastOf_34 rfl ?_
      refine g_isub G dX0_lastOf_35 ?_
      exact hret _ _ _ _ _ _ (⟨rfl, by unfold bEnd; first | (rw [if_pos (by omega)]; have := hB2 (x + 1) (by omega) (by omega); omega) | (rw [if_neg (by omega)]; omega)⟩) X dX0_lastOf_36
    ·
      refine lv_aload_n hx hb dX0_lastOf_14 rfl (lv_at hl 0 rfl) ?_
      refine g_get G X (k := 43) (fs := fBlk Y) (Nat.le_of_ble_eq_true rfl) (fun _ => rfl) rfl in_X0 1 (by decide) l_f9 rfl (v := .ref (Y.2.1 (44))) rfl dX0_lastOf_15 ?_
      refine lv_iload_n hx hb dX0_lastOf_18 rfl (lv_at hl 1 rfl) ?_
      refine lv_iconst (v := iI 1) hx hb dX0_lastOf_19 rfl ?_
      refine g_iadd G dX0_lastOf_20 ?_
      refine g_iald G X (k := 44) (n := 12) (Nat.le_of_ble_eq_true rfl) (fun _ => rfl) (by decide) (z := (x + 1)) (by omega) dX0_lastOf_21 ?_
      refine lv_iconst (v := iI 1) hx hb dX0_lastOf_22 rfl ?_
      refine g_isub G dX0_lastOf_23 ?_
      refine lv_goto (tgt := 36) hx hb dX0_lastOf_24 (by decide) ?_
      exact hret _ _ _ _ _ _ (⟨rfl, by unfold bEnd; first | (rw [if_pos (by omega)]; have := hB2 (x + 1) (by omega) (by omega); omega) | (rw [if_neg (by omega)]; omega)⟩) X dX0_lastOf_36

set_option maxHeartbeats 4000000 in
set_option maxRecDepth 100000 in
theorem t_X0_blockWith (l : Launch) (Y : Yt) (σ : Mem) (n : Int) (Xf : Int → Int) (Cf : Int → Int) (Wf : Int → Int) (Mf : Int → Int) (q : Int) (g : Int) (B : List Int) (hT : Tb σ n Xf Cf Wf Mf q) (hPf : Prof n Xf Wf Mf) (hB : BlkIs σ B) (hAs : Asc n B) (hg : 0 ≤ g ∧ g < n) : MXi l LX Y yX0_blockWith wsX0_blockWith { frames := 0, cells := 0, slots := 0, locals := 0 } [.ref (Y.2.1 (43)), .int (iI (g))] σ (fun z u => u = σ ∧ (0 ≤ z ∧ z < B.length ∧ at0 B z ≤ g ∧ g ≤ bEnd B n z)) := by
  obtain ⟨⟨hn0, hn12, hW0, hM0, hW24⟩, hstep, hXa, hXr⟩ := id hPf
  obtain ⟨hTn, hTq, hTx, hTw⟩ := id hT
  obtain ⟨hB1, hB2⟩ := id hB
  obtain ⟨hA0, hA1, hA2, hA3⟩ := id hAs
  refine g_starti (rty := .int) (fun _ _ _ => rfl) (cc := cX0_blockWith) (nL := 4) (own := RX0) (by decide) rfl rfl (Nat.le_of_ble_eq_true rfl) ?_
  intro pp ee ss mm bw mt cd AA ZZ ls G hret X hl
  have hl : lv_has ls 4 [(0, .ref (Y.2.1 (43))), (1, .int (iI (g)))] := hl
  have hx := G.1
  have hb := G.2.1
  have hts := G.2.2.2.2.1
  have l_f9 := hts (.fieldLink RX0 9 "ShapeFits$BlockFit" "begin" "[I") (List.mem_of_getElem? (i := 2) rfl)
  have l_f19 := hts (.fieldLink RX0 19 "ShapeFits$BlockFit" "count" "I") (List.mem_of_getElem? (i := 1) rfl)
  have in_X0 : ∀ w ∈ u_ws RX0 TX0 5, w ∈ wsX0_blockWith := by decide +kernel
  refine lv_iconst (v := iI 0) hx hb dX0_blockWith_0 rfl ?_
  refine lv_istore_n (lv' := [(2, .int (iI (0))), (0, .ref (Y.2.1 (43))), (1, .int (iI (g)))]) hx hb dX0_blockWith_1 rfl hl (by decide) rfl (fun ls hl => ?_)
  refine lv_iconst (v := iI 1) hx hb dX0_blockWith_2 rfl ?_
  refine lv_istore_n (lv' := [(3, .int (iI (1))), (2, .int (iI (0))), (0, .ref (Y.2.1 (43))), (1, .int (iI (g)))]) hx hb dX0_blockWith_3 rfl hl (by decide) rfl (fun ls hl => ?_)
  have lp_4 : ∀ (nn : Nat) (fd k : Int), ∀ hk : 1 ≤ k ∧ k ≤ B.length, ∀ hf : 0 ≤ fd ∧ fd < k ∧ at0 B fd ≤ g, ∀ hN : ∀ i : Int, fd < i → i < k → g < at0 B i, ∀ hdec : (B.length - k) < (nn : Int), ∀ (H : Heap) (locs : List Loc) (ls : Array Slot), wx LX Y σ ss AA H locs → lv_has ls 4 [(0, .ref (Y.2.1 (43))), (1, .int (iI (g))), (2, .int (iI (fd))), (3, .int (iI (k)))] → W pp l ee { frames := 0, cells := 0, slots := 0, locals := 0 } ss mm ([.ref (Y.2.1 (43)), .int (iI (g))] : List Value).toArray bw mt cd H locs 0 0 ZZ (F0 mm 4 ls []) := by
    intro nn
    induction nn with
    | zero =>
      intro fd k hk hf hN hdec
      exact absurd hdec (by omega)
    | succ nn ih_4 =>
      intro fd k hk hf hN hdec H locs ls X hl
      refine lv_iload_n hx hb dX0_blockWith_4 rfl (lv_at hl 3 rfl) ?_
      refine lv_aload_n hx hb dX0_blockWith_5 rfl (lv_at hl 0 rfl) ?_
      refine g_get G X (k := 43) (fs := fBlk Y) (Nat.le_of_ble_eq_true rfl) (fun _ => rfl) rfl in_X0 2 (by decide) l_f19 rfl (v := .int (iI ((σ 43 2)))) rfl dX0_blockWith_6 ?_
      refine g_icmp_ge (tgt := 30) G dX0_blockWith_9 (by decide) (by omega) (by omega) (fun h9 => ?_) (fun h9 => ?_)
      ·
        refine lv_iload_n hx hb dX0_blockWith_30 rfl (lv_at hl 2 rfl) ?_
        exact hret _ _ _ _ _ _ (⟨rfl, by omega, by omega, hf.2.2, by unfold bEnd; split; (have := hN (fd + 1) (by omega) (by omega); omega); omega⟩) X dX0_blockWith_31
      ·
        refine lv_aload_n hx hb dX0_blockWith_12 rfl (lv_at hl 0 rfl) ?_
        refine g_get G X (k := 43) (fs := fBlk Y) (Nat.le_of_ble_eq_true rfl) (fun _ => rfl) rfl in_X0 1 (by decide) l_f9 rfl (v := .ref (Y.2.1 (44))) rfl dX0_blockWith_13 ?_
        have hbk := hB2 k (by omega) (by omega)
        have hbr := hA1 k (by omega) (by omega)
        refine lv_iload_n hx hb dX0_blockWith_16 rfl (lv_at hl 3 rfl) ?_
        refine g_iald G X (k := 44) (n := 12) (Nat.le_of_ble_eq_true rfl) (fun _ => rfl) (by decide) (z := k) (by omega) dX0_blockWith_17 ?_
        refine lv_iload_n hx hb dX0_blockWith_18 rfl (lv_at hl 1 rfl) ?_
        refine g_icmp_gt (tgt := 24) G dX0_blockWith_19 (by decide) (by omega) (by omega) (fun h19 => ?_) (fun h19 => ?_)
        ·
          refine lv_iinc (v := iI (k + 1)) (lv' := [(3, .int (iI ((k + 1)))), (0, .ref (Y.2.1 (43))), (1, .int (iI (g))), (2, .int (iI (fd)))]) hx hb dX0_blockWith_24 hl (k := 3) rfl (iI_add _ _) (by decide) rfl (fun ls hl => ?_)
          refine lv_goto (tgt := 4) hx hb dX0_blockWith_27 (by decide) ?_
          exact ih_4 (fd) ((k + 1)) (by omega) (by omega) (fun i a b => by by_cases e : i = k; (subst e; omega); first | exact hN i (by omega) (by omega) | omega) (by omega) _ _ _ X (lv_sub hl [1, 2, 3, 0] rfl)
        ·
          refine lv_iload_n hx hb dX0_blockWith_22 rfl (lv_at hl 3 rfl) ?_
          refine lv_istore_n (lv' := [(2, .int (iI (k))), (0, .ref (Y.2.1 (43))), (1, .int (iI (g))), (3, .int (iI (k)))]) hx hb dX0_blockWith_23 rfl hl (by decide) rfl (fun ls hl => ?_)
          refine lv_iinc (v := iI (k + 1)) (lv' := [(3, .int (iI ((k + 1)))), (2, .int (iI (k))), (0, .ref (Y.2.1 (43))), (1, .int (iI (g)))]) hx hb dX0_blockWith_24 hl (k := 3) rfl (iI_add _ _) (by decide) rfl (fun ls hl => ?_)
          refine lv_goto (tgt := 4) hx hb dX0_blockWith_27 (by decide) ?_
          exact ih_4 (k) ((k + 1)) (by omega) (by omega) (fun i a b => by by_cases e : i = k; (subst e; omega); first | exact hN i (by omega) (by omega) | omega) (by omega) _ _ _ X (lv_sub hl [2, 3, 1, 0] rfl)
  exact lp_4 ((((B.length - (1)) : Int).toNat + 1)) (0) (1) (by have := hA0 (by omega); omega) (by have := hA0 (by omega); omega) (fun i a b => by omega) (by omega) _ _ _ X (lv_sub hl [2, 3, 1, 0] rfl)

set_option maxHeartbeats 4000000 in
set_option maxRecDepth 100000 in
theorem t_X0_commonError (l : Launch) (Y : Yt) (σ : Mem) (n : Int) (Xf : Int → Int) (Cf : Int → Int) (Wf : Int → Int) (Mf : Int → Int) (q : Int) (B : List Int) (hT : Tb σ n Xf Cf Wf Mf q) (hPf : Prof n Xf Wf Mf) (hB : BlkIs σ B) (hAs : Asc n B) (hq0 : 0 ≤ q ∧ q ≤ 235224) : MXl l LX Y yX0_commonError wsX0_commonError { frames := 2, cells := 0, slots := 0, locals := 48 } [.ref (Y.2.1 (43))] σ (fun z u => u = σ ∧ (z = Err n Wf Mf q B ∧ -400000000000000000 ≤ z ∧ z ≤ 1300000000000000)) := by
  obtain ⟨⟨hn0, hn12, hW0, hM0, hW24⟩, hstep, hXa, hXr⟩ := id hPf
  obtain ⟨hTn, hTq, hTx, hTw⟩ := id hT
  obtain ⟨hB1, hB2⟩ := id hB
  obtain ⟨hA0, hA1, hA2, hA3⟩ := id hAs
  refine g_startl (cc := cX0_commonError) (nL := 4) (own := RX0) (by decide) rfl rfl (Nat.le_of_ble_eq_true rfl) ?_
  intro pp ee ss mm bw mt cd AA ZZ ls G hret X hl
  have hl : lv_has ls 4 [(0, .ref (Y.2.1 (43)))] := hl
  have hx := G.1
  have hb := G.2.1
  have hts := G.2.2.2.2.1
  have l_f15 := hts (.fieldLink RX0 15 "ShapeFits$BlockFit" "table" "LShapeFits$GroupTable;") (List.mem_of_getElem? (i := 1) rfl)
  have l_f19 := hts (.fieldLink RX0 19 "ShapeFits$BlockFit" "count" "I") (List.mem_of_getElem? (i := 2) rfl)
  have in_X0 : ∀ w ∈ u_ws RX0 TX0 5, w ∈ wsX0_commonError := by decide +kernel
  refine lv_aload_n hx hb dX0_commonError_0 rfl (lv_at hl 0 rfl) ?_
  refine g_get G X (k := 43) (fs := fBlk Y) (Nat.le_of_ble_eq_true rfl) (fun _ => rfl) rfl in_X0 0 (by decide) l_f15 rfl (v := .ref (Y.2.1 (38))) rfl dX0_commonError_1 ?_
  refine g_callVl G X (rest := []) (As := []) (t_X1_errorOfZero l Y (σ) n Xf Cf Wf Mf q (by first | assumption | omega) (by first | assumption | omega) (by first | assumption | omega)) (cwV 0 hts gX0_commonError_X1_errorOfZero rfl rfl rfl (by decide +kernel) ⟨Nat.le_of_ble_eq_true rfl, Nat.le_of_ble_eq_true rfl⟩) (k := 38) (Nat.le_of_ble_eq_true rfl) rfl rfl rfl rfl hl.1 rfl (Nat.le_of_ble_eq_true rfl) dX0_commonError_4 ⟨Nat.le_refl _, Nat.le_refl _⟩ (fun z4 u4 H locs hq4 X => ?_)
  rw [hq4.1] at X
  have hq4 := hq4.2
  try dsimp only at hq4
  refine lv_lstore_n (lv' := [(1, .long (lI (z4))), (0, .ref (Y.2.1 (43)))]) hx hb dX0_commonError_7 rfl hl (by decide) rfl (fun ls hl => ?_)
  refine lv_iconst (v := iI 0) hx hb dX0_commonError_8 rfl ?_
  refine lv_istore_n (lv' := [(3, .int (iI (0))), (1, .long (lI (z4))), (0, .ref (Y.2.1 (43)))]) hx hb dX0_commonError_9 rfl hl (by decide) rfl (fun ls hl => ?_)
  have lp_10 : ∀ (nn : Nat) (sm k : Int), ∀ hk : 0 ≤ k ∧ k ≤ B.length, ∀ hsm : sm = 5354228880 * q - smI (fun j => gain Wf Mf (at0 B j) (bEnd B n j)) k, ∀ hdec : (B.length - k) < (nn : Int), ∀ (H : Heap) (locs : List Loc) (ls : Array Slot), wx LX Y σ ss AA H locs → lv_has ls 4 [(0, .ref (Y.2.1 (43))), (1, .long (lI (sm))), (3, .int (iI (k)))] → W pp l ee { frames := 2, cells := 0, slots := 0, locals := 48 } ss mm ([.ref (Y.2.1 (43))] : List Value).toArray bw mt cd H locs 0 0 ZZ (F0 mm 10 ls []) := by
    intro nn
    induction nn with
    | zero =>
      intro sm k hk hsm hdec
      exact absurd hdec (by omega)
    | succ nn ih_10 =>
      intro sm k hk hsm hdec H locs ls X hl
      refine lv_iload_n hx hb dX0_commonError_10 rfl (lv_at hl 2 rfl) ?_
      refine lv_aload_n hx hb dX0_commonError_11 rfl (lv_at hl 0 rfl) ?_
      refine g_get G X (k := 43) (fs := fBlk Y) (Nat.le_of_ble_eq_true rfl) (fun _ => rfl) rfl in_X0 2 (by decide) l_f19 rfl (v := .int (iI ((σ 43 2)))) rfl dX0_commonError_12 ?_
      refine g_icmp_ge (tgt := 44) G dX0_commonError_15 (by decide) (by omega) (by omega) (fun h15 => ?_) (fun h15 => ?_)
      ·
        refine lv_lload_n hx hb dX0_commonError_44 rfl (lv_at hl 1 rfl) ?_
        exact hret _ _ _ _ _ _ (⟨rfl, by rw [hsm, show k = (B.length : Int) by omega]; rfl, by have e : sm = Err n Wf Mf q B := by { rw [hsm, show k = (B.length : Int) by omega]; rfl }; rw [e]; exact Err_rg hPf hq0 hAs⟩) X dX0_commonError_45
      ·
        refine lv_lload_n hx hb dX0_commonError_18 rfl (lv_at hl 1 rfl) ?_
        refine lv_aload_n hx hb dX0_commonError_19 rfl (lv_at hl 0 rfl) ?_
        refine g_get G X (k := 43) (fs := fBlk Y) (Nat.le_of_ble_eq_true rfl) (fun _ => rfl) rfl in_X0 0 (by decide) l_f15 rfl (v := .ref (Y.2.1 (38))) rfl dX0_commonError_20 ?_
        refine lv_aload_n hx hb dX0_commonError_23 rfl (lv_at hl 0 rfl) ?_
        refine lv_iload_n hx hb dX0_commonError_24 rfl (lv_at hl 2 rfl) ?_
        refine g_callVi G X (rest := [.ref (Y.2.1 (38)), .long (lI (sm))]) (As := [.int (iI (k))]) (t_X0_firstOf l Y (σ) n Xf Cf Wf Mf q (k) (B) (by first | assumption | omega) (by first | assumption | omega) (by first | assumption | omega) (by first | assumption | omega) (by first | assumption | omega)) (cwV 1 hts gX0_commonError_X0_firstOf rfl rfl rfl (by decide +kernel) ⟨Nat.le_of_ble_eq_true rfl, Nat.le_of_ble_eq_true rfl⟩) (k := 43) (Nat.le_of_ble_eq_true rfl) rfl rfl rfl rfl hl.1 rfl (Nat.le_of_ble_eq_true rfl) dX0_commonError_25 ⟨Nat.le_refl _, Nat.le_refl _⟩ (fun z25 u25 H locs hq25 X => ?_)
        rw [hq25.1] at X
        have hq25 := hq25.2
        try dsimp only at hq25
        refine g_topi (z' := at0 B k) hq25 ?_
        refine lv_aload_n hx hb dX0_commonError_28 rfl (lv_at hl 0 rfl) ?_
        refine lv_iload_n hx hb dX0_commonError_29 rfl (lv_at hl 2 rfl) ?_
        refine g_callVi G X (rest := [.int (iI ((at0 B k))), .ref (Y.2.1 (38)), .long (lI (sm))]) (As := [.int (iI (k))]) (t_X0_lastOf l Y (σ) n Xf Cf Wf Mf q (k) (B) (by first | assumption | omega) (by first | assumption | omega) (by first | assumption | omega) (by first | assumption | omega) (by first | assumption | omega)) (cwV 1 hts gX0_commonError_X0_lastOf rfl rfl rfl (by decide +kernel) ⟨Nat.le_of_ble_eq_true rfl, Nat.le_of_ble_eq_true rfl⟩) (k := 43) (Nat.le_of_ble_eq_true rfl) rfl rfl rfl rfl hl.1 rfl (Nat.le_of_ble_eq_true rfl) dX0_commonError_30 ⟨Nat.le_refl _, Nat.le_refl _⟩ (fun z30 u30 H locs hq30 X => ?_)
        rw [hq30.1] at X
        have hq30 := hq30.2
        try dsimp only at hq30
        refine g_topi (z' := bEnd B n k) hq30 ?_
        have hbe := bEnd_rg hAs (j := k) (by omega) (by omega)
        refine g_callVl G X (rest := [.long (lI (sm))]) (As := [.int (iI ((at0 B k))), .int (iI ((bEnd B n k)))]) (t_X1_gainOf l Y (σ) n Xf Cf Wf Mf q ((at0 B k)) ((bEnd B n k)) (by first | assumption | omega) (by first | assumption | omega) (by first | assumption | omega)) (cwV 2 hts gX0_commonError_X1_gainOf rfl rfl rfl (by decide +kernel) ⟨Nat.le_of_ble_eq_true rfl, Nat.le_of_ble_eq_true rfl⟩) (k := 38) (Nat.le_of_ble_eq_true rfl) rfl rfl rfl rfl hl.1 rfl (Nat.le_of_ble_eq_true rfl) dX0_commonError_33 ⟨Nat.le_refl _, Nat.le_refl _⟩ (fun z33 u33 H locs hq33 X => ?_)
        rw [hq33.1] at X
        have hq33 := hq33.2
        try dsimp only at hq33
        refine g_lsub G dX0_commonError_36 ?_
        refine lv_lstore_n (lv' := [(1, .long (lI ((sm - z33)))), (0, .ref (Y.2.1 (43))), (3, .int (iI (k)))]) hx hb dX0_commonError_37 rfl hl (by decide) rfl (fun ls hl => ?_)
        refine lv_iinc (v := iI (k + 1)) (lv' := [(3, .int (iI ((k + 1)))), (1, .long (lI ((sm - z33)))), (0, .ref (Y.2.1 (43)))]) hx hb dX0_commonError_38 hl (k := 2) rfl (iI_add _ _) (by decide) rfl (fun ls hl => ?_)
        refine lv_goto (tgt := 10) hx hb dX0_commonError_41 (by decide) ?_
        exact ih_10 ((sm - z33)) ((k + 1)) (by omega) (by rw [smI_s _ hk.1, hsm, hq33.1]; omega) (by omega) _ _ _ X (lv_sub hl [2, 1, 0] rfl)
  exact lp_10 ((((B.length - (0)) : Int).toNat + 1)) (z4) (0) (by omega) (by rw [smI_0, hq4]; omega) (by omega) _ _ _ X (lv_sub hl [2, 1, 0] rfl)

set_option maxHeartbeats 4000000 in
set_option maxRecDepth 100000 in
theorem t_X0_open (l : Launch) (Y : Yt) (σ : Mem) (n : Int) (Xf : Int → Int) (Cf : Int → Int) (Wf : Int → Int) (Mf : Int → Int) (q : Int) (x : Int) (B : List Int) (hT : Tb σ n Xf Cf Wf Mf q) (hPf : Prof n Xf Wf Mf) (hB : BlkIs σ B) (hl0 : B.length < 12) : MXv l LX Y yX0_open wsX0_open { frames := 0, cells := 0, slots := 0, locals := 0 } [.ref (Y.2.1 (43)), .int (iI (x))] σ (fun u => BlkIs u (B ++ [x]) ∧ SameB σ u ∧ u 43 3 = σ 43 3 ∧ u 43 4 = σ 43 4) := by
  obtain ⟨⟨hn0, hn12, hW0, hM0, hW24⟩, hstep, hXa, hXr⟩ := id hPf
  obtain ⟨hTn, hTq, hTx, hTw⟩ := id hT
  have hB1 := hB.1
  refine g_startv (cc := cX0_open) (nL := 2) (own := RX0) (by decide) rfl rfl (Nat.le_of_ble_eq_true rfl) ?_
  intro pp ee ss mm bw mt cd AA ZZ ls G hret X hl
  have hl : lv_has ls 2 [(0, .ref (Y.2.1 (43))), (1, .int (iI (x)))] := hl
  have hx := G.1
  have hb := G.2.1
  have hts := G.2.2.2.2.1
  have l_f9 := hts (.fieldLink RX0 9 "ShapeFits$BlockFit" "begin" "[I") (List.mem_of_getElem? (i := 2) rfl)
  have l_f19 := hts (.fieldLink RX0 19 "ShapeFits$BlockFit" "count" "I") (List.mem_of_getElem? (i := 1) rfl)
  have in_X0 : ∀ w ∈ u_ws RX0 TX0 5, w ∈ wsX0_open := by decide +kernel
  refine lv_aload_n hx hb dX0_open_0 rfl (lv_at hl 0 rfl) ?_
  refine g_get G X (k := 43) (fs := fBlk Y) (Nat.le_of_ble_eq_true rfl) (fun _ => rfl) rfl in_X0 2 (by decide) l_f19 rfl (v := .int (iI ((σ 43 2)))) rfl dX0_open_1 ?_
  refine lv_bipush (v := iI 12) hx hb dX0_open_4 (by decide +kernel) ?_
  refine g_icmp_ge (tgt := 29) G dX0_open_6 (by decide) (by omega) (by omega) (fun h6 => ?_) (fun h6 => ?_)
  ·
    exact absurd hl0 (by omega)
  ·
    refine lv_aload_n hx hb dX0_open_9 rfl (lv_at hl 0 rfl) ?_
    refine g_get G X (k := 43) (fs := fBlk Y) (Nat.le_of_ble_eq_true rfl) (fun _ => rfl) rfl in_X0 1 (by decide) l_f9 rfl (v := .ref (Y.2.1 (44))) rfl dX0_open_10 ?_
    refine lv_aload_n hx hb dX0_open_13 rfl (lv_at hl 0 rfl) ?_
    refine g_get G X (k := 43) (fs := fBlk Y) (Nat.le_of_ble_eq_true rfl) (fun _ => rfl) rfl in_X0 2 (by decide) l_f19 rfl (v := .int (iI ((σ 43 2)))) rfl dX0_open_14 ?_
    refine lv_iload_n hx hb dX0_open_17 rfl (lv_at hl 1 rfl) ?_
    refine g_iast G X (k := 44) (n := 12) (Nat.le_of_ble_eq_true rfl) (fun _ => rfl) (by decide) (z := (σ 43 2)) (v := x) (by omega) dX0_open_18 (fun H locs X => ?_)
    refine lv_aload_n hx hb dX0_open_19 rfl (lv_at hl 0 rfl) ?_
    refine lv_dup hx hb dX0_open_20 rfl ?_
    refine g_get G X (k := 43) (fs := fBlk Y) (Nat.le_of_ble_eq_true rfl) (fun _ => rfl) rfl in_X0 2 (by decide) l_f19 rfl (v := .int (iI ((σ 43 2)))) rfl dX0_open_21 ?_
    refine lv_iconst (v := iI 1) hx hb dX0_open_24 rfl ?_
    refine g_iadd G dX0_open_25 ?_
    refine g_puti G X (k := 43) (fs := fBlk Y) (z := ((σ 43 2) + 1)) (Nat.le_of_ble_eq_true rfl) (fun _ => rfl) rfl in_X0 tyX0 tyX0_ok nmX0 2 2 (by decide) l_f19 rfl rfl (by decide +kernel) (Nat.le_of_ble_eq_true rfl) (fun _ => rfl) dX0_open_26 (fun H locs X => ?_)
    exact hret _ _ _ _ _ (⟨blk_open hB, fun a h0 h1 => by rw [up_ne h0, up_ne h1], rfl, rfl⟩) X dX0_open_29

set_option maxHeartbeats 4000000 in
set_option maxRecDepth 100000 in
theorem t_X0_pool (l : Launch) (Y : Yt) (σ : Mem) (n : Int) (Xf : Int → Int) (Cf : Int → Int) (Wf : Int → Int) (Mf : Int → Int) (q : Int) (a : Int) (b : Int) (side : Int) (B : List Int) (hT : Tb σ n Xf Cf Wf Mf q) (hPf : Prof n Xf Wf Mf) (hB : BlkIs σ B) (hs : side = 1 ∨ side = -1) (ha : 0 ≤ a ∧ a ≤ b + 1 ∧ b < n) (hl0 : B.length ≤ a) : MXv l LX Y yX0_pool wsX0_pool { frames := 2, cells := 0, slots := 0, locals := 46 } [.ref (Y.2.1 (43)), .int (iI (a)), .int (iI (b)), .int (iI (side))] σ (fun u => BlkIs u (B ++ (poolL side Wf Mf a (b + 1 - a).toNat).reverse) ∧ SameB σ u ∧ u 43 3 = σ 43 3 ∧ u 43 4 = σ 43 4) := by
  obtain ⟨⟨hn0, hn12, hW0, hM0, hW24⟩, hstep, hXa, hXr⟩ := id hPf
  obtain ⟨hTn, hTq, hTx, hTw⟩ := id hT
  have hB1 := hB.1
  refine g_startv (cc := cX0_pool) (nL := 8) (own := RX0) (by decide) rfl rfl (Nat.le_of_ble_eq_true rfl) ?_
  intro pp ee ss mm bw mt cd AA ZZ ls G hret X hl
  have hl : lv_has ls 8 [(0, .ref (Y.2.1 (43))), (1, .int (iI (a))), (2, .int (iI (b))), (3, .int (iI (side)))] := hl
  have hx := G.1
  have hb := G.2.1
  have hts := G.2.2.2.2.1
  have l_f9 := hts (.fieldLink RX0 9 "ShapeFits$BlockFit" "begin" "[I") (List.mem_of_getElem? (i := 3) rfl)
  have l_f15 := hts (.fieldLink RX0 15 "ShapeFits$BlockFit" "table" "LShapeFits$GroupTable;") (List.mem_of_getElem? (i := 2) rfl)
  have l_f19 := hts (.fieldLink RX0 19 "ShapeFits$BlockFit" "count" "I") (List.mem_of_getElem? (i := 1) rfl)
  have in_X0 : ∀ w ∈ u_ws RX0 TX0 5, w ∈ wsX0_pool := by decide +kernel
  refine lv_aload_n hx hb dX0_pool_0 rfl (lv_at hl 0 rfl) ?_
  refine g_get G X (k := 43) (fs := fBlk Y) (Nat.le_of_ble_eq_true rfl) (fun _ => rfl) rfl in_X0 2 (by decide) l_f19 rfl (v := .int (iI ((σ 43 2)))) rfl dX0_pool_1 ?_
  refine lv_istore (lv' := [(4, .int (iI ((σ 43 2)))), (0, .ref (Y.2.1 (43))), (1, .int (iI (a))), (2, .int (iI (b))), (3, .int (iI (side)))]) hx hb dX0_pool_4 hl (by decide) rfl (fun ls hl => ?_)
  refine lv_iload_n hx hb dX0_pool_6 rfl (lv_at hl 2 rfl) ?_
  refine lv_istore (lv' := [(5, .int (iI (a))), (4, .int (iI ((σ 43 2)))), (0, .ref (Y.2.1 (43))), (1, .int (iI (a))), (2, .int (iI (b))), (3, .int (iI (side)))]) hx hb dX0_pool_7 hl (by decide) rfl (fun ls hl => ?_)
  have lp_9 : ∀ (nn : Nat) (g : Int) (τ : Mem), ∀ hg : a ≤ g ∧ g ≤ b + 1, ∀ hI : BlkIs τ (B ++ (poolL side Wf Mf a (g - a).toNat).reverse), ∀ hS : SameB σ τ ∧ τ 43 3 = σ 43 3 ∧ τ 43 4 = σ 43 4, ∀ hdec : (b + 1 - g) < (nn : Int), ∀ (H : Heap) (locs : List Loc) (ls : Array Slot), wx LX Y τ ss AA H locs → lv_has ls 8 [(0, .ref (Y.2.1 (43))), (1, .int (iI (a))), (2, .int (iI (b))), (3, .int (iI (side))), (4, .int (iI ((σ 43 2)))), (5, .int (iI (g)))] → W pp l ee { frames := 2, cells := 0, slots := 0, locals := 46 } ss mm ([.ref (Y.2.1 (43)), .int (iI (a)), .int (iI (b)), .int (iI (side))] : List Value).toArray bw mt cd H locs 0 0 ZZ (F0 mm 9 ls []) := by
    intro nn
    induction nn with
    | zero =>
      intro g τ hg hI hS hdec
      exact absurd hdec (by omega)
    | succ nn ih_9 =>
      intro g τ hg hI hS hdec H locs ls X hl
      have hstk := poolL_stk (side := side) (W := Wf) (M := Mf) (a := a) (g - a).toNat
      rw [show a + ((g - a).toNat : Int) = g by omega] at hstk
      have hcn : τ 43 2 = B.length + (poolL side Wf Mf a (g - a).toNat).length := by rw [hI.1]; simp
      have hln := hstk.len
      refine lv_iload hx hb dX0_pool_9 (lv_at hl 5 rfl) ?_
      refine lv_iload_n hx hb dX0_pool_11 rfl (lv_at hl 2 rfl) ?_
      refine g_icmp_gt (tgt := 97) G dX0_pool_12 (by decide) (by omega) (by omega) (fun h12 => ?_) (fun h12 => ?_)
      ·
        exact hret _ _ _ _ _ (⟨by rw [show (b + 1 - a).toNat = (g - a).toNat by omega]; exact hI, hS⟩) X dX0_pool_97
      ·
        refine lv_iload hx hb dX0_pool_15 (lv_at hl 5 rfl) ?_
        refine lv_istore (lv' := [(6, .int (iI (g))), (0, .ref (Y.2.1 (43))), (1, .int (iI (a))), (2, .int (iI (b))), (3, .int (iI (side))), (4, .int (iI ((σ 43 2)))), (5, .int (iI (g)))]) hx hb dX0_pool_17 hl (by decide) rfl (fun ls hl => ?_)
        refine lv_aload_n hx hb dX0_pool_19 rfl (lv_at hl 1 rfl) ?_
        refine g_get G X (k := 43) (fs := fBlk Y) (Nat.le_of_ble_eq_true rfl) (fun _ => rfl) rfl in_X0 2 (by decide) l_f19 rfl (v := .int (iI ((τ 43 2)))) rfl dX0_pool_20 ?_
        refine lv_iconst (v := iI 1) hx hb dX0_pool_23 rfl ?_
        refine g_isub G dX0_pool_24 ?_
        refine lv_istore (lv' := [(7, .int (iI (((τ 43 2) - 1)))), (6, .int (iI (g))), (0, .ref (Y.2.1 (43))), (1, .int (iI (a))), (2, .int (iI (b))), (3, .int (iI (side))), (4, .int (iI ((σ 43 2)))), (5, .int (iI (g)))]) hx hb dX0_pool_25 hl (by decide) rfl (fun ls hl => ?_)
        have lp_27 : ∀ (nn : Nat) (s bl : Int) (stk : List Int) (ρ : Mem), ∀ hbl : bl = B.length + stk.length - 1, ∀ hst : Stk a s stk, ∀ hsg : a ≤ s ∧ s ≤ g, ∀ hpl : popL side Wf Mf (poolL side Wf Mf a (g - a).toNat) g g = popL side Wf Mf stk s g, ∀ hJ : BlkIs ρ (B ++ stk.reverse), ∀ hT2 : SameB σ ρ ∧ ρ 43 3 = σ 43 3 ∧ ρ 43 4 = σ 43 4, ∀ hdec : (stk.length : Int) < (nn : Int), ∀ (H : Heap) (locs : List Loc) (ls : Array Slot), wx LX Y ρ ss AA H locs → lv_has ls 8 [(0, .ref (Y.2.1 (43))), (1, .int (iI (a))), (2, .int (iI (b))), (3, .int (iI (side))), (4, .int (iI ((σ 43 2)))), (5, .int (iI (g))), (6, .int (iI (s))), (7, .int (iI (bl)))] → W pp l ee { frames := 2, cells := 0, slots := 0, locals := 46 } ss mm ([.ref (Y.2.1 (43)), .int (iI (a)), .int (iI (b)), .int (iI (side))] : List Value).toArray bw mt cd H locs 0 0 ZZ (F0 mm 27 ls []) := by
          intro nn
          induction nn with
          | zero =>
            intro s bl stk ρ hbl hst hsg hpl hJ hT2 hdec
            exact absurd hdec (by omega)
          | succ nn ih_27 =>
            intro s bl stk ρ hbl hst hsg hpl hJ hT2 hdec H locs ls X hl
            have hTl : Tb ρ n Xf Cf Wf Mf q := hT.same hT2.1
            have hln2 := hst.len
            refine lv_iload hx hb dX0_pool_27 (lv_at hl 7 rfl) ?_
            refine lv_iload hx hb dX0_pool_29 (lv_at hl 4 rfl) ?_
            refine g_icmp_lt (tgt := 85) G dX0_pool_31 (by decide) (by omega) (by omega) (fun h31 => ?_) (fun h31 => ?_)
            ·
              have hpe : popL side Wf Mf stk s g = s :: stk := by { cases stk with | nil => rfl | cons b0 bs0 => simp at hbl; omega }
              refine lv_aload_n hx hb dX0_pool_85 rfl (lv_at hl 0 rfl) ?_
              refine lv_iload hx hb dX0_pool_86 (lv_at hl 6 rfl) ?_
              refine g_callVv G X (rest := []) (As := [.int (iI (s))]) (t_X0_open l Y (ρ) n Xf Cf Wf Mf q (s) (_) hTl (by first | assumption | omega) hJ (by have := hln2; simp; omega)) (cwV 1 hts gX0_pool_X0_open rfl rfl rfl (by decide +kernel) ⟨Nat.le_of_ble_eq_true rfl, Nat.le_of_ble_eq_true rfl⟩) (k := 43) (Nat.le_of_ble_eq_true rfl) rfl rfl rfl rfl hl.1 rfl (Nat.le_of_ble_eq_true rfl) dX0_pool_88 ⟨Nat.le_refl _, Nat.le_refl _⟩ (fun u88 H locs hq88 X => ?_)
              have hI3 : BlkIs u88 (B ++ (poolL side Wf Mf a (g + 1 - a).toNat).reverse) := by { rw [show (g + 1 - a).toNat = (g - a).toNat + 1 by omega]; show BlkIs u88 (B ++ (popL side Wf Mf (poolL side Wf Mf a (g - a).toNat) (a + ((g - a).toNat : Int)) (a + ((g - a).toNat : Int))).reverse); rw [show a + ((g - a).toNat : Int) = g by omega, hpl, hpe, List.reverse_cons, ← List.append_assoc]; exact hq88.1 }
              have hS3 : SameB σ u88 ∧ u88 43 3 = σ 43 3 ∧ u88 43 4 = σ 43 4 := ⟨hT2.1.trans hq88.2.1, hq88.2.2.1.trans hT2.2.1, hq88.2.2.2.trans hT2.2.2⟩
              refine lv_iinc (v := iI (g + 1)) (lv' := [(5, .int (iI ((g + 1)))), (0, .ref (Y.2.1 (43))), (1, .int (iI (a))), (2, .int (iI (b))), (3, .int (iI (side))), (4, .int (iI ((σ 43 2)))), (6, .int (iI (s))), (7, .int (iI (bl)))]) hx hb dX0_pool_91 hl (k := 5) rfl (iI_add _ _) (by decide) rfl (fun ls hl => ?_)
              refine lv_goto (tgt := 9) hx hb dX0_pool_94 (by decide) ?_
              exact ih_9 ((g + 1)) (u88) (by omega) hI3 hS3 (by omega) _ _ _ X (lv_sub hl [1, 2, 3, 4, 5, 0] rfl)
            ·
              obtain ⟨b0, bs, rfl⟩ : ∃ b0 bs, stk = b0 :: bs := by { cases stk with | nil => simp at hbl; omega | cons b0 bs => exact ⟨b0, bs, rfl⟩ }
              have hbl2 : bl = B.length + bs.length := by simp at hbl; omega
              have htop := blk_top hJ
              rw [← hbl2] at htop
              have hst1 := hst.1
              have hst2 := hst.2.1
              have hlr : (b0 :: bs).length = bs.length + 1 := rfl
              refine lv_iload_n hx hb dX0_pool_34 rfl (lv_at hl 3 rfl) ?_
              refine lv_aload_n hx hb dX0_pool_35 rfl (lv_at hl 0 rfl) ?_
              refine g_get G X (k := 43) (fs := fBlk Y) (Nat.le_of_ble_eq_true rfl) (fun _ => rfl) rfl in_X0 0 (by decide) l_f15 rfl (v := .ref (Y.2.1 (38))) rfl dX0_pool_36 ?_
              refine lv_aload_n hx hb dX0_pool_39 rfl (lv_at hl 0 rfl) ?_
              refine g_get G X (k := 43) (fs := fBlk Y) (Nat.le_of_ble_eq_true rfl) (fun _ => rfl) rfl in_X0 1 (by decide) l_f9 rfl (v := .ref (Y.2.1 (44))) rfl dX0_pool_40 ?_
              refine lv_iload hx hb dX0_pool_43 (lv_at hl 7 rfl) ?_
              refine g_iald G X (k := 44) (n := 12) (Nat.le_of_ble_eq_true rfl) (fun _ => rfl) (by decide) (z := bl) (by omega) dX0_pool_45 ?_
              refine g_topi (z' := b0) htop ?_
              refine lv_iload hx hb dX0_pool_46 (lv_at hl 6 rfl) ?_
              refine lv_iconst (v := iI 1) hx hb dX0_pool_48 rfl ?_
              refine g_isub G dX0_pool_49 ?_
              refine lv_iload hx hb dX0_pool_50 (lv_at hl 6 rfl) ?_
              refine lv_iload hx hb dX0_pool_52 (lv_at hl 5 rfl) ?_
              refine g_callVi G X (rest := [.int (iI (side))]) (As := [.int (iI (b0)), .int (iI ((s - 1))), .int (iI (s)), .int (iI (g))]) (t_X1_compareMeans l Y (ρ) n Xf Cf Wf Mf q (b0) ((s - 1)) (s) (g) hTl (by first | assumption | omega) (by first | assumption | omega) (by first | assumption | omega)) (cwV 4 hts gX0_pool_X1_compareMeans rfl rfl rfl (by decide +kernel) ⟨Nat.le_of_ble_eq_true rfl, Nat.le_of_ble_eq_true rfl⟩) (k := 38) (Nat.le_of_ble_eq_true rfl) rfl rfl rfl rfl hl.1 rfl (Nat.le_of_ble_eq_true rfl) dX0_pool_54 ⟨Nat.le_refl _, Nat.le_refl _⟩ (fun z54 u54 H locs hq54 X => ?_)
              rw [hq54.1] at X
              have hq54 := hq54.2
              try dsimp only at hq54
              refine g_imul G dX0_pool_57 ?_
              have hmr : -114048 ≤ (side * z54) ∧ (side * z54) ≤ 114048 := by rcases hs with rfl | rfl <;> omega
              refine g_if_ge (tgt := 64) G dX0_pool_58 (by decide) (by omega) (fun h58 => ?_) (fun h58 => ?_)
              ·
                have hng : ¬ side * cmpM Wf Mf b0 (s - 1) s g < 0 := by rw [← hq54.1]; omega
                refine lv_aload_n hx hb dX0_pool_64 rfl (lv_at hl 0 rfl) ?_
                refine g_get G X (k := 43) (fs := fBlk Y) (Nat.le_of_ble_eq_true rfl) (fun _ => rfl) rfl in_X0 1 (by decide) l_f9 rfl (v := .ref (Y.2.1 (44))) rfl dX0_pool_65 ?_
                refine lv_iload hx hb dX0_pool_68 (lv_at hl 7 rfl) ?_
                refine g_iald G X (k := 44) (n := 12) (Nat.le_of_ble_eq_true rfl) (fun _ => rfl) (by decide) (z := bl) (by omega) dX0_pool_70 ?_
                refine g_topi (z' := b0) htop ?_
                refine lv_istore (lv' := [(6, .int (iI (b0))), (0, .ref (Y.2.1 (43))), (1, .int (iI (a))), (2, .int (iI (b))), (3, .int (iI (side))), (4, .int (iI ((σ 43 2)))), (5, .int (iI (g))), (7, .int (iI (bl)))]) hx hb dX0_pool_71 hl (by decide) rfl (fun ls hl => ?_)
                refine lv_aload_n hx hb dX0_pool_73 rfl (lv_at hl 1 rfl) ?_
                refine lv_iload hx hb dX0_pool_74 (lv_at hl 7 rfl) ?_
                refine g_puti G X (k := 43) (fs := fBlk Y) (z := bl) (Nat.le_of_ble_eq_true rfl) (fun _ => rfl) rfl in_X0 tyX0 tyX0_ok nmX0 2 2 (by decide) l_f19 rfl rfl (by decide +kernel) (Nat.le_of_ble_eq_true rfl) (fun _ => rfl) dX0_pool_76 (fun H locs X => ?_)
                refine lv_iinc (v := iI (bl + (-1))) (lv' := [(7, .int (iI ((bl + (-1))))), (6, .int (iI (b0))), (0, .ref (Y.2.1 (43))), (1, .int (iI (a))), (2, .int (iI (b))), (3, .int (iI (side))), (4, .int (iI ((σ 43 2)))), (5, .int (iI (g)))]) hx hb dX0_pool_79 hl (k := 7) rfl (iI_add _ _) (by decide) rfl (fun ls hl => ?_)
                refine lv_goto (tgt := 27) hx hb dX0_pool_82 (by decide) ?_
                exact ih_27 (b0) ((bl + (-1))) (bs) ((up ρ 43 2 bl)) (by omega) hst.2.2 (by omega) (by rw [hpl]; exact popL_go (by omega)) (blk_pop hJ (by omega)) ⟨fun x h0 h1 => by rw [up_ne h0]; exact hT2.1 x h0 h1, hT2.2⟩ (by omega) _ _ _ X (lv_sub hl [2, 3, 4, 5, 6, 7, 1, 0] rfl)
              ·
                have hpe : popL side Wf Mf (b0 :: bs) s g = s :: b0 :: bs := popL_stop (by rw [← hq54.1]; omega)
                refine lv_goto (tgt := 85) hx hb dX0_pool_61 (by decide) ?_
                refine lv_aload_n hx hb dX0_pool_85 rfl (lv_at hl 0 rfl) ?_
                refine lv_iload hx hb dX0_pool_86 (lv_at hl 6 rfl) ?_
                refine g_callVv G X (rest := []) (As := [.int (iI (s))]) (t_X0_open l Y (ρ) n Xf Cf Wf Mf q (s) (_) hTl (by first | assumption | omega) hJ (by have := hln2; simp; omega)) (cwV 1 hts gX0_pool_X0_open rfl rfl rfl (by decide +kernel) ⟨Nat.le_of_ble_eq_true rfl, Nat.le_of_ble_eq_true rfl⟩) (k := 43) (Nat.le_of_ble_eq_true rfl) rfl rfl rfl rfl hl.1 rfl (Nat.le_of_ble_eq_true rfl) dX0_pool_88 ⟨Nat.le_refl _, Nat.le_refl _⟩ (fun u88 H locs hq88 X => ?_)
                have hI3 : BlkIs u88 (B ++ (poolL side Wf Mf a (g + 1 - a).toNat).reverse) := by { rw [show (g + 1 - a).toNat = (g - a).toNat + 1 by omega]; show BlkIs u88 (B ++ (popL side Wf Mf (poolL side Wf Mf a (g - a).toNat) (a + ((g - a).toNat : Int)) (a + ((g - a).toNat : Int))).reverse); rw [show a + ((g - a).toNat : Int) = g by omega, hpl, hpe, List.reverse_cons, ← List.append_assoc]; exact hq88.1 }
                have hS3 : SameB σ u88 ∧ u88 43 3 = σ 43 3 ∧ u88 43 4 = σ 43 4 := ⟨hT2.1.trans hq88.2.1, hq88.2.2.1.trans hT2.2.1, hq88.2.2.2.trans hT2.2.2⟩
                refine lv_iinc (v := iI (g + 1)) (lv' := [(5, .int (iI ((g + 1)))), (0, .ref (Y.2.1 (43))), (1, .int (iI (a))), (2, .int (iI (b))), (3, .int (iI (side))), (4, .int (iI ((σ 43 2)))), (6, .int (iI (s))), (7, .int (iI (bl)))]) hx hb dX0_pool_91 hl (k := 5) rfl (iI_add _ _) (by decide) rfl (fun ls hl => ?_)
                refine lv_goto (tgt := 9) hx hb dX0_pool_94 (by decide) ?_
                exact ih_9 ((g + 1)) (u88) (by omega) hI3 hS3 (by omega) _ _ _ X (lv_sub hl [1, 2, 3, 4, 5, 0] rfl)
        exact lp_27 (((((poolL side Wf Mf a (g - a).toNat).length : Int) : Int).toNat + 1)) (g) (((τ 43 2) - 1)) (poolL side Wf Mf a (g - a).toNat) (τ) (by omega) hstk (by omega) rfl hI hS (by omega) _ _ _ X (lv_sub hl [2, 3, 4, 5, 6, 7, 1, 0] rfl)
  exact lp_9 ((((b + 1 - (a)) : Int).toNat + 1)) (a) (σ) (by omega) (by rw [show (a - a).toNat = 0 by omega]; show BlkIs σ (B ++ []); rw [List.append_nil]; exact hB) ⟨SameB.rf, rfl, rfl⟩ (by omega) _ _ _ X (lv_sub hl [2, 3, 4, 5, 1, 0] rfl)

set_option maxHeartbeats 4000000 in
set_option maxRecDepth 100000 in
theorem t_X0_findTop (l : Launch) (Y : Yt) (σ : Mem) (n : Int) (Xf : Int → Int) (Cf : Int → Int) (Wf : Int → Int) (Mf : Int → Int) (q : Int) (t : Int) (side : Int) (hT : Tb σ n Xf Cf Wf Mf q) (hPf : Prof n Xf Wf Mf) (hs : side = 1 ∨ side = -1) (ht : 0 ≤ t ∧ t < n) : MXv l LX Y yX0_findTop wsX0_findTop { frames := 2, cells := 0, slots := 0, locals := 46 } [.ref (Y.2.1 (43)), .int (iI (t)), .int (iI (side))] σ (fun u => ∃ F T, TopIs n Wf Mf side t F T ∧ u = up (up σ 43 3 F) 43 4 T) := by
  obtain ⟨⟨hn0, hn12, hW0, hM0, hW24⟩, hstep, hXa, hXr⟩ := id hPf
  obtain ⟨hTn, hTq, hTx, hTw⟩ := id hT
  have hTl : ∀ F T, Tb (up (up σ 43 3 F) 43 4 T) n Xf Cf Wf Mf q := fun F T => hT.eq rfl rfl rfl rfl rfl
  refine g_startv (cc := cX0_findTop) (nL := 5) (own := RX0) (by decide) rfl rfl (Nat.le_of_ble_eq_true rfl) ?_
  intro pp ee ss mm bw mt cd AA ZZ ls G hret X hl
  have hl : lv_has ls 5 [(0, .ref (Y.2.1 (43))), (1, .int (iI (t))), (2, .int (iI (side)))] := hl
  have hx := G.1
  have hb := G.2.1
  have hts := G.2.2.2.2.1
  have l_f15 := hts (.fieldLink RX0 15 "ShapeFits$BlockFit" "table" "LShapeFits$GroupTable;") (List.mem_of_getElem? (i := 3) rfl)
  have l_f61 := hts (.fieldLink RX0 61 "ShapeFits$BlockFit" "topFirst" "I") (List.mem_of_getElem? (i := 1) rfl)
  have l_f68 := hts (.fieldLink RX0 68 "ShapeFits$BlockFit" "topLast" "I") (List.mem_of_getElem? (i := 2) rfl)
  have in_X0 : ∀ w ∈ u_ws RX0 TX0 5, w ∈ wsX0_findTop := by decide +kernel
  refine lv_aload_n hx hb dX0_findTop_0 rfl (lv_at hl 0 rfl) ?_
  refine lv_iload_n hx hb dX0_findTop_1 rfl (lv_at hl 1 rfl) ?_
  refine g_puti G X (k := 43) (fs := fBlk Y) (z := t) (Nat.le_of_ble_eq_true rfl) (fun _ => rfl) rfl in_X0 tyX0 tyX0_ok nmX0 3 3 (by decide) l_f61 rfl rfl (by decide +kernel) (Nat.le_of_ble_eq_true rfl) (fun _ => rfl) dX0_findTop_2 (fun H locs X => ?_)
  refine lv_aload_n hx hb dX0_findTop_5 rfl (lv_at hl 0 rfl) ?_
  refine lv_iload_n hx hb dX0_findTop_6 rfl (lv_at hl 1 rfl) ?_
  refine g_puti G X (k := 43) (fs := fBlk Y) (z := t) (Nat.le_of_ble_eq_true rfl) (fun _ => rfl) rfl in_X0 tyX0 tyX0_ok nmX0 4 4 (by decide) l_f68 rfl rfl (by decide +kernel) (Nat.le_of_ble_eq_true rfl) (fun _ => rfl) dX0_findTop_7 (fun H locs X => ?_)
  refine lv_iload_n hx hb dX0_findTop_10 rfl (lv_at hl 1 rfl) ?_
  refine lv_istore_n (lv' := [(3, .int (iI (t))), (0, .ref (Y.2.1 (43))), (1, .int (iI (t))), (2, .int (iI (side)))]) hx hb dX0_findTop_11 rfl hl (by decide) rfl (fun ls hl => ?_)
  have lp_12 : ∀ (nn : Nat) (f F T : Int), ∀ hf : -1 ≤ f ∧ f ≤ t, ∀ hI : FTI n Wf Mf side t f t F T, ∀ hdec : (f + 1) < (nn : Int), ∀ (H : Heap) (locs : List Loc) (ls : Array Slot), wx LX Y (up (up σ 43 3 F) 43 4 T) ss AA H locs → lv_has ls 5 [(0, .ref (Y.2.1 (43))), (1, .int (iI (t))), (2, .int (iI (side))), (3, .int (iI (f)))] → W pp l ee { frames := 2, cells := 0, slots := 0, locals := 46 } ss mm ([.ref (Y.2.1 (43)), .int (iI (t)), .int (iI (side))] : List Value).toArray bw mt cd H locs 0 0 ZZ (F0 mm 12 ls []) := by
    intro nn
    induction nn with
    | zero =>
      intro f F T hf hI hdec
      exact absurd hdec (by omega)
    | succ nn ih_12 =>
      intro f F T hf hI hdec H locs ls X hl
      refine lv_iload_n hx hb dX0_findTop_12 rfl (lv_at hl 3 rfl) ?_
      refine g_if_lt (tgt := 77) G dX0_findTop_13 (by decide) (by omega) (fun h13 => ?_) (fun h13 => ?_)
      ·
        exact hret _ _ _ _ _ (⟨F, T, FTI_end hI (by omega), rfl⟩) X dX0_findTop_77
      ·
        refine lv_iload_n hx hb dX0_findTop_16 rfl (lv_at hl 1 rfl) ?_
        refine lv_istore (lv' := [(4, .int (iI (t))), (0, .ref (Y.2.1 (43))), (1, .int (iI (t))), (2, .int (iI (side))), (3, .int (iI (f)))]) hx hb dX0_findTop_17 hl (by decide) rfl (fun ls hl => ?_)
        have lp_19 : ∀ (nn : Nat) (la F T : Int), ∀ hl2 : t ≤ la ∧ la ≤ n, ∀ hJ : FTI n Wf Mf side t f la F T, ∀ hdec : (n - la) < (nn : Int), ∀ (H : Heap) (locs : List Loc) (ls : Array Slot), wx LX Y (up (up σ 43 3 F) 43 4 T) ss AA H locs → lv_has ls 5 [(0, .ref (Y.2.1 (43))), (1, .int (iI (t))), (2, .int (iI (side))), (3, .int (iI (f))), (4, .int (iI (la)))] → W pp l ee { frames := 2, cells := 0, slots := 0, locals := 46 } ss mm ([.ref (Y.2.1 (43)), .int (iI (t)), .int (iI (side))] : List Value).toArray bw mt cd H locs 0 0 ZZ (F0 mm 19 ls []) := by
          intro nn
          induction nn with
          | zero =>
            intro la F T hl2 hJ hdec
            exact absurd hdec (by omega)
          | succ nn ih_19 =>
            intro la F T hl2 hJ hdec H locs ls X hl
            have hJ1 := hJ.1
            refine lv_iload hx hb dX0_findTop_19 (lv_at hl 4 rfl) ?_
            refine lv_aload_n hx hb dX0_findTop_21 rfl (lv_at hl 0 rfl) ?_
            refine g_get G X (k := 43) (fs := fBlk Y) (Nat.le_of_ble_eq_true rfl) (fun _ => rfl) rfl in_X0 0 (by decide) l_f15 rfl (v := .ref (Y.2.1 (38))) rfl dX0_findTop_22 ?_
            refine g_callVi G X (rest := [.int (iI (la))]) (As := []) (t_X1_size l Y ((up (up σ 43 3 F) 43 4 T)) n Xf Cf Wf Mf q (hTl _ _) (by first | assumption | omega)) (cwV 0 hts gX0_findTop_X1_size rfl rfl rfl (by decide +kernel) ⟨Nat.le_of_ble_eq_true rfl, Nat.le_of_ble_eq_true rfl⟩) (k := 38) (Nat.le_of_ble_eq_true rfl) rfl rfl rfl rfl hl.1 rfl (Nat.le_of_ble_eq_true rfl) dX0_findTop_25 ⟨Nat.le_refl _, Nat.le_refl _⟩ (fun z25 u25 H locs hq25 X => ?_)
            rw [hq25.1] at X
            have hq25 := hq25.2
            try dsimp only at hq25
            refine g_topi (z' := n) hq25 ?_
            refine g_icmp_ge (tgt := 71) G dX0_findTop_28 (by decide) (by omega) (by omega) (fun h28 => ?_) (fun h28 => ?_)
            ·
              refine lv_iinc (v := iI (f + (-1))) (lv' := [(3, .int (iI ((f + (-1))))), (0, .ref (Y.2.1 (43))), (1, .int (iI (t))), (2, .int (iI (side))), (4, .int (iI (la)))]) hx hb dX0_findTop_71 hl (k := 3) rfl (iI_add _ _) (by decide) rfl (fun ls hl => ?_)
              refine lv_goto (tgt := 12) hx hb dX0_findTop_74 (by decide) ?_
              exact ih_12 ((f + (-1))) (F) (T) (by omega) (FTI_next hJ (by omega)) (by omega) _ _ _ X (lv_sub hl [1, 2, 3, 0] rfl)
            ·
              have hcr := cmpM_rg hPf (a := f) (b := la) (c := F) (d := T) (by omega) (by omega)
              refine lv_iload_n hx hb dX0_findTop_31 rfl (lv_at hl 2 rfl) ?_
              refine lv_aload_n hx hb dX0_findTop_32 rfl (lv_at hl 0 rfl) ?_
              refine g_get G X (k := 43) (fs := fBlk Y) (Nat.le_of_ble_eq_true rfl) (fun _ => rfl) rfl in_X0 0 (by decide) l_f15 rfl (v := .ref (Y.2.1 (38))) rfl dX0_findTop_33 ?_
              refine lv_iload_n hx hb dX0_findTop_36 rfl (lv_at hl 3 rfl) ?_
              refine lv_iload hx hb dX0_findTop_37 (lv_at hl 4 rfl) ?_
              refine lv_aload_n hx hb dX0_findTop_39 rfl (lv_at hl 0 rfl) ?_
              refine g_get G X (k := 43) (fs := fBlk Y) (Nat.le_of_ble_eq_true rfl) (fun _ => rfl) rfl in_X0 3 (by decide) l_f61 rfl (v := .int (iI (F))) rfl dX0_findTop_40 ?_
              refine lv_aload_n hx hb dX0_findTop_43 rfl (lv_at hl 0 rfl) ?_
              refine g_get G X (k := 43) (fs := fBlk Y) (Nat.le_of_ble_eq_true rfl) (fun _ => rfl) rfl in_X0 4 (by decide) l_f68 rfl (v := .int (iI (T))) rfl dX0_findTop_44 ?_
              refine g_callVi G X (rest := [.int (iI (side))]) (As := [.int (iI (f)), .int (iI (la)), .int (iI (F)), .int (iI (T))]) (t_X1_compareMeans l Y ((up (up σ 43 3 F) 43 4 T)) n Xf Cf Wf Mf q (f) (la) (F) (T) (hTl _ _) (by first | assumption | omega) (by first | assumption | omega) (by first | assumption | omega)) (cwV 4 hts gX0_findTop_X1_compareMeans rfl rfl rfl (by decide +kernel) ⟨Nat.le_of_ble_eq_true rfl, Nat.le_of_ble_eq_true rfl⟩) (k := 38) (Nat.le_of_ble_eq_true rfl) rfl rfl rfl rfl hl.1 rfl (Nat.le_of_ble_eq_true rfl) dX0_findTop_47 ⟨Nat.le_refl _, Nat.le_refl _⟩ (fun z47 u47 H locs hq47 X => ?_)
              rw [hq47.1] at X
              have hq47 := hq47.2
              try dsimp only at hq47
              refine g_topi (z' := cmpM Wf Mf f la F T) hq47.1 ?_
              refine g_imul G dX0_findTop_50 ?_
              have hmr : -114048 ≤ side * cmpM Wf Mf f la F T ∧ side * cmpM Wf Mf f la F T ≤ 114048 := by rcases hs with rfl | rfl <;> omega
              refine g_if_lt (tgt := 65) G dX0_findTop_51 (by decide) (by omega) (fun h51 => ?_) (fun h51 => ?_)
              ·
                refine lv_iinc (v := iI (la + 1)) (lv' := [(4, .int (iI ((la + 1)))), (0, .ref (Y.2.1 (43))), (1, .int (iI (t))), (2, .int (iI (side))), (3, .int (iI (f)))]) hx hb dX0_findTop_65 hl (k := 4) rfl (iI_add _ _) (by decide) rfl (fun ls hl => ?_)
                refine lv_goto (tgt := 19) hx hb dX0_findTop_68 (by decide) ?_
                exact ih_19 ((la + 1)) (F) (T) (by omega) (by first | exact FTI_keep hJ (by omega) | exact FTI_take hPf hJ (by omega) (by omega)) (by omega) _ _ _ X (lv_sub hl [1, 2, 3, 4, 0] rfl)
              ·
                refine lv_aload_n hx hb dX0_findTop_54 rfl (lv_at hl 0 rfl) ?_
                refine lv_iload_n hx hb dX0_findTop_55 rfl (lv_at hl 3 rfl) ?_
                refine g_puti G X (k := 43) (fs := fBlk Y) (z := f) (Nat.le_of_ble_eq_true rfl) (fun _ => rfl) rfl in_X0 tyX0 tyX0_ok nmX0 3 3 (by decide) l_f61 rfl rfl (by decide +kernel) (Nat.le_of_ble_eq_true rfl) (fun _ => rfl) dX0_findTop_56 (fun H locs X => ?_)
                refine lv_aload_n hx hb dX0_findTop_59 rfl (lv_at hl 0 rfl) ?_
                refine lv_iload hx hb dX0_findTop_60 (lv_at hl 4 rfl) ?_
                refine g_puti G X (k := 43) (fs := fBlk Y) (z := la) (Nat.le_of_ble_eq_true rfl) (fun _ => rfl) rfl in_X0 tyX0 tyX0_ok nmX0 4 4 (by decide) l_f68 rfl rfl (by decide +kernel) (Nat.le_of_ble_eq_true rfl) (fun _ => rfl) dX0_findTop_62 (fun H locs X => ?_)
                have X := (show (up (up (up (up σ 43 3 F) 43 4 T) 43 3 f) 43 4 la) = (up (up σ 43 3 f) 43 4 la) from (up_ft _ _ _ _ _)) ▸ X
                refine lv_iinc (v := iI (la + 1)) (lv' := [(4, .int (iI ((la + 1)))), (0, .ref (Y.2.1 (43))), (1, .int (iI (t))), (2, .int (iI (side))), (3, .int (iI (f)))]) hx hb dX0_findTop_65 hl (k := 4) rfl (iI_add _ _) (by decide) rfl (fun ls hl => ?_)
                refine lv_goto (tgt := 19) hx hb dX0_findTop_68 (by decide) ?_
                exact ih_19 ((la + 1)) (f) (la) (by omega) (by first | exact FTI_keep hJ (by omega) | exact FTI_take hPf hJ (by omega) (by omega)) (by omega) _ _ _ X (lv_sub hl [1, 2, 3, 4, 0] rfl)
        exact lp_19 ((((n - (t)) : Int).toNat + 1)) (t) (F) (T) (by omega) hI (by omega) _ _ _ X (lv_sub hl [1, 2, 3, 4, 0] rfl)
  exact lp_12 (((((t) + 1) : Int).toNat + 1)) (t) (t) (t) (by omega) (FTI_0 ht) (by omega) _ _ _ X (lv_sub hl [1, 2, 3, 0] rfl)

set_option maxHeartbeats 4000000 in
set_option maxRecDepth 100000 in
theorem t_X0_shapeWithTurn (l : Launch) (Y : Yt) (σ : Mem) (n : Int) (Xf : Int → Int) (Cf : Int → Int) (Wf : Int → Int) (Mf : Int → Int) (q : Int) (kind : Int) (t : Int) (side : Int) (hT : Tb σ n Xf Cf Wf Mf q) (hPf : Prof n Xf Wf Mf) (hkd : kind = 2 ∨ kind = 3) (hsd : side = if kind = 2 then 1 else -1) (ht : 0 ≤ t ∧ t < n) : MXv l LX Y yX0_shapeWithTurn wsX0_shapeWithTurn { frames := 3, cells := 0, slots := 0, locals := 73 } [.ref (Y.2.1 (43)), .int (iI (kind)), .int (iI (t))] σ (fun u => BlkIs u (pkB n Wf Mf side t) ∧ Asc n (pkB n Wf Mf side t) ∧ SameB σ u) := by
  obtain ⟨⟨hn0, hn12, hW0, hM0, hW24⟩, hstep, hXa, hXr⟩ := id hPf
  obtain ⟨hTn, hTq, hTx, hTw⟩ := id hT
  have hs : side = 1 ∨ side = -1 := by rw [hsd]; split <;> omega
  refine g_startv (cc := cX0_shapeWithTurn) (nL := 4) (own := RX0) (by decide) rfl rfl (Nat.le_of_ble_eq_true rfl) ?_
  intro pp ee ss mm bw mt cd AA ZZ ls G hret X hl
  have hl : lv_has ls 4 [(0, .ref (Y.2.1 (43))), (1, .int (iI (kind))), (2, .int (iI (t)))] := hl
  have hx := G.1
  have hb := G.2.1
  have hts := G.2.2.2.2.1
  have l_f15 := hts (.fieldLink RX0 15 "ShapeFits$BlockFit" "table" "LShapeFits$GroupTable;") (List.mem_of_getElem? (i := 4) rfl)
  have l_f19 := hts (.fieldLink RX0 19 "ShapeFits$BlockFit" "count" "I") (List.mem_of_getElem? (i := 1) rfl)
  have l_f61 := hts (.fieldLink RX0 61 "ShapeFits$BlockFit" "topFirst" "I") (List.mem_of_getElem? (i := 2) rfl)
  have l_f68 := hts (.fieldLink RX0 68 "ShapeFits$BlockFit" "topLast" "I") (List.mem_of_getElem? (i := 3) rfl)
  have in_X0 : ∀ w ∈ u_ws RX0 TX0 5, w ∈ wsX0_shapeWithTurn := by decide +kernel
  refine lv_iload_n hx hb dX0_shapeWithTurn_0 rfl (lv_at hl 1 rfl) ?_
  refine lv_iconst (v := iI 2) hx hb dX0_shapeWithTurn_1 rfl ?_
  refine g_icmp_ne (tgt := 9) G dX0_shapeWithTurn_2 (by decide) (by omega) (by omega) (fun h2 => ?_) (fun h2 => ?_)
  ·
    refine lv_iconst (v := iI (-1)) hx hb dX0_shapeWithTurn_9 rfl ?_
    refine g_topi (z' := side) (by rw [hsd]; first | rw [if_pos (by omega)] | rw [if_neg (by omega)]) ?_
    refine lv_istore_n (lv' := [(3, .int (iI (side))), (0, .ref (Y.2.1 (43))), (1, .int (iI (kind))), (2, .int (iI (t)))]) hx hb dX0_shapeWithTurn_10 rfl hl (by decide) rfl (fun ls hl => ?_)
    refine lv_aload_n hx hb dX0_shapeWithTurn_11 rfl (lv_at hl 1 rfl) ?_
    refine lv_iload_n hx hb dX0_shapeWithTurn_12 rfl (lv_at hl 3 rfl) ?_
    refine lv_iload_n hx hb dX0_shapeWithTurn_13 rfl (lv_at hl 0 rfl) ?_
    refine g_callVv G X (rest := []) (As := [.int (iI (t)), .int (iI (side))]) (t_X0_findTop l Y (σ) n Xf Cf Wf Mf q (t) (side) (by first | assumption | omega) (by first | assumption | omega) (by first | assumption | omega) (by first | assumption | omega)) (cwV 2 hts gX0_shapeWithTurn_X0_findTop rfl rfl rfl (by decide +kernel) ⟨Nat.le_of_ble_eq_true rfl, Nat.le_of_ble_eq_true rfl⟩) (k := 43) (Nat.le_of_ble_eq_true rfl) rfl rfl rfl rfl hl.1 rfl (Nat.le_of_ble_eq_true rfl) dX0_shapeWithTurn_14 ⟨Nat.le_refl _, Nat.le_refl _⟩ (fun u14 H locs hq14 X => ?_)
    obtain ⟨F, T, hTop, hu⟩ := hq14
    have X := (show u14 = (up (up σ 43 3 F) 43 4 T) from hu) ▸ X
    have hTop1 := hTop.1
    refine lv_aload_n hx hb dX0_shapeWithTurn_17 rfl (lv_at hl 1 rfl) ?_
    refine lv_iconst (v := iI 0) hx hb dX0_shapeWithTurn_18 rfl ?_
    refine g_puti G X (k := 43) (fs := fBlk Y) (z := 0) (Nat.le_of_ble_eq_true rfl) (fun _ => rfl) rfl in_X0 tyX0 tyX0_ok nmX0 2 2 (by decide) l_f19 rfl rfl (by decide +kernel) (Nat.le_of_ble_eq_true rfl) (fun _ => rfl) dX0_shapeWithTurn_19 (fun H locs X => ?_)
    have hB0 : BlkIs (up (up (up σ 43 3 F) 43 4 T) 43 2 0) [] := ⟨rfl, fun j h0 h1 => by simp at h1; omega⟩
    have hT0 : Tb (up (up (up σ 43 3 F) 43 4 T) 43 2 0) n Xf Cf Wf Mf q := hT.eq rfl rfl rfl rfl rfl
    refine lv_aload_n hx hb dX0_shapeWithTurn_22 rfl (lv_at hl 1 rfl) ?_
    refine lv_iconst (v := iI 0) hx hb dX0_shapeWithTurn_23 rfl ?_
    refine lv_aload_n hx hb dX0_shapeWithTurn_24 rfl (lv_at hl 1 rfl) ?_
    refine g_get G X (k := 43) (fs := fBlk Y) (Nat.le_of_ble_eq_true rfl) (fun _ => rfl) rfl in_X0 3 (by decide) l_f61 rfl (v := .int (iI (F))) rfl dX0_shapeWithTurn_25 ?_
    refine lv_iconst (v := iI 1) hx hb dX0_shapeWithTurn_28 rfl ?_
    refine g_isub G dX0_shapeWithTurn_29 ?_
    refine lv_iload_n hx hb dX0_shapeWithTurn_30 rfl (lv_at hl 0 rfl) ?_
    refine g_callVv G X (rest := []) (As := [.int (iI (0)), .int (iI ((F - 1))), .int (iI (side))]) (t_X0_pool l Y ((up (up (up σ 43 3 F) 43 4 T) 43 2 0)) n Xf Cf Wf Mf q (0) ((F - 1)) (side) ([]) hT0 (by first | assumption | omega) hB0 (by first | assumption | omega) (by first | assumption | omega) (by show ((0 : Nat) : Int) ≤ 0; omega)) (cwV 3 hts gX0_shapeWithTurn_X0_pool rfl rfl rfl (by decide +kernel) ⟨Nat.le_of_ble_eq_true rfl, Nat.le_of_ble_eq_true rfl⟩) (k := 43) (Nat.le_of_ble_eq_true rfl) rfl rfl rfl rfl hl.1 rfl (Nat.le_of_ble_eq_true rfl) dX0_shapeWithTurn_31 ⟨Nat.le_refl _, Nat.le_refl _⟩ (fun u31 H locs hq31 X => ?_)
    have hT1 : Tb u31 n Xf Cf Wf Mf q := hT0.same hq31.2.1
    have hst := poolL_stk (side := side) (W := Wf) (M := Mf) (a := 0) F.toNat
    have hsl := hst.len
    refine lv_aload_n hx hb dX0_shapeWithTurn_34 rfl (lv_at hl 1 rfl) ?_
    refine lv_aload_n hx hb dX0_shapeWithTurn_35 rfl (lv_at hl 1 rfl) ?_
    refine g_get G X (k := 43) (fs := fBlk Y) (Nat.le_of_ble_eq_true rfl) (fun _ => rfl) rfl in_X0 3 (by decide) l_f61 rfl (v := .int (iI ((u31 43 3)))) rfl dX0_shapeWithTurn_36 ?_
    refine g_topi (z' := F) (hq31.2.2.1) ?_
    refine g_callVv G X (rest := []) (As := [.int (iI (F))]) (t_X0_open l Y (u31) n Xf Cf Wf Mf q (F) (_) hT1 (by first | assumption | omega) hq31.1 (by simp; omega)) (cwV 1 hts gX0_shapeWithTurn_X0_open rfl rfl rfl (by decide +kernel) ⟨Nat.le_of_ble_eq_true rfl, Nat.le_of_ble_eq_true rfl⟩) (k := 43) (Nat.le_of_ble_eq_true rfl) rfl rfl rfl rfl hl.1 rfl (Nat.le_of_ble_eq_true rfl) dX0_shapeWithTurn_39 ⟨Nat.le_refl _, Nat.le_refl _⟩ (fun u39 H locs hq39 X => ?_)
    have hT2 : Tb u39 n Xf Cf Wf Mf q := hT1.same hq39.2.1
    refine lv_aload_n hx hb dX0_shapeWithTurn_42 rfl (lv_at hl 1 rfl) ?_
    refine lv_aload_n hx hb dX0_shapeWithTurn_43 rfl (lv_at hl 1 rfl) ?_
    refine g_get G X (k := 43) (fs := fBlk Y) (Nat.le_of_ble_eq_true rfl) (fun _ => rfl) rfl in_X0 4 (by decide) l_f68 rfl (v := .int (iI ((u39 43 4)))) rfl dX0_shapeWithTurn_44 ?_
    refine g_topi (z' := T) (hq39.2.2.2.trans hq31.2.2.2) ?_
    refine lv_iconst (v := iI 1) hx hb dX0_shapeWithTurn_47 rfl ?_
    refine g_iadd G dX0_shapeWithTurn_48 ?_
    refine lv_aload_n hx hb dX0_shapeWithTurn_49 rfl (lv_at hl 1 rfl) ?_
    refine g_get G X (k := 43) (fs := fBlk Y) (Nat.le_of_ble_eq_true rfl) (fun _ => rfl) rfl in_X0 0 (by decide) l_f15 rfl (v := .ref (Y.2.1 (38))) rfl dX0_shapeWithTurn_50 ?_
    refine g_callVi G X (rest := [.int (iI ((T + 1))), .ref (Y.2.1 (43))]) (As := []) (t_X1_size l Y (u39) n Xf Cf Wf Mf q hT2 (by first | assumption | omega)) (cwV 0 hts gX0_shapeWithTurn_X1_size rfl rfl rfl (by decide +kernel) ⟨Nat.le_of_ble_eq_true rfl, Nat.le_of_ble_eq_true rfl⟩) (k := 38) (Nat.le_of_ble_eq_true rfl) rfl rfl rfl rfl hl.1 rfl (Nat.le_of_ble_eq_true rfl) dX0_shapeWithTurn_53 ⟨Nat.le_refl _, Nat.le_refl _⟩ (fun z53 u53 H locs hq53 X => ?_)
    rw [hq53.1] at X
    have hq53 := hq53.2
    try dsimp only at hq53
    refine g_topi (z' := n) hq53 ?_
    refine lv_iconst (v := iI 1) hx hb dX0_shapeWithTurn_56 rfl ?_
    refine g_isub G dX0_shapeWithTurn_57 ?_
    refine lv_iload_n hx hb dX0_shapeWithTurn_58 rfl (lv_at hl 0 rfl) ?_
    refine g_ineg G dX0_shapeWithTurn_59 ?_
    refine g_callVv G X (rest := []) (As := [.int (iI ((T + 1))), .int (iI ((n - 1))), .int (iI ((-side)))]) (t_X0_pool l Y (u39) n Xf Cf Wf Mf q ((T + 1)) ((n - 1)) ((-side)) (_) hT2 (by first | assumption | omega) hq39.1 (by first | assumption | omega) (by first | assumption | omega) (by simp; omega)) (cwV 3 hts gX0_shapeWithTurn_X0_pool rfl rfl rfl (by decide +kernel) ⟨Nat.le_of_ble_eq_true rfl, Nat.le_of_ble_eq_true rfl⟩) (k := 43) (Nat.le_of_ble_eq_true rfl) rfl rfl rfl rfl hl.1 rfl (Nat.le_of_ble_eq_true rfl) dX0_shapeWithTurn_60 ⟨Nat.le_refl _, Nat.le_refl _⟩ (fun u60 H locs hq60 X => ?_)
    exact hret _ _ _ _ _ (⟨by rw [pkB_eq hTop]; exact hq60.1, by unfold pkB; rw [topFT_eq hTop]; exact (peakS_stk (by omega)).toAsc, fun a h0 h1 => by rw [hq60.2.1 a h0 h1, hq39.2.1 a h0 h1, hq31.2.1 a h0 h1, up_ne h0, up_ne h0, up_ne h0]⟩) X dX0_shapeWithTurn_63
  ·
    refine lv_iconst (v := iI 1) hx hb dX0_shapeWithTurn_5 rfl ?_
    refine lv_goto (tgt := 10) hx hb dX0_shapeWithTurn_6 (by decide) ?_
    refine g_topi (z' := side) (by rw [hsd]; first | rw [if_pos (by omega)] | rw [if_neg (by omega)]) ?_
    refine lv_istore_n (lv' := [(3, .int (iI (side))), (0, .ref (Y.2.1 (43))), (1, .int (iI (kind))), (2, .int (iI (t)))]) hx hb dX0_shapeWithTurn_10 rfl hl (by decide) rfl (fun ls hl => ?_)
    refine lv_aload_n hx hb dX0_shapeWithTurn_11 rfl (lv_at hl 1 rfl) ?_
    refine lv_iload_n hx hb dX0_shapeWithTurn_12 rfl (lv_at hl 3 rfl) ?_
    refine lv_iload_n hx hb dX0_shapeWithTurn_13 rfl (lv_at hl 0 rfl) ?_
    refine g_callVv G X (rest := []) (As := [.int (iI (t)), .int (iI (side))]) (t_X0_findTop l Y (σ) n Xf Cf Wf Mf q (t) (side) (by first | assumption | omega) (by first | assumption | omega) (by first | assumption | omega) (by first | assumption | omega)) (cwV 2 hts gX0_shapeWithTurn_X0_findTop rfl rfl rfl (by decide +kernel) ⟨Nat.le_of_ble_eq_true rfl, Nat.le_of_ble_eq_true rfl⟩) (k := 43) (Nat.le_of_ble_eq_true rfl) rfl rfl rfl rfl hl.1 rfl (Nat.le_of_ble_eq_true rfl) dX0_shapeWithTurn_14 ⟨Nat.le_refl _, Nat.le_refl _⟩ (fun u14 H locs hq14 X => ?_)
    obtain ⟨F, T, hTop, hu⟩ := hq14
    have X := (show u14 = (up (up σ 43 3 F) 43 4 T) from hu) ▸ X
    have hTop1 := hTop.1
    refine lv_aload_n hx hb dX0_shapeWithTurn_17 rfl (lv_at hl 1 rfl) ?_
    refine lv_iconst (v := iI 0) hx hb dX0_shapeWithTurn_18 rfl ?_
    refine g_puti G X (k := 43) (fs := fBlk Y) (z := 0) (Nat.le_of_ble_eq_true rfl) (fun _ => rfl) rfl in_X0 tyX0 tyX0_ok nmX0 2 2 (by decide) l_f19 rfl rfl (by decide +kernel) (Nat.le_of_ble_eq_true rfl) (fun _ => rfl) dX0_shapeWithTurn_19 (fun H locs X => ?_)
    have hB0 : BlkIs (up (up (up σ 43 3 F) 43 4 T) 43 2 0) [] := ⟨rfl, fun j h0 h1 => by simp at h1; omega⟩
    have hT0 : Tb (up (up (up σ 43 3 F) 43 4 T) 43 2 0) n Xf Cf Wf Mf q := hT.eq rfl rfl rfl rfl rfl
    refine lv_aload_n hx hb dX0_shapeWithTurn_22 rfl (lv_at hl 1 rfl) ?_
    refine lv_iconst (v := iI 0) hx hb dX0_shapeWithTurn_23 rfl ?_
    refine lv_aload_n hx hb dX0_shapeWithTurn_24 rfl (lv_at hl 1 rfl) ?_
    refine g_get G X (k := 43) (fs := fBlk Y) (Nat.le_of_ble_eq_true rfl) (fun _ => rfl) rfl in_X0 3 (by decide) l_f61 rfl (v := .int (iI (F))) rfl dX0_shapeWithTurn_25 ?_
    refine lv_iconst (v := iI 1) hx hb dX0_shapeWithTurn_28 rfl ?_
    refine g_isub G dX0_shapeWithTurn_29 ?_
    refine lv_iload_n hx hb dX0_shapeWithTurn_30 rfl (lv_at hl 0 rfl) ?_
    refine g_callVv G X (rest := []) (As := [.int (iI (0)), .int (iI ((F - 1))), .int (iI (side))]) (t_X0_pool l Y ((up (up (up σ 43 3 F) 43 4 T) 43 2 0)) n Xf Cf Wf Mf q (0) ((F - 1)) (side) ([]) hT0 (by first | assumption | omega) hB0 (by first | assumption | omega) (by first | assumption | omega) (by show ((0 : Nat) : Int) ≤ 0; omega)) (cwV 3 hts gX0_shapeWithTurn_X0_pool rfl rfl rfl (by decide +kernel) ⟨Nat.le_of_ble_eq_true rfl, Nat.le_of_ble_eq_true rfl⟩) (k := 43) (Nat.le_of_ble_eq_true rfl) rfl rfl rfl rfl hl.1 rfl (Nat.le_of_ble_eq_true rfl) dX0_shapeWithTurn_31 ⟨Nat.le_refl _, Nat.le_refl _⟩ (fun u31 H locs hq31 X => ?_)
    have hT1 : Tb u31 n Xf Cf Wf Mf q := hT0.same hq31.2.1
    have hst := poolL_stk (side := side) (W := Wf) (M := Mf) (a := 0) F.toNat
    have hsl := hst.len
    refine lv_aload_n hx hb dX0_shapeWithTurn_34 rfl (lv_at hl 1 rfl) ?_
    refine lv_aload_n hx hb dX0_shapeWithTurn_35 rfl (lv_at hl 1 rfl) ?_
    refine g_get G X (k := 43) (fs := fBlk Y) (Nat.le_of_ble_eq_true rfl) (fun _ => rfl) rfl in_X0 3 (by decide) l_f61 rfl (v := .int (iI ((u31 43 3)))) rfl dX0_shapeWithTurn_36 ?_
    refine g_topi (z' := F) (hq31.2.2.1) ?_
    refine g_callVv G X (rest := []) (As := [.int (iI (F))]) (t_X0_open l Y (u31) n Xf Cf Wf Mf q (F) (_) hT1 (by first | assumption | omega) hq31.1 (by simp; omega)) (cwV 1 hts gX0_shapeWithTurn_X0_open rfl rfl rfl (by decide +kernel) ⟨Nat.le_of_ble_eq_true rfl, Nat.le_of_ble_eq_true rfl⟩) (k := 43) (Nat.le_of_ble_eq_true rfl) rfl rfl rfl rfl hl.1 rfl (Nat.le_of_ble_eq_true rfl) dX0_shapeWithTurn_39 ⟨Nat.le_refl _, Nat.le_refl _⟩ (fun u39 H locs hq39 X => ?_)
    have hT2 : Tb u39 n Xf Cf Wf Mf q := hT1.same hq39.2.1
    refine lv_aload_n hx hb dX0_shapeWithTurn_42 rfl (lv_at hl 1 rfl) ?_
    refine lv_aload_n hx hb dX0_shapeWithTurn_43 rfl (lv_at hl 1 rfl) ?_
    refine g_get G X (k := 43) (fs := fBlk Y) (Nat.le_of_ble_eq_true rfl) (fun _ => rfl) rfl in_X0 4 (by decide) l_f68 rfl (v := .int (iI ((u39 43 4)))) rfl dX0_shapeWithTurn_44 ?_
    refine g_topi (z' := T) (hq39.2.2.2.trans hq31.2.2.2) ?_
    refine lv_iconst (v := iI 1) hx hb dX0_shapeWithTurn_47 rfl ?_
    refine g_iadd G dX0_shapeWithTurn_48 ?_
    refine lv_aload_n hx hb dX0_shapeWithTurn_49 rfl (lv_at hl 1 rfl) ?_
    refine g_get G X (k := 43) (fs := fBlk Y) (Nat.le_of_ble_eq_true rfl) (fun _ => rfl) rfl in_X0 0 (by decide) l_f15 rfl (v := .ref (Y.2.1 (38))) rfl dX0_shapeWithTurn_50 ?_
    refine g_callVi G X (rest := [.int (iI ((T + 1))), .ref (Y.2.1 (43))]) (As := []) (t_X1_size l Y (u39) n Xf Cf Wf Mf q hT2 (by first | assumption | omega)) (cwV 0 hts gX0_shapeWithTurn_X1_size rfl rfl rfl (by decide +kernel) ⟨Nat.le_of_ble_eq_true rfl, Nat.le_of_ble_eq_true rfl⟩) (k := 38) (Nat.le_of_ble_eq_true rfl) rfl rfl rfl rfl hl.1 rfl (Nat.le_of_ble_eq_true rfl) dX0_shapeWithTurn_53 ⟨Nat.le_refl _, Nat.le_refl _⟩ (fun z53 u53 H locs hq53 X => ?_)
    rw [hq53.1] at X
    have hq53 := hq53.2
    try dsimp only at hq53
    refine g_topi (z' := n) hq53 ?_
    refine lv_iconst (v := iI 1) hx hb dX0_shapeWithTurn_56 rfl ?_
    refine g_isub G dX0_shapeWithTurn_57 ?_
    refine lv_iload_n hx hb dX0_shapeWithTurn_58 rfl (lv_at hl 0 rfl) ?_
    refine g_ineg G dX0_shapeWithTurn_59 ?_
    refine g_callVv G X (rest := []) (As := [.int (iI ((T + 1))), .int (iI ((n - 1))), .int (iI ((-side)))]) (t_X0_pool l Y (u39) n Xf Cf Wf Mf q ((T + 1)) ((n - 1)) ((-side)) (_) hT2 (by first | assumption | omega) hq39.1 (by first | assumption | omega) (by first | assumption | omega) (by simp; omega)) (cwV 3 hts gX0_shapeWithTurn_X0_pool rfl rfl rfl (by decide +kernel) ⟨Nat.le_of_ble_eq_true rfl, Nat.le_of_ble_eq_true rfl⟩) (k := 43) (Nat.le_of_ble_eq_true rfl) rfl rfl rfl rfl hl.1 rfl (Nat.le_of_ble_eq_true rfl) dX0_shapeWithTurn_60 ⟨Nat.le_refl _, Nat.le_refl _⟩ (fun u60 H locs hq60 X => ?_)
    exact hret _ _ _ _ _ (⟨by rw [pkB_eq hTop]; exact hq60.1, by unfold pkB; rw [topFT_eq hTop]; exact (peakS_stk (by omega)).toAsc, fun a h0 h1 => by rw [hq60.2.1 a h0 h1, hq39.2.1 a h0 h1, hq31.2.1 a h0 h1, up_ne h0, up_ne h0, up_ne h0]⟩) X dX0_shapeWithTurn_63

set_option maxHeartbeats 4000000 in
set_option maxRecDepth 100000 in
theorem t_X0_bestTurn (l : Launch) (Y : Yt) (σ : Mem) (n : Int) (Xf : Int → Int) (Cf : Int → Int) (Wf : Int → Int) (Mf : Int → Int) (q : Int) (kind : Int) (side : Int) (hT : Tb σ n Xf Cf Wf Mf q) (hPf : Prof n Xf Wf Mf) (hkd : kind = 2 ∨ kind = 3) (hsd : side = if kind = 2 then 1 else -1) (hq0 : 0 ≤ q ∧ q ≤ 235224) : MXi l LX Y yX0_bestTurn wsX0_bestTurn { frames := 4, cells := 0, slots := 0, locals := 96 } [.ref (Y.2.1 (43)), .int (iI (kind))] σ (fun z u => z = bTurn n Wf Mf q side ∧ SameB σ u ∧ 0 ≤ z ∧ (0 < n → z < n)) := by
  obtain ⟨⟨hn0, hn12, hW0, hM0, hW24⟩, hstep, hXa, hXr⟩ := id hPf
  obtain ⟨hTn, hTq, hTx, hTw⟩ := id hT
  have hs : side = 1 ∨ side = -1 := by rw [hsd]; split <;> omega
  refine g_starti (rty := .int) (fun _ _ _ => rfl) (cc := cX0_bestTurn) (nL := 8) (own := RX0) (by decide) rfl rfl (Nat.le_of_ble_eq_true rfl) ?_
  intro pp ee ss mm bw mt cd AA ZZ ls G hret X hl
  have hl : lv_has ls 8 [(0, .ref (Y.2.1 (43))), (1, .int (iI (kind)))] := hl
  have hx := G.1
  have hb := G.2.1
  have hts := G.2.2.2.2.1
  have l_f15 := hts (.fieldLink RX0 15 "ShapeFits$BlockFit" "table" "LShapeFits$GroupTable;") (List.mem_of_getElem? (i := 1) rfl)
  have in_X0 : ∀ w ∈ u_ws RX0 TX0 5, w ∈ wsX0_bestTurn := by decide +kernel
  refine lv_iconst (v := iI 0) hx hb dX0_bestTurn_0 rfl ?_
  refine lv_istore_n (lv' := [(2, .int (iI (0))), (0, .ref (Y.2.1 (43))), (1, .int (iI (kind)))]) hx hb dX0_bestTurn_1 rfl hl (by decide) rfl (fun ls hl => ?_)
  refine lv_lconst (v := lI 0) hx hb dX0_bestTurn_2 (by decide +kernel) ?_
  refine lv_lstore_n (lv' := [(3, .long (lI (0))), (2, .int (iI (0))), (0, .ref (Y.2.1 (43))), (1, .int (iI (kind)))]) hx hb dX0_bestTurn_3 rfl hl (by decide) rfl (fun ls hl => ?_)
  refine lv_iconst (v := iI 0) hx hb dX0_bestTurn_4 rfl ?_
  refine lv_istore (lv' := [(5, .int (iI (0))), (3, .long (lI (0))), (2, .int (iI (0))), (0, .ref (Y.2.1 (43))), (1, .int (iI (kind)))]) hx hb dX0_bestTurn_5 hl (by decide) rfl (fun ls hl => ?_)
  have lp_7 : ∀ (nn : Nat) (best least g : Int) (τ : Mem), ∀ hg : 0 ≤ g ∧ g ≤ n, ∀ hb2 : best = amin (turnE n Wf Mf q side) g.toNat, ∀ hle : 0 < g → least = turnE n Wf Mf q side (amin (turnE n Wf Mf q side) g.toNat), ∀ hlr : -400000000000000000 ≤ least ∧ least ≤ 1300000000000000, ∀ hS : SameB σ τ, ∀ hdec : (n - g) < (nn : Int), ∀ (H : Heap) (locs : List Loc) (ls : Array Slot), wx LX Y τ ss AA H locs → lv_has ls 8 [(0, .ref (Y.2.1 (43))), (1, .int (iI (kind))), (2, .int (iI (best))), (3, .long (lI (least))), (5, .int (iI (g)))] → W pp l ee { frames := 4, cells := 0, slots := 0, locals := 96 } ss mm ([.ref (Y.2.1 (43)), .int (iI (kind))] : List Value).toArray bw mt cd H locs 0 0 ZZ (F0 mm 7 ls []) := by
    intro nn
    induction nn with
    | zero =>
      intro best least g τ hg hb2 hle hlr hS hdec
      exact absurd hdec (by omega)
    | succ nn ih_7 =>
      intro best least g τ hg hb2 hle hlr hS hdec H locs ls X hl
      have hTl : Tb τ n Xf Cf Wf Mf q := hT.same hS
      refine lv_iload hx hb dX0_bestTurn_7 (lv_at hl 4 rfl) ?_
      refine lv_aload_n hx hb dX0_bestTurn_9 rfl (lv_at hl 0 rfl) ?_
      refine g_get G X (k := 43) (fs := fBlk Y) (Nat.le_of_ble_eq_true rfl) (fun _ => rfl) rfl in_X0 0 (by decide) l_f15 rfl (v := .ref (Y.2.1 (38))) rfl dX0_bestTurn_10 ?_
      refine g_callVi G X (rest := [.int (iI (g))]) (As := []) (t_X1_size l Y (τ) n Xf Cf Wf Mf q hTl (by first | assumption | omega)) (cwV 0 hts gX0_bestTurn_X1_size rfl rfl rfl (by decide +kernel) ⟨Nat.le_of_ble_eq_true rfl, Nat.le_of_ble_eq_true rfl⟩) (k := 38) (Nat.le_of_ble_eq_true rfl) rfl rfl rfl rfl hl.1 rfl (Nat.le_of_ble_eq_true rfl) dX0_bestTurn_13 ⟨Nat.le_refl _, Nat.le_refl _⟩ (fun z13 u13 H locs hq13 X => ?_)
      rw [hq13.1] at X
      have hq13 := hq13.2
      try dsimp only at hq13
      refine g_topi (z' := n) hq13 ?_
      refine g_icmp_ge (tgt := 56) G dX0_bestTurn_16 (by decide) (by omega) (by omega) (fun h16 => ?_) (fun h16 => ?_)
      ·
        refine lv_iload_n hx hb dX0_bestTurn_56 rfl (lv_at hl 2 rfl) ?_
        exact hret _ _ _ _ _ _ (⟨by rw [hb2, show g = n by omega]; rfl, hS, by rw [hb2]; exact (amin_rg _ _).1, fun h => by rw [hb2]; have := (amin_rg (turnE n Wf Mf q side) g.toNat).2 (by omega); omega⟩) X dX0_bestTurn_57
      ·
        refine lv_aload_n hx hb dX0_bestTurn_19 rfl (lv_at hl 0 rfl) ?_
        refine lv_iload_n hx hb dX0_bestTurn_20 rfl (lv_at hl 1 rfl) ?_
        refine lv_iload hx hb dX0_bestTurn_21 (lv_at hl 4 rfl) ?_
        refine g_callVv G X (rest := []) (As := [.int (iI (kind)), .int (iI (g))]) (t_X0_shapeWithTurn l Y (τ) n Xf Cf Wf Mf q (kind) (g) (side) hTl (by first | assumption | omega) (by first | assumption | omega) (by first | assumption | omega) (by first | assumption | omega)) (cwV 2 hts gX0_bestTurn_X0_shapeWithTurn rfl rfl rfl (by decide +kernel) ⟨Nat.le_of_ble_eq_true rfl, Nat.le_of_ble_eq_true rfl⟩) (k := 43) (Nat.le_of_ble_eq_true rfl) rfl rfl rfl rfl hl.1 rfl (Nat.le_of_ble_eq_true rfl) dX0_bestTurn_23 ⟨Nat.le_refl _, Nat.le_refl _⟩ (fun u23 H locs hq23 X => ?_)
        refine lv_aload_n hx hb dX0_bestTurn_26 rfl (lv_at hl 0 rfl) ?_
        refine g_callVl G X (rest := []) (As := []) (t_X0_commonError l Y (u23) n Xf Cf Wf Mf q (_) (hTl.same hq23.2.2) (by first | assumption | omega) hq23.1 hq23.2.1 (by first | assumption | omega)) (cwV 0 hts gX0_bestTurn_X0_commonError rfl rfl rfl (by decide +kernel) ⟨Nat.le_of_ble_eq_true rfl, Nat.le_of_ble_eq_true rfl⟩) (k := 43) (Nat.le_of_ble_eq_true rfl) rfl rfl rfl rfl hl.1 rfl (Nat.le_of_ble_eq_true rfl) dX0_bestTurn_27 ⟨Nat.le_refl _, Nat.le_refl _⟩ (fun z27 u27 H locs hq27 X => ?_)
        rw [hq27.1] at X
        have hq27 := hq27.2
        try dsimp only at hq27
        have hE : z27 = turnE n Wf Mf q side g := hq27.1
        refine lv_lstore (lv' := [(6, .long (lI (z27))), (0, .ref (Y.2.1 (43))), (1, .int (iI (kind))), (2, .int (iI (best))), (3, .long (lI (least))), (5, .int (iI (g)))]) hx hb dX0_bestTurn_30 hl (by decide) rfl (fun ls hl => ?_)
        refine lv_iload hx hb dX0_bestTurn_32 (lv_at hl 5 rfl) ?_
        refine g_if_eq (tgt := 44) G dX0_bestTurn_34 (by decide) (by omega) (fun h34 => ?_) (fun h34 => ?_)
        ·
          have hbn : g = amin (turnE n Wf Mf q side) (g + 1).toNat := by rw [amin_s hg.1]; by_cases h0 : g = 0; (rw [if_pos h0]; exact h0); rw [if_neg h0, if_pos (by rw [← hle (by omega), ← hE]; omega)]
          have hln : z27 = turnE n Wf Mf q side (amin (turnE n Wf Mf q side) (g + 1).toNat) := by rw [← hbn]; exact hE
          refine lv_iload hx hb dX0_bestTurn_44 (lv_at hl 5 rfl) ?_
          refine lv_istore_n (lv' := [(2, .int (iI (g))), (6, .long (lI (z27))), (0, .ref (Y.2.1 (43))), (1, .int (iI (kind))), (3, .long (lI (least))), (5, .int (iI (g)))]) hx hb dX0_bestTurn_46 rfl hl (by decide) rfl (fun ls hl => ?_)
          refine lv_lload hx hb dX0_bestTurn_47 (lv_at hl 1 rfl) ?_
          refine lv_lstore_n (lv' := [(3, .long (lI (z27))), (2, .int (iI (g))), (6, .long (lI (z27))), (0, .ref (Y.2.1 (43))), (1, .int (iI (kind))), (5, .int (iI (g)))]) hx hb dX0_bestTurn_49 rfl hl (by decide) rfl (fun ls hl => ?_)
          refine lv_iinc (v := iI (g + 1)) (lv' := [(5, .int (iI ((g + 1)))), (3, .long (lI (z27))), (2, .int (iI (g))), (6, .long (lI (z27))), (0, .ref (Y.2.1 (43))), (1, .int (iI (kind)))]) hx hb dX0_bestTurn_50 hl (k := 5) rfl (iI_add _ _) (by decide) rfl (fun ls hl => ?_)
          refine lv_goto (tgt := 7) hx hb dX0_bestTurn_53 (by decide) ?_
          exact ih_7 (g) (z27) ((g + 1)) (u23) (by omega) hbn (fun _ => hln) (by first | exact hlr | exact hq27.2) (hS.trans hq23.2.2) (by omega) _ _ _ X (lv_sub hl [4, 5, 2, 1, 0] rfl)
        ·
          refine lv_lload hx hb dX0_bestTurn_37 (lv_at hl 0 rfl) ?_
          refine lv_lload_n hx hb dX0_bestTurn_39 rfl (lv_at hl 4 rfl) ?_
          refine g_lif_ge (tgt := 50) G dX0_bestTurn_40 dX0_bestTurn_41 (by decide) (by omega) (by omega) (fun h40 => ?_) (fun h40 => ?_)
          ·
            have hbn : best = amin (turnE n Wf Mf q side) (g + 1).toNat := by rw [amin_s hg.1, if_neg (by omega), if_neg (by rw [← hle (by omega), ← hE]; omega)]; exact hb2
            have hln : least = turnE n Wf Mf q side (amin (turnE n Wf Mf q side) (g + 1).toNat) := by rw [← hbn, hb2]; exact hle (by omega)
            refine lv_iinc (v := iI (g + 1)) (lv' := [(5, .int (iI ((g + 1)))), (6, .long (lI (z27))), (0, .ref (Y.2.1 (43))), (1, .int (iI (kind))), (2, .int (iI (best))), (3, .long (lI (least)))]) hx hb dX0_bestTurn_50 hl (k := 5) rfl (iI_add _ _) (by decide) rfl (fun ls hl => ?_)
            refine lv_goto (tgt := 7) hx hb dX0_bestTurn_53 (by decide) ?_
            exact ih_7 (best) (least) ((g + 1)) (u23) (by omega) hbn (fun _ => hln) (by first | exact hlr | exact hq27.2) (hS.trans hq23.2.2) (by omega) _ _ _ X (lv_sub hl [2, 3, 4, 5, 0] rfl)
          ·
            have hbn : g = amin (turnE n Wf Mf q side) (g + 1).toNat := by rw [amin_s hg.1]; by_cases h0 : g = 0; (rw [if_pos h0]; exact h0); rw [if_neg h0, if_pos (by rw [← hle (by omega), ← hE]; omega)]
            have hln : z27 = turnE n Wf Mf q side (amin (turnE n Wf Mf q side) (g + 1).toNat) := by rw [← hbn]; exact hE
            refine lv_iload hx hb dX0_bestTurn_44 (lv_at hl 5 rfl) ?_
            refine lv_istore_n (lv' := [(2, .int (iI (g))), (6, .long (lI (z27))), (0, .ref (Y.2.1 (43))), (1, .int (iI (kind))), (3, .long (lI (least))), (5, .int (iI (g)))]) hx hb dX0_bestTurn_46 rfl hl (by decide) rfl (fun ls hl => ?_)
            refine lv_lload hx hb dX0_bestTurn_47 (lv_at hl 1 rfl) ?_
            refine lv_lstore_n (lv' := [(3, .long (lI (z27))), (2, .int (iI (g))), (6, .long (lI (z27))), (0, .ref (Y.2.1 (43))), (1, .int (iI (kind))), (5, .int (iI (g)))]) hx hb dX0_bestTurn_49 rfl hl (by decide) rfl (fun ls hl => ?_)
            refine lv_iinc (v := iI (g + 1)) (lv' := [(5, .int (iI ((g + 1)))), (3, .long (lI (z27))), (2, .int (iI (g))), (6, .long (lI (z27))), (0, .ref (Y.2.1 (43))), (1, .int (iI (kind)))]) hx hb dX0_bestTurn_50 hl (k := 5) rfl (iI_add _ _) (by decide) rfl (fun ls hl => ?_)
            refine lv_goto (tgt := 7) hx hb dX0_bestTurn_53 (by decide) ?_
            exact ih_7 (g) (z27) ((g + 1)) (u23) (by omega) hbn (fun _ => hln) (by first | exact hlr | exact hq27.2) (hS.trans hq23.2.2) (by omega) _ _ _ X (lv_sub hl [4, 5, 2, 1, 0] rfl)
  exact lp_7 ((((n - (0)) : Int).toNat + 1)) (0) (0) (0) (σ) (by omega) rfl (fun h => by omega) (by omega) SameB.rf (by omega) _ _ _ X (lv_sub hl [3, 4, 2, 1, 0] rfl)

set_option maxHeartbeats 4000000 in
set_option maxRecDepth 100000 in
theorem t_X0_shape (l : Launch) (Y : Yt) (σ : Mem) (n : Int) (Xf : Int → Int) (Cf : Int → Int) (Wf : Int → Int) (Mf : Int → Int) (q : Int) (kind : Int) (hT : Tb σ n Xf Cf Wf Mf q) (hPf : Prof n Xf Wf Mf) (hkd : 0 ≤ kind ∧ kind ≤ 3) (hq0 : 0 ≤ q ∧ q ≤ 235224) : MXv l LX Y yX0_shape wsX0_shape { frames := 5, cells := 0, slots := 0, locals := 123 } [.ref (Y.2.1 (43)), .int (iI (kind))] σ (fun u => BlkIs u (kB n Wf Mf q kind) ∧ Asc n (kB n Wf Mf q kind) ∧ SameB σ u) := by
  obtain ⟨⟨hn0, hn12, hW0, hM0, hW24⟩, hstep, hXa, hXr⟩ := id hPf
  obtain ⟨hTn, hTq, hTx, hTw⟩ := id hT
  refine g_startv (cc := cX0_shape) (nL := 2) (own := RX0) (by decide) rfl rfl (Nat.le_of_ble_eq_true rfl) ?_
  intro pp ee ss mm bw mt cd AA ZZ ls G hret X hl
  have hl : lv_has ls 2 [(0, .ref (Y.2.1 (43))), (1, .int (iI (kind)))] := hl
  have hx := G.1
  have hb := G.2.1
  have hts := G.2.2.2.2.1
  have l_f15 := hts (.fieldLink RX0 15 "ShapeFits$BlockFit" "table" "LShapeFits$GroupTable;") (List.mem_of_getElem? (i := 1) rfl)
  have l_f19 := hts (.fieldLink RX0 19 "ShapeFits$BlockFit" "count" "I") (List.mem_of_getElem? (i := 2) rfl)
  have in_X0 : ∀ w ∈ u_ws RX0 TX0 5, w ∈ wsX0_shape := by decide +kernel
  refine lv_iload_n hx hb dX0_shape_0 rfl (lv_at hl 1 rfl) ?_
  refine lv_iconst (v := iI 2) hx hb dX0_shape_1 rfl ?_
  refine g_icmp_lt (tgt := 26) G dX0_shape_2 (by decide) (by omega) (by omega) (fun h2 => ?_) (fun h2 => ?_)
  ·
    refine lv_aload_n hx hb dX0_shape_26 rfl (lv_at hl 0 rfl) ?_
    refine lv_iconst (v := iI 0) hx hb dX0_shape_27 rfl ?_
    refine g_puti G X (k := 43) (fs := fBlk Y) (z := 0) (Nat.le_of_ble_eq_true rfl) (fun _ => rfl) rfl in_X0 tyX0 tyX0_ok nmX0 2 2 (by decide) l_f19 rfl rfl (by decide +kernel) (Nat.le_of_ble_eq_true rfl) (fun _ => rfl) dX0_shape_28 (fun H locs X => ?_)
    have hB0 : BlkIs (up σ 43 2 0) [] := ⟨rfl, fun j h0 h1 => by simp at h1; omega⟩
    have hT0 : Tb (up σ 43 2 0) n Xf Cf Wf Mf q := hT.eq rfl rfl rfl rfl rfl
    refine lv_aload_n hx hb dX0_shape_31 rfl (lv_at hl 0 rfl) ?_
    refine lv_iconst (v := iI 0) hx hb dX0_shape_32 rfl ?_
    refine lv_aload_n hx hb dX0_shape_33 rfl (lv_at hl 0 rfl) ?_
    refine g_get G X (k := 43) (fs := fBlk Y) (Nat.le_of_ble_eq_true rfl) (fun _ => rfl) rfl in_X0 0 (by decide) l_f15 rfl (v := .ref (Y.2.1 (38))) rfl dX0_shape_34 ?_
    refine g_callVi G X (rest := [.int (iI (0)), .ref (Y.2.1 (43))]) (As := []) (t_X1_size l Y ((up σ 43 2 0)) n Xf Cf Wf Mf q hT0 (by first | assumption | omega)) (cwV 0 hts gX0_shape_X1_size rfl rfl rfl (by decide +kernel) ⟨Nat.le_of_ble_eq_true rfl, Nat.le_of_ble_eq_true rfl⟩) (k := 38) (Nat.le_of_ble_eq_true rfl) rfl rfl rfl rfl hl.1 rfl (Nat.le_of_ble_eq_true rfl) dX0_shape_37 ⟨Nat.le_refl _, Nat.le_refl _⟩ (fun z37 u37 H locs hq37 X => ?_)
    rw [hq37.1] at X
    have hq37 := hq37.2
    try dsimp only at hq37
    refine g_topi (z' := n) hq37 ?_
    refine lv_iconst (v := iI 1) hx hb dX0_shape_40 rfl ?_
    refine g_isub G dX0_shape_41 ?_
    refine lv_iload_n hx hb dX0_shape_42 rfl (lv_at hl 1 rfl) ?_
    refine g_if_ne (tgt := 50) G dX0_shape_43 (by decide) (by omega) (fun h43 => ?_) (fun h43 => ?_)
    ·
      refine lv_iconst (v := iI (-1)) hx hb dX0_shape_50 rfl ?_
      refine g_callVv G X (rest := []) (As := [.int (iI (0)), .int (iI ((n - 1))), .int (iI ((-1)))]) (t_X0_pool l Y ((up σ 43 2 0)) n Xf Cf Wf Mf q (0) ((n - 1)) ((-1)) ([]) hT0 (by first | assumption | omega) hB0 (by first | assumption | omega) (by first | assumption | omega) (by show ((0 : Nat) : Int) ≤ 0; omega)) (cwV 3 hts gX0_shape_X0_pool rfl rfl rfl (by decide +kernel) ⟨Nat.le_of_ble_eq_true rfl, Nat.le_of_ble_eq_true rfl⟩) (k := 43) (Nat.le_of_ble_eq_true rfl) rfl rfl rfl rfl hl.1 rfl (Nat.le_of_ble_eq_true rfl) dX0_shape_51 ⟨Nat.le_refl _, Nat.le_refl _⟩ (fun u51 H locs hq51 X => ?_)
      exact hret _ _ _ _ _ ((by have hsb : SameB σ u51 := fun a h0 h1 => (hq51.2.1 a h0 h1).trans (up_ne h0); have hlst := hq51.1; rw [show (n - 1 + 1 - 0).toNat = n.toNat by omega, List.nil_append] at hlst; first | exact shp0 hn0 (by omega) hlst hsb | exact shp1 hn0 (by omega) hlst hsb | exact shp2 (by omega) (by omega) hlst hsb)) X dX0_shape_54
    ·
      refine lv_iconst (v := iI 1) hx hb dX0_shape_46 rfl ?_
      refine lv_goto (tgt := 51) hx hb dX0_shape_47 (by decide) ?_
      refine g_callVv G X (rest := []) (As := [.int (iI (0)), .int (iI ((n - 1))), .int (iI (1))]) (t_X0_pool l Y ((up σ 43 2 0)) n Xf Cf Wf Mf q (0) ((n - 1)) (1) ([]) hT0 (by first | assumption | omega) hB0 (by first | assumption | omega) (by first | assumption | omega) (by show ((0 : Nat) : Int) ≤ 0; omega)) (cwV 3 hts gX0_shape_X0_pool rfl rfl rfl (by decide +kernel) ⟨Nat.le_of_ble_eq_true rfl, Nat.le_of_ble_eq_true rfl⟩) (k := 43) (Nat.le_of_ble_eq_true rfl) rfl rfl rfl rfl hl.1 rfl (Nat.le_of_ble_eq_true rfl) dX0_shape_51 ⟨Nat.le_refl _, Nat.le_refl _⟩ (fun u51 H locs hq51 X => ?_)
      exact hret _ _ _ _ _ ((by have hsb : SameB σ u51 := fun a h0 h1 => (hq51.2.1 a h0 h1).trans (up_ne h0); have hlst := hq51.1; rw [show (n - 1 + 1 - 0).toNat = n.toNat by omega, List.nil_append] at hlst; first | exact shp0 hn0 (by omega) hlst hsb | exact shp1 hn0 (by omega) hlst hsb | exact shp2 (by omega) (by omega) hlst hsb)) X dX0_shape_54
  ·
    refine lv_aload_n hx hb dX0_shape_5 rfl (lv_at hl 0 rfl) ?_
    refine g_get G X (k := 43) (fs := fBlk Y) (Nat.le_of_ble_eq_true rfl) (fun _ => rfl) rfl in_X0 0 (by decide) l_f15 rfl (v := .ref (Y.2.1 (38))) rfl dX0_shape_6 ?_
    refine g_callVi G X (rest := []) (As := []) (t_X1_size l Y (σ) n Xf Cf Wf Mf q (by first | assumption | omega) (by first | assumption | omega)) (cwV 0 hts gX0_shape_X1_size rfl rfl rfl (by decide +kernel) ⟨Nat.le_of_ble_eq_true rfl, Nat.le_of_ble_eq_true rfl⟩) (k := 38) (Nat.le_of_ble_eq_true rfl) rfl rfl rfl rfl hl.1 rfl (Nat.le_of_ble_eq_true rfl) dX0_shape_9 ⟨Nat.le_refl _, Nat.le_refl _⟩ (fun z9 u9 H locs hq9 X => ?_)
    rw [hq9.1] at X
    have hq9 := hq9.2
    try dsimp only at hq9
    refine g_topi (z' := n) hq9 ?_
    refine g_if_le (tgt := 26) G dX0_shape_12 (by decide) (by omega) (fun h12 => ?_) (fun h12 => ?_)
    ·
      refine lv_aload_n hx hb dX0_shape_26 rfl (lv_at hl 0 rfl) ?_
      refine lv_iconst (v := iI 0) hx hb dX0_shape_27 rfl ?_
      refine g_puti G X (k := 43) (fs := fBlk Y) (z := 0) (Nat.le_of_ble_eq_true rfl) (fun _ => rfl) rfl in_X0 tyX0 tyX0_ok nmX0 2 2 (by decide) l_f19 rfl rfl (by decide +kernel) (Nat.le_of_ble_eq_true rfl) (fun _ => rfl) dX0_shape_28 (fun H locs X => ?_)
      have hB0 : BlkIs (up σ 43 2 0) [] := ⟨rfl, fun j h0 h1 => by simp at h1; omega⟩
      have hT0 : Tb (up σ 43 2 0) n Xf Cf Wf Mf q := hT.eq rfl rfl rfl rfl rfl
      refine lv_aload_n hx hb dX0_shape_31 rfl (lv_at hl 0 rfl) ?_
      refine lv_iconst (v := iI 0) hx hb dX0_shape_32 rfl ?_
      refine lv_aload_n hx hb dX0_shape_33 rfl (lv_at hl 0 rfl) ?_
      refine g_get G X (k := 43) (fs := fBlk Y) (Nat.le_of_ble_eq_true rfl) (fun _ => rfl) rfl in_X0 0 (by decide) l_f15 rfl (v := .ref (Y.2.1 (38))) rfl dX0_shape_34 ?_
      refine g_callVi G X (rest := [.int (iI (0)), .ref (Y.2.1 (43))]) (As := []) (t_X1_size l Y ((up σ 43 2 0)) n Xf Cf Wf Mf q hT0 (by first | assumption | omega)) (cwV 0 hts gX0_shape_X1_size rfl rfl rfl (by decide +kernel) ⟨Nat.le_of_ble_eq_true rfl, Nat.le_of_ble_eq_true rfl⟩) (k := 38) (Nat.le_of_ble_eq_true rfl) rfl rfl rfl rfl hl.1 rfl (Nat.le_of_ble_eq_true rfl) dX0_shape_37 ⟨Nat.le_refl _, Nat.le_refl _⟩ (fun z37 u37 H locs hq37 X => ?_)
      rw [hq37.1] at X
      have hq37 := hq37.2
      try dsimp only at hq37
      refine g_topi (z' := n) hq37 ?_
      refine lv_iconst (v := iI 1) hx hb dX0_shape_40 rfl ?_
      refine g_isub G dX0_shape_41 ?_
      refine lv_iload_n hx hb dX0_shape_42 rfl (lv_at hl 1 rfl) ?_
      refine g_if_ne (tgt := 50) G dX0_shape_43 (by decide) (by omega) (fun h43 => ?_) (fun h43 => ?_)
      ·
        refine lv_iconst (v := iI (-1)) hx hb dX0_shape_50 rfl ?_
        refine g_callVv G X (rest := []) (As := [.int (iI (0)), .int (iI ((n - 1))), .int (iI ((-1)))]) (t_X0_pool l Y ((up σ 43 2 0)) n Xf Cf Wf Mf q (0) ((n - 1)) ((-1)) ([]) hT0 (by first | assumption | omega) hB0 (by first | assumption | omega) (by first | assumption | omega) (by show ((0 : Nat) : Int) ≤ 0; omega)) (cwV 3 hts gX0_shape_X0_pool rfl rfl rfl (by decide +kernel) ⟨Nat.le_of_ble_eq_true rfl, Nat.le_of_ble_eq_true rfl⟩) (k := 43) (Nat.le_of_ble_eq_true rfl) rfl rfl rfl rfl hl.1 rfl (Nat.le_of_ble_eq_true rfl) dX0_shape_51 ⟨Nat.le_refl _, Nat.le_refl _⟩ (fun u51 H locs hq51 X => ?_)
        exact hret _ _ _ _ _ ((by have hsb : SameB σ u51 := fun a h0 h1 => (hq51.2.1 a h0 h1).trans (up_ne h0); have hlst := hq51.1; rw [show (n - 1 + 1 - 0).toNat = n.toNat by omega, List.nil_append] at hlst; first | exact shp0 hn0 (by omega) hlst hsb | exact shp1 hn0 (by omega) hlst hsb | exact shp2 (by omega) (by omega) hlst hsb)) X dX0_shape_54
      ·
        refine lv_iconst (v := iI 1) hx hb dX0_shape_46 rfl ?_
        refine lv_goto (tgt := 51) hx hb dX0_shape_47 (by decide) ?_
        refine g_callVv G X (rest := []) (As := [.int (iI (0)), .int (iI ((n - 1))), .int (iI (1))]) (t_X0_pool l Y ((up σ 43 2 0)) n Xf Cf Wf Mf q (0) ((n - 1)) (1) ([]) hT0 (by first | assumption | omega) hB0 (by first | assumption | omega) (by first | assumption | omega) (by show ((0 : Nat) : Int) ≤ 0; omega)) (cwV 3 hts gX0_shape_X0_pool rfl rfl rfl (by decide +kernel) ⟨Nat.le_of_ble_eq_true rfl, Nat.le_of_ble_eq_true rfl⟩) (k := 43) (Nat.le_of_ble_eq_true rfl) rfl rfl rfl rfl hl.1 rfl (Nat.le_of_ble_eq_true rfl) dX0_shape_51 ⟨Nat.le_refl _, Nat.le_refl _⟩ (fun u51 H locs hq51 X => ?_)
        exact hret _ _ _ _ _ ((by have hsb : SameB σ u51 := fun a h0 h1 => (hq51.2.1 a h0 h1).trans (up_ne h0); have hlst := hq51.1; rw [show (n - 1 + 1 - 0).toNat = n.toNat by omega, List.nil_append] at hlst; first | exact shp0 hn0 (by omega) hlst hsb | exact shp1 hn0 (by omega) hlst hsb | exact shp2 (by omega) (by omega) hlst hsb)) X dX0_shape_54
    ·
      refine lv_aload_n hx hb dX0_shape_15 rfl (lv_at hl 0 rfl) ?_
      refine lv_iload_n hx hb dX0_shape_16 rfl (lv_at hl 1 rfl) ?_
      refine lv_aload_n hx hb dX0_shape_17 rfl (lv_at hl 0 rfl) ?_
      refine lv_iload_n hx hb dX0_shape_18 rfl (lv_at hl 1 rfl) ?_
      refine g_callVi G X (rest := [.int (iI (kind)), .ref (Y.2.1 (43))]) (As := [.int (iI (kind))]) (t_X0_bestTurn l Y (σ) n Xf Cf Wf Mf q (kind) ((if kind = 2 then 1 else -1)) (by first | assumption | omega) (by first | assumption | omega) (by first | assumption | omega) rfl (by first | assumption | omega)) (cwV 1 hts gX0_shape_X0_bestTurn rfl rfl rfl (by decide +kernel) ⟨Nat.le_of_ble_eq_true rfl, Nat.le_of_ble_eq_true rfl⟩) (k := 43) (Nat.le_of_ble_eq_true rfl) rfl rfl rfl rfl hl.1 rfl (Nat.le_of_ble_eq_true rfl) dX0_shape_19 ⟨Nat.le_refl _, Nat.le_refl _⟩ (fun z19 u19 H locs hq19 X => ?_)
      refine g_topi (z' := bTurn n Wf Mf q (if kind = 2 then 1 else -1)) hq19.1 ?_
      have hz19 := hq19.2.2
      rw [hq19.1] at hz19
      refine g_callVv G X (rest := []) (As := [.int (iI (kind)), .int (iI ((bTurn n Wf Mf q (if kind = 2 then 1 else -1))))]) (t_X0_shapeWithTurn l Y (u19) n Xf Cf Wf Mf q (kind) ((bTurn n Wf Mf q (if kind = 2 then 1 else -1))) ((if kind = 2 then 1 else -1)) (hT.same hq19.2.1) (by first | assumption | omega) (by first | assumption | omega) rfl ⟨hz19.1, hz19.2 (by omega)⟩) (cwV 2 hts gX0_shape_X0_shapeWithTurn rfl rfl rfl (by decide +kernel) ⟨Nat.le_of_ble_eq_true rfl, Nat.le_of_ble_eq_true rfl⟩) (k := 43) (Nat.le_of_ble_eq_true rfl) rfl rfl rfl rfl hl.1 rfl (Nat.le_of_ble_eq_true rfl) dX0_shape_22 ⟨Nat.le_refl _, Nat.le_refl _⟩ (fun u22 H locs hq22 X => ?_)
      exact hret _ _ _ _ _ ((by have e : kB n Wf Mf q kind = pkB n Wf Mf (if kind = 2 then 1 else -1) (bTurn n Wf Mf q (if kind = 2 then 1 else -1)) := by { unfold kB; rw [if_pos (by omega), if_pos (by omega)] }; rw [e]; exact ⟨hq22.1, hq22.2.1, hq19.2.1.trans hq22.2.2⟩)) X dX0_shape_25

