set_option maxHeartbeats 4000000 in
set_option maxRecDepth 100000 in
theorem t_X8_divisor (l : Launch) (Y : Yt) (σ : Mem) (a : Int) (b : Int) (ha : -9223372036854775807 ≤ a ∧ a ≤ 9223372036854775807) (hb0 : 0 ≤ b ∧ b ≤ 9223372036854775807) : MXl l LM Y yX8_divisor wsX8_divisor { frames := 0, cells := 0, slots := 0, locals := 0 } [.long (lI (a)), .long (lI (b))] σ (fun z u => u = σ ∧ (z = gcdI a b)) := by
  refine g_startl (cc := cX8_divisor) (nL := 10) (own := RX8) (by decide) rfl rfl (Nat.le_of_ble_eq_true rfl) ?_
  intro pp ee ss mm bw mt cd AA ZZ ls G hret X hl
  have hl : lv_has ls 10 [(0, .long (lI (a))), (2, .long (lI (b)))] := hl
  have hx := G.1
  have hb := G.2.1
  have hts := G.2.2.2.2.1
  refine lv_lload_n hx hb dX8_divisor_0 rfl (lv_at hl 0 rfl) ?_
  refine lv_lconst (v := lI 0) hx hb dX8_divisor_1 (by decide +kernel) ?_
  refine g_lif_ge (tgt := 11) G dX8_divisor_2 dX8_divisor_3 (by decide) (by omega) (by omega) (fun h2 => ?_) (fun h2 => ?_)
  ·
    refine lv_lload_n hx hb dX8_divisor_11 rfl (lv_at hl 0 rfl) ?_
    refine g_topl (z' := (if 0 < a then a else -a)) (by split <;> omega) ?_
    refine lv_lstore (lv' := [(4, .long (lI ((if 0 < a then a else -a)))), (0, .long (lI (a))), (2, .long (lI (b)))]) hx hb dX8_divisor_12 hl (by decide) rfl (fun ls hl => ?_)
    have hab : 0 ≤ (if 0 < a then a else -a) ∧ (if 0 < a then a else -a) ≤ 9223372036854775807 := by split <;> omega
    refine lv_lload_n hx hb dX8_divisor_14 rfl (lv_at hl 2 rfl) ?_
    refine lv_lstore (lv' := [(6, .long (lI (b))), (4, .long (lI ((if 0 < a then a else -a)))), (0, .long (lI (a))), (2, .long (lI (b)))]) hx hb dX8_divisor_15 hl (by decide) rfl (fun ls hl => ?_)
    have lp_17 : ∀ (nn : Nat) (g la : Int), ∀ hg : 0 ≤ g ∧ g ≤ 9223372036854775807, ∀ hla : 0 ≤ la ∧ la ≤ 9223372036854775807, ∀ hE : gcdI a b = gcdI g la, ∀ hdec : la < (nn : Int), ∀ (H : Heap) (locs : List Loc) (ls : Array Slot), wx LM Y σ ss AA H locs → lv_has ls 10 [(0, .long (lI (a))), (2, .long (lI (b))), (4, .long (lI (g))), (6, .long (lI (la)))] → W pp l ee { frames := 0, cells := 0, slots := 0, locals := 0 } ss mm ([.long (lI (a)), .long (lI (b))] : List Value).toArray bw mt cd H locs 0 0 ZZ (F0 mm 17 ls []) := by
      intro nn
      induction nn with
      | zero =>
        intro g la hg hla hE hdec
        exact absurd hdec (by omega)
      | succ nn ih_17 =>
        intro g la hg hla hE hdec H locs ls X hl
        refine lv_lload hx hb dX8_divisor_17 (lv_at hl 3 rfl) ?_
        refine lv_lconst (v := lI 0) hx hb dX8_divisor_19 (by decide +kernel) ?_
        refine g_lif_eq (tgt := 42) G dX8_divisor_20 dX8_divisor_21 (by decide) (by omega) (by omega) (fun h20 => ?_) (fun h20 => ?_)
        ·
          refine lv_lload hx hb dX8_divisor_42 (lv_at hl 2 rfl) ?_
          exact hret _ _ _ _ _ _ (⟨rfl, by rw [hE, show la = 0 by omega]; exact (gcdI_0 hg.1).symm⟩) X dX8_divisor_44
        ·
          have hmd : 0 ≤ g.tmod la ∧ g.tmod la < la := by rw [Int.tmod_eq_emod_of_nonneg hg.1]; exact ⟨Int.emod_nonneg g (by omega), Int.emod_lt_of_pos g (by omega)⟩
          refine lv_lload hx hb dX8_divisor_24 (lv_at hl 2 rfl) ?_
          refine lv_lload hx hb dX8_divisor_26 (lv_at hl 3 rfl) ?_
          refine g_lrem G (by omega) (by omega) dX8_divisor_28 ?_
          refine lv_lstore (lv' := [(8, .long (lI ((g.tmod la)))), (0, .long (lI (a))), (2, .long (lI (b))), (4, .long (lI (g))), (6, .long (lI (la)))]) hx hb dX8_divisor_29 hl (by decide) rfl (fun ls hl => ?_)
          refine lv_lload hx hb dX8_divisor_31 (lv_at hl 4 rfl) ?_
          refine lv_lstore (lv' := [(4, .long (lI (la))), (8, .long (lI ((g.tmod la)))), (0, .long (lI (a))), (2, .long (lI (b))), (6, .long (lI (la)))]) hx hb dX8_divisor_33 hl (by decide) rfl (fun ls hl => ?_)
          refine lv_lload hx hb dX8_divisor_35 (lv_at hl 1 rfl) ?_
          refine lv_lstore (lv' := [(6, .long (lI ((g.tmod la)))), (4, .long (lI (la))), (8, .long (lI ((g.tmod la)))), (0, .long (lI (a))), (2, .long (lI (b)))]) hx hb dX8_divisor_37 hl (by decide) rfl (fun ls hl => ?_)
          refine lv_goto (tgt := 17) hx hb dX8_divisor_39 (by decide) ?_
          exact ih_17 (la) ((g.tmod la)) (by omega) ⟨hmd.1, by omega⟩ (hE.trans (gcdI_step hg.1 (by omega)).symm) (by omega) _ _ _ X (lv_sub hl [3, 4, 1, 0] rfl)
    exact lp_17 ((((b) : Int).toNat + 1)) ((if 0 < a then a else -a)) (b) (by omega) (by omega) (gcdI_abs a b).symm (by omega) _ _ _ X (lv_sub hl [2, 3, 1, 0] rfl)
  ·
    refine lv_lload_n hx hb dX8_divisor_6 rfl (lv_at hl 0 rfl) ?_
    refine g_lneg G dX8_divisor_7 ?_
    refine lv_goto (tgt := 12) hx hb dX8_divisor_8 (by decide) ?_
    refine g_topl (z' := (if 0 < a then a else -a)) (by split <;> omega) ?_
    refine lv_lstore (lv' := [(4, .long (lI ((if 0 < a then a else -a)))), (0, .long (lI (a))), (2, .long (lI (b)))]) hx hb dX8_divisor_12 hl (by decide) rfl (fun ls hl => ?_)
    have hab : 0 ≤ (if 0 < a then a else -a) ∧ (if 0 < a then a else -a) ≤ 9223372036854775807 := by split <;> omega
    refine lv_lload_n hx hb dX8_divisor_14 rfl (lv_at hl 2 rfl) ?_
    refine lv_lstore (lv' := [(6, .long (lI (b))), (4, .long (lI ((if 0 < a then a else -a)))), (0, .long (lI (a))), (2, .long (lI (b)))]) hx hb dX8_divisor_15 hl (by decide) rfl (fun ls hl => ?_)
    have lp_17 : ∀ (nn : Nat) (g la : Int), ∀ hg : 0 ≤ g ∧ g ≤ 9223372036854775807, ∀ hla : 0 ≤ la ∧ la ≤ 9223372036854775807, ∀ hE : gcdI a b = gcdI g la, ∀ hdec : la < (nn : Int), ∀ (H : Heap) (locs : List Loc) (ls : Array Slot), wx LM Y σ ss AA H locs → lv_has ls 10 [(0, .long (lI (a))), (2, .long (lI (b))), (4, .long (lI (g))), (6, .long (lI (la)))] → W pp l ee { frames := 0, cells := 0, slots := 0, locals := 0 } ss mm ([.long (lI (a)), .long (lI (b))] : List Value).toArray bw mt cd H locs 0 0 ZZ (F0 mm 17 ls []) := by
      intro nn
      induction nn with
      | zero =>
        intro g la hg hla hE hdec
        exact absurd hdec (by omega)
      | succ nn ih_17 =>
        intro g la hg hla hE hdec H locs ls X hl
        refine lv_lload hx hb dX8_divisor_17 (lv_at hl 3 rfl) ?_
        refine lv_lconst (v := lI 0) hx hb dX8_divisor_19 (by decide +kernel) ?_
        refine g_lif_eq (tgt := 42) G dX8_divisor_20 dX8_divisor_21 (by decide) (by omega) (by omega) (fun h20 => ?_) (fun h20 => ?_)
        ·
          refine lv_lload hx hb dX8_divisor_42 (lv_at hl 2 rfl) ?_
          exact hret _ _ _ _ _ _ (⟨rfl, by rw [hE, show la = 0 by omega]; exact (gcdI_0 hg.1).symm⟩) X dX8_divisor_44
        ·
          have hmd : 0 ≤ g.tmod la ∧ g.tmod la < la := by rw [Int.tmod_eq_emod_of_nonneg hg.1]; exact ⟨Int.emod_nonneg g (by omega), Int.emod_lt_of_pos g (by omega)⟩
          refine lv_lload hx hb dX8_divisor_24 (lv_at hl 2 rfl) ?_
          refine lv_lload hx hb dX8_divisor_26 (lv_at hl 3 rfl) ?_
          refine g_lrem G (by omega) (by omega) dX8_divisor_28 ?_
          refine lv_lstore (lv' := [(8, .long (lI ((g.tmod la)))), (0, .long (lI (a))), (2, .long (lI (b))), (4, .long (lI (g))), (6, .long (lI (la)))]) hx hb dX8_divisor_29 hl (by decide) rfl (fun ls hl => ?_)
          refine lv_lload hx hb dX8_divisor_31 (lv_at hl 4 rfl) ?_
          refine lv_lstore (lv' := [(4, .long (lI (la))), (8, .long (lI ((g.tmod la)))), (0, .long (lI (a))), (2, .long (lI (b))), (6, .long (lI (la)))]) hx hb dX8_divisor_33 hl (by decide) rfl (fun ls hl => ?_)
          refine lv_lload hx hb dX8_divisor_35 (lv_at hl 1 rfl) ?_
          refine lv_lstore (lv' := [(6, .long (lI ((g.tmod la)))), (4, .long (lI (la))), (8, .long (lI ((g.tmod la)))), (0, .long (lI (a))), (2, .long (lI (b)))]) hx hb dX8_divisor_37 hl (by decide) rfl (fun ls hl => ?_)
          refine lv_goto (tgt := 17) hx hb dX8_divisor_39 (by decide) ?_
          exact ih_17 (la) ((g.tmod la)) (by omega) ⟨hmd.1, by omega⟩ (hE.trans (gcdI_step hg.1 (by omega)).symm) (by omega) _ _ _ X (lv_sub hl [3, 4, 1, 0] rfl)
    exact lp_17 ((((b) : Int).toNat + 1)) ((if 0 < a then a else -a)) (b) (by omega) (by omega) (gcdI_abs a b).symm (by omega) _ _ _ X (lv_sub hl [2, 3, 1, 0] rfl)

set_option maxHeartbeats 4000000 in
set_option maxRecDepth 100000 in
theorem t_X8_lowers (l : Launch) (Y : Yt) (σ : Mem) (n : Int) (d : Int) (hn : -9223372036854775807 ≤ n ∧ n ≤ 9223372036854775807) (hd : 0 < d ∧ d ≤ 9223372036854775807) : MXv l LM Y yX8_lowers wsX8_lowers { frames := 1, cells := 0, slots := 0, locals := 29 } [.ref (Y.2.1 (0)), .long (lI (n)), .long (lI (d))] σ (fun u => u 0 18 = low n d 0 ∧ u 0 19 = low n d 1 ∧ Fr 1 0 18 19 σ u) := by
  have hgp := gcdI_pos (n := n) hd.1
  have hgr := Int.le_of_dvd hd.1 (gcdI_r n d)
  have e0 : n.tdiv (gcdI n d) = low n d 0 := by unfold low; rw [if_pos rfl]; exact Int.tdiv_eq_ediv_of_dvd (gcdI_l n d)
  have e1 : d.tdiv (gcdI n d) = low n d 1 := by unfold low; rw [if_neg (by omega)]; exact Int.tdiv_eq_ediv_of_dvd (gcdI_r n d)
  refine g_startv (cc := cX8_lowers) (nL := 7) (own := RX8) (by decide) rfl rfl (Nat.le_of_ble_eq_true rfl) ?_
  intro pp ee ss mm bw mt cd AA ZZ ls G hret X hl
  have hl : lv_has ls 7 [(0, .ref (Y.2.1 (0))), (1, .long (lI (n))), (3, .long (lI (d)))] := hl
  have hx := G.1
  have hb := G.2.1
  have hts := G.2.2.2.2.1
  have l_f89 := hts (.fieldLink RX8 89 "ShapeFitsModel" "top" "J") (List.mem_of_getElem? (i := 1) rfl)
  have l_f93 := hts (.fieldLink RX8 93 "ShapeFitsModel" "bottom" "J") (List.mem_of_getElem? (i := 2) rfl)
  have in_X8 : ∀ w ∈ u_ws RX8 TX8 24, w ∈ wsX8_lowers := by decide +kernel
  refine lv_lload_n hx hb dX8_lowers_0 rfl (lv_at hl 1 rfl) ?_
  refine lv_lload_n hx hb dX8_lowers_1 rfl (lv_at hl 2 rfl) ?_
  refine g_callSl G X (rest := []) (As := [.long (lI (n)), .long (lI (d))]) (t_X8_divisor l Y (σ) (n) (d) (by first | assumption | omega) (by first | assumption | omega)) (va_cwS 2 hts gX8_lowers_X8_divisor rfl rfl rfl (by decide +kernel) ⟨Nat.le_of_ble_eq_true rfl, Nat.le_of_ble_eq_true rfl⟩) rfl hl.1 rfl (Nat.le_of_ble_eq_true rfl) dX8_lowers_2 ⟨Nat.le_refl _, Nat.le_refl _⟩ (fun z2 u2 H locs hq2 X => ?_)
  rw [hq2.1] at X
  have hq2 := hq2.2
  try dsimp only at hq2
  refine g_topl (z' := gcdI n d) hq2 ?_
  refine lv_lstore (lv' := [(5, .long (lI ((gcdI n d)))), (0, .ref (Y.2.1 (0))), (1, .long (lI (n))), (3, .long (lI (d)))]) hx hb dX8_lowers_5 hl (by decide) rfl (fun ls hl => ?_)
  refine lv_aload_n hx hb dX8_lowers_7 rfl (lv_at hl 1 rfl) ?_
  refine lv_lload_n hx hb dX8_lowers_8 rfl (lv_at hl 2 rfl) ?_
  refine lv_lload hx hb dX8_lowers_9 (lv_at hl 0 rfl) ?_
  refine g_ldiv G (by omega) (by omega) dX8_lowers_11 ?_
  refine g_topl (z' := low n d 0) e0 ?_
  refine g_putl G X (k := 0) (fs := fM Y) (z := (low n d 0)) (Nat.le_of_ble_eq_true rfl) (fun _ => rfl) rfl in_X8 tyX8 tyX8_ok nmX8 18 18 (by decide) l_f89 rfl rfl (by decide +kernel) (Nat.le_of_ble_eq_true rfl) (fun _ => rfl) dX8_lowers_12 (fun H locs X => ?_)
  refine lv_aload_n hx hb dX8_lowers_15 rfl (lv_at hl 1 rfl) ?_
  refine lv_lload_n hx hb dX8_lowers_16 rfl (lv_at hl 3 rfl) ?_
  refine lv_lload hx hb dX8_lowers_17 (lv_at hl 0 rfl) ?_
  refine g_ldiv G (by omega) (by omega) dX8_lowers_19 ?_
  refine g_topl (z' := low n d 1) e1 ?_
  refine g_putl G X (k := 0) (fs := fM Y) (z := (low n d 1)) (Nat.le_of_ble_eq_true rfl) (fun _ => rfl) rfl in_X8 tyX8 tyX8_ok nmX8 19 19 (by decide) l_f93 rfl rfl (by decide +kernel) (Nat.le_of_ble_eq_true rfl) (fun _ => rfl) dX8_lowers_20 (fun H locs X => ?_)
  exact hret _ _ _ _ _ (⟨(up_nj (by omega)).trans (up_same _ _ _ _), up_same _ _ _ _, (Fr.rf.fl (Or.inl rfl)).fl (Or.inr rfl)⟩) X dX8_lowers_23

set_option maxHeartbeats 4000000 in
set_option maxRecDepth 100000 in
theorem t_X8_tells (l : Launch) (Y : Yt) (σ : Mem) (w : Int) (hw0 : -2147483648 ≤ w ∧ w ≤ 2147483647) : MXl l LM Y yX8_tells wsX8_tells { frames := 0, cells := 0, slots := 0, locals := 0 } [.ref (Y.2.1 (0)), .int (iI (w))] σ (fun z u => u = σ ∧ (z = if w = 0 then σ 0 18 else σ 0 19)) := by
  refine g_startl (cc := cX8_tells) (nL := 2) (own := RX8) (by decide) rfl rfl (Nat.le_of_ble_eq_true rfl) ?_
  intro pp ee ss mm bw mt cd AA ZZ ls G hret X hl
  have hl : lv_has ls 2 [(0, .ref (Y.2.1 (0))), (1, .int (iI (w)))] := hl
  have hx := G.1
  have hb := G.2.1
  have hts := G.2.2.2.2.1
  have l_f89 := hts (.fieldLink RX8 89 "ShapeFitsModel" "top" "J") (List.mem_of_getElem? (i := 1) rfl)
  have l_f93 := hts (.fieldLink RX8 93 "ShapeFitsModel" "bottom" "J") (List.mem_of_getElem? (i := 2) rfl)
  have in_X8 : ∀ w ∈ u_ws RX8 TX8 24, w ∈ wsX8_tells := by decide +kernel
  refine lv_iload_n hx hb dX8_tells_0 rfl (lv_at hl 1 rfl) ?_
  refine g_if_ne (tgt := 11) G dX8_tells_1 (by decide) (by omega) (fun h1 => ?_) (fun h1 => ?_)
  ·
    refine lv_aload_n hx hb dX8_tells_11 rfl (lv_at hl 0 rfl) ?_
    refine g_get G X (k := 0) (fs := fM Y) (Nat.le_of_ble_eq_true rfl) (fun _ => rfl) rfl in_X8 19 (by decide) l_f93 rfl (v := .long (lI ((σ 0 19)))) rfl dX8_tells_12 ?_
    refine g_topl (z' := (if w = 0 then σ 0 18 else σ 0 19)) (by first | exact (if_pos (by omega)).symm | exact (if_neg (by omega)).symm) ?_
    exact hret _ _ _ _ _ _ (⟨rfl, rfl⟩) X dX8_tells_15
  ·
    refine lv_aload_n hx hb dX8_tells_4 rfl (lv_at hl 0 rfl) ?_
    refine g_get G X (k := 0) (fs := fM Y) (Nat.le_of_ble_eq_true rfl) (fun _ => rfl) rfl in_X8 18 (by decide) l_f89 rfl (v := .long (lI ((σ 0 18)))) rfl dX8_tells_5 ?_
    refine lv_goto (tgt := 15) hx hb dX8_tells_8 (by decide) ?_
    refine g_topl (z' := (if w = 0 then σ 0 18 else σ 0 19)) (by first | exact (if_pos (by omega)).symm | exact (if_neg (by omega)).symm) ?_
    exact hret _ _ _ _ _ _ (⟨rfl, rfl⟩) X dX8_tells_15

set_option maxHeartbeats 4000000 in
set_option maxRecDepth 100000 in
theorem t_X8_compared (l : Launch) (Y : Yt) (σ : Mem) (a : Int) (b : Int) (c2 : Int) (d : Int)  : MXi l LM Y yX8_compared wsX8_compared { frames := 0, cells := 0, slots := 0, locals := 0 } [.int (iI (a)), .int (iI (b)), .int (iI (c2)), .int (iI (d))] σ (fun z u => u = σ ∧ (z = a * d - c2 * b)) := by
  refine g_starti (rty := .int) (fun _ _ _ => rfl) (cc := cX8_compared) (nL := 4) (own := RX8) (by decide) rfl rfl (Nat.le_of_ble_eq_true rfl) ?_
  intro pp ee ss mm bw mt cd AA ZZ ls G hret X hl
  have hl : lv_has ls 4 [(0, .int (iI (a))), (1, .int (iI (b))), (2, .int (iI (c2))), (3, .int (iI (d)))] := hl
  have hx := G.1
  have hb := G.2.1
  have hts := G.2.2.2.2.1
  refine lv_iload_n hx hb dX8_compared_0 rfl (lv_at hl 0 rfl) ?_
  refine lv_iload_n hx hb dX8_compared_1 rfl (lv_at hl 3 rfl) ?_
  refine g_imul G dX8_compared_2 ?_
  refine lv_iload_n hx hb dX8_compared_3 rfl (lv_at hl 2 rfl) ?_
  refine lv_iload_n hx hb dX8_compared_4 rfl (lv_at hl 1 rfl) ?_
  refine g_imul G dX8_compared_5 ?_
  refine g_isub G dX8_compared_6 ?_
  exact hret _ _ _ _ _ _ (⟨rfl, rfl⟩) X dX8_compared_7

set_option maxHeartbeats 4000000 in
set_option maxRecDepth 100000 in
theorem t_X8_poolsFrom (l : Launch) (Y : Yt) (σ : Mem) (P : List Pt) (g : Int) (side : Int) (base : Int) (a : Int) (B : List Int) (stk : List Int) (hMG : MG σ P) (hs : side = 1 ∨ side = -1) (hgr : (0 ≤ a ∧ a ≤ g) ∧ g < ng P) (hbs : base = B.length ∧ (B.length : Int) ≤ a) (hst0 : Stk a g stk) (hB : MBlk σ (gW P) (gM P) (B ++ stk.reverse) g) : MXv l LM Y yX8_poolsFrom wsX8_poolsFrom { frames := 1, cells := 0, slots := 0, locals := 23 } [.ref (Y.2.1 (0)), .int (iI (g)), .int (iI (side)), .int (iI (base))] σ (fun u => MBlk u (gW P) (gM P) (B ++ (popL side (gW P) (gM P) stk g g).reverse) (g + 1) ∧ Fr 9 11 12 12 σ u) := by
  obtain ⟨hP, hok, hG⟩ := id hMG
  have hPr := hMG.prof
  obtain ⟨⟨hn0, hn12, hW0, hM0, hW24⟩, hstep, hXa, hXr⟩ := id hPr
  have hgg := hG.2 g (by omega) (by omega)
  have hxx := hgr
  refine g_startv (cc := cX8_poolsFrom) (nL := 7) (own := RX8) (by decide) rfl rfl (Nat.le_of_ble_eq_true rfl) ?_
  intro pp ee ss mm bw mt cd AA ZZ ls G hret X hl
  have hl : lv_has ls 7 [(0, .ref (Y.2.1 (0))), (1, .int (iI (g))), (2, .int (iI (side))), (3, .int (iI (base)))] := hl
  have hx := G.1
  have hb := G.2.1
  have hts := G.2.2.2.2.1
  have l_f29 := hts (.fieldLink RX8 29 "ShapeFitsModel" "weight" "[I") (List.mem_of_getElem? (i := 2) rfl)
  have l_f32 := hts (.fieldLink RX8 32 "ShapeFitsModel" "moment" "[I") (List.mem_of_getElem? (i := 1) rfl)
  have l_f35 := hts (.fieldLink RX8 35 "ShapeFitsModel" "first" "[I") (List.mem_of_getElem? (i := 6) rfl)
  have l_f38 := hts (.fieldLink RX8 38 "ShapeFitsModel" "blockWeight" "[I") (List.mem_of_getElem? (i := 5) rfl)
  have l_f41 := hts (.fieldLink RX8 41 "ShapeFitsModel" "blockMoment" "[I") (List.mem_of_getElem? (i := 4) rfl)
  have l_f96 := hts (.fieldLink RX8 96 "ShapeFitsModel" "blocks" "I") (List.mem_of_getElem? (i := 3) rfl)
  have in_X8 : ∀ w ∈ u_ws RX8 TX8 24, w ∈ wsX8_poolsFrom := by decide +kernel
  refine lv_aload_n hx hb dX8_poolsFrom_0 rfl (lv_at hl 0 rfl) ?_
  refine g_get G X (k := 0) (fs := fM Y) (Nat.le_of_ble_eq_true rfl) (fun _ => rfl) rfl in_X8 11 (by decide) l_f32 rfl (v := .ref (Y.2.1 (8))) rfl dX8_poolsFrom_1 ?_
  refine lv_iload_n hx hb dX8_poolsFrom_4 rfl (lv_at hl 1 rfl) ?_
  refine g_iald G X (k := 8) (n := 12) (Nat.le_of_ble_eq_true rfl) (fun _ => rfl) (by decide) (z := g) (by omega) dX8_poolsFrom_5 ?_
  refine g_topi (z' := gM P (g + 1) - gM P g) hgg.2.2 ?_
  refine lv_istore (lv' := [(4, .int (iI ((gM P (g + 1) - gM P g)))), (0, .ref (Y.2.1 (0))), (1, .int (iI (g))), (2, .int (iI (side))), (3, .int (iI (base)))]) hx hb dX8_poolsFrom_6 hl (by decide) rfl (fun ls hl => ?_)
  refine lv_aload_n hx hb dX8_poolsFrom_8 rfl (lv_at hl 1 rfl) ?_
  refine g_get G X (k := 0) (fs := fM Y) (Nat.le_of_ble_eq_true rfl) (fun _ => rfl) rfl in_X8 10 (by decide) l_f29 rfl (v := .ref (Y.2.1 (7))) rfl dX8_poolsFrom_9 ?_
  refine lv_iload_n hx hb dX8_poolsFrom_12 rfl (lv_at hl 2 rfl) ?_
  refine g_iald G X (k := 7) (n := 12) (Nat.le_of_ble_eq_true rfl) (fun _ => rfl) (by decide) (z := g) (by omega) dX8_poolsFrom_13 ?_
  refine g_topi (z' := gW P (g + 1) - gW P g) hgg.2.1 ?_
  refine lv_istore (lv' := [(5, .int (iI ((gW P (g + 1) - gW P g)))), (4, .int (iI ((gM P (g + 1) - gM P g)))), (0, .ref (Y.2.1 (0))), (1, .int (iI (g))), (2, .int (iI (side))), (3, .int (iI (base)))]) hx hb dX8_poolsFrom_14 hl (by decide) rfl (fun ls hl => ?_)
  refine lv_iload_n hx hb dX8_poolsFrom_16 rfl (lv_at hl 3 rfl) ?_
  refine lv_istore (lv' := [(6, .int (iI (g))), (5, .int (iI ((gW P (g + 1) - gW P g)))), (4, .int (iI ((gM P (g + 1) - gM P g)))), (0, .ref (Y.2.1 (0))), (1, .int (iI (g))), (2, .int (iI (side))), (3, .int (iI (base)))]) hx hb dX8_poolsFrom_17 hl (by decide) rfl (fun ls hl => ?_)
  have lp_19 : ∀ (nn : Nat) (s : Int) (k2 : List Int) (ρ : Mem), ∀ hJ : MBlk ρ (gW P) (gM P) (B ++ k2.reverse) s, ∀ hst : Stk a s k2, ∀ hsg : a ≤ s ∧ s ≤ g, ∀ hpl : popL side (gW P) (gM P) stk g g = popL side (gW P) (gM P) k2 s g, ∀ hF : Fr 9 11 12 12 σ ρ, ∀ hdec : (k2.length : Int) < (nn : Int), ∀ (H : Heap) (locs : List Loc) (ls : Array Slot), wx LM Y ρ ss AA H locs → lv_has ls 7 [(0, .ref (Y.2.1 (0))), (1, .int (iI (g))), (2, .int (iI (side))), (3, .int (iI (base))), (4, .int (iI ((gM P (g + 1) - gM P s)))), (5, .int (iI ((gW P (g + 1) - gW P s)))), (6, .int (iI (s)))] → W pp l ee { frames := 1, cells := 0, slots := 0, locals := 23 } ss mm ([.ref (Y.2.1 (0)), .int (iI (g)), .int (iI (side)), .int (iI (base))] : List Value).toArray bw mt cd H locs 0 0 ZZ (F0 mm 19 ls []) := by
    intro nn
    induction nn with
    | zero =>
      intro s k2 ρ hJ hst hsg hpl hF hdec
      exact absurd hdec (by omega)
    | succ nn ih_19 =>
      intro s k2 ρ hJ hst hsg hpl hF hdec H locs ls X hl
      have hcn := mblk_len hJ
      have hln2 := hst.len
      refine lv_aload_n hx hb dX8_poolsFrom_19 rfl (lv_at hl 0 rfl) ?_
      refine g_get G X (k := 0) (fs := fM Y) (Nat.le_of_ble_eq_true rfl) (fun _ => rfl) rfl in_X8 12 (by decide) l_f96 rfl (v := .int (iI ((ρ 0 12)))) rfl dX8_poolsFrom_20 ?_
      refine lv_iload_n hx hb dX8_poolsFrom_23 rfl (lv_at hl 3 rfl) ?_
      refine g_icmp_le (tgt := 113) G dX8_poolsFrom_24 (by decide) (by omega) (by omega) (fun h24 => ?_) (fun h24 => ?_)
      ·
        have hpe : popL side (gW P) (gM P) k2 s g = s :: k2 := by { cases k2 with | nil => rfl | cons b0 bs0 => simp at hcn; omega }
        obtain ⟨C, hC⟩ : ∃ C, C = B ++ (k2).reverse := ⟨_, rfl⟩
        have hJC : MBlk ρ (gW P) (gM P) C s := by rw [hC]; exact hJ
        have hCl : (C.length : Int) = B.length + (k2).length := by rw [hC]; simp
        have hfin : C ++ [s] = B ++ (popL side (gW P) (gM P) stk g g).reverse := by rw [hpl, hpe, hC, List.reverse_cons (a := s), ← List.append_assoc]
        have hJl := hJC.1
        refine lv_aload_n hx hb dX8_poolsFrom_113 rfl (lv_at hl 0 rfl) ?_
        refine g_get G X (k := 0) (fs := fM Y) (Nat.le_of_ble_eq_true rfl) (fun _ => rfl) rfl in_X8 13 (by decide) l_f35 rfl (v := .ref (Y.2.1 (9))) rfl dX8_poolsFrom_114 ?_
        refine lv_aload_n hx hb dX8_poolsFrom_117 rfl (lv_at hl 0 rfl) ?_
        refine g_get G X (k := 0) (fs := fM Y) (Nat.le_of_ble_eq_true rfl) (fun _ => rfl) rfl in_X8 12 (by decide) l_f96 rfl (v := .int (iI ((ρ 0 12)))) rfl dX8_poolsFrom_118 ?_
        refine g_topi (z' := (C.length : Int)) hJl ?_
        refine lv_iload hx hb dX8_poolsFrom_121 (lv_at hl 6 rfl) ?_
        refine g_iast G X (k := 9) (n := 14) (Nat.le_of_ble_eq_true rfl) (fun _ => rfl) (by decide) (z := (C.length : Int)) (v := s) (by omega) dX8_poolsFrom_123 (fun H locs X => ?_)
        refine lv_aload_n hx hb dX8_poolsFrom_124 rfl (lv_at hl 0 rfl) ?_
        refine g_get G X (k := 0) (fs := fM Y) (Nat.le_of_ble_eq_true rfl) (fun _ => rfl) rfl in_X8 15 (by decide) l_f41 rfl (v := .ref (Y.2.1 (11))) rfl dX8_poolsFrom_125 ?_
        refine lv_aload_n hx hb dX8_poolsFrom_128 rfl (lv_at hl 0 rfl) ?_
        refine g_get G X (k := 0) (fs := fM Y) (Nat.le_of_ble_eq_true rfl) (fun _ => rfl) rfl in_X8 12 (by decide) l_f96 rfl (v := .int (iI ((ρ 0 12)))) rfl dX8_poolsFrom_129 ?_
        refine g_topi (z' := (C.length : Int)) hJl ?_
        refine lv_iload hx hb dX8_poolsFrom_132 (lv_at hl 4 rfl) ?_
        refine g_iast G X (k := 11) (n := 13) (Nat.le_of_ble_eq_true rfl) (fun _ => rfl) (by decide) (z := (C.length : Int)) (v := (gM P (g + 1) - gM P s)) (by omega) dX8_poolsFrom_134 (fun H locs X => ?_)
        refine lv_aload_n hx hb dX8_poolsFrom_135 rfl (lv_at hl 0 rfl) ?_
        refine g_get G X (k := 0) (fs := fM Y) (Nat.le_of_ble_eq_true rfl) (fun _ => rfl) rfl in_X8 14 (by decide) l_f38 rfl (v := .ref (Y.2.1 (10))) rfl dX8_poolsFrom_136 ?_
        refine lv_aload_n hx hb dX8_poolsFrom_139 rfl (lv_at hl 0 rfl) ?_
        refine g_get G X (k := 0) (fs := fM Y) (Nat.le_of_ble_eq_true rfl) (fun _ => rfl) rfl in_X8 12 (by decide) l_f96 rfl (v := .int (iI ((ρ 0 12)))) rfl dX8_poolsFrom_140 ?_
        refine g_topi (z' := (C.length : Int)) hJl ?_
        refine lv_iload hx hb dX8_poolsFrom_143 (lv_at hl 5 rfl) ?_
        refine g_iast G X (k := 10) (n := 13) (Nat.le_of_ble_eq_true rfl) (fun _ => rfl) (by decide) (z := (C.length : Int)) (v := (gW P (g + 1) - gW P s)) (by omega) dX8_poolsFrom_145 (fun H locs X => ?_)
        refine lv_aload_n hx hb dX8_poolsFrom_146 rfl (lv_at hl 0 rfl) ?_
        refine lv_dup hx hb dX8_poolsFrom_147 rfl ?_
        refine g_get G X (k := 0) (fs := fM Y) (Nat.le_of_ble_eq_true rfl) (fun _ => rfl) rfl in_X8 12 (by decide) l_f96 rfl (v := .int (iI ((ρ 0 12)))) rfl dX8_poolsFrom_148 ?_
        refine g_topi (z' := (C.length : Int)) hJl ?_
        refine lv_iconst (v := iI 1) hx hb dX8_poolsFrom_151 rfl ?_
        refine g_iadd G dX8_poolsFrom_152 ?_
        refine g_puti G X (k := 0) (fs := fM Y) (z := ((C.length : Int) + 1)) (Nat.le_of_ble_eq_true rfl) (fun _ => rfl) rfl in_X8 tyX8 tyX8_ok nmX8 12 12 (by decide) l_f96 rfl rfl (by decide +kernel) (Nat.le_of_ble_eq_true rfl) (fun _ => rfl) dX8_poolsFrom_153 (fun H locs X => ?_)
        exact hret _ _ _ _ _ (⟨by rw [← hfin]; exact mblk_push hJC rfl rfl, (((hF.pl (by omega)).pl (by omega)).pl (by omega)).fl (Or.inl rfl)⟩) X dX8_poolsFrom_156
      ·
        obtain ⟨b0, bs, rfl⟩ : ∃ b0 bs, k2 = b0 :: bs := by { cases k2 with | nil => simp at hcn; omega | cons b0 bs => exact ⟨b0, bs, rfl⟩ }
        have hlr : (b0 :: bs).length = bs.length + 1 := rfl
        obtain ⟨x0, hx0⟩ : ∃ x0 : Int, x0 = (B.length : Int) + bs.length := ⟨_, rfl⟩
        obtain ⟨⟨hb9, hb10, hb11⟩, hJ2⟩ := mblk_top hJ hx0
        have hst1 := hst.1
        have hst2 := hst.2.1
        refine lv_iload_n hx hb dX8_poolsFrom_27 rfl (lv_at hl 2 rfl) ?_
        refine lv_aload_n hx hb dX8_poolsFrom_28 rfl (lv_at hl 0 rfl) ?_
        refine g_get G X (k := 0) (fs := fM Y) (Nat.le_of_ble_eq_true rfl) (fun _ => rfl) rfl in_X8 15 (by decide) l_f41 rfl (v := .ref (Y.2.1 (11))) rfl dX8_poolsFrom_29 ?_
        refine lv_aload_n hx hb dX8_poolsFrom_32 rfl (lv_at hl 0 rfl) ?_
        refine g_get G X (k := 0) (fs := fM Y) (Nat.le_of_ble_eq_true rfl) (fun _ => rfl) rfl in_X8 12 (by decide) l_f96 rfl (v := .int (iI ((ρ 0 12)))) rfl dX8_poolsFrom_33 ?_
        refine lv_iconst (v := iI 1) hx hb dX8_poolsFrom_36 rfl ?_
        refine g_isub G dX8_poolsFrom_37 ?_
        refine g_topi (z' := x0) (by omega) ?_
        refine g_iald G X (k := 11) (n := 13) (Nat.le_of_ble_eq_true rfl) (fun _ => rfl) (by decide) (z := x0) (by omega) dX8_poolsFrom_38 ?_
        refine g_topi (z' := gM P s - gM P b0) hb11 ?_
        refine lv_aload_n hx hb dX8_poolsFrom_39 rfl (lv_at hl 0 rfl) ?_
        refine g_get G X (k := 0) (fs := fM Y) (Nat.le_of_ble_eq_true rfl) (fun _ => rfl) rfl in_X8 14 (by decide) l_f38 rfl (v := .ref (Y.2.1 (10))) rfl dX8_poolsFrom_40 ?_
        refine lv_aload_n hx hb dX8_poolsFrom_43 rfl (lv_at hl 0 rfl) ?_
        refine g_get G X (k := 0) (fs := fM Y) (Nat.le_of_ble_eq_true rfl) (fun _ => rfl) rfl in_X8 12 (by decide) l_f96 rfl (v := .int (iI ((ρ 0 12)))) rfl dX8_poolsFrom_44 ?_
        refine lv_iconst (v := iI 1) hx hb dX8_poolsFrom_47 rfl ?_
        refine g_isub G dX8_poolsFrom_48 ?_
        refine g_topi (z' := x0) (by omega) ?_
        refine g_iald G X (k := 10) (n := 13) (Nat.le_of_ble_eq_true rfl) (fun _ => rfl) (by decide) (z := x0) (by omega) dX8_poolsFrom_49 ?_
        refine g_topi (z' := gW P s - gW P b0) hb10 ?_
        refine lv_iload hx hb dX8_poolsFrom_50 (lv_at hl 4 rfl) ?_
        refine lv_iload hx hb dX8_poolsFrom_52 (lv_at hl 5 rfl) ?_
        refine g_callSi G X (rest := [.int (iI (side))]) (As := [.int (iI ((gM P s - gM P b0))), .int (iI ((gW P s - gW P b0))), .int (iI ((gM P (g + 1) - gM P s))), .int (iI ((gW P (g + 1) - gW P s)))]) (t_X8_compared l Y (ρ) ((gM P s - gM P b0)) ((gW P s - gW P b0)) ((gM P (g + 1) - gM P s)) ((gW P (g + 1) - gW P s))) (va_cwS 4 hts gX8_poolsFrom_X8_compared rfl rfl rfl (by decide +kernel) ⟨Nat.le_of_ble_eq_true rfl, Nat.le_of_ble_eq_true rfl⟩) rfl hl.1 rfl (Nat.le_of_ble_eq_true rfl) dX8_poolsFrom_54 ⟨Nat.le_refl _, Nat.le_refl _⟩ (fun z54 u54 H locs hq54 X => ?_)
        rw [hq54.1] at X
        have hq54 := hq54.2
        try dsimp only at hq54
        refine g_topi (z' := cmpM (gW P) (gM P) b0 (s - 1) s g) (by rw [hq54]; unfold cmpM; rw [show s - 1 + 1 = s by omega]) ?_
        refine g_imul G dX8_poolsFrom_57 ?_
        have hmr : -114048 ≤ (side * (cmpM (gW P) (gM P) b0 (s - 1) s g)) ∧ (side * (cmpM (gW P) (gM P) b0 (s - 1) s g)) ≤ 114048 := by have := cmpM_rg hPr (a := b0) (b := s - 1) (c := s) (d := g) (by omega) (by omega); rcases hs with rfl | rfl <;> omega
        refine g_if_lt (tgt := 113) G dX8_poolsFrom_58 (by decide) (by omega) (fun h58 => ?_) (fun h58 => ?_)
        ·
          have hpe : popL side (gW P) (gM P) (b0 :: bs) s g = s :: b0 :: bs := popL_stop (by omega)
          obtain ⟨C, hC⟩ : ∃ C, C = B ++ (b0 :: bs).reverse := ⟨_, rfl⟩
          have hJC : MBlk ρ (gW P) (gM P) C s := by rw [hC]; exact hJ
          have hCl : (C.length : Int) = B.length + (b0 :: bs).length := by rw [hC]; simp
          have hfin : C ++ [s] = B ++ (popL side (gW P) (gM P) stk g g).reverse := by rw [hpl, hpe, hC, List.reverse_cons (a := s), ← List.append_assoc]
          have hJl := hJC.1
          refine lv_aload_n hx hb dX8_poolsFrom_113 rfl (lv_at hl 0 rfl) ?_
          refine g_get G X (k := 0) (fs := fM Y) (Nat.le_of_ble_eq_true rfl) (fun _ => rfl) rfl in_X8 13 (by decide) l_f35 rfl (v := .ref (Y.2.1 (9))) rfl dX8_poolsFrom_114 ?_
          refine lv_aload_n hx hb dX8_poolsFrom_117 rfl (lv_at hl 0 rfl) ?_
          refine g_get G X (k := 0) (fs := fM Y) (Nat.le_of_ble_eq_true rfl) (fun _ => rfl) rfl in_X8 12 (by decide) l_f96 rfl (v := .int (iI ((ρ 0 12)))) rfl dX8_poolsFrom_118 ?_
          refine g_topi (z' := (C.length : Int)) hJl ?_
          refine lv_iload hx hb dX8_poolsFrom_121 (lv_at hl 6 rfl) ?_
          refine g_iast G X (k := 9) (n := 14) (Nat.le_of_ble_eq_true rfl) (fun _ => rfl) (by decide) (z := (C.length : Int)) (v := s) (by omega) dX8_poolsFrom_123 (fun H locs X => ?_)
          refine lv_aload_n hx hb dX8_poolsFrom_124 rfl (lv_at hl 0 rfl) ?_
          refine g_get G X (k := 0) (fs := fM Y) (Nat.le_of_ble_eq_true rfl) (fun _ => rfl) rfl in_X8 15 (by decide) l_f41 rfl (v := .ref (Y.2.1 (11))) rfl dX8_poolsFrom_125 ?_
          refine lv_aload_n hx hb dX8_poolsFrom_128 rfl (lv_at hl 0 rfl) ?_
          refine g_get G X (k := 0) (fs := fM Y) (Nat.le_of_ble_eq_true rfl) (fun _ => rfl) rfl in_X8 12 (by decide) l_f96 rfl (v := .int (iI ((ρ 0 12)))) rfl dX8_poolsFrom_129 ?_
          refine g_topi (z' := (C.length : Int)) hJl ?_
          refine lv_iload hx hb dX8_poolsFrom_132 (lv_at hl 4 rfl) ?_
          refine g_iast G X (k := 11) (n := 13) (Nat.le_of_ble_eq_true rfl) (fun _ => rfl) (by decide) (z := (C.length : Int)) (v := (gM P (g + 1) - gM P s)) (by omega) dX8_poolsFrom_134 (fun H locs X => ?_)
          refine lv_aload_n hx hb dX8_poolsFrom_135 rfl (lv_at hl 0 rfl) ?_
          refine g_get G X (k := 0) (fs := fM Y) (Nat.le_of_ble_eq_true rfl) (fun _ => rfl) rfl in_X8 14 (by decide) l_f38 rfl (v := .ref (Y.2.1 (10))) rfl dX8_poolsFrom_136 ?_
          refine lv_aload_n hx hb dX8_poolsFrom_139 rfl (lv_at hl 0 rfl) ?_
          refine g_get G X (k := 0) (fs := fM Y) (Nat.le_of_ble_eq_true rfl) (fun _ => rfl) rfl in_X8 12 (by decide) l_f96 rfl (v := .int (iI ((ρ 0 12)))) rfl dX8_poolsFrom_140 ?_
          refine g_topi (z' := (C.length : Int)) hJl ?_
          refine lv_iload hx hb dX8_poolsFrom_143 (lv_at hl 5 rfl) ?_
          refine g_iast G X (k := 10) (n := 13) (Nat.le_of_ble_eq_true rfl) (fun _ => rfl) (by decide) (z := (C.length : Int)) (v := (gW P (g + 1) - gW P s)) (by omega) dX8_poolsFrom_145 (fun H locs X => ?_)
          refine lv_aload_n hx hb dX8_poolsFrom_146 rfl (lv_at hl 0 rfl) ?_
          refine lv_dup hx hb dX8_poolsFrom_147 rfl ?_
          refine g_get G X (k := 0) (fs := fM Y) (Nat.le_of_ble_eq_true rfl) (fun _ => rfl) rfl in_X8 12 (by decide) l_f96 rfl (v := .int (iI ((ρ 0 12)))) rfl dX8_poolsFrom_148 ?_
          refine g_topi (z' := (C.length : Int)) hJl ?_
          refine lv_iconst (v := iI 1) hx hb dX8_poolsFrom_151 rfl ?_
          refine g_iadd G dX8_poolsFrom_152 ?_
          refine g_puti G X (k := 0) (fs := fM Y) (z := ((C.length : Int) + 1)) (Nat.le_of_ble_eq_true rfl) (fun _ => rfl) rfl in_X8 tyX8 tyX8_ok nmX8 12 12 (by decide) l_f96 rfl rfl (by decide +kernel) (Nat.le_of_ble_eq_true rfl) (fun _ => rfl) dX8_poolsFrom_153 (fun H locs X => ?_)
          exact hret _ _ _ _ _ (⟨by rw [← hfin]; exact mblk_push hJC rfl rfl, (((hF.pl (by omega)).pl (by omega)).pl (by omega)).fl (Or.inl rfl)⟩) X dX8_poolsFrom_156
        ·
          refine lv_aload_n hx hb dX8_poolsFrom_61 rfl (lv_at hl 0 rfl) ?_
          refine lv_dup hx hb dX8_poolsFrom_62 rfl ?_
          refine g_get G X (k := 0) (fs := fM Y) (Nat.le_of_ble_eq_true rfl) (fun _ => rfl) rfl in_X8 12 (by decide) l_f96 rfl (v := .int (iI ((ρ 0 12)))) rfl dX8_poolsFrom_63 ?_
          refine lv_iconst (v := iI 1) hx hb dX8_poolsFrom_66 rfl ?_
          refine g_isub G dX8_poolsFrom_67 ?_
          refine g_topi (z' := x0) (by omega) ?_
          refine g_puti G X (k := 0) (fs := fM Y) (z := x0) (Nat.le_of_ble_eq_true rfl) (fun _ => rfl) rfl in_X8 tyX8 tyX8_ok nmX8 12 12 (by decide) l_f96 rfl rfl (by decide +kernel) (Nat.le_of_ble_eq_true rfl) (fun _ => rfl) dX8_poolsFrom_68 (fun H locs X => ?_)
          refine lv_aload_n hx hb dX8_poolsFrom_71 rfl (lv_at hl 0 rfl) ?_
          refine g_get G X (k := 0) (fs := fM Y) (Nat.le_of_ble_eq_true rfl) (fun _ => rfl) rfl in_X8 13 (by decide) l_f35 rfl (v := .ref (Y.2.1 (9))) rfl dX8_poolsFrom_72 ?_
          refine lv_aload_n hx hb dX8_poolsFrom_75 rfl (lv_at hl 0 rfl) ?_
          refine g_get G X (k := 0) (fs := fM Y) (Nat.le_of_ble_eq_true rfl) (fun _ => rfl) rfl in_X8 12 (by decide) l_f96 rfl (v := .int (iI (x0))) rfl dX8_poolsFrom_76 ?_
          refine g_iald G X (k := 9) (n := 14) (Nat.le_of_ble_eq_true rfl) (fun _ => rfl) (by decide) (z := x0) (by omega) dX8_poolsFrom_79 ?_
          refine g_topi (z' := (ρ 9 x0)) rfl ?_
          refine g_topi (z' := b0) hb9 ?_
          refine lv_istore (lv' := [(6, .int (iI (b0))), (0, .ref (Y.2.1 (0))), (1, .int (iI (g))), (2, .int (iI (side))), (3, .int (iI (base))), (4, .int (iI ((gM P (g + 1) - gM P s)))), (5, .int (iI ((gW P (g + 1) - gW P s))))]) hx hb dX8_poolsFrom_80 hl (by decide) rfl (fun ls hl => ?_)
          refine lv_iload hx hb dX8_poolsFrom_82 (lv_at hl 5 rfl) ?_
          refine lv_aload_n hx hb dX8_poolsFrom_84 rfl (lv_at hl 1 rfl) ?_
          refine g_get G X (k := 0) (fs := fM Y) (Nat.le_of_ble_eq_true rfl) (fun _ => rfl) rfl in_X8 15 (by decide) l_f41 rfl (v := .ref (Y.2.1 (11))) rfl dX8_poolsFrom_85 ?_
          refine lv_aload_n hx hb dX8_poolsFrom_88 rfl (lv_at hl 1 rfl) ?_
          refine g_get G X (k := 0) (fs := fM Y) (Nat.le_of_ble_eq_true rfl) (fun _ => rfl) rfl in_X8 12 (by decide) l_f96 rfl (v := .int (iI (x0))) rfl dX8_poolsFrom_89 ?_
          refine g_iald G X (k := 11) (n := 13) (Nat.le_of_ble_eq_true rfl) (fun _ => rfl) (by decide) (z := x0) (by omega) dX8_poolsFrom_92 ?_
          refine g_topi (z' := (ρ 11 x0)) rfl ?_
          refine g_topi (z' := gM P s - gM P b0) hb11 ?_
          refine g_iadd G dX8_poolsFrom_93 ?_
          refine g_topi (z' := gM P (g + 1) - gM P b0) (by omega) ?_
          refine lv_istore (lv' := [(4, .int (iI ((gM P (g + 1) - gM P b0)))), (6, .int (iI (b0))), (0, .ref (Y.2.1 (0))), (1, .int (iI (g))), (2, .int (iI (side))), (3, .int (iI (base))), (5, .int (iI ((gW P (g + 1) - gW P s))))]) hx hb dX8_poolsFrom_94 hl (by decide) rfl (fun ls hl => ?_)
          refine lv_iload hx hb dX8_poolsFrom_96 (lv_at hl 6 rfl) ?_
          refine lv_aload_n hx hb dX8_poolsFrom_98 rfl (lv_at hl 2 rfl) ?_
          refine g_get G X (k := 0) (fs := fM Y) (Nat.le_of_ble_eq_true rfl) (fun _ => rfl) rfl in_X8 14 (by decide) l_f38 rfl (v := .ref (Y.2.1 (10))) rfl dX8_poolsFrom_99 ?_
          refine lv_aload_n hx hb dX8_poolsFrom_102 rfl (lv_at hl 2 rfl) ?_
          refine g_get G X (k := 0) (fs := fM Y) (Nat.le_of_ble_eq_true rfl) (fun _ => rfl) rfl in_X8 12 (by decide) l_f96 rfl (v := .int (iI (x0))) rfl dX8_poolsFrom_103 ?_
          refine g_iald G X (k := 10) (n := 13) (Nat.le_of_ble_eq_true rfl) (fun _ => rfl) (by decide) (z := x0) (by omega) dX8_poolsFrom_106 ?_
          refine g_topi (z' := (ρ 10 x0)) rfl ?_
          refine g_topi (z' := gW P s - gW P b0) hb10 ?_
          refine g_iadd G dX8_poolsFrom_107 ?_
          refine g_topi (z' := gW P (g + 1) - gW P b0) (by omega) ?_
          refine lv_istore (lv' := [(5, .int (iI ((gW P (g + 1) - gW P b0)))), (4, .int (iI ((gM P (g + 1) - gM P b0)))), (6, .int (iI (b0))), (0, .ref (Y.2.1 (0))), (1, .int (iI (g))), (2, .int (iI (side))), (3, .int (iI (base)))]) hx hb dX8_poolsFrom_108 hl (by decide) rfl (fun ls hl => ?_)
          refine lv_goto (tgt := 19) hx hb dX8_poolsFrom_110 (by decide) ?_
          exact ih_19 (b0) (bs) ((up ρ 0 12 x0)) hJ2 hst.2.2 (by omega) (by rw [hpl]; exact popL_go (by omega)) (hF.fl (Or.inl rfl)) (by omega) _ _ _ X (lv_sub hl [3, 4, 5, 6, 1, 0, 2] rfl)
  exact lp_19 (((((stk).length : Int) : Int).toNat + 1)) (g) (stk) (σ) hB hst0 (by omega) rfl Fr.rf (by omega) _ _ _ X (lv_sub hl [3, 4, 5, 6, 2, 1, 0] rfl)

set_option maxHeartbeats 4000000 in
set_option maxRecDepth 100000 in
theorem t_X8_rises (l : Launch) (Y : Yt) (σ : Mem) (P : List Pt) (a : Int) (b : Int) (side : Int) (B : List Int) (hMG : MG σ P) (hs : side = 1 ∨ side = -1) (hab : (0 ≤ a ∧ a ≤ b) ∧ b ≤ ng P) (hbs : (B.length : Int) ≤ a) (hB : MBlk σ (gW P) (gM P) B a) : MXv l LM Y yX8_rises wsX8_rises { frames := 2, cells := 0, slots := 0, locals := 49 } [.ref (Y.2.1 (0)), .int (iI (a)), .int (iI (b)), .int (iI (side))] σ (fun u => MBlk u (gW P) (gM P) (B ++ (poolL side (gW P) (gM P) a (b - a).toNat).reverse) b ∧ Fr 9 11 12 12 σ u) := by
  obtain ⟨hP, hok, hG⟩ := id hMG
  have hPr := hMG.prof
  obtain ⟨⟨hn0, hn12, hW0, hM0, hW24⟩, hstep, hXa, hXr⟩ := id hPr
  have hB1 := hB.1
  refine g_startv (cc := cX8_rises) (nL := 6) (own := RX8) (by decide) rfl rfl (Nat.le_of_ble_eq_true rfl) ?_
  intro pp ee ss mm bw mt cd AA ZZ ls G hret X hl
  have hl : lv_has ls 6 [(0, .ref (Y.2.1 (0))), (1, .int (iI (a))), (2, .int (iI (b))), (3, .int (iI (side)))] := hl
  have hx := G.1
  have hb := G.2.1
  have hts := G.2.2.2.2.1
  have l_f96 := hts (.fieldLink RX8 96 "ShapeFitsModel" "blocks" "I") (List.mem_of_getElem? (i := 1) rfl)
  have in_X8 : ∀ w ∈ u_ws RX8 TX8 24, w ∈ wsX8_rises := by decide +kernel
  refine lv_aload_n hx hb dX8_rises_0 rfl (lv_at hl 0 rfl) ?_
  refine g_get G X (k := 0) (fs := fM Y) (Nat.le_of_ble_eq_true rfl) (fun _ => rfl) rfl in_X8 12 (by decide) l_f96 rfl (v := .int (iI ((σ 0 12)))) rfl dX8_rises_1 ?_
  refine g_topi (z' := (B.length : Int)) hB1 ?_
  refine lv_istore (lv' := [(4, .int (iI ((B.length : Int)))), (0, .ref (Y.2.1 (0))), (1, .int (iI (a))), (2, .int (iI (b))), (3, .int (iI (side)))]) hx hb dX8_rises_4 hl (by decide) rfl (fun ls hl => ?_)
  refine lv_iload_n hx hb dX8_rises_6 rfl (lv_at hl 2 rfl) ?_
  refine lv_istore (lv' := [(5, .int (iI (a))), (4, .int (iI ((B.length : Int)))), (0, .ref (Y.2.1 (0))), (1, .int (iI (a))), (2, .int (iI (b))), (3, .int (iI (side)))]) hx hb dX8_rises_7 hl (by decide) rfl (fun ls hl => ?_)
  have lp_9 : ∀ (nn : Nat) (g : Int) (τ : Mem), ∀ hg : a ≤ g ∧ g ≤ b, ∀ hI : MBlk τ (gW P) (gM P) (B ++ (poolL side (gW P) (gM P) a (g - a).toNat).reverse) g, ∀ hF : Fr 9 11 12 12 σ τ, ∀ hdec : (b - g) < (nn : Int), ∀ (H : Heap) (locs : List Loc) (ls : Array Slot), wx LM Y τ ss AA H locs → lv_has ls 6 [(0, .ref (Y.2.1 (0))), (1, .int (iI (a))), (2, .int (iI (b))), (3, .int (iI (side))), (4, .int (iI ((B.length : Int)))), (5, .int (iI (g)))] → W pp l ee { frames := 2, cells := 0, slots := 0, locals := 49 } ss mm ([.ref (Y.2.1 (0)), .int (iI (a)), .int (iI (b)), .int (iI (side))] : List Value).toArray bw mt cd H locs 0 0 ZZ (F0 mm 9 ls []) := by
    intro nn
    induction nn with
    | zero =>
      intro g τ hg hI hF hdec
      exact absurd hdec (by omega)
    | succ nn ih_9 =>
      intro g τ hg hI hF hdec H locs ls X hl
      have hstk := poolL_stk (side := side) (W := gW P) (M := gM P) (a := a) (g - a).toNat
      rw [show a + ((g - a).toNat : Int) = g by omega] at hstk
      refine lv_iload hx hb dX8_rises_9 (lv_at hl 5 rfl) ?_
      refine lv_iload_n hx hb dX8_rises_11 rfl (lv_at hl 2 rfl) ?_
      refine g_icmp_ge (tgt := 30) G dX8_rises_12 (by decide) (by omega) (by omega) (fun h12 => ?_) (fun h12 => ?_)
      ·
        exact hret _ _ _ _ _ (⟨by rw [show b = g by omega]; exact hI, hF⟩) X dX8_rises_30
      ·
        refine lv_aload_n hx hb dX8_rises_15 rfl (lv_at hl 0 rfl) ?_
        refine lv_iload hx hb dX8_rises_16 (lv_at hl 5 rfl) ?_
        refine lv_iload_n hx hb dX8_rises_18 rfl (lv_at hl 3 rfl) ?_
        refine lv_iload hx hb dX8_rises_19 (lv_at hl 4 rfl) ?_
        refine g_callVv G X (rest := []) (As := [.int (iI (g)), .int (iI (side)), .int (iI ((B.length : Int)))]) (t_X8_poolsFrom l Y (τ) P (g) (side) ((B.length : Int)) (a) (B) (poolL side (gW P) (gM P) a (g - a).toNat) (hMG.fr hF (by omega) (by omega)) (by first | assumption | omega) (by first | assumption | omega) ⟨rfl, hbs⟩ hstk hI) (cwV 3 hts gX8_rises_X8_poolsFrom rfl rfl rfl (by decide +kernel) ⟨Nat.le_of_ble_eq_true rfl, Nat.le_of_ble_eq_true rfl⟩) (k := 0) (Nat.le_of_ble_eq_true rfl) rfl rfl rfl rfl hl.1 rfl (Nat.le_of_ble_eq_true rfl) dX8_rises_21 ⟨Nat.le_refl _, Nat.le_refl _⟩ (fun u21 H locs hq21 X => ?_)
        have hI3 : MBlk u21 (gW P) (gM P) (B ++ (poolL side (gW P) (gM P) a (g + 1 - a).toNat).reverse) (g + 1) := by { rw [show (g + 1 - a).toNat = (g - a).toNat + 1 by omega]; show MBlk u21 (gW P) (gM P) (B ++ (popL side (gW P) (gM P) (poolL side (gW P) (gM P) a (g - a).toNat) (a + ((g - a).toNat : Int)) (a + ((g - a).toNat : Int))).reverse) (g + 1); rw [show a + ((g - a).toNat : Int) = g by omega]; exact hq21.1 }
        refine lv_iinc (v := iI (g + 1)) (lv' := [(5, .int (iI ((g + 1)))), (0, .ref (Y.2.1 (0))), (1, .int (iI (a))), (2, .int (iI (b))), (3, .int (iI (side))), (4, .int (iI ((B.length : Int))))]) hx hb dX8_rises_24 hl (k := 5) rfl (iI_add _ _) (by decide) rfl (fun ls hl => ?_)
        refine lv_goto (tgt := 9) hx hb dX8_rises_27 (by decide) ?_
        exact ih_9 ((g + 1)) (u21) (by omega) hI3 (hF.trans hq21.2) (by omega) _ _ _ X (lv_sub hl [1, 2, 3, 4, 5, 0] rfl)
  exact lp_9 ((((b - (a)) : Int).toNat + 1)) (a) (σ) (by omega) (by rw [show (a - a).toNat = 0 by omega]; show MBlk σ (gW P) (gM P) (B ++ []) a; rw [List.append_nil]; exact hB) Fr.rf (by omega) _ _ _ X (lv_sub hl [2, 3, 4, 5, 1, 0] rfl)

set_option maxHeartbeats 4000000 in
set_option maxRecDepth 100000 in
theorem t_X8_joins (l : Launch) (Y : Yt) (σ : Mem) (P : List Pt) (B : List Int) (hMG : MG σ P) (hB : MBlk σ (gW P) (gM P) B (ng P)) (hAs : Asc (ng P) B) (hAd : AdjB (gW P) (gM P) B (ng P)) : MXv l LM Y yX8_joins wsX8_joins { frames := 1, cells := 0, slots := 0, locals := 23 } [.ref (Y.2.1 (0))] σ (fun u => MBlE u (gW P) (gM P) B (ng P) ∧ Fr 9 11 12 12 σ u) := by
  obtain ⟨hP, hok, hG⟩ := id hMG
  have hPr := hMG.prof
  obtain ⟨⟨hn0, hn12, hW0, hM0, hW24⟩, hstep, hXa, hXr⟩ := id hPr
  obtain ⟨hB1, hB2⟩ := id hB
  have hA3 := hAs.2.2.2
  refine g_startv (cc := cX8_joins) (nL := 3) (own := RX8) (by decide) rfl rfl (Nat.le_of_ble_eq_true rfl) ?_
  intro pp ee ss mm bw mt cd AA ZZ ls G hret X hl
  have hl : lv_has ls 3 [(0, .ref (Y.2.1 (0)))] := hl
  have hx := G.1
  have hb := G.2.1
  have hts := G.2.2.2.2.1
  have l_f35 := hts (.fieldLink RX8 35 "ShapeFitsModel" "first" "[I") (List.mem_of_getElem? (i := 4) rfl)
  have l_f38 := hts (.fieldLink RX8 38 "ShapeFitsModel" "blockWeight" "[I") (List.mem_of_getElem? (i := 3) rfl)
  have l_f41 := hts (.fieldLink RX8 41 "ShapeFitsModel" "blockMoment" "[I") (List.mem_of_getElem? (i := 2) rfl)
  have l_f72 := hts (.fieldLink RX8 72 "ShapeFitsModel" "groups" "I") (List.mem_of_getElem? (i := 5) rfl)
  have l_f96 := hts (.fieldLink RX8 96 "ShapeFitsModel" "blocks" "I") (List.mem_of_getElem? (i := 1) rfl)
  have in_X8 : ∀ w ∈ u_ws RX8 TX8 24, w ∈ wsX8_joins := by decide +kernel
  refine lv_iconst (v := iI 0) hx hb dX8_joins_0 rfl ?_
  refine lv_istore_n (lv' := [(1, .int (iI (0))), (0, .ref (Y.2.1 (0)))]) hx hb dX8_joins_1 rfl hl (by decide) rfl (fun ls hl => ?_)
  refine lv_iconst (v := iI 0) hx hb dX8_joins_2 rfl ?_
  refine lv_istore_n (lv' := [(2, .int (iI (0))), (1, .int (iI (0))), (0, .ref (Y.2.1 (0)))]) hx hb dX8_joins_3 rfl hl (by decide) rfl (fun ls hl => ?_)
  have lp_4 : ∀ (nn : Nat) (k : Int), ∀ hk : 0 ≤ k ∧ k ≤ B.length, ∀ hdec : (B.length - k) < (nn : Int), ∀ (H : Heap) (locs : List Loc) (ls : Array Slot), wx LM Y σ ss AA H locs → lv_has ls 3 [(0, .ref (Y.2.1 (0))), (1, .int (iI (k))), (2, .int (iI (k)))] → W pp l ee { frames := 1, cells := 0, slots := 0, locals := 23 } ss mm ([.ref (Y.2.1 (0))] : List Value).toArray bw mt cd H locs 0 0 ZZ (F0 mm 4 ls []) := by
    intro nn
    induction nn with
    | zero =>
      intro k hk hdec
      exact absurd hdec (by omega)
    | succ nn ih_4 =>
      intro k hk hdec H locs ls X hl
      refine lv_iload_n hx hb dX8_joins_4 rfl (lv_at hl 2 rfl) ?_
      refine lv_aload_n hx hb dX8_joins_5 rfl (lv_at hl 0 rfl) ?_
      refine g_get G X (k := 0) (fs := fM Y) (Nat.le_of_ble_eq_true rfl) (fun _ => rfl) rfl in_X8 12 (by decide) l_f96 rfl (v := .int (iI ((σ 0 12)))) rfl dX8_joins_6 ?_
      refine g_topi (z' := (B.length : Int)) hB1 ?_
      refine g_icmp_ge (tgt := 132) G dX8_joins_9 (by decide) (by omega) (by omega) (fun h9 => ?_) (fun h9 => ?_)
      ·
        refine lv_aload_n hx hb dX8_joins_132 rfl (lv_at hl 0 rfl) ?_
        refine lv_iload_n hx hb dX8_joins_133 rfl (lv_at hl 1 rfl) ?_
        refine g_puti G X (k := 0) (fs := fM Y) (z := k) (Nat.le_of_ble_eq_true rfl) (fun _ => rfl) rfl in_X8 tyX8 tyX8_ok nmX8 12 12 (by decide) l_f96 rfl rfl (by decide +kernel) (Nat.le_of_ble_eq_true rfl) (fun _ => rfl) dX8_joins_134 (fun H locs X => ?_)
        have X := (show (up σ 0 12 k) = σ from (by have e : k = σ 0 12 := (by omega); rw [e]; exact up_id _ _ _)) ▸ X
        refine lv_aload_n hx hb dX8_joins_137 rfl (lv_at hl 0 rfl) ?_
        refine g_get G X (k := 0) (fs := fM Y) (Nat.le_of_ble_eq_true rfl) (fun _ => rfl) rfl in_X8 13 (by decide) l_f35 rfl (v := .ref (Y.2.1 (9))) rfl dX8_joins_138 ?_
        refine lv_iload_n hx hb dX8_joins_141 rfl (lv_at hl 1 rfl) ?_
        refine lv_aload_n hx hb dX8_joins_142 rfl (lv_at hl 0 rfl) ?_
        refine g_get G X (k := 0) (fs := fM Y) (Nat.le_of_ble_eq_true rfl) (fun _ => rfl) rfl in_X8 8 (by decide) l_f72 rfl (v := .int (iI ((σ 0 8)))) rfl dX8_joins_143 ?_
        refine g_topi (z' := ng P) hG.1 ?_
        refine g_iast G X (k := 9) (n := 14) (Nat.le_of_ble_eq_true rfl) (fun _ => rfl) (by decide) (z := k) (v := (ng P)) (by omega) dX8_joins_146 (fun H locs X => ?_)
        exact hret _ _ _ _ _ (⟨mble_set hB (by omega), Fr.rf.pl (by omega)⟩) X dX8_joins_147
      ·
        have hbk := hB2 k (by omega) (by omega)
        have hbr := bEnd_rg hAs (j := k) (by omega) (by omega)
        refine lv_iload_n hx hb dX8_joins_12 rfl (lv_at hl 1 rfl) ?_
        refine g_if_le (tgt := 87) G dX8_joins_13 (by decide) (by omega) (fun h13 => ?_) (fun h13 => ?_)
        ·
          refine lv_aload_n hx hb dX8_joins_87 rfl (lv_at hl 0 rfl) ?_
          refine g_get G X (k := 0) (fs := fM Y) (Nat.le_of_ble_eq_true rfl) (fun _ => rfl) rfl in_X8 13 (by decide) l_f35 rfl (v := .ref (Y.2.1 (9))) rfl dX8_joins_88 ?_
          refine lv_iload_n hx hb dX8_joins_91 rfl (lv_at hl 1 rfl) ?_
          refine lv_aload_n hx hb dX8_joins_92 rfl (lv_at hl 0 rfl) ?_
          refine g_get G X (k := 0) (fs := fM Y) (Nat.le_of_ble_eq_true rfl) (fun _ => rfl) rfl in_X8 13 (by decide) l_f35 rfl (v := .ref (Y.2.1 (9))) rfl dX8_joins_93 ?_
          refine lv_iload_n hx hb dX8_joins_96 rfl (lv_at hl 2 rfl) ?_
          refine g_iald G X (k := 9) (n := 14) (Nat.le_of_ble_eq_true rfl) (fun _ => rfl) (by decide) (z := k) (by omega) dX8_joins_97 ?_
          refine g_iast G X (k := 9) (n := 14) (Nat.le_of_ble_eq_true rfl) (fun _ => rfl) (by decide) (z := k) (v := (σ 9 k)) (by omega) dX8_joins_98 (fun H locs X => ?_)
          have X := (show (up σ 9 k (σ 9 k)) = σ from (up_id _ _ _)) ▸ X
          refine lv_aload_n hx hb dX8_joins_99 rfl (lv_at hl 0 rfl) ?_
          refine g_get G X (k := 0) (fs := fM Y) (Nat.le_of_ble_eq_true rfl) (fun _ => rfl) rfl in_X8 15 (by decide) l_f41 rfl (v := .ref (Y.2.1 (11))) rfl dX8_joins_100 ?_
          refine lv_iload_n hx hb dX8_joins_103 rfl (lv_at hl 1 rfl) ?_
          refine lv_aload_n hx hb dX8_joins_104 rfl (lv_at hl 0 rfl) ?_
          refine g_get G X (k := 0) (fs := fM Y) (Nat.le_of_ble_eq_true rfl) (fun _ => rfl) rfl in_X8 15 (by decide) l_f41 rfl (v := .ref (Y.2.1 (11))) rfl dX8_joins_105 ?_
          refine lv_iload_n hx hb dX8_joins_108 rfl (lv_at hl 2 rfl) ?_
          refine g_iald G X (k := 11) (n := 13) (Nat.le_of_ble_eq_true rfl) (fun _ => rfl) (by decide) (z := k) (by omega) dX8_joins_109 ?_
          refine g_iast G X (k := 11) (n := 13) (Nat.le_of_ble_eq_true rfl) (fun _ => rfl) (by decide) (z := k) (v := (σ 11 k)) (by omega) dX8_joins_110 (fun H locs X => ?_)
          have X := (show (up σ 11 k (σ 11 k)) = σ from (up_id _ _ _)) ▸ X
          refine lv_aload_n hx hb dX8_joins_111 rfl (lv_at hl 0 rfl) ?_
          refine g_get G X (k := 0) (fs := fM Y) (Nat.le_of_ble_eq_true rfl) (fun _ => rfl) rfl in_X8 14 (by decide) l_f38 rfl (v := .ref (Y.2.1 (10))) rfl dX8_joins_112 ?_
          refine lv_iload_n hx hb dX8_joins_115 rfl (lv_at hl 1 rfl) ?_
          refine lv_aload_n hx hb dX8_joins_116 rfl (lv_at hl 0 rfl) ?_
          refine g_get G X (k := 0) (fs := fM Y) (Nat.le_of_ble_eq_true rfl) (fun _ => rfl) rfl in_X8 14 (by decide) l_f38 rfl (v := .ref (Y.2.1 (10))) rfl dX8_joins_117 ?_
          refine lv_iload_n hx hb dX8_joins_120 rfl (lv_at hl 2 rfl) ?_
          refine g_iald G X (k := 10) (n := 13) (Nat.le_of_ble_eq_true rfl) (fun _ => rfl) (by decide) (z := k) (by omega) dX8_joins_121 ?_
          refine g_iast G X (k := 10) (n := 13) (Nat.le_of_ble_eq_true rfl) (fun _ => rfl) (by decide) (z := k) (v := (σ 10 k)) (by omega) dX8_joins_122 (fun H locs X => ?_)
          have X := (show (up σ 10 k (σ 10 k)) = σ from (up_id _ _ _)) ▸ X
          refine lv_iinc (v := iI (k + 1)) (lv' := [(1, .int (iI ((k + 1)))), (0, .ref (Y.2.1 (0))), (2, .int (iI (k)))]) hx hb dX8_joins_123 hl (k := 1) rfl (iI_add _ _) (by decide) rfl (fun ls hl => ?_)
          refine lv_iinc (v := iI (k + 1)) (lv' := [(2, .int (iI ((k + 1)))), (1, .int (iI ((k + 1)))), (0, .ref (Y.2.1 (0)))]) hx hb dX8_joins_126 hl (k := 2) rfl (iI_add _ _) (by decide) rfl (fun ls hl => ?_)
          refine lv_goto (tgt := 4) hx hb dX8_joins_129 (by decide) ?_
          exact ih_4 ((k + 1)) (by omega) (by omega) _ _ _ X (lv_sub hl [2, 1, 0] rfl)
        ·
          have hbe : bEnd B (ng P) (k - 1) + 1 = at0 B k := by unfold bEnd; rw [if_pos (by omega), show k - 1 + 1 = k by omega]; omega
          have hbq := hB2 (k - 1) (by omega) (by omega)
          rw [hbe] at hbq
          have hbr2 := bEnd_rg hAs (j := k - 1) (by omega) (by omega)
          have hcr := cmpM_rg hPr (a := at0 B (k - 1)) (b := at0 B k - 1) (c := at0 B k) (d := bEnd B (ng P) k) (by omega) (by omega)
          refine lv_aload_n hx hb dX8_joins_16 rfl (lv_at hl 0 rfl) ?_
          refine g_get G X (k := 0) (fs := fM Y) (Nat.le_of_ble_eq_true rfl) (fun _ => rfl) rfl in_X8 15 (by decide) l_f41 rfl (v := .ref (Y.2.1 (11))) rfl dX8_joins_17 ?_
          refine lv_iload_n hx hb dX8_joins_20 rfl (lv_at hl 1 rfl) ?_
          refine lv_iconst (v := iI 1) hx hb dX8_joins_21 rfl ?_
          refine g_isub G dX8_joins_22 ?_
          refine g_iald G X (k := 11) (n := 13) (Nat.le_of_ble_eq_true rfl) (fun _ => rfl) (by decide) (z := (k - 1)) (by omega) dX8_joins_23 ?_
          refine g_topi (z' := gM P (at0 B k) - gM P (at0 B (k - 1))) hbq.2.2 ?_
          refine lv_aload_n hx hb dX8_joins_24 rfl (lv_at hl 0 rfl) ?_
          refine g_get G X (k := 0) (fs := fM Y) (Nat.le_of_ble_eq_true rfl) (fun _ => rfl) rfl in_X8 14 (by decide) l_f38 rfl (v := .ref (Y.2.1 (10))) rfl dX8_joins_25 ?_
          refine lv_iload_n hx hb dX8_joins_28 rfl (lv_at hl 1 rfl) ?_
          refine lv_iconst (v := iI 1) hx hb dX8_joins_29 rfl ?_
          refine g_isub G dX8_joins_30 ?_
          refine g_iald G X (k := 10) (n := 13) (Nat.le_of_ble_eq_true rfl) (fun _ => rfl) (by decide) (z := (k - 1)) (by omega) dX8_joins_31 ?_
          refine g_topi (z' := gW P (at0 B k) - gW P (at0 B (k - 1))) hbq.2.1 ?_
          refine lv_aload_n hx hb dX8_joins_32 rfl (lv_at hl 0 rfl) ?_
          refine g_get G X (k := 0) (fs := fM Y) (Nat.le_of_ble_eq_true rfl) (fun _ => rfl) rfl in_X8 15 (by decide) l_f41 rfl (v := .ref (Y.2.1 (11))) rfl dX8_joins_33 ?_
          refine lv_iload_n hx hb dX8_joins_36 rfl (lv_at hl 2 rfl) ?_
          refine g_iald G X (k := 11) (n := 13) (Nat.le_of_ble_eq_true rfl) (fun _ => rfl) (by decide) (z := k) (by omega) dX8_joins_37 ?_
          refine g_topi (z' := gM P (bEnd B (ng P) k + 1) - gM P (at0 B k)) hbk.2.2 ?_
          refine lv_aload_n hx hb dX8_joins_38 rfl (lv_at hl 0 rfl) ?_
          refine g_get G X (k := 0) (fs := fM Y) (Nat.le_of_ble_eq_true rfl) (fun _ => rfl) rfl in_X8 14 (by decide) l_f38 rfl (v := .ref (Y.2.1 (10))) rfl dX8_joins_39 ?_
          refine lv_iload_n hx hb dX8_joins_42 rfl (lv_at hl 2 rfl) ?_
          refine g_iald G X (k := 10) (n := 13) (Nat.le_of_ble_eq_true rfl) (fun _ => rfl) (by decide) (z := k) (by omega) dX8_joins_43 ?_
          refine g_topi (z' := gW P (bEnd B (ng P) k + 1) - gW P (at0 B k)) hbk.2.1 ?_
          refine g_callSi G X (rest := []) (As := [.int (iI ((gM P (at0 B k) - gM P (at0 B (k - 1))))), .int (iI ((gW P (at0 B k) - gW P (at0 B (k - 1))))), .int (iI ((gM P (bEnd B (ng P) k + 1) - gM P (at0 B k)))), .int (iI ((gW P (bEnd B (ng P) k + 1) - gW P (at0 B k))))]) (t_X8_compared l Y (σ) ((gM P (at0 B k) - gM P (at0 B (k - 1)))) ((gW P (at0 B k) - gW P (at0 B (k - 1)))) ((gM P (bEnd B (ng P) k + 1) - gM P (at0 B k))) ((gW P (bEnd B (ng P) k + 1) - gW P (at0 B k)))) (va_cwS 4 hts gX8_joins_X8_compared rfl rfl rfl (by decide +kernel) ⟨Nat.le_of_ble_eq_true rfl, Nat.le_of_ble_eq_true rfl⟩) rfl hl.1 rfl (Nat.le_of_ble_eq_true rfl) dX8_joins_44 ⟨Nat.le_refl _, Nat.le_refl _⟩ (fun z44 u44 H locs hq44 X => ?_)
          rw [hq44.1] at X
          have hq44 := hq44.2
          try dsimp only at hq44
          refine g_topi (z' := cmpM (gW P) (gM P) (at0 B (k - 1)) (at0 B k - 1) (at0 B k) (bEnd B (ng P) k)) (by rw [hq44]; unfold cmpM; rw [show at0 B k - 1 + 1 = at0 B k by omega]) ?_
          refine g_if_ne (tgt := 87) G dX8_joins_47 (by decide) (by omega) (fun h47 => ?_) (fun h47 => ?_)
          ·
            refine lv_aload_n hx hb dX8_joins_87 rfl (lv_at hl 0 rfl) ?_
            refine g_get G X (k := 0) (fs := fM Y) (Nat.le_of_ble_eq_true rfl) (fun _ => rfl) rfl in_X8 13 (by decide) l_f35 rfl (v := .ref (Y.2.1 (9))) rfl dX8_joins_88 ?_
            refine lv_iload_n hx hb dX8_joins_91 rfl (lv_at hl 1 rfl) ?_
            refine lv_aload_n hx hb dX8_joins_92 rfl (lv_at hl 0 rfl) ?_
            refine g_get G X (k := 0) (fs := fM Y) (Nat.le_of_ble_eq_true rfl) (fun _ => rfl) rfl in_X8 13 (by decide) l_f35 rfl (v := .ref (Y.2.1 (9))) rfl dX8_joins_93 ?_
            refine lv_iload_n hx hb dX8_joins_96 rfl (lv_at hl 2 rfl) ?_
            refine g_iald G X (k := 9) (n := 14) (Nat.le_of_ble_eq_true rfl) (fun _ => rfl) (by decide) (z := k) (by omega) dX8_joins_97 ?_
            refine g_iast G X (k := 9) (n := 14) (Nat.le_of_ble_eq_true rfl) (fun _ => rfl) (by decide) (z := k) (v := (σ 9 k)) (by omega) dX8_joins_98 (fun H locs X => ?_)
            have X := (show (up σ 9 k (σ 9 k)) = σ from (up_id _ _ _)) ▸ X
            refine lv_aload_n hx hb dX8_joins_99 rfl (lv_at hl 0 rfl) ?_
            refine g_get G X (k := 0) (fs := fM Y) (Nat.le_of_ble_eq_true rfl) (fun _ => rfl) rfl in_X8 15 (by decide) l_f41 rfl (v := .ref (Y.2.1 (11))) rfl dX8_joins_100 ?_
            refine lv_iload_n hx hb dX8_joins_103 rfl (lv_at hl 1 rfl) ?_
            refine lv_aload_n hx hb dX8_joins_104 rfl (lv_at hl 0 rfl) ?_
            refine g_get G X (k := 0) (fs := fM Y) (Nat.le_of_ble_eq_true rfl) (fun _ => rfl) rfl in_X8 15 (by decide) l_f41 rfl (v := .ref (Y.2.1 (11))) rfl dX8_joins_105 ?_
            refine lv_iload_n hx hb dX8_joins_108 rfl (lv_at hl 2 rfl) ?_
            refine g_iald G X (k := 11) (n := 13) (Nat.le_of_ble_eq_true rfl) (fun _ => rfl) (by decide) (z := k) (by omega) dX8_joins_109 ?_
            refine g_iast G X (k := 11) (n := 13) (Nat.le_of_ble_eq_true rfl) (fun _ => rfl) (by decide) (z := k) (v := (σ 11 k)) (by omega) dX8_joins_110 (fun H locs X => ?_)
            have X := (show (up σ 11 k (σ 11 k)) = σ from (up_id _ _ _)) ▸ X
            refine lv_aload_n hx hb dX8_joins_111 rfl (lv_at hl 0 rfl) ?_
            refine g_get G X (k := 0) (fs := fM Y) (Nat.le_of_ble_eq_true rfl) (fun _ => rfl) rfl in_X8 14 (by decide) l_f38 rfl (v := .ref (Y.2.1 (10))) rfl dX8_joins_112 ?_
            refine lv_iload_n hx hb dX8_joins_115 rfl (lv_at hl 1 rfl) ?_
            refine lv_aload_n hx hb dX8_joins_116 rfl (lv_at hl 0 rfl) ?_
            refine g_get G X (k := 0) (fs := fM Y) (Nat.le_of_ble_eq_true rfl) (fun _ => rfl) rfl in_X8 14 (by decide) l_f38 rfl (v := .ref (Y.2.1 (10))) rfl dX8_joins_117 ?_
            refine lv_iload_n hx hb dX8_joins_120 rfl (lv_at hl 2 rfl) ?_
            refine g_iald G X (k := 10) (n := 13) (Nat.le_of_ble_eq_true rfl) (fun _ => rfl) (by decide) (z := k) (by omega) dX8_joins_121 ?_
            refine g_iast G X (k := 10) (n := 13) (Nat.le_of_ble_eq_true rfl) (fun _ => rfl) (by decide) (z := k) (v := (σ 10 k)) (by omega) dX8_joins_122 (fun H locs X => ?_)
            have X := (show (up σ 10 k (σ 10 k)) = σ from (up_id _ _ _)) ▸ X
            refine lv_iinc (v := iI (k + 1)) (lv' := [(1, .int (iI ((k + 1)))), (0, .ref (Y.2.1 (0))), (2, .int (iI (k)))]) hx hb dX8_joins_123 hl (k := 1) rfl (iI_add _ _) (by decide) rfl (fun ls hl => ?_)
            refine lv_iinc (v := iI (k + 1)) (lv' := [(2, .int (iI ((k + 1)))), (1, .int (iI ((k + 1)))), (0, .ref (Y.2.1 (0)))]) hx hb dX8_joins_126 hl (k := 2) rfl (iI_add _ _) (by decide) rfl (fun ls hl => ?_)
            refine lv_goto (tgt := 4) hx hb dX8_joins_129 (by decide) ?_
            exact ih_4 ((k + 1)) (by omega) (by omega) _ _ _ X (lv_sub hl [2, 1, 0] rfl)
          ·
            exact absurd (hAd k (by omega) (by omega)) (by omega)
  exact lp_4 ((((B.length - (0)) : Int).toNat + 1)) (0) (by omega) (by omega) _ _ _ X (lv_sub hl [2, 1, 0] rfl)

set_option maxHeartbeats 4000000 in
set_option maxRecDepth 100000 in
theorem t_X8_errorOf (l : Launch) (Y : Yt) (σ : Mem) (P : List Pt) (B : List Int) (hMG : MG σ P) (hB : MBlk σ (gW P) (gM P) B (ng P)) (hAs : 0 < B.length → Asc (ng P) B) : MXl l LM Y yX8_errorOf wsX8_errorOf { frames := 0, cells := 0, slots := 0, locals := 0 } [.ref (Y.2.1 (0))] σ (fun z u => u = σ ∧ (z = Err (ng P) (gW P) (gM P) (gQ P) B)) := by
  obtain ⟨hP, hok, hG⟩ := id hMG
  have hPr := hMG.prof
  obtain ⟨⟨hn0, hn12, hW0, hM0, hW24⟩, hstep, hXa, hXr⟩ := id hPr
  obtain ⟨hB1, hB2⟩ := id hB
  obtain ⟨hd0, h12, hd⟩ := hP.d
  have hA3 : (B.length : Int) ≤ 12 := by { by_cases q : 0 < B.length; (have := (hAs q).2.2.2; omega); omega }
  refine g_startl (cc := cX8_errorOf) (nL := 4) (own := RX8) (by decide) rfl rfl (Nat.le_of_ble_eq_true rfl) ?_
  intro pp ee ss mm bw mt cd AA ZZ ls G hret X hl
  have hl : lv_has ls 4 [(0, .ref (Y.2.1 (0)))] := hl
  have hx := G.1
  have hb := G.2.1
  have hts := G.2.2.2.2.1
  have l_f7 := hts (.fieldLink RX8 7 "ShapeFitsModel" "d" "[I") (List.mem_of_getElem? (i := 1) rfl)
  have l_f38 := hts (.fieldLink RX8 38 "ShapeFitsModel" "blockWeight" "[I") (List.mem_of_getElem? (i := 4) rfl)
  have l_f41 := hts (.fieldLink RX8 41 "ShapeFitsModel" "blockMoment" "[I") (List.mem_of_getElem? (i := 5) rfl)
  have l_f96 := hts (.fieldLink RX8 96 "ShapeFitsModel" "blocks" "I") (List.mem_of_getElem? (i := 3) rfl)
  have l_k113 := hts (.constantLong RX8 113 (5354228880)) (List.mem_of_getElem? (i := 2) rfl)
  have in_X8 : ∀ w ∈ u_ws RX8 TX8 24, w ∈ wsX8_errorOf := by decide +kernel
  refine lv_lconst (v := lI 0) hx hb dX8_errorOf_0 (by decide +kernel) ?_
  refine lv_lstore_n (lv' := [(1, .long (lI (0))), (0, .ref (Y.2.1 (0)))]) hx hb dX8_errorOf_1 rfl hl (by decide) rfl (fun ls hl => ?_)
  refine lv_iconst (v := iI 0) hx hb dX8_errorOf_2 rfl ?_
  refine lv_istore_n (lv' := [(3, .int (iI (0))), (1, .long (lI (0))), (0, .ref (Y.2.1 (0)))]) hx hb dX8_errorOf_3 rfl hl (by decide) rfl (fun ls hl => ?_)
  have lp_4 : ∀ (nn : Nat) (sm i : Int), ∀ hi : 0 ≤ i ∧ i ≤ P.length, ∀ hsm : sm = smI (fun i => pw P i * pv P i * pv P i) i, ∀ hdec : (P.length - i) < (nn : Int), ∀ (H : Heap) (locs : List Loc) (ls : Array Slot), wx LM Y σ ss AA H locs → lv_has ls 4 [(0, .ref (Y.2.1 (0))), (1, .long (lI (sm))), (3, .int (iI (i)))] → W pp l ee { frames := 0, cells := 0, slots := 0, locals := 0 } ss mm ([.ref (Y.2.1 (0))] : List Value).toArray bw mt cd H locs 0 0 ZZ (F0 mm 4 ls []) := by
    intro nn
    induction nn with
    | zero =>
      intro sm i hi hsm hdec
      exact absurd hdec (by omega)
    | succ nn ih_4 =>
      intro sm i hi hsm hdec H locs ls X hl
      refine lv_iload_n hx hb dX8_errorOf_4 rfl (lv_at hl 2 rfl) ?_
      refine lv_aload_n hx hb dX8_errorOf_5 rfl (lv_at hl 0 rfl) ?_
      refine g_get G X (k := 0) (fs := fM Y) (Nat.le_of_ble_eq_true rfl) (fun _ => rfl) rfl in_X8 0 (by decide) l_f7 rfl (v := .ref (Y.2.1 (1))) rfl dX8_errorOf_6 ?_
      refine lv_iconst (v := iI 0) hx hb dX8_errorOf_9 rfl ?_
      refine g_iald G X (k := 1) (n := 37) (Nat.le_of_ble_eq_true rfl) (fun _ => rfl) (by decide) (z := 0) (by omega) dX8_errorOf_10 ?_
      refine g_topi (z' := (P.length : Int)) hd0 ?_
      refine g_icmp_ge (tgt := 55) G dX8_errorOf_11 (by decide) (by omega) (by omega) (fun h11 => ?_) (fun h11 => ?_)
      ·
        have hq : sm = gQ P := by rw [hsm, show i = (P.length : Int) by omega]; rfl
        refine lv_lload_n hx hb dX8_errorOf_55 rfl (lv_at hl 1 rfl) ?_
        refine g_ldc2 G (z := 5354228880) l_k113 (by decide +kernel) dX8_errorOf_56 ?_
        refine g_lmul G dX8_errorOf_59 ?_
        refine g_topl (z' := 5354228880 * gQ P) (by rw [hq]; omega) ?_
        refine lv_lstore_n (lv' := [(1, .long (lI ((5354228880 * gQ P)))), (0, .ref (Y.2.1 (0))), (3, .int (iI (i)))]) hx hb dX8_errorOf_60 rfl hl (by decide) rfl (fun ls hl => ?_)
        refine lv_iconst (v := iI 0) hx hb dX8_errorOf_61 rfl ?_
        refine lv_istore_n (lv' := [(3, .int (iI (0))), (1, .long (lI ((5354228880 * gQ P)))), (0, .ref (Y.2.1 (0)))]) hx hb dX8_errorOf_62 rfl hl (by decide) rfl (fun ls hl => ?_)
        have lp_63 : ∀ (nn : Nat) (sm j : Int), ∀ hj : 0 ≤ j ∧ j ≤ B.length, ∀ hsm : sm = 5354228880 * gQ P - smI (fun j => gain (gW P) (gM P) (at0 B j) (bEnd B (ng P) j)) j, ∀ hdec : (B.length - j) < (nn : Int), ∀ (H : Heap) (locs : List Loc) (ls : Array Slot), wx LM Y σ ss AA H locs → lv_has ls 4 [(0, .ref (Y.2.1 (0))), (1, .long (lI (sm))), (3, .int (iI (j)))] → W pp l ee { frames := 0, cells := 0, slots := 0, locals := 0 } ss mm ([.ref (Y.2.1 (0))] : List Value).toArray bw mt cd H locs 0 0 ZZ (F0 mm 63 ls []) := by
          intro nn
          induction nn with
          | zero =>
            intro sm j hj hsm hdec
            exact absurd hdec (by omega)
          | succ nn ih_63 =>
            intro sm j hj hsm hdec H locs ls X hl
            refine lv_iload_n hx hb dX8_errorOf_63 rfl (lv_at hl 2 rfl) ?_
            refine lv_aload_n hx hb dX8_errorOf_64 rfl (lv_at hl 0 rfl) ?_
            refine g_get G X (k := 0) (fs := fM Y) (Nat.le_of_ble_eq_true rfl) (fun _ => rfl) rfl in_X8 12 (by decide) l_f96 rfl (v := .int (iI ((σ 0 12)))) rfl dX8_errorOf_65 ?_
            refine g_topi (z' := (B.length : Int)) hB1 ?_
            refine g_icmp_ge (tgt := 107) G dX8_errorOf_68 (by decide) (by omega) (by omega) (fun h68 => ?_) (fun h68 => ?_)
            ·
              refine lv_lload_n hx hb dX8_errorOf_107 rfl (lv_at hl 1 rfl) ?_
              exact hret _ _ _ _ _ _ (⟨rfl, by rw [hsm, show j = (B.length : Int) by omega]; rfl⟩) X dX8_errorOf_108
            ·
              have hAs2 := hAs (by omega)
              have hbk := hB2 j (by omega) (by omega)
              have hbr := bEnd_rg hAs2 (j := j) (by omega) (by omega)
              have hbw := prof_w hPr (a := at0 B j) (b := bEnd B (ng P) j + 1) (by omega) (by omega) (by omega)
              have hbp := wt_pos hPr (a := at0 B j) (b := bEnd B (ng P) j) (by omega) (by omega) (by omega)
              refine lv_lload_n hx hb dX8_errorOf_71 rfl (lv_at hl 1 rfl) ?_
              refine g_ldc2 G (z := 5354228880) l_k113 (by decide +kernel) dX8_errorOf_72 ?_
              refine lv_aload_n hx hb dX8_errorOf_75 rfl (lv_at hl 0 rfl) ?_
              refine g_get G X (k := 0) (fs := fM Y) (Nat.le_of_ble_eq_true rfl) (fun _ => rfl) rfl in_X8 14 (by decide) l_f38 rfl (v := .ref (Y.2.1 (10))) rfl dX8_errorOf_76 ?_
              refine lv_iload_n hx hb dX8_errorOf_79 rfl (lv_at hl 2 rfl) ?_
              refine g_iald G X (k := 10) (n := 13) (Nat.le_of_ble_eq_true rfl) (fun _ => rfl) (by decide) (z := j) (by omega) dX8_errorOf_80 ?_
              refine g_topi (z' := gW P (bEnd B (ng P) j + 1) - gW P (at0 B j)) hbk.2.1 ?_
              refine g_i2l G (by omega) dX8_errorOf_81 ?_
              refine g_ldiv G (by omega) (by omega) dX8_errorOf_82 ?_
              refine lv_aload_n hx hb dX8_errorOf_83 rfl (lv_at hl 0 rfl) ?_
              refine g_get G X (k := 0) (fs := fM Y) (Nat.le_of_ble_eq_true rfl) (fun _ => rfl) rfl in_X8 15 (by decide) l_f41 rfl (v := .ref (Y.2.1 (11))) rfl dX8_errorOf_84 ?_
              refine lv_iload_n hx hb dX8_errorOf_87 rfl (lv_at hl 2 rfl) ?_
              refine g_iald G X (k := 11) (n := 13) (Nat.le_of_ble_eq_true rfl) (fun _ => rfl) (by decide) (z := j) (by omega) dX8_errorOf_88 ?_
              refine g_topi (z' := gM P (bEnd B (ng P) j + 1) - gM P (at0 B j)) hbk.2.2 ?_
              refine g_i2l G (by omega) dX8_errorOf_89 ?_
              refine g_lmul G dX8_errorOf_90 ?_
              refine lv_aload_n hx hb dX8_errorOf_91 rfl (lv_at hl 0 rfl) ?_
              refine g_get G X (k := 0) (fs := fM Y) (Nat.le_of_ble_eq_true rfl) (fun _ => rfl) rfl in_X8 15 (by decide) l_f41 rfl (v := .ref (Y.2.1 (11))) rfl dX8_errorOf_92 ?_
              refine lv_iload_n hx hb dX8_errorOf_95 rfl (lv_at hl 2 rfl) ?_
              refine g_iald G X (k := 11) (n := 13) (Nat.le_of_ble_eq_true rfl) (fun _ => rfl) (by decide) (z := j) (by omega) dX8_errorOf_96 ?_
              refine g_topi (z' := gM P (bEnd B (ng P) j + 1) - gM P (at0 B j)) hbk.2.2 ?_
              refine g_i2l G (by omega) dX8_errorOf_97 ?_
              refine g_lmul G dX8_errorOf_98 ?_
              refine g_topl (z' := gain (gW P) (gM P) (at0 B j) (bEnd B (ng P) j)) (gain_tdiv rfl rfl) ?_
              refine g_lsub G dX8_errorOf_99 ?_
              refine lv_lstore_n (lv' := [(1, .long (lI ((sm - (gain (gW P) (gM P) (at0 B j) (bEnd B (ng P) j)))))), (0, .ref (Y.2.1 (0))), (3, .int (iI (j)))]) hx hb dX8_errorOf_100 rfl hl (by decide) rfl (fun ls hl => ?_)
              refine lv_iinc (v := iI (j + 1)) (lv' := [(3, .int (iI ((j + 1)))), (1, .long (lI ((sm - (gain (gW P) (gM P) (at0 B j) (bEnd B (ng P) j)))))), (0, .ref (Y.2.1 (0)))]) hx hb dX8_errorOf_101 hl (k := 2) rfl (iI_add _ _) (by decide) rfl (fun ls hl => ?_)
              refine lv_goto (tgt := 63) hx hb dX8_errorOf_104 (by decide) ?_
              exact ih_63 ((sm - (gain (gW P) (gM P) (at0 B j) (bEnd B (ng P) j)))) ((j + 1)) (by omega) (by rw [smI_s _ hj.1, hsm]; omega) (by omega) _ _ _ X (lv_sub hl [2, 1, 0] rfl)
        exact lp_63 ((((B.length - (0)) : Int).toNat + 1)) ((5354228880 * gQ P)) (0) (by omega) (by rw [smI_0]; omega) (by omega) _ _ _ X (lv_sub hl [2, 1, 0] rfl)
      ·
        have hdi := hd i (by omega) (by omega)
        have hwr := pw_ok hok (i := i) (by omega) (by omega)
        have hvr := pv_ok hok (i := i) (by omega) (by omega)
        refine lv_lload_n hx hb dX8_errorOf_14 rfl (lv_at hl 1 rfl) ?_
        refine lv_aload_n hx hb dX8_errorOf_15 rfl (lv_at hl 0 rfl) ?_
        refine g_get G X (k := 0) (fs := fM Y) (Nat.le_of_ble_eq_true rfl) (fun _ => rfl) rfl in_X8 0 (by decide) l_f7 rfl (v := .ref (Y.2.1 (1))) rfl dX8_errorOf_16 ?_
        refine lv_bipush (v := iI 25) hx hb dX8_errorOf_19 (by decide +kernel) ?_
        refine lv_iload_n hx hb dX8_errorOf_21 rfl (lv_at hl 2 rfl) ?_
        refine g_iadd G dX8_errorOf_22 ?_
        refine g_iald G X (k := 1) (n := 37) (Nat.le_of_ble_eq_true rfl) (fun _ => rfl) (by decide) (z := (25 + i)) (by omega) dX8_errorOf_23 ?_
        refine g_topi (z' := pw P i) hdi.2.2 ?_
        refine g_i2l G (by omega) dX8_errorOf_24 ?_
        refine lv_aload_n hx hb dX8_errorOf_25 rfl (lv_at hl 0 rfl) ?_
        refine g_get G X (k := 0) (fs := fM Y) (Nat.le_of_ble_eq_true rfl) (fun _ => rfl) rfl in_X8 0 (by decide) l_f7 rfl (v := .ref (Y.2.1 (1))) rfl dX8_errorOf_26 ?_
        refine lv_bipush (v := iI 13) hx hb dX8_errorOf_29 (by decide +kernel) ?_
        refine lv_iload_n hx hb dX8_errorOf_31 rfl (lv_at hl 2 rfl) ?_
        refine g_iadd G dX8_errorOf_32 ?_
        refine g_iald G X (k := 1) (n := 37) (Nat.le_of_ble_eq_true rfl) (fun _ => rfl) (by decide) (z := (13 + i)) (by omega) dX8_errorOf_33 ?_
        refine g_topi (z' := pv P i) hdi.2.1 ?_
        refine g_i2l G (by omega) dX8_errorOf_34 ?_
        refine g_lmul G dX8_errorOf_35 ?_
        refine lv_aload_n hx hb dX8_errorOf_36 rfl (lv_at hl 0 rfl) ?_
        refine g_get G X (k := 0) (fs := fM Y) (Nat.le_of_ble_eq_true rfl) (fun _ => rfl) rfl in_X8 0 (by decide) l_f7 rfl (v := .ref (Y.2.1 (1))) rfl dX8_errorOf_37 ?_
        refine lv_bipush (v := iI 13) hx hb dX8_errorOf_40 (by decide +kernel) ?_
        refine lv_iload_n hx hb dX8_errorOf_42 rfl (lv_at hl 2 rfl) ?_
        refine g_iadd G dX8_errorOf_43 ?_
        refine g_iald G X (k := 1) (n := 37) (Nat.le_of_ble_eq_true rfl) (fun _ => rfl) (by decide) (z := (13 + i)) (by omega) dX8_errorOf_44 ?_
        refine g_topi (z' := pv P i) hdi.2.1 ?_
        refine g_i2l G (by omega) dX8_errorOf_45 ?_
        refine g_lmul G dX8_errorOf_46 ?_
        refine g_ladd G dX8_errorOf_47 ?_
        refine lv_lstore_n (lv' := [(1, .long (lI ((sm + (((pw P i) * (pv P i)) * (pv P i)))))), (0, .ref (Y.2.1 (0))), (3, .int (iI (i)))]) hx hb dX8_errorOf_48 rfl hl (by decide) rfl (fun ls hl => ?_)
        refine lv_iinc (v := iI (i + 1)) (lv' := [(3, .int (iI ((i + 1)))), (1, .long (lI ((sm + (((pw P i) * (pv P i)) * (pv P i)))))), (0, .ref (Y.2.1 (0)))]) hx hb dX8_errorOf_49 hl (k := 2) rfl (iI_add _ _) (by decide) rfl (fun ls hl => ?_)
        refine lv_goto (tgt := 4) hx hb dX8_errorOf_52 (by decide) ?_
        exact ih_4 ((sm + (((pw P i) * (pv P i)) * (pv P i)))) ((i + 1)) (by omega) (by rw [smI_s _ hi.1, ← hsm]) (by omega) _ _ _ X (lv_sub hl [2, 1, 0] rfl)
  exact lp_4 ((((P.length - (0)) : Int).toNat + 1)) (0) (0) (by omega) rfl (by omega) _ _ _ X (lv_sub hl [2, 1, 0] rfl)

set_option maxHeartbeats 4000000 in
set_option maxRecDepth 100000 in
theorem t_X8_blockOf (l : Launch) (Y : Yt) (σ : Mem) (P : List Pt) (g : Int) (B : List Int) (hMG : MG σ P) (hB : MBlE σ (gW P) (gM P) B (ng P)) (hAs : Asc (ng P) B) (hg : 0 ≤ g ∧ g < ng P) : MXi l LM Y yX8_blockOf wsX8_blockOf { frames := 0, cells := 0, slots := 0, locals := 0 } [.ref (Y.2.1 (0)), .int (iI (g))] σ (fun z u => u = σ ∧ (z = blkA B (ng P) g ∧ 0 ≤ z ∧ z < B.length)) := by
  obtain ⟨hP, hok, hG⟩ := id hMG
  have hPr := hMG.prof
  obtain ⟨⟨hn0, hn12, hW0, hM0, hW24⟩, hstep, hXa, hXr⟩ := id hPr
  have hA0 := hAs.1 (by omega)
  have hA3 := hAs.2.2.2
  refine g_starti (rty := .int) (fun _ _ _ => rfl) (cc := cX8_blockOf) (nL := 3) (own := RX8) (by decide) rfl rfl (Nat.le_of_ble_eq_true rfl) ?_
  intro pp ee ss mm bw mt cd AA ZZ ls G hret X hl
  have hl : lv_has ls 3 [(0, .ref (Y.2.1 (0))), (1, .int (iI (g)))] := hl
  have hx := G.1
  have hb := G.2.1
  have hts := G.2.2.2.2.1
  have l_f35 := hts (.fieldLink RX8 35 "ShapeFitsModel" "first" "[I") (List.mem_of_getElem? (i := 1) rfl)
  have in_X8 : ∀ w ∈ u_ws RX8 TX8 24, w ∈ wsX8_blockOf := by decide +kernel
  refine lv_iconst (v := iI 0) hx hb dX8_blockOf_0 rfl ?_
  refine lv_istore_n (lv' := [(2, .int (iI (0))), (0, .ref (Y.2.1 (0))), (1, .int (iI (g)))]) hx hb dX8_blockOf_1 rfl hl (by decide) rfl (fun ls hl => ?_)
  have lp_2 : ∀ (nn : Nat) (j : Int), ∀ hj : 0 ≤ j ∧ j < B.length, ∀ hle : at0 B j ≤ g, ∀ hdec : (B.length - j) < (nn : Int), ∀ (H : Heap) (locs : List Loc) (ls : Array Slot), wx LM Y σ ss AA H locs → lv_has ls 3 [(0, .ref (Y.2.1 (0))), (1, .int (iI (g))), (2, .int (iI (j)))] → W pp l ee { frames := 0, cells := 0, slots := 0, locals := 0 } ss mm ([.ref (Y.2.1 (0)), .int (iI (g))] : List Value).toArray bw mt cd H locs 0 0 ZZ (F0 mm 2 ls []) := by
    intro nn
    induction nn with
    | zero =>
      intro j hj hle hdec
      exact absurd hdec (by omega)
    | succ nn ih_2 =>
      intro j hj hle hdec H locs ls X hl
      refine lv_aload_n hx hb dX8_blockOf_2 rfl (lv_at hl 0 rfl) ?_
      refine g_get G X (k := 0) (fs := fM Y) (Nat.le_of_ble_eq_true rfl) (fun _ => rfl) rfl in_X8 13 (by decide) l_f35 rfl (v := .ref (Y.2.1 (9))) rfl dX8_blockOf_3 ?_
      refine lv_iload_n hx hb dX8_blockOf_6 rfl (lv_at hl 2 rfl) ?_
      refine lv_iconst (v := iI 1) hx hb dX8_blockOf_7 rfl ?_
      refine g_iadd G dX8_blockOf_8 ?_
      refine g_iald G X (k := 9) (n := 14) (Nat.le_of_ble_eq_true rfl) (fun _ => rfl) (by decide) (z := (j + 1)) (by omega) dX8_blockOf_9 ?_
      refine g_topi (z' := bEnd B (ng P) j + 1) (mble_first hB hj.1 hj.2) ?_
      have hbr := bEnd_rg hAs hj.1 hj.2
      refine lv_iload_n hx hb dX8_blockOf_10 rfl (lv_at hl 1 rfl) ?_
      refine g_icmp_gt (tgt := 20) G dX8_blockOf_11 (by decide) (by omega) (by omega) (fun h11 => ?_) (fun h11 => ?_)
      ·
        refine lv_iload_n hx hb dX8_blockOf_20 rfl (lv_at hl 2 rfl) ?_
        exact hret _ _ _ _ _ _ (⟨rfl, (blkA_eq hAs ⟨hj.1, hj.2, hle, by omega⟩).symm, hj.1, hj.2⟩) X dX8_blockOf_21
      ·
        have hbe3 : bEnd B (ng P) j + 1 ≤ g → at0 B (j + 1) = bEnd B (ng P) j + 1 := fun h => by { unfold bEnd at h ⊢; by_cases q : j < (B.length : Int) - 1; (rw [if_pos q]; omega); (rw [if_neg q] at h; omega) }
        have hj3 : j + 1 < B.length := by { by_cases q : j < (B.length : Int) - 1; omega; (exfalso; unfold bEnd at h11; rw [if_neg q] at h11; omega) }
        refine lv_iinc (v := iI (j + 1)) (lv' := [(2, .int (iI ((j + 1)))), (0, .ref (Y.2.1 (0))), (1, .int (iI (g)))]) hx hb dX8_blockOf_14 hl (k := 2) rfl (iI_add _ _) (by decide) rfl (fun ls hl => ?_)
        refine lv_goto (tgt := 2) hx hb dX8_blockOf_17 (by decide) ?_
        exact ih_2 ((j + 1)) (by omega) (by rw [hbe3 (by omega)]; omega) (by omega) _ _ _ X (lv_sub hl [1, 2, 0] rfl)
  exact lp_2 ((((B.length - (0)) : Int).toNat + 1)) (0) (by omega) (by omega) (by omega) _ _ _ X (lv_sub hl [1, 2, 0] rfl)

set_option maxHeartbeats 4000000 in
set_option maxRecDepth 100000 in
theorem t_X8_turns (l : Launch) (Y : Yt) (σ : Mem) (P : List Pt) (t : Int) (side : Int) (hMG : MG σ P) (hs : side = 1 ∨ side = -1) (ht : 0 ≤ t ∧ t < ng P) : MXv l LM Y yX8_turns wsX8_turns { frames := 3, cells := 0, slots := 0, locals := 74 } [.ref (Y.2.1 (0)), .int (iI (t)), .int (iI (side))] σ (fun u => (MBlE u (gW P) (gM P) (pkB (ng P) (gW P) (gM P) side t) (ng P) ∧ Asc (ng P) (pkB (ng P) (gW P) (gM P) side t)) ∧ Fr 9 11 12 12 σ u) := by
  obtain ⟨hP, hok, hG⟩ := id hMG
  have hPr := hMG.prof
  obtain ⟨⟨hn0, hn12, hW0, hM0, hW24⟩, hstep, hXa, hXr⟩ := id hPr
  have hgt := hG.2 t (by omega) (by omega)
  refine g_startv (cc := cX8_turns) (nL := 14) (own := RX8) (by decide) rfl rfl (Nat.le_of_ble_eq_true rfl) ?_
  intro pp ee ss mm bw mt cd AA ZZ ls G hret X hl
  have hl : lv_has ls 14 [(0, .ref (Y.2.1 (0))), (1, .int (iI (t))), (2, .int (iI (side)))] := hl
  have hx := G.1
  have hb := G.2.1
  have hts := G.2.2.2.2.1
  have l_f29 := hts (.fieldLink RX8 29 "ShapeFitsModel" "weight" "[I") (List.mem_of_getElem? (i := 2) rfl)
  have l_f32 := hts (.fieldLink RX8 32 "ShapeFitsModel" "moment" "[I") (List.mem_of_getElem? (i := 1) rfl)
  have l_f35 := hts (.fieldLink RX8 35 "ShapeFitsModel" "first" "[I") (List.mem_of_getElem? (i := 5) rfl)
  have l_f38 := hts (.fieldLink RX8 38 "ShapeFitsModel" "blockWeight" "[I") (List.mem_of_getElem? (i := 7) rfl)
  have l_f41 := hts (.fieldLink RX8 41 "ShapeFitsModel" "blockMoment" "[I") (List.mem_of_getElem? (i := 6) rfl)
  have l_f72 := hts (.fieldLink RX8 72 "ShapeFitsModel" "groups" "I") (List.mem_of_getElem? (i := 3) rfl)
  have l_f96 := hts (.fieldLink RX8 96 "ShapeFitsModel" "blocks" "I") (List.mem_of_getElem? (i := 4) rfl)
  have in_X8 : ∀ w ∈ u_ws RX8 TX8 24, w ∈ wsX8_turns := by decide +kernel
  refine lv_iload_n hx hb dX8_turns_0 rfl (lv_at hl 1 rfl) ?_
  refine lv_istore_n (lv' := [(3, .int (iI (t))), (0, .ref (Y.2.1 (0))), (1, .int (iI (t))), (2, .int (iI (side)))]) hx hb dX8_turns_1 rfl hl (by decide) rfl (fun ls hl => ?_)
  refine lv_iload_n hx hb dX8_turns_2 rfl (lv_at hl 2 rfl) ?_
  refine lv_istore (lv' := [(4, .int (iI (t))), (3, .int (iI (t))), (0, .ref (Y.2.1 (0))), (1, .int (iI (t))), (2, .int (iI (side)))]) hx hb dX8_turns_3 hl (by decide) rfl (fun ls hl => ?_)
  refine lv_aload_n hx hb dX8_turns_5 rfl (lv_at hl 2 rfl) ?_
  refine g_get G X (k := 0) (fs := fM Y) (Nat.le_of_ble_eq_true rfl) (fun _ => rfl) rfl in_X8 11 (by decide) l_f32 rfl (v := .ref (Y.2.1 (8))) rfl dX8_turns_6 ?_
  refine lv_iload_n hx hb dX8_turns_9 rfl (lv_at hl 3 rfl) ?_
  refine g_iald G X (k := 8) (n := 12) (Nat.le_of_ble_eq_true rfl) (fun _ => rfl) (by decide) (z := t) (by omega) dX8_turns_10 ?_
  refine g_topi (z' := gM P (t + 1) - gM P t) hgt.2.2 ?_
  refine lv_istore (lv' := [(5, .int (iI ((gM P (t + 1) - gM P t)))), (4, .int (iI (t))), (3, .int (iI (t))), (0, .ref (Y.2.1 (0))), (1, .int (iI (t))), (2, .int (iI (side)))]) hx hb dX8_turns_11 hl (by decide) rfl (fun ls hl => ?_)
  refine lv_aload_n hx hb dX8_turns_13 rfl (lv_at hl 3 rfl) ?_
  refine g_get G X (k := 0) (fs := fM Y) (Nat.le_of_ble_eq_true rfl) (fun _ => rfl) rfl in_X8 10 (by decide) l_f29 rfl (v := .ref (Y.2.1 (7))) rfl dX8_turns_14 ?_
  refine lv_iload_n hx hb dX8_turns_17 rfl (lv_at hl 4 rfl) ?_
  refine g_iald G X (k := 7) (n := 12) (Nat.le_of_ble_eq_true rfl) (fun _ => rfl) (by decide) (z := t) (by omega) dX8_turns_18 ?_
  refine g_topi (z' := gW P (t + 1) - gW P t) hgt.2.1 ?_
  refine lv_istore (lv' := [(6, .int (iI ((gW P (t + 1) - gW P t)))), (5, .int (iI ((gM P (t + 1) - gM P t)))), (4, .int (iI (t))), (3, .int (iI (t))), (0, .ref (Y.2.1 (0))), (1, .int (iI (t))), (2, .int (iI (side)))]) hx hb dX8_turns_19 hl (by decide) rfl (fun ls hl => ?_)
  refine lv_iconst (v := iI 0) hx hb dX8_turns_21 rfl ?_
  refine g_topi (z' := gM P (t + 1) - gM P (t + 1)) (by omega) ?_
  refine lv_istore (lv' := [(7, .int (iI ((gM P (t + 1) - gM P (t + 1))))), (6, .int (iI ((gW P (t + 1) - gW P t)))), (5, .int (iI ((gM P (t + 1) - gM P t)))), (4, .int (iI (t))), (3, .int (iI (t))), (0, .ref (Y.2.1 (0))), (1, .int (iI (t))), (2, .int (iI (side)))]) hx hb dX8_turns_22 hl (by decide) rfl (fun ls hl => ?_)
  refine lv_iconst (v := iI 0) hx hb dX8_turns_24 rfl ?_
  refine g_topi (z' := gW P (t + 1) - gW P (t + 1)) (by omega) ?_
  refine lv_istore (lv' := [(8, .int (iI ((gW P (t + 1) - gW P (t + 1))))), (7, .int (iI ((gM P (t + 1) - gM P (t + 1))))), (6, .int (iI ((gW P (t + 1) - gW P t)))), (5, .int (iI ((gM P (t + 1) - gM P t)))), (4, .int (iI (t))), (3, .int (iI (t))), (0, .ref (Y.2.1 (0))), (1, .int (iI (t))), (2, .int (iI (side)))]) hx hb dX8_turns_25 hl (by decide) rfl (fun ls hl => ?_)
  refine lv_iload_n hx hb dX8_turns_27 rfl (lv_at hl 7 rfl) ?_
  refine lv_istore (lv' := [(9, .int (iI (t))), (8, .int (iI ((gW P (t + 1) - gW P (t + 1))))), (7, .int (iI ((gM P (t + 1) - gM P (t + 1))))), (6, .int (iI ((gW P (t + 1) - gW P t)))), (5, .int (iI ((gM P (t + 1) - gM P t)))), (4, .int (iI (t))), (3, .int (iI (t))), (0, .ref (Y.2.1 (0))), (1, .int (iI (t))), (2, .int (iI (side)))]) hx hb dX8_turns_28 hl (by decide) rfl (fun ls hl => ?_)
  have lp_30 : ∀ (nn : Nat) (f F T : Int), ∀ hf : -1 ≤ f ∧ f ≤ t, ∀ hI : FTL (ng P) (gW P) (gM P) side t f t F T, ∀ hdec : (f + 1) < (nn : Int), ∀ (H : Heap) (locs : List Loc) (ls : Array Slot), wx LM Y σ ss AA H locs → lv_has ls 14 [(0, .ref (Y.2.1 (0))), (1, .int (iI (t))), (2, .int (iI (side))), (3, .int (iI (F))), (4, .int (iI (T))), (5, .int (iI ((gM P (T + 1) - gM P F)))), (6, .int (iI ((gW P (T + 1) - gW P F)))), (7, .int (iI ((gM P (t + 1) - gM P (f + 1))))), (8, .int (iI ((gW P (t + 1) - gW P (f + 1))))), (9, .int (iI (f)))] → W pp l ee { frames := 3, cells := 0, slots := 0, locals := 74 } ss mm ([.ref (Y.2.1 (0)), .int (iI (t)), .int (iI (side))] : List Value).toArray bw mt cd H locs 0 0 ZZ (F0 mm 30 ls []) := by
    intro nn
    induction nn with
    | zero =>
      intro f F T hf hI hdec
      exact absurd hdec (by omega)
    | succ nn ih_30 =>
      intro f F T hf hI hdec H locs ls X hl
      refine lv_iload hx hb dX8_turns_30 (lv_at hl 9 rfl) ?_
      refine g_if_lt (tgt := 187) G dX8_turns_32 (by decide) (by omega) (fun h32 => ?_) (fun h32 => ?_)
      ·
        have hTop := FTL_end hI (by omega)
        have hI1 := hI.1
        refine lv_aload_n hx hb dX8_turns_187 rfl (lv_at hl 0 rfl) ?_
        refine lv_iconst (v := iI 0) hx hb dX8_turns_188 rfl ?_
        refine g_puti G X (k := 0) (fs := fM Y) (z := 0) (Nat.le_of_ble_eq_true rfl) (fun _ => rfl) rfl in_X8 tyX8 tyX8_ok nmX8 12 12 (by decide) l_f96 rfl rfl (by decide +kernel) (Nat.le_of_ble_eq_true rfl) (fun _ => rfl) dX8_turns_189 (fun H locs X => ?_)
        have hF0 : Fr 9 11 12 12 σ (up σ 0 12 0) := Fr.rf.fl (Or.inl rfl)
        refine lv_aload_n hx hb dX8_turns_192 rfl (lv_at hl 0 rfl) ?_
        refine lv_iconst (v := iI 0) hx hb dX8_turns_193 rfl ?_
        refine lv_iload_n hx hb dX8_turns_194 rfl (lv_at hl 3 rfl) ?_
        refine lv_iload_n hx hb dX8_turns_195 rfl (lv_at hl 2 rfl) ?_
        refine g_callVv G X (rest := []) (As := [.int (iI (0)), .int (iI (F)), .int (iI (side))]) (t_X8_rises l Y ((up σ 0 12 0)) P (0) (F) (side) ([]) (hMG.fr hF0 (by omega) (by omega)) (by first | assumption | omega) (by first | assumption | omega) (by show ((0 : Nat) : Int) ≤ 0; omega) mblk_0) (cwV 3 hts gX8_turns_X8_rises rfl rfl rfl (by decide +kernel) ⟨Nat.le_of_ble_eq_true rfl, Nat.le_of_ble_eq_true rfl⟩) (k := 0) (Nat.le_of_ble_eq_true rfl) rfl rfl rfl rfl hl.1 rfl (Nat.le_of_ble_eq_true rfl) dX8_turns_196 ⟨Nat.le_refl _, Nat.le_refl _⟩ (fun u196 H locs hq196 X => ?_)
        obtain ⟨C, hC⟩ : ∃ C, C = (poolL side (gW P) (gM P) 0 (F - 0).toNat).reverse := ⟨_, rfl⟩
        have hJC : MBlk u196 (gW P) (gM P) C F := by rw [hC]; exact hq196.1
        have hF1 := hF0.trans hq196.2
        have hJl := hJC.1
        have hst := poolL_stk (side := side) (W := gW P) (M := gM P) (a := 0) F.toNat
        have hsl := hst.len
        have hCl : (C.length : Int) ≤ F := by rw [hC, List.length_reverse, show F - 0 = F by omega]; omega
        refine lv_aload_n hx hb dX8_turns_199 rfl (lv_at hl 0 rfl) ?_
        refine g_get G X (k := 0) (fs := fM Y) (Nat.le_of_ble_eq_true rfl) (fun _ => rfl) rfl in_X8 13 (by decide) l_f35 rfl (v := .ref (Y.2.1 (9))) rfl dX8_turns_200 ?_
        refine lv_aload_n hx hb dX8_turns_203 rfl (lv_at hl 0 rfl) ?_
        refine g_get G X (k := 0) (fs := fM Y) (Nat.le_of_ble_eq_true rfl) (fun _ => rfl) rfl in_X8 12 (by decide) l_f96 rfl (v := .int (iI ((u196 0 12)))) rfl dX8_turns_204 ?_
        refine g_topi (z' := (C.length : Int)) hJl ?_
        refine lv_iload_n hx hb dX8_turns_207 rfl (lv_at hl 3 rfl) ?_
        refine g_iast G X (k := 9) (n := 14) (Nat.le_of_ble_eq_true rfl) (fun _ => rfl) (by decide) (z := (C.length : Int)) (v := F) (by omega) dX8_turns_208 (fun H locs X => ?_)
        refine lv_aload_n hx hb dX8_turns_209 rfl (lv_at hl 0 rfl) ?_
        refine g_get G X (k := 0) (fs := fM Y) (Nat.le_of_ble_eq_true rfl) (fun _ => rfl) rfl in_X8 15 (by decide) l_f41 rfl (v := .ref (Y.2.1 (11))) rfl dX8_turns_210 ?_
        refine lv_aload_n hx hb dX8_turns_213 rfl (lv_at hl 0 rfl) ?_
        refine g_get G X (k := 0) (fs := fM Y) (Nat.le_of_ble_eq_true rfl) (fun _ => rfl) rfl in_X8 12 (by decide) l_f96 rfl (v := .int (iI ((u196 0 12)))) rfl dX8_turns_214 ?_
        refine g_topi (z' := (C.length : Int)) hJl ?_
        refine lv_iload hx hb dX8_turns_217 (lv_at hl 5 rfl) ?_
        refine g_iast G X (k := 11) (n := 13) (Nat.le_of_ble_eq_true rfl) (fun _ => rfl) (by decide) (z := (C.length : Int)) (v := (gM P (T + 1) - gM P F)) (by omega) dX8_turns_219 (fun H locs X => ?_)
        refine lv_aload_n hx hb dX8_turns_220 rfl (lv_at hl 0 rfl) ?_
        refine g_get G X (k := 0) (fs := fM Y) (Nat.le_of_ble_eq_true rfl) (fun _ => rfl) rfl in_X8 14 (by decide) l_f38 rfl (v := .ref (Y.2.1 (10))) rfl dX8_turns_221 ?_
        refine lv_aload_n hx hb dX8_turns_224 rfl (lv_at hl 0 rfl) ?_
        refine g_get G X (k := 0) (fs := fM Y) (Nat.le_of_ble_eq_true rfl) (fun _ => rfl) rfl in_X8 12 (by decide) l_f96 rfl (v := .int (iI ((u196 0 12)))) rfl dX8_turns_225 ?_
        refine g_topi (z' := (C.length : Int)) hJl ?_
        refine lv_iload hx hb dX8_turns_228 (lv_at hl 6 rfl) ?_
        refine g_iast G X (k := 10) (n := 13) (Nat.le_of_ble_eq_true rfl) (fun _ => rfl) (by decide) (z := (C.length : Int)) (v := (gW P (T + 1) - gW P F)) (by omega) dX8_turns_230 (fun H locs X => ?_)
        refine lv_aload_n hx hb dX8_turns_231 rfl (lv_at hl 0 rfl) ?_
        refine lv_dup hx hb dX8_turns_232 rfl ?_
        refine g_get G X (k := 0) (fs := fM Y) (Nat.le_of_ble_eq_true rfl) (fun _ => rfl) rfl in_X8 12 (by decide) l_f96 rfl (v := .int (iI ((u196 0 12)))) rfl dX8_turns_233 ?_
        refine g_topi (z' := (C.length : Int)) hJl ?_
        refine lv_iconst (v := iI 1) hx hb dX8_turns_236 rfl ?_
        refine g_iadd G dX8_turns_237 ?_
        refine g_puti G X (k := 0) (fs := fM Y) (z := ((C.length : Int) + 1)) (Nat.le_of_ble_eq_true rfl) (fun _ => rfl) rfl in_X8 tyX8 tyX8_ok nmX8 12 12 (by decide) l_f96 rfl rfl (by decide +kernel) (Nat.le_of_ble_eq_true rfl) (fun _ => rfl) dX8_turns_238 (fun H locs X => ?_)
        have hB2 : MBlk (up (up (up (up u196 9 (C.length : Int) F) 11 (C.length : Int) (gM P (T + 1) - gM P F)) 10 (C.length : Int) (gW P (T + 1) - gW P F)) 0 12 ((C.length : Int) + 1)) (gW P) (gM P) (C ++ [F]) (T + 1) := mblk_push hJC rfl rfl
        have hF2 : Fr 9 11 12 12 σ (up (up (up (up u196 9 (C.length : Int) F) 11 (C.length : Int) (gM P (T + 1) - gM P F)) 10 (C.length : Int) (gW P (T + 1) - gW P F)) 0 12 ((C.length : Int) + 1)) := (((hF1.pl (by omega)).pl (by omega)).pl (by omega)).fl (Or.inl rfl)
        refine lv_aload_n hx hb dX8_turns_241 rfl (lv_at hl 0 rfl) ?_
        refine lv_iload hx hb dX8_turns_242 (lv_at hl 4 rfl) ?_
        refine lv_iconst (v := iI 1) hx hb dX8_turns_244 rfl ?_
        refine g_iadd G dX8_turns_245 ?_
        refine lv_aload_n hx hb dX8_turns_246 rfl (lv_at hl 0 rfl) ?_
        refine g_get G X (k := 0) (fs := fM Y) (Nat.le_of_ble_eq_true rfl) (fun _ => rfl) rfl in_X8 8 (by decide) l_f72 rfl (v := .int (iI ((u196 0 8)))) rfl dX8_turns_247 ?_
        refine g_topi (z' := ng P) ((hMG.fr hF2 (by omega) (by omega)).2.2.1) ?_
        refine lv_iload_n hx hb dX8_turns_250 rfl (lv_at hl 2 rfl) ?_
        refine g_ineg G dX8_turns_251 ?_
        refine g_callVv G X (rest := []) (As := [.int (iI ((T + 1))), .int (iI ((ng P))), .int (iI ((-side)))]) (t_X8_rises l Y ((up (up (up (up u196 9 (C.length : Int) F) 11 (C.length : Int) (gM P (T + 1) - gM P F)) 10 (C.length : Int) (gW P (T + 1) - gW P F)) 0 12 ((C.length : Int) + 1))) P ((T + 1)) ((ng P)) ((-side)) (C ++ [F]) (hMG.fr hF2 (by omega) (by omega)) (by first | assumption | omega) (by first | assumption | omega) (by rw [List.length_append, List.length_singleton]; omega) hB2) (cwV 3 hts gX8_turns_X8_rises rfl rfl rfl (by decide +kernel) ⟨Nat.le_of_ble_eq_true rfl, Nat.le_of_ble_eq_true rfl⟩) (k := 0) (Nat.le_of_ble_eq_true rfl) rfl rfl rfl rfl hl.1 rfl (Nat.le_of_ble_eq_true rfl) dX8_turns_252 ⟨Nat.le_refl _, Nat.le_refl _⟩ (fun u252 H locs hq252 X => ?_)
        have hpk : pkB (ng P) (gW P) (gM P) side t = C ++ [F] ++ (poolL (-side) (gW P) (gM P) (T + 1) (ng P - (T + 1)).toNat).reverse := by { rw [pkB_eq hTop, hC, List.nil_append, show F - 1 + 1 - 0 = F - 0 by omega, show ng P - 1 + 1 - (T + 1) = ng P - (T + 1) by omega] }
        have hF3 := hF2.trans hq252.2
        have hB3 : MBlk u252 (gW P) (gM P) (pkB (ng P) (gW P) (gM P) side t) (ng P) := by rw [hpk]; exact hq252.1
        have hap := adj_peak hPr hTop
        refine lv_aload_n hx hb dX8_turns_255 rfl (lv_at hl 0 rfl) ?_
        refine g_callVv G X (rest := []) (As := []) (t_X8_joins l Y (u252) P (_) (hMG.fr hF3 (by omega) (by omega)) hB3 hap.2 hap.1) (cwV 0 hts gX8_turns_X8_joins rfl rfl rfl (by decide +kernel) ⟨Nat.le_of_ble_eq_true rfl, Nat.le_of_ble_eq_true rfl⟩) (k := 0) (Nat.le_of_ble_eq_true rfl) rfl rfl rfl rfl hl.1 rfl (Nat.le_of_ble_eq_true rfl) dX8_turns_256 ⟨Nat.le_refl _, Nat.le_refl _⟩ (fun u256 H locs hq256 X => ?_)
        exact hret _ _ _ _ _ (⟨⟨hq256.1, hap.2⟩, hF3.trans hq256.2⟩) X dX8_turns_259
      ·
        have hgf := hG.2 f (by omega) (by omega)
        refine lv_iload hx hb dX8_turns_35 (lv_at hl 7 rfl) ?_
        refine lv_aload_n hx hb dX8_turns_37 rfl (lv_at hl 0 rfl) ?_
        refine g_get G X (k := 0) (fs := fM Y) (Nat.le_of_ble_eq_true rfl) (fun _ => rfl) rfl in_X8 11 (by decide) l_f32 rfl (v := .ref (Y.2.1 (8))) rfl dX8_turns_38 ?_
        refine lv_iload hx hb dX8_turns_41 (lv_at hl 9 rfl) ?_
        refine g_iald G X (k := 8) (n := 12) (Nat.le_of_ble_eq_true rfl) (fun _ => rfl) (by decide) (z := f) (by omega) dX8_turns_43 ?_
        refine g_iadd G dX8_turns_44 ?_
        refine g_topi (z' := gM P (t + 1) - gM P f) (by omega) ?_
        refine lv_istore (lv' := [(7, .int (iI ((gM P (t + 1) - gM P f)))), (0, .ref (Y.2.1 (0))), (1, .int (iI (t))), (2, .int (iI (side))), (3, .int (iI (F))), (4, .int (iI (T))), (5, .int (iI ((gM P (T + 1) - gM P F)))), (6, .int (iI ((gW P (T + 1) - gW P F)))), (8, .int (iI ((gW P (t + 1) - gW P (f + 1))))), (9, .int (iI (f)))]) hx hb dX8_turns_45 hl (by decide) rfl (fun ls hl => ?_)
        refine lv_iload hx hb dX8_turns_47 (lv_at hl 8 rfl) ?_
        refine lv_aload_n hx hb dX8_turns_49 rfl (lv_at hl 1 rfl) ?_
        refine g_get G X (k := 0) (fs := fM Y) (Nat.le_of_ble_eq_true rfl) (fun _ => rfl) rfl in_X8 10 (by decide) l_f29 rfl (v := .ref (Y.2.1 (7))) rfl dX8_turns_50 ?_
        refine lv_iload hx hb dX8_turns_53 (lv_at hl 9 rfl) ?_
        refine g_iald G X (k := 7) (n := 12) (Nat.le_of_ble_eq_true rfl) (fun _ => rfl) (by decide) (z := f) (by omega) dX8_turns_55 ?_
        refine g_iadd G dX8_turns_56 ?_
        refine g_topi (z' := gW P (t + 1) - gW P f) (by omega) ?_
        refine lv_istore (lv' := [(8, .int (iI ((gW P (t + 1) - gW P f)))), (7, .int (iI ((gM P (t + 1) - gM P f)))), (0, .ref (Y.2.1 (0))), (1, .int (iI (t))), (2, .int (iI (side))), (3, .int (iI (F))), (4, .int (iI (T))), (5, .int (iI ((gM P (T + 1) - gM P F)))), (6, .int (iI ((gW P (T + 1) - gW P F)))), (9, .int (iI (f)))]) hx hb dX8_turns_57 hl (by decide) rfl (fun ls hl => ?_)
        refine lv_iload hx hb dX8_turns_59 (lv_at hl 1 rfl) ?_
        refine lv_istore (lv' := [(10, .int (iI ((gM P (t + 1) - gM P f)))), (8, .int (iI ((gW P (t + 1) - gW P f)))), (7, .int (iI ((gM P (t + 1) - gM P f)))), (0, .ref (Y.2.1 (0))), (1, .int (iI (t))), (2, .int (iI (side))), (3, .int (iI (F))), (4, .int (iI (T))), (5, .int (iI ((gM P (T + 1) - gM P F)))), (6, .int (iI ((gW P (T + 1) - gW P F)))), (9, .int (iI (f)))]) hx hb dX8_turns_61 hl (by decide) rfl (fun ls hl => ?_)
        refine lv_iload hx hb dX8_turns_63 (lv_at hl 1 rfl) ?_
        refine lv_istore (lv' := [(11, .int (iI ((gW P (t + 1) - gW P f)))), (10, .int (iI ((gM P (t + 1) - gM P f)))), (8, .int (iI ((gW P (t + 1) - gW P f)))), (7, .int (iI ((gM P (t + 1) - gM P f)))), (0, .ref (Y.2.1 (0))), (1, .int (iI (t))), (2, .int (iI (side))), (3, .int (iI (F))), (4, .int (iI (T))), (5, .int (iI ((gM P (T + 1) - gM P F)))), (6, .int (iI ((gW P (T + 1) - gW P F)))), (9, .int (iI (f)))]) hx hb dX8_turns_65 hl (by decide) rfl (fun ls hl => ?_)
        refine lv_iload_n hx hb dX8_turns_67 rfl (lv_at hl 5 rfl) ?_
        refine lv_istore (lv' := [(12, .int (iI (t))), (11, .int (iI ((gW P (t + 1) - gW P f)))), (10, .int (iI ((gM P (t + 1) - gM P f)))), (8, .int (iI ((gW P (t + 1) - gW P f)))), (7, .int (iI ((gM P (t + 1) - gM P f)))), (0, .ref (Y.2.1 (0))), (1, .int (iI (t))), (2, .int (iI (side))), (3, .int (iI (F))), (4, .int (iI (T))), (5, .int (iI ((gM P (T + 1) - gM P F)))), (6, .int (iI ((gW P (T + 1) - gW P F)))), (9, .int (iI (f)))]) hx hb dX8_turns_68 hl (by decide) rfl (fun ls hl => ?_)
        have lp_70 : ∀ (nn : Nat) (m2 w2 la F T : Int), ∀ hl2 : t ≤ la ∧ la ≤ ng P, ∀ hm2 : (la = t → m2 = gM P (t + 1) - gM P f ∧ w2 = gW P (t + 1) - gW P f) ∧ (t < la → m2 = gM P la - gM P f ∧ w2 = gW P la - gW P f), ∀ hJ : FTL (ng P) (gW P) (gM P) side t f la F T, ∀ hdec : (ng P - la) < (nn : Int), ∀ (H : Heap) (locs : List Loc) (ls : Array Slot), wx LM Y σ ss AA H locs → lv_has ls 14 [(0, .ref (Y.2.1 (0))), (1, .int (iI (t))), (2, .int (iI (side))), (3, .int (iI (F))), (4, .int (iI (T))), (5, .int (iI ((gM P (T + 1) - gM P F)))), (6, .int (iI ((gW P (T + 1) - gW P F)))), (7, .int (iI ((gM P (t + 1) - gM P f)))), (8, .int (iI ((gW P (t + 1) - gW P f)))), (9, .int (iI (f))), (10, .int (iI (m2))), (11, .int (iI (w2))), (12, .int (iI (la)))] → W pp l ee { frames := 3, cells := 0, slots := 0, locals := 74 } ss mm ([.ref (Y.2.1 (0)), .int (iI (t)), .int (iI (side))] : List Value).toArray bw mt cd H locs 0 0 ZZ (F0 mm 70 ls []) := by
          intro nn
          induction nn with
          | zero =>
            intro m2 w2 la F T hl2 hm2 hJ hdec
            exact absurd hdec (by omega)
          | succ nn ih_70 =>
            intro m2 w2 la F T hl2 hm2 hJ hdec H locs ls X hl
            have hJ1 := hJ.1
            refine lv_iload hx hb dX8_turns_70 (lv_at hl 12 rfl) ?_
            refine lv_aload_n hx hb dX8_turns_72 rfl (lv_at hl 0 rfl) ?_
            refine g_get G X (k := 0) (fs := fM Y) (Nat.le_of_ble_eq_true rfl) (fun _ => rfl) rfl in_X8 8 (by decide) l_f72 rfl (v := .int (iI ((σ 0 8)))) rfl dX8_turns_73 ?_
            refine g_topi (z' := ng P) hG.1 ?_
            refine g_icmp_ge (tgt := 181) G dX8_turns_76 (by decide) (by omega) (by omega) (fun h76 => ?_) (fun h76 => ?_)
            ·
              refine lv_iinc (v := iI (f + (-1))) (lv' := [(9, .int (iI ((f + (-1))))), (0, .ref (Y.2.1 (0))), (1, .int (iI (t))), (2, .int (iI (side))), (3, .int (iI (F))), (4, .int (iI (T))), (5, .int (iI ((gM P (T + 1) - gM P F)))), (6, .int (iI ((gW P (T + 1) - gW P F)))), (7, .int (iI ((gM P (t + 1) - gM P f)))), (8, .int (iI ((gW P (t + 1) - gW P f)))), (10, .int (iI (m2))), (11, .int (iI (w2))), (12, .int (iI (la)))]) hx hb dX8_turns_181 hl (k := 9) rfl (iI_add _ _) (by decide) rfl (fun ls hl => ?_)
              refine lv_goto (tgt := 30) hx hb dX8_turns_184 (by decide) ?_
              have hfe : f + (-1) + 1 = f := by omega
              rw [show gM P (t + 1) - gM P f = gM P (t + 1) - gM P (f + (-1) + 1) by rw [hfe], show gW P (t + 1) - gW P f = gW P (t + 1) - gW P (f + (-1) + 1) by rw [hfe]] at hl
              exact ih_30 ((f + (-1))) (F) (T) (by omega) (FTL_next hJ (by omega)) (by omega) _ _ _ X (lv_sub hl [1, 2, 3, 4, 5, 6, 7, 8, 9, 0] rfl)
            ·
              have hgl := hG.2 la (by omega) (by omega)
              have hcr := cmpM_rg hPr (a := f) (b := la) (c := F) (d := T) (by omega) (by omega)
              refine lv_iload hx hb dX8_turns_79 (lv_at hl 10 rfl) ?_
              refine lv_iload hx hb dX8_turns_81 (lv_at hl 12 rfl) ?_
              refine lv_iload_n hx hb dX8_turns_83 rfl (lv_at hl 1 rfl) ?_
              refine g_icmp_le (tgt := 97) G dX8_turns_84 (by decide) (by omega) (by omega) (fun h84 => ?_) (fun h84 => ?_)
              ·
                have hlt : la = t := by omega
                have hm3 := hm2.1 hlt
                have hlt2 : gM P (la + 1) = gM P (t + 1) ∧ gW P (la + 1) = gW P (t + 1) := by rw [hlt]; exact ⟨rfl, rfl⟩
                refine lv_iconst (v := iI 0) hx hb dX8_turns_97 rfl ?_
                refine g_iadd G dX8_turns_98 ?_
                refine g_topi (z' := gM P (la + 1) - gM P f) (by omega) ?_
                refine lv_istore (lv' := [(10, .int (iI ((gM P (la + 1) - gM P f)))), (0, .ref (Y.2.1 (0))), (1, .int (iI (t))), (2, .int (iI (side))), (3, .int (iI (F))), (4, .int (iI (T))), (5, .int (iI ((gM P (T + 1) - gM P F)))), (6, .int (iI ((gW P (T + 1) - gW P F)))), (7, .int (iI ((gM P (t + 1) - gM P f)))), (8, .int (iI ((gW P (t + 1) - gW P f)))), (9, .int (iI (f))), (11, .int (iI (w2))), (12, .int (iI (la)))]) hx hb dX8_turns_99 hl (by decide) rfl (fun ls hl => ?_)
                refine lv_iload hx hb dX8_turns_101 (lv_at hl 11 rfl) ?_
                refine lv_iload hx hb dX8_turns_103 (lv_at hl 12 rfl) ?_
                refine lv_iload_n hx hb dX8_turns_105 rfl (lv_at hl 2 rfl) ?_
                refine g_icmp_le (tgt := 119) G dX8_turns_106 (by decide) (by omega) (by omega) (fun h106 => ?_) (fun h106 => ?_)
                ·
                  refine lv_iconst (v := iI 0) hx hb dX8_turns_119 rfl ?_
                  refine g_iadd G dX8_turns_120 ?_
                  refine g_topi (z' := gW P (la + 1) - gW P f) (by omega) ?_
                  refine lv_istore (lv' := [(11, .int (iI ((gW P (la + 1) - gW P f)))), (10, .int (iI ((gM P (la + 1) - gM P f)))), (0, .ref (Y.2.1 (0))), (1, .int (iI (t))), (2, .int (iI (side))), (3, .int (iI (F))), (4, .int (iI (T))), (5, .int (iI ((gM P (T + 1) - gM P F)))), (6, .int (iI ((gW P (T + 1) - gW P F)))), (7, .int (iI ((gM P (t + 1) - gM P f)))), (8, .int (iI ((gW P (t + 1) - gW P f)))), (9, .int (iI (f))), (12, .int (iI (la)))]) hx hb dX8_turns_121 hl (by decide) rfl (fun ls hl => ?_)
                  refine lv_iload_n hx hb dX8_turns_123 rfl (lv_at hl 4 rfl) ?_
                  refine lv_iload hx hb dX8_turns_124 (lv_at hl 1 rfl) ?_
                  refine lv_iload hx hb dX8_turns_126 (lv_at hl 0 rfl) ?_
                  refine lv_iload hx hb dX8_turns_128 (lv_at hl 7 rfl) ?_
                  refine lv_iload hx hb dX8_turns_130 (lv_at hl 8 rfl) ?_
                  refine g_callSi G X (rest := [.int (iI (side))]) (As := [.int (iI ((gM P (la + 1) - gM P f))), .int (iI ((gW P (la + 1) - gW P f))), .int (iI ((gM P (T + 1) - gM P F))), .int (iI ((gW P (T + 1) - gW P F)))]) (t_X8_compared l Y (σ) ((gM P (la + 1) - gM P f)) ((gW P (la + 1) - gW P f)) ((gM P (T + 1) - gM P F)) ((gW P (T + 1) - gW P F))) (va_cwS 4 hts gX8_turns_X8_compared rfl rfl rfl (by decide +kernel) ⟨Nat.le_of_ble_eq_true rfl, Nat.le_of_ble_eq_true rfl⟩) rfl hl.1 rfl (Nat.le_of_ble_eq_true rfl) dX8_turns_132 ⟨Nat.le_refl _, Nat.le_refl _⟩ (fun z132 u132 H locs hq132 X => ?_)
                  rw [hq132.1] at X
                  have hq132 := hq132.2
                  try dsimp only at hq132
                  refine g_topi (z' := cmpM (gW P) (gM P) f la F T) (by rw [hq132]; rfl) ?_
                  refine g_imul G dX8_turns_135 ?_
                  obtain ⟨sc, hsc⟩ : ∃ sc : Int, sc = side * cmpM (gW P) (gM P) f la F T := ⟨_, rfl⟩
                  refine g_topi (z' := sc) hsc.symm ?_
                  have hsr : -114048 ≤ sc ∧ sc ≤ 114048 := by rw [hsc]; rcases hs with rfl | rfl <;> omega
                  refine lv_istore (lv' := [(13, .int (iI (sc))), (11, .int (iI ((gW P (la + 1) - gW P f)))), (10, .int (iI ((gM P (la + 1) - gM P f)))), (0, .ref (Y.2.1 (0))), (1, .int (iI (t))), (2, .int (iI (side))), (3, .int (iI (F))), (4, .int (iI (T))), (5, .int (iI ((gM P (T + 1) - gM P F)))), (6, .int (iI ((gW P (T + 1) - gW P F)))), (7, .int (iI ((gM P (t + 1) - gM P f)))), (8, .int (iI ((gW P (t + 1) - gW P f)))), (9, .int (iI (f))), (12, .int (iI (la)))]) hx hb dX8_turns_136 hl (by decide) rfl (fun ls hl => ?_)
                  refine lv_iload hx hb dX8_turns_138 (lv_at hl 0 rfl) ?_
                  refine g_if_gt (tgt := 160) G dX8_turns_140 (by decide) (by omega) (fun h140 => ?_) (fun h140 => ?_)
                  ·
                    refine lv_iload hx hb dX8_turns_160 (lv_at hl 12 rfl) ?_
                    refine lv_istore_n (lv' := [(3, .int (iI (f))), (13, .int (iI (sc))), (11, .int (iI ((gW P (la + 1) - gW P f)))), (10, .int (iI ((gM P (la + 1) - gM P f)))), (0, .ref (Y.2.1 (0))), (1, .int (iI (t))), (2, .int (iI (side))), (4, .int (iI (T))), (5, .int (iI ((gM P (T + 1) - gM P F)))), (6, .int (iI ((gW P (T + 1) - gW P F)))), (7, .int (iI ((gM P (t + 1) - gM P f)))), (8, .int (iI ((gW P (t + 1) - gW P f)))), (9, .int (iI (f))), (12, .int (iI (la)))]) hx hb dX8_turns_162 rfl hl (by decide) rfl (fun ls hl => ?_)
                    refine lv_iload hx hb dX8_turns_163 (lv_at hl 13 rfl) ?_
                    refine lv_istore (lv' := [(4, .int (iI (la))), (3, .int (iI (f))), (13, .int (iI (sc))), (11, .int (iI ((gW P (la + 1) - gW P f)))), (10, .int (iI ((gM P (la + 1) - gM P f)))), (0, .ref (Y.2.1 (0))), (1, .int (iI (t))), (2, .int (iI (side))), (5, .int (iI ((gM P (T + 1) - gM P F)))), (6, .int (iI ((gW P (T + 1) - gW P F)))), (7, .int (iI ((gM P (t + 1) - gM P f)))), (8, .int (iI ((gW P (t + 1) - gW P f)))), (9, .int (iI (f))), (12, .int (iI (la)))]) hx hb dX8_turns_165 hl (by decide) rfl (fun ls hl => ?_)
                    refine lv_iload hx hb dX8_turns_167 (lv_at hl 4 rfl) ?_
                    refine lv_istore (lv' := [(5, .int (iI ((gM P (la + 1) - gM P f)))), (4, .int (iI (la))), (3, .int (iI (f))), (13, .int (iI (sc))), (11, .int (iI ((gW P (la + 1) - gW P f)))), (10, .int (iI ((gM P (la + 1) - gM P f)))), (0, .ref (Y.2.1 (0))), (1, .int (iI (t))), (2, .int (iI (side))), (6, .int (iI ((gW P (T + 1) - gW P F)))), (7, .int (iI ((gM P (t + 1) - gM P f)))), (8, .int (iI ((gW P (t + 1) - gW P f)))), (9, .int (iI (f))), (12, .int (iI (la)))]) hx hb dX8_turns_169 hl (by decide) rfl (fun ls hl => ?_)
                    refine lv_iload hx hb dX8_turns_171 (lv_at hl 4 rfl) ?_
                    refine lv_istore (lv' := [(6, .int (iI ((gW P (la + 1) - gW P f)))), (5, .int (iI ((gM P (la + 1) - gM P f)))), (4, .int (iI (la))), (3, .int (iI (f))), (13, .int (iI (sc))), (11, .int (iI ((gW P (la + 1) - gW P f)))), (10, .int (iI ((gM P (la + 1) - gM P f)))), (0, .ref (Y.2.1 (0))), (1, .int (iI (t))), (2, .int (iI (side))), (7, .int (iI ((gM P (t + 1) - gM P f)))), (8, .int (iI ((gW P (t + 1) - gW P f)))), (9, .int (iI (f))), (12, .int (iI (la)))]) hx hb dX8_turns_173 hl (by decide) rfl (fun ls hl => ?_)
                    refine lv_iinc (v := iI (la + 1)) (lv' := [(12, .int (iI ((la + 1)))), (6, .int (iI ((gW P (la + 1) - gW P f)))), (5, .int (iI ((gM P (la + 1) - gM P f)))), (4, .int (iI (la))), (3, .int (iI (f))), (13, .int (iI (sc))), (11, .int (iI ((gW P (la + 1) - gW P f)))), (10, .int (iI ((gM P (la + 1) - gM P f)))), (0, .ref (Y.2.1 (0))), (1, .int (iI (t))), (2, .int (iI (side))), (7, .int (iI ((gM P (t + 1) - gM P f)))), (8, .int (iI ((gW P (t + 1) - gW P f)))), (9, .int (iI (f)))]) hx hb dX8_turns_175 hl (k := 13) rfl (iI_add _ _) (by decide) rfl (fun ls hl => ?_)
                    refine lv_goto (tgt := 70) hx hb dX8_turns_178 (by decide) ?_
                    exact ih_70 ((gM P (la + 1) - gM P f)) ((gW P (la + 1) - gW P f)) ((la + 1)) (f) (la) (by omega) ⟨fun h => absurd h (by omega), fun _ => ⟨rfl, rfl⟩⟩ (by first | exact FTL_take hPr hJ (by omega) hsc (by omega) | exact FTL_keep hJ hsc (by omega)) (by omega) _ _ _ X (lv_sub hl [8, 9, 10, 4, 3, 2, 1, 11, 12, 13, 7, 6, 0] rfl)
                  ·
                    refine lv_iload hx hb dX8_turns_143 (lv_at hl 0 rfl) ?_
                    refine g_if_ne (tgt := 175) G dX8_turns_145 (by decide) (by omega) (fun h145 => ?_) (fun h145 => ?_)
                    ·
                      refine lv_iinc (v := iI (la + 1)) (lv' := [(12, .int (iI ((la + 1)))), (13, .int (iI (sc))), (11, .int (iI ((gW P (la + 1) - gW P f)))), (10, .int (iI ((gM P (la + 1) - gM P f)))), (0, .ref (Y.2.1 (0))), (1, .int (iI (t))), (2, .int (iI (side))), (3, .int (iI (F))), (4, .int (iI (T))), (5, .int (iI ((gM P (T + 1) - gM P F)))), (6, .int (iI ((gW P (T + 1) - gW P F)))), (7, .int (iI ((gM P (t + 1) - gM P f)))), (8, .int (iI ((gW P (t + 1) - gW P f)))), (9, .int (iI (f)))]) hx hb dX8_turns_175 hl (k := 13) rfl (iI_add _ _) (by decide) rfl (fun ls hl => ?_)
                      refine lv_goto (tgt := 70) hx hb dX8_turns_178 (by decide) ?_
                      exact ih_70 ((gM P (la + 1) - gM P f)) ((gW P (la + 1) - gW P f)) ((la + 1)) (F) (T) (by omega) ⟨fun h => absurd h (by omega), fun _ => ⟨rfl, rfl⟩⟩ (by first | exact FTL_take hPr hJ (by omega) hsc (by omega) | exact FTL_keep hJ hsc (by omega)) (by omega) _ _ _ X (lv_sub hl [4, 5, 6, 7, 8, 9, 10, 11, 12, 13, 3, 2, 0] rfl)
                    ·
                      refine lv_iload hx hb dX8_turns_148 (lv_at hl 13 rfl) ?_
                      refine lv_iload hx hb dX8_turns_150 (lv_at hl 12 rfl) ?_
                      refine g_isub G dX8_turns_152 ?_
                      refine lv_iload hx hb dX8_turns_153 (lv_at hl 7 rfl) ?_
                      refine lv_iload_n hx hb dX8_turns_155 rfl (lv_at hl 6 rfl) ?_
                      refine g_isub G dX8_turns_156 ?_
                      refine g_icmp_le (tgt := 175) G dX8_turns_157 (by decide) (by omega) (by omega) (fun h157 => ?_) (fun h157 => ?_)
                      ·
                        refine lv_iinc (v := iI (la + 1)) (lv' := [(12, .int (iI ((la + 1)))), (13, .int (iI (sc))), (11, .int (iI ((gW P (la + 1) - gW P f)))), (10, .int (iI ((gM P (la + 1) - gM P f)))), (0, .ref (Y.2.1 (0))), (1, .int (iI (t))), (2, .int (iI (side))), (3, .int (iI (F))), (4, .int (iI (T))), (5, .int (iI ((gM P (T + 1) - gM P F)))), (6, .int (iI ((gW P (T + 1) - gW P F)))), (7, .int (iI ((gM P (t + 1) - gM P f)))), (8, .int (iI ((gW P (t + 1) - gW P f)))), (9, .int (iI (f)))]) hx hb dX8_turns_175 hl (k := 13) rfl (iI_add _ _) (by decide) rfl (fun ls hl => ?_)
                        refine lv_goto (tgt := 70) hx hb dX8_turns_178 (by decide) ?_
                        exact ih_70 ((gM P (la + 1) - gM P f)) ((gW P (la + 1) - gW P f)) ((la + 1)) (F) (T) (by omega) ⟨fun h => absurd h (by omega), fun _ => ⟨rfl, rfl⟩⟩ (by first | exact FTL_take hPr hJ (by omega) hsc (by omega) | exact FTL_keep hJ hsc (by omega)) (by omega) _ _ _ X (lv_sub hl [4, 5, 6, 7, 8, 9, 10, 11, 12, 13, 3, 2, 0] rfl)
                      ·
                        refine lv_iload hx hb dX8_turns_160 (lv_at hl 12 rfl) ?_
                        refine lv_istore_n (lv' := [(3, .int (iI (f))), (13, .int (iI (sc))), (11, .int (iI ((gW P (la + 1) - gW P f)))), (10, .int (iI ((gM P (la + 1) - gM P f)))), (0, .ref (Y.2.1 (0))), (1, .int (iI (t))), (2, .int (iI (side))), (4, .int (iI (T))), (5, .int (iI ((gM P (T + 1) - gM P F)))), (6, .int (iI ((gW P (T + 1) - gW P F)))), (7, .int (iI ((gM P (t + 1) - gM P f)))), (8, .int (iI ((gW P (t + 1) - gW P f)))), (9, .int (iI (f))), (12, .int (iI (la)))]) hx hb dX8_turns_162 rfl hl (by decide) rfl (fun ls hl => ?_)
                        refine lv_iload hx hb dX8_turns_163 (lv_at hl 13 rfl) ?_
                        refine lv_istore (lv' := [(4, .int (iI (la))), (3, .int (iI (f))), (13, .int (iI (sc))), (11, .int (iI ((gW P (la + 1) - gW P f)))), (10, .int (iI ((gM P (la + 1) - gM P f)))), (0, .ref (Y.2.1 (0))), (1, .int (iI (t))), (2, .int (iI (side))), (5, .int (iI ((gM P (T + 1) - gM P F)))), (6, .int (iI ((gW P (T + 1) - gW P F)))), (7, .int (iI ((gM P (t + 1) - gM P f)))), (8, .int (iI ((gW P (t + 1) - gW P f)))), (9, .int (iI (f))), (12, .int (iI (la)))]) hx hb dX8_turns_165 hl (by decide) rfl (fun ls hl => ?_)
                        refine lv_iload hx hb dX8_turns_167 (lv_at hl 4 rfl) ?_
                        refine lv_istore (lv' := [(5, .int (iI ((gM P (la + 1) - gM P f)))), (4, .int (iI (la))), (3, .int (iI (f))), (13, .int (iI (sc))), (11, .int (iI ((gW P (la + 1) - gW P f)))), (10, .int (iI ((gM P (la + 1) - gM P f)))), (0, .ref (Y.2.1 (0))), (1, .int (iI (t))), (2, .int (iI (side))), (6, .int (iI ((gW P (T + 1) - gW P F)))), (7, .int (iI ((gM P (t + 1) - gM P f)))), (8, .int (iI ((gW P (t + 1) - gW P f)))), (9, .int (iI (f))), (12, .int (iI (la)))]) hx hb dX8_turns_169 hl (by decide) rfl (fun ls hl => ?_)
                        refine lv_iload hx hb dX8_turns_171 (lv_at hl 4 rfl) ?_
                        refine lv_istore (lv' := [(6, .int (iI ((gW P (la + 1) - gW P f)))), (5, .int (iI ((gM P (la + 1) - gM P f)))), (4, .int (iI (la))), (3, .int (iI (f))), (13, .int (iI (sc))), (11, .int (iI ((gW P (la + 1) - gW P f)))), (10, .int (iI ((gM P (la + 1) - gM P f)))), (0, .ref (Y.2.1 (0))), (1, .int (iI (t))), (2, .int (iI (side))), (7, .int (iI ((gM P (t + 1) - gM P f)))), (8, .int (iI ((gW P (t + 1) - gW P f)))), (9, .int (iI (f))), (12, .int (iI (la)))]) hx hb dX8_turns_173 hl (by decide) rfl (fun ls hl => ?_)
                        refine lv_iinc (v := iI (la + 1)) (lv' := [(12, .int (iI ((la + 1)))), (6, .int (iI ((gW P (la + 1) - gW P f)))), (5, .int (iI ((gM P (la + 1) - gM P f)))), (4, .int (iI (la))), (3, .int (iI (f))), (13, .int (iI (sc))), (11, .int (iI ((gW P (la + 1) - gW P f)))), (10, .int (iI ((gM P (la + 1) - gM P f)))), (0, .ref (Y.2.1 (0))), (1, .int (iI (t))), (2, .int (iI (side))), (7, .int (iI ((gM P (t + 1) - gM P f)))), (8, .int (iI ((gW P (t + 1) - gW P f)))), (9, .int (iI (f)))]) hx hb dX8_turns_175 hl (k := 13) rfl (iI_add _ _) (by decide) rfl (fun ls hl => ?_)
                        refine lv_goto (tgt := 70) hx hb dX8_turns_178 (by decide) ?_
                        exact ih_70 ((gM P (la + 1) - gM P f)) ((gW P (la + 1) - gW P f)) ((la + 1)) (f) (la) (by omega) ⟨fun h => absurd h (by omega), fun _ => ⟨rfl, rfl⟩⟩ (by first | exact FTL_take hPr hJ (by omega) hsc (by omega) | exact FTL_keep hJ hsc (by omega)) (by omega) _ _ _ X (lv_sub hl [8, 9, 10, 4, 3, 2, 1, 11, 12, 13, 7, 6, 0] rfl)
                ·
                  refine lv_aload_n hx hb dX8_turns_109 rfl (lv_at hl 1 rfl) ?_
                  refine g_get G X (k := 0) (fs := fM Y) (Nat.le_of_ble_eq_true rfl) (fun _ => rfl) rfl in_X8 10 (by decide) l_f29 rfl (v := .ref (Y.2.1 (7))) rfl dX8_turns_110 ?_
                  refine lv_iload hx hb dX8_turns_113 (lv_at hl 12 rfl) ?_
                  refine g_iald G X (k := 7) (n := 12) (Nat.le_of_ble_eq_true rfl) (fun _ => rfl) (by decide) (z := la) (by omega) dX8_turns_115 ?_
                  refine lv_goto (tgt := 120) hx hb dX8_turns_116 (by decide) ?_
                  refine g_iadd G dX8_turns_120 ?_
                  refine g_topi (z' := gW P (la + 1) - gW P f) (by omega) ?_
                  refine lv_istore (lv' := [(11, .int (iI ((gW P (la + 1) - gW P f)))), (10, .int (iI ((gM P (la + 1) - gM P f)))), (0, .ref (Y.2.1 (0))), (1, .int (iI (t))), (2, .int (iI (side))), (3, .int (iI (F))), (4, .int (iI (T))), (5, .int (iI ((gM P (T + 1) - gM P F)))), (6, .int (iI ((gW P (T + 1) - gW P F)))), (7, .int (iI ((gM P (t + 1) - gM P f)))), (8, .int (iI ((gW P (t + 1) - gW P f)))), (9, .int (iI (f))), (12, .int (iI (la)))]) hx hb dX8_turns_121 hl (by decide) rfl (fun ls hl => ?_)
                  refine lv_iload_n hx hb dX8_turns_123 rfl (lv_at hl 4 rfl) ?_
                  refine lv_iload hx hb dX8_turns_124 (lv_at hl 1 rfl) ?_
                  refine lv_iload hx hb dX8_turns_126 (lv_at hl 0 rfl) ?_
                  refine lv_iload hx hb dX8_turns_128 (lv_at hl 7 rfl) ?_
                  refine lv_iload hx hb dX8_turns_130 (lv_at hl 8 rfl) ?_
                  refine g_callSi G X (rest := [.int (iI (side))]) (As := [.int (iI ((gM P (la + 1) - gM P f))), .int (iI ((gW P (la + 1) - gW P f))), .int (iI ((gM P (T + 1) - gM P F))), .int (iI ((gW P (T + 1) - gW P F)))]) (t_X8_compared l Y (σ) ((gM P (la + 1) - gM P f)) ((gW P (la + 1) - gW P f)) ((gM P (T + 1) - gM P F)) ((gW P (T + 1) - gW P F))) (va_cwS 4 hts gX8_turns_X8_compared rfl rfl rfl (by decide +kernel) ⟨Nat.le_of_ble_eq_true rfl, Nat.le_of_ble_eq_true rfl⟩) rfl hl.1 rfl (Nat.le_of_ble_eq_true rfl) dX8_turns_132 ⟨Nat.le_refl _, Nat.le_refl _⟩ (fun z132 u132 H locs hq132 X => ?_)
                  rw [hq132.1] at X
                  have hq132 := hq132.2
                  try dsimp only at hq132
                  refine g_topi (z' := cmpM (gW P) (gM P) f la F T) (by rw [hq132]; rfl) ?_
                  refine g_imul G dX8_turns_135 ?_
                  obtain ⟨sc, hsc⟩ : ∃ sc : Int, sc = side * cmpM (gW P) (gM P) f la F T := ⟨_, rfl⟩
                  refine g_topi (z' := sc) hsc.symm ?_
                  have hsr : -114048 ≤ sc ∧ sc ≤ 114048 := by rw [hsc]; rcases hs with rfl | rfl <;> omega
                  refine lv_istore (lv' := [(13, .int (iI (sc))), (11, .int (iI ((gW P (la + 1) - gW P f)))), (10, .int (iI ((gM P (la + 1) - gM P f)))), (0, .ref (Y.2.1 (0))), (1, .int (iI (t))), (2, .int (iI (side))), (3, .int (iI (F))), (4, .int (iI (T))), (5, .int (iI ((gM P (T + 1) - gM P F)))), (6, .int (iI ((gW P (T + 1) - gW P F)))), (7, .int (iI ((gM P (t + 1) - gM P f)))), (8, .int (iI ((gW P (t + 1) - gW P f)))), (9, .int (iI (f))), (12, .int (iI (la)))]) hx hb dX8_turns_136 hl (by decide) rfl (fun ls hl => ?_)
                  refine lv_iload hx hb dX8_turns_138 (lv_at hl 0 rfl) ?_
                  refine g_if_gt (tgt := 160) G dX8_turns_140 (by decide) (by omega) (fun h140 => ?_) (fun h140 => ?_)
                  ·
                    refine lv_iload hx hb dX8_turns_160 (lv_at hl 12 rfl) ?_
                    refine lv_istore_n (lv' := [(3, .int (iI (f))), (13, .int (iI (sc))), (11, .int (iI ((gW P (la + 1) - gW P f)))), (10, .int (iI ((gM P (la + 1) - gM P f)))), (0, .ref (Y.2.1 (0))), (1, .int (iI (t))), (2, .int (iI (side))), (4, .int (iI (T))), (5, .int (iI ((gM P (T + 1) - gM P F)))), (6, .int (iI ((gW P (T + 1) - gW P F)))), (7, .int (iI ((gM P (t + 1) - gM P f)))), (8, .int (iI ((gW P (t + 1) - gW P f)))), (9, .int (iI (f))), (12, .int (iI (la)))]) hx hb dX8_turns_162 rfl hl (by decide) rfl (fun ls hl => ?_)
                    refine lv_iload hx hb dX8_turns_163 (lv_at hl 13 rfl) ?_
                    refine lv_istore (lv' := [(4, .int (iI (la))), (3, .int (iI (f))), (13, .int (iI (sc))), (11, .int (iI ((gW P (la + 1) - gW P f)))), (10, .int (iI ((gM P (la + 1) - gM P f)))), (0, .ref (Y.2.1 (0))), (1, .int (iI (t))), (2, .int (iI (side))), (5, .int (iI ((gM P (T + 1) - gM P F)))), (6, .int (iI ((gW P (T + 1) - gW P F)))), (7, .int (iI ((gM P (t + 1) - gM P f)))), (8, .int (iI ((gW P (t + 1) - gW P f)))), (9, .int (iI (f))), (12, .int (iI (la)))]) hx hb dX8_turns_165 hl (by decide) rfl (fun ls hl => ?_)
                    refine lv_iload hx hb dX8_turns_167 (lv_at hl 4 rfl) ?_
                    refine lv_istore (lv' := [(5, .int (iI ((gM P (la + 1) - gM P f)))), (4, .int (iI (la))), (3, .int (iI (f))), (13, .int (iI (sc))), (11, .int (iI ((gW P (la + 1) - gW P f)))), (10, .int (iI ((gM P (la + 1) - gM P f)))), (0, .ref (Y.2.1 (0))), (1, .int (iI (t))), (2, .int (iI (side))), (6, .int (iI ((gW P (T + 1) - gW P F)))), (7, .int (iI ((gM P (t + 1) - gM P f)))), (8, .int (iI ((gW P (t + 1) - gW P f)))), (9, .int (iI (f))), (12, .int (iI (la)))]) hx hb dX8_turns_169 hl (by decide) rfl (fun ls hl => ?_)
                    refine lv_iload hx hb dX8_turns_171 (lv_at hl 4 rfl) ?_
                    refine lv_istore (lv' := [(6, .int (iI ((gW P (la + 1) - gW P f)))), (5, .int (iI ((gM P (la + 1) - gM P f)))), (4, .int (iI (la))), (3, .int (iI (f))), (13, .int (iI (sc))), (11, .int (iI ((gW P (la + 1) - gW P f)))), (10, .int (iI ((gM P (la + 1) - gM P f)))), (0, .ref (Y.2.1 (0))), (1, .int (iI (t))), (2, .int (iI (side))), (7, .int (iI ((gM P (t + 1) - gM P f)))), (8, .int (iI ((gW P (t + 1) - gW P f)))), (9, .int (iI (f))), (12, .int (iI (la)))]) hx hb dX8_turns_173 hl (by decide) rfl (fun ls hl => ?_)
                    refine lv_iinc (v := iI (la + 1)) (lv' := [(12, .int (iI ((la + 1)))), (6, .int (iI ((gW P (la + 1) - gW P f)))), (5, .int (iI ((gM P (la + 1) - gM P f)))), (4, .int (iI (la))), (3, .int (iI (f))), (13, .int (iI (sc))), (11, .int (iI ((gW P (la + 1) - gW P f)))), (10, .int (iI ((gM P (la + 1) - gM P f)))), (0, .ref (Y.2.1 (0))), (1, .int (iI (t))), (2, .int (iI (side))), (7, .int (iI ((gM P (t + 1) - gM P f)))), (8, .int (iI ((gW P (t + 1) - gW P f)))), (9, .int (iI (f)))]) hx hb dX8_turns_175 hl (k := 13) rfl (iI_add _ _) (by decide) rfl (fun ls hl => ?_)
                    refine lv_goto (tgt := 70) hx hb dX8_turns_178 (by decide) ?_
                    exact ih_70 ((gM P (la + 1) - gM P f)) ((gW P (la + 1) - gW P f)) ((la + 1)) (f) (la) (by omega) ⟨fun h => absurd h (by omega), fun _ => ⟨rfl, rfl⟩⟩ (by first | exact FTL_take hPr hJ (by omega) hsc (by omega) | exact FTL_keep hJ hsc (by omega)) (by omega) _ _ _ X (lv_sub hl [8, 9, 10, 4, 3, 2, 1, 11, 12, 13, 7, 6, 0] rfl)
                  ·
                    refine lv_iload hx hb dX8_turns_143 (lv_at hl 0 rfl) ?_
                    refine g_if_ne (tgt := 175) G dX8_turns_145 (by decide) (by omega) (fun h145 => ?_) (fun h145 => ?_)
                    ·
                      refine lv_iinc (v := iI (la + 1)) (lv' := [(12, .int (iI ((la + 1)))), (13, .int (iI (sc))), (11, .int (iI ((gW P (la + 1) - gW P f)))), (10, .int (iI ((gM P (la + 1) - gM P f)))), (0, .ref (Y.2.1 (0))), (1, .int (iI (t))), (2, .int (iI (side))), (3, .int (iI (F))), (4, .int (iI (T))), (5, .int (iI ((gM P (T + 1) - gM P F)))), (6, .int (iI ((gW P (T + 1) - gW P F)))), (7, .int (iI ((gM P (t + 1) - gM P f)))), (8, .int (iI ((gW P (t + 1) - gW P f)))), (9, .int (iI (f)))]) hx hb dX8_turns_175 hl (k := 13) rfl (iI_add _ _) (by decide) rfl (fun ls hl => ?_)
                      refine lv_goto (tgt := 70) hx hb dX8_turns_178 (by decide) ?_
                      exact ih_70 ((gM P (la + 1) - gM P f)) ((gW P (la + 1) - gW P f)) ((la + 1)) (F) (T) (by omega) ⟨fun h => absurd h (by omega), fun _ => ⟨rfl, rfl⟩⟩ (by first | exact FTL_take hPr hJ (by omega) hsc (by omega) | exact FTL_keep hJ hsc (by omega)) (by omega) _ _ _ X (lv_sub hl [4, 5, 6, 7, 8, 9, 10, 11, 12, 13, 3, 2, 0] rfl)
                    ·
                      refine lv_iload hx hb dX8_turns_148 (lv_at hl 13 rfl) ?_
                      refine lv_iload hx hb dX8_turns_150 (lv_at hl 12 rfl) ?_
                      refine g_isub G dX8_turns_152 ?_
                      refine lv_iload hx hb dX8_turns_153 (lv_at hl 7 rfl) ?_
                      refine lv_iload_n hx hb dX8_turns_155 rfl (lv_at hl 6 rfl) ?_
                      refine g_isub G dX8_turns_156 ?_
                      refine g_icmp_le (tgt := 175) G dX8_turns_157 (by decide) (by omega) (by omega) (fun h157 => ?_) (fun h157 => ?_)
                      ·
                        refine lv_iinc (v := iI (la + 1)) (lv' := [(12, .int (iI ((la + 1)))), (13, .int (iI (sc))), (11, .int (iI ((gW P (la + 1) - gW P f)))), (10, .int (iI ((gM P (la + 1) - gM P f)))), (0, .ref (Y.2.1 (0))), (1, .int (iI (t))), (2, .int (iI (side))), (3, .int (iI (F))), (4, .int (iI (T))), (5, .int (iI ((gM P (T + 1) - gM P F)))), (6, .int (iI ((gW P (T + 1) - gW P F)))), (7, .int (iI ((gM P (t + 1) - gM P f)))), (8, .int (iI ((gW P (t + 1) - gW P f)))), (9, .int (iI (f)))]) hx hb dX8_turns_175 hl (k := 13) rfl (iI_add _ _) (by decide) rfl (fun ls hl => ?_)
                        refine lv_goto (tgt := 70) hx hb dX8_turns_178 (by decide) ?_
                        exact ih_70 ((gM P (la + 1) - gM P f)) ((gW P (la + 1) - gW P f)) ((la + 1)) (F) (T) (by omega) ⟨fun h => absurd h (by omega), fun _ => ⟨rfl, rfl⟩⟩ (by first | exact FTL_take hPr hJ (by omega) hsc (by omega) | exact FTL_keep hJ hsc (by omega)) (by omega) _ _ _ X (lv_sub hl [4, 5, 6, 7, 8, 9, 10, 11, 12, 13, 3, 2, 0] rfl)
                      ·
                        refine lv_iload hx hb dX8_turns_160 (lv_at hl 12 rfl) ?_
                        refine lv_istore_n (lv' := [(3, .int (iI (f))), (13, .int (iI (sc))), (11, .int (iI ((gW P (la + 1) - gW P f)))), (10, .int (iI ((gM P (la + 1) - gM P f)))), (0, .ref (Y.2.1 (0))), (1, .int (iI (t))), (2, .int (iI (side))), (4, .int (iI (T))), (5, .int (iI ((gM P (T + 1) - gM P F)))), (6, .int (iI ((gW P (T + 1) - gW P F)))), (7, .int (iI ((gM P (t + 1) - gM P f)))), (8, .int (iI ((gW P (t + 1) - gW P f)))), (9, .int (iI (f))), (12, .int (iI (la)))]) hx hb dX8_turns_162 rfl hl (by decide) rfl (fun ls hl => ?_)
                        refine lv_iload hx hb dX8_turns_163 (lv_at hl 13 rfl) ?_
                        refine lv_istore (lv' := [(4, .int (iI (la))), (3, .int (iI (f))), (13, .int (iI (sc))), (11, .int (iI ((gW P (la + 1) - gW P f)))), (10, .int (iI ((gM P (la + 1) - gM P f)))), (0, .ref (Y.2.1 (0))), (1, .int (iI (t))), (2, .int (iI (side))), (5, .int (iI ((gM P (T + 1) - gM P F)))), (6, .int (iI ((gW P (T + 1) - gW P F)))), (7, .int (iI ((gM P (t + 1) - gM P f)))), (8, .int (iI ((gW P (t + 1) - gW P f)))), (9, .int (iI (f))), (12, .int (iI (la)))]) hx hb dX8_turns_165 hl (by decide) rfl (fun ls hl => ?_)
                        refine lv_iload hx hb dX8_turns_167 (lv_at hl 4 rfl) ?_
                        refine lv_istore (lv' := [(5, .int (iI ((gM P (la + 1) - gM P f)))), (4, .int (iI (la))), (3, .int (iI (f))), (13, .int (iI (sc))), (11, .int (iI ((gW P (la + 1) - gW P f)))), (10, .int (iI ((gM P (la + 1) - gM P f)))), (0, .ref (Y.2.1 (0))), (1, .int (iI (t))), (2, .int (iI (side))), (6, .int (iI ((gW P (T + 1) - gW P F)))), (7, .int (iI ((gM P (t + 1) - gM P f)))), (8, .int (iI ((gW P (t + 1) - gW P f)))), (9, .int (iI (f))), (12, .int (iI (la)))]) hx hb dX8_turns_169 hl (by decide) rfl (fun ls hl => ?_)
                        refine lv_iload hx hb dX8_turns_171 (lv_at hl 4 rfl) ?_
                        refine lv_istore (lv' := [(6, .int (iI ((gW P (la + 1) - gW P f)))), (5, .int (iI ((gM P (la + 1) - gM P f)))), (4, .int (iI (la))), (3, .int (iI (f))), (13, .int (iI (sc))), (11, .int (iI ((gW P (la + 1) - gW P f)))), (10, .int (iI ((gM P (la + 1) - gM P f)))), (0, .ref (Y.2.1 (0))), (1, .int (iI (t))), (2, .int (iI (side))), (7, .int (iI ((gM P (t + 1) - gM P f)))), (8, .int (iI ((gW P (t + 1) - gW P f)))), (9, .int (iI (f))), (12, .int (iI (la)))]) hx hb dX8_turns_173 hl (by decide) rfl (fun ls hl => ?_)
                        refine lv_iinc (v := iI (la + 1)) (lv' := [(12, .int (iI ((la + 1)))), (6, .int (iI ((gW P (la + 1) - gW P f)))), (5, .int (iI ((gM P (la + 1) - gM P f)))), (4, .int (iI (la))), (3, .int (iI (f))), (13, .int (iI (sc))), (11, .int (iI ((gW P (la + 1) - gW P f)))), (10, .int (iI ((gM P (la + 1) - gM P f)))), (0, .ref (Y.2.1 (0))), (1, .int (iI (t))), (2, .int (iI (side))), (7, .int (iI ((gM P (t + 1) - gM P f)))), (8, .int (iI ((gW P (t + 1) - gW P f)))), (9, .int (iI (f)))]) hx hb dX8_turns_175 hl (k := 13) rfl (iI_add _ _) (by decide) rfl (fun ls hl => ?_)
                        refine lv_goto (tgt := 70) hx hb dX8_turns_178 (by decide) ?_
                        exact ih_70 ((gM P (la + 1) - gM P f)) ((gW P (la + 1) - gW P f)) ((la + 1)) (f) (la) (by omega) ⟨fun h => absurd h (by omega), fun _ => ⟨rfl, rfl⟩⟩ (by first | exact FTL_take hPr hJ (by omega) hsc (by omega) | exact FTL_keep hJ hsc (by omega)) (by omega) _ _ _ X (lv_sub hl [8, 9, 10, 4, 3, 2, 1, 11, 12, 13, 7, 6, 0] rfl)
              ·
                have hm3 := hm2.2 (by omega)
                refine lv_aload_n hx hb dX8_turns_87 rfl (lv_at hl 0 rfl) ?_
                refine g_get G X (k := 0) (fs := fM Y) (Nat.le_of_ble_eq_true rfl) (fun _ => rfl) rfl in_X8 11 (by decide) l_f32 rfl (v := .ref (Y.2.1 (8))) rfl dX8_turns_88 ?_
                refine lv_iload hx hb dX8_turns_91 (lv_at hl 12 rfl) ?_
                refine g_iald G X (k := 8) (n := 12) (Nat.le_of_ble_eq_true rfl) (fun _ => rfl) (by decide) (z := la) (by omega) dX8_turns_93 ?_
                refine lv_goto (tgt := 98) hx hb dX8_turns_94 (by decide) ?_
                refine g_iadd G dX8_turns_98 ?_
                refine g_topi (z' := gM P (la + 1) - gM P f) (by omega) ?_
                refine lv_istore (lv' := [(10, .int (iI ((gM P (la + 1) - gM P f)))), (0, .ref (Y.2.1 (0))), (1, .int (iI (t))), (2, .int (iI (side))), (3, .int (iI (F))), (4, .int (iI (T))), (5, .int (iI ((gM P (T + 1) - gM P F)))), (6, .int (iI ((gW P (T + 1) - gW P F)))), (7, .int (iI ((gM P (t + 1) - gM P f)))), (8, .int (iI ((gW P (t + 1) - gW P f)))), (9, .int (iI (f))), (11, .int (iI (w2))), (12, .int (iI (la)))]) hx hb dX8_turns_99 hl (by decide) rfl (fun ls hl => ?_)
                refine lv_iload hx hb dX8_turns_101 (lv_at hl 11 rfl) ?_
                refine lv_iload hx hb dX8_turns_103 (lv_at hl 12 rfl) ?_
                refine lv_iload_n hx hb dX8_turns_105 rfl (lv_at hl 2 rfl) ?_
                refine g_icmp_le (tgt := 119) G dX8_turns_106 (by decide) (by omega) (by omega) (fun h106 => ?_) (fun h106 => ?_)
                ·
                  refine lv_iconst (v := iI 0) hx hb dX8_turns_119 rfl ?_
                  refine g_iadd G dX8_turns_120 ?_
                  refine g_topi (z' := gW P (la + 1) - gW P f) (by omega) ?_
                  refine lv_istore (lv' := [(11, .int (iI ((gW P (la + 1) - gW P f)))), (10, .int (iI ((gM P (la + 1) - gM P f)))), (0, .ref (Y.2.1 (0))), (1, .int (iI (t))), (2, .int (iI (side))), (3, .int (iI (F))), (4, .int (iI (T))), (5, .int (iI ((gM P (T + 1) - gM P F)))), (6, .int (iI ((gW P (T + 1) - gW P F)))), (7, .int (iI ((gM P (t + 1) - gM P f)))), (8, .int (iI ((gW P (t + 1) - gW P f)))), (9, .int (iI (f))), (12, .int (iI (la)))]) hx hb dX8_turns_121 hl (by decide) rfl (fun ls hl => ?_)
                  refine lv_iload_n hx hb dX8_turns_123 rfl (lv_at hl 4 rfl) ?_
                  refine lv_iload hx hb dX8_turns_124 (lv_at hl 1 rfl) ?_
                  refine lv_iload hx hb dX8_turns_126 (lv_at hl 0 rfl) ?_
                  refine lv_iload hx hb dX8_turns_128 (lv_at hl 7 rfl) ?_
                  refine lv_iload hx hb dX8_turns_130 (lv_at hl 8 rfl) ?_
                  refine g_callSi G X (rest := [.int (iI (side))]) (As := [.int (iI ((gM P (la + 1) - gM P f))), .int (iI ((gW P (la + 1) - gW P f))), .int (iI ((gM P (T + 1) - gM P F))), .int (iI ((gW P (T + 1) - gW P F)))]) (t_X8_compared l Y (σ) ((gM P (la + 1) - gM P f)) ((gW P (la + 1) - gW P f)) ((gM P (T + 1) - gM P F)) ((gW P (T + 1) - gW P F))) (va_cwS 4 hts gX8_turns_X8_compared rfl rfl rfl (by decide +kernel) ⟨Nat.le_of_ble_eq_true rfl, Nat.le_of_ble_eq_true rfl⟩) rfl hl.1 rfl (Nat.le_of_ble_eq_true rfl) dX8_turns_132 ⟨Nat.le_refl _, Nat.le_refl _⟩ (fun z132 u132 H locs hq132 X => ?_)
                  rw [hq132.1] at X
                  have hq132 := hq132.2
                  try dsimp only at hq132
                  refine g_topi (z' := cmpM (gW P) (gM P) f la F T) (by rw [hq132]; rfl) ?_
                  refine g_imul G dX8_turns_135 ?_
                  obtain ⟨sc, hsc⟩ : ∃ sc : Int, sc = side * cmpM (gW P) (gM P) f la F T := ⟨_, rfl⟩
                  refine g_topi (z' := sc) hsc.symm ?_
                  have hsr : -114048 ≤ sc ∧ sc ≤ 114048 := by rw [hsc]; rcases hs with rfl | rfl <;> omega
                  refine lv_istore (lv' := [(13, .int (iI (sc))), (11, .int (iI ((gW P (la + 1) - gW P f)))), (10, .int (iI ((gM P (la + 1) - gM P f)))), (0, .ref (Y.2.1 (0))), (1, .int (iI (t))), (2, .int (iI (side))), (3, .int (iI (F))), (4, .int (iI (T))), (5, .int (iI ((gM P (T + 1) - gM P F)))), (6, .int (iI ((gW P (T + 1) - gW P F)))), (7, .int (iI ((gM P (t + 1) - gM P f)))), (8, .int (iI ((gW P (t + 1) - gW P f)))), (9, .int (iI (f))), (12, .int (iI (la)))]) hx hb dX8_turns_136 hl (by decide) rfl (fun ls hl => ?_)
                  refine lv_iload hx hb dX8_turns_138 (lv_at hl 0 rfl) ?_
                  refine g_if_gt (tgt := 160) G dX8_turns_140 (by decide) (by omega) (fun h140 => ?_) (fun h140 => ?_)
                  ·
                    refine lv_iload hx hb dX8_turns_160 (lv_at hl 12 rfl) ?_
                    refine lv_istore_n (lv' := [(3, .int (iI (f))), (13, .int (iI (sc))), (11, .int (iI ((gW P (la + 1) - gW P f)))), (10, .int (iI ((gM P (la + 1) - gM P f)))), (0, .ref (Y.2.1 (0))), (1, .int (iI (t))), (2, .int (iI (side))), (4, .int (iI (T))), (5, .int (iI ((gM P (T + 1) - gM P F)))), (6, .int (iI ((gW P (T + 1) - gW P F)))), (7, .int (iI ((gM P (t + 1) - gM P f)))), (8, .int (iI ((gW P (t + 1) - gW P f)))), (9, .int (iI (f))), (12, .int (iI (la)))]) hx hb dX8_turns_162 rfl hl (by decide) rfl (fun ls hl => ?_)
                    refine lv_iload hx hb dX8_turns_163 (lv_at hl 13 rfl) ?_
                    refine lv_istore (lv' := [(4, .int (iI (la))), (3, .int (iI (f))), (13, .int (iI (sc))), (11, .int (iI ((gW P (la + 1) - gW P f)))), (10, .int (iI ((gM P (la + 1) - gM P f)))), (0, .ref (Y.2.1 (0))), (1, .int (iI (t))), (2, .int (iI (side))), (5, .int (iI ((gM P (T + 1) - gM P F)))), (6, .int (iI ((gW P (T + 1) - gW P F)))), (7, .int (iI ((gM P (t + 1) - gM P f)))), (8, .int (iI ((gW P (t + 1) - gW P f)))), (9, .int (iI (f))), (12, .int (iI (la)))]) hx hb dX8_turns_165 hl (by decide) rfl (fun ls hl => ?_)
                    refine lv_iload hx hb dX8_turns_167 (lv_at hl 4 rfl) ?_
                    refine lv_istore (lv' := [(5, .int (iI ((gM P (la + 1) - gM P f)))), (4, .int (iI (la))), (3, .int (iI (f))), (13, .int (iI (sc))), (11, .int (iI ((gW P (la + 1) - gW P f)))), (10, .int (iI ((gM P (la + 1) - gM P f)))), (0, .ref (Y.2.1 (0))), (1, .int (iI (t))), (2, .int (iI (side))), (6, .int (iI ((gW P (T + 1) - gW P F)))), (7, .int (iI ((gM P (t + 1) - gM P f)))), (8, .int (iI ((gW P (t + 1) - gW P f)))), (9, .int (iI (f))), (12, .int (iI (la)))]) hx hb dX8_turns_169 hl (by decide) rfl (fun ls hl => ?_)
                    refine lv_iload hx hb dX8_turns_171 (lv_at hl 4 rfl) ?_
                    refine lv_istore (lv' := [(6, .int (iI ((gW P (la + 1) - gW P f)))), (5, .int (iI ((gM P (la + 1) - gM P f)))), (4, .int (iI (la))), (3, .int (iI (f))), (13, .int (iI (sc))), (11, .int (iI ((gW P (la + 1) - gW P f)))), (10, .int (iI ((gM P (la + 1) - gM P f)))), (0, .ref (Y.2.1 (0))), (1, .int (iI (t))), (2, .int (iI (side))), (7, .int (iI ((gM P (t + 1) - gM P f)))), (8, .int (iI ((gW P (t + 1) - gW P f)))), (9, .int (iI (f))), (12, .int (iI (la)))]) hx hb dX8_turns_173 hl (by decide) rfl (fun ls hl => ?_)
                    refine lv_iinc (v := iI (la + 1)) (lv' := [(12, .int (iI ((la + 1)))), (6, .int (iI ((gW P (la + 1) - gW P f)))), (5, .int (iI ((gM P (la + 1) - gM P f)))), (4, .int (iI (la))), (3, .int (iI (f))), (13, .int (iI (sc))), (11, .int (iI ((gW P (la + 1) - gW P f)))), (10, .int (iI ((gM P (la + 1) - gM P f)))), (0, .ref (Y.2.1 (0))), (1, .int (iI (t))), (2, .int (iI (side))), (7, .int (iI ((gM P (t + 1) - gM P f)))), (8, .int (iI ((gW P (t + 1) - gW P f)))), (9, .int (iI (f)))]) hx hb dX8_turns_175 hl (k := 13) rfl (iI_add _ _) (by decide) rfl (fun ls hl => ?_)
                    refine lv_goto (tgt := 70) hx hb dX8_turns_178 (by decide) ?_
                    exact ih_70 ((gM P (la + 1) - gM P f)) ((gW P (la + 1) - gW P f)) ((la + 1)) (f) (la) (by omega) ⟨fun h => absurd h (by omega), fun _ => ⟨rfl, rfl⟩⟩ (by first | exact FTL_take hPr hJ (by omega) hsc (by omega) | exact FTL_keep hJ hsc (by omega)) (by omega) _ _ _ X (lv_sub hl [8, 9, 10, 4, 3, 2, 1, 11, 12, 13, 7, 6, 0] rfl)
                  ·
                    refine lv_iload hx hb dX8_turns_143 (lv_at hl 0 rfl) ?_
                    refine g_if_ne (tgt := 175) G dX8_turns_145 (by decide) (by omega) (fun h145 => ?_) (fun h145 => ?_)
                    ·
                      refine lv_iinc (v := iI (la + 1)) (lv' := [(12, .int (iI ((la + 1)))), (13, .int (iI (sc))), (11, .int (iI ((gW P (la + 1) - gW P f)))), (10, .int (iI ((gM P (la + 1) - gM P f)))), (0, .ref (Y.2.1 (0))), (1, .int (iI (t))), (2, .int (iI (side))), (3, .int (iI (F))), (4, .int (iI (T))), (5, .int (iI ((gM P (T + 1) - gM P F)))), (6, .int (iI ((gW P (T + 1) - gW P F)))), (7, .int (iI ((gM P (t + 1) - gM P f)))), (8, .int (iI ((gW P (t + 1) - gW P f)))), (9, .int (iI (f)))]) hx hb dX8_turns_175 hl (k := 13) rfl (iI_add _ _) (by decide) rfl (fun ls hl => ?_)
                      refine lv_goto (tgt := 70) hx hb dX8_turns_178 (by decide) ?_
                      exact ih_70 ((gM P (la + 1) - gM P f)) ((gW P (la + 1) - gW P f)) ((la + 1)) (F) (T) (by omega) ⟨fun h => absurd h (by omega), fun _ => ⟨rfl, rfl⟩⟩ (by first | exact FTL_take hPr hJ (by omega) hsc (by omega) | exact FTL_keep hJ hsc (by omega)) (by omega) _ _ _ X (lv_sub hl [4, 5, 6, 7, 8, 9, 10, 11, 12, 13, 3, 2, 0] rfl)
                    ·
                      refine lv_iload hx hb dX8_turns_148 (lv_at hl 13 rfl) ?_
                      refine lv_iload hx hb dX8_turns_150 (lv_at hl 12 rfl) ?_
                      refine g_isub G dX8_turns_152 ?_
                      refine lv_iload hx hb dX8_turns_153 (lv_at hl 7 rfl) ?_
                      refine lv_iload_n hx hb dX8_turns_155 rfl (lv_at hl 6 rfl) ?_
                      refine g_isub G dX8_turns_156 ?_
                      refine g_icmp_le (tgt := 175) G dX8_turns_157 (by decide) (by omega) (by omega) (fun h157 => ?_) (fun h157 => ?_)
                      ·
                        refine lv_iinc (v := iI (la + 1)) (lv' := [(12, .int (iI ((la + 1)))), (13, .int (iI (sc))), (11, .int (iI ((gW P (la + 1) - gW P f)))), (10, .int (iI ((gM P (la + 1) - gM P f)))), (0, .ref (Y.2.1 (0))), (1, .int (iI (t))), (2, .int (iI (side))), (3, .int (iI (F))), (4, .int (iI (T))), (5, .int (iI ((gM P (T + 1) - gM P F)))), (6, .int (iI ((gW P (T + 1) - gW P F)))), (7, .int (iI ((gM P (t + 1) - gM P f)))), (8, .int (iI ((gW P (t + 1) - gW P f)))), (9, .int (iI (f)))]) hx hb dX8_turns_175 hl (k := 13) rfl (iI_add _ _) (by decide) rfl (fun ls hl => ?_)
                        refine lv_goto (tgt := 70) hx hb dX8_turns_178 (by decide) ?_
                        exact ih_70 ((gM P (la + 1) - gM P f)) ((gW P (la + 1) - gW P f)) ((la + 1)) (F) (T) (by omega) ⟨fun h => absurd h (by omega), fun _ => ⟨rfl, rfl⟩⟩ (by first | exact FTL_take hPr hJ (by omega) hsc (by omega) | exact FTL_keep hJ hsc (by omega)) (by omega) _ _ _ X (lv_sub hl [4, 5, 6, 7, 8, 9, 10, 11, 12, 13, 3, 2, 0] rfl)
                      ·
                        refine lv_iload hx hb dX8_turns_160 (lv_at hl 12 rfl) ?_
                        refine lv_istore_n (lv' := [(3, .int (iI (f))), (13, .int (iI (sc))), (11, .int (iI ((gW P (la + 1) - gW P f)))), (10, .int (iI ((gM P (la + 1) - gM P f)))), (0, .ref (Y.2.1 (0))), (1, .int (iI (t))), (2, .int (iI (side))), (4, .int (iI (T))), (5, .int (iI ((gM P (T + 1) - gM P F)))), (6, .int (iI ((gW P (T + 1) - gW P F)))), (7, .int (iI ((gM P (t + 1) - gM P f)))), (8, .int (iI ((gW P (t + 1) - gW P f)))), (9, .int (iI (f))), (12, .int (iI (la)))]) hx hb dX8_turns_162 rfl hl (by decide) rfl (fun ls hl => ?_)
                        refine lv_iload hx hb dX8_turns_163 (lv_at hl 13 rfl) ?_
                        refine lv_istore (lv' := [(4, .int (iI (la))), (3, .int (iI (f))), (13, .int (iI (sc))), (11, .int (iI ((gW P (la + 1) - gW P f)))), (10, .int (iI ((gM P (la + 1) - gM P f)))), (0, .ref (Y.2.1 (0))), (1, .int (iI (t))), (2, .int (iI (side))), (5, .int (iI ((gM P (T + 1) - gM P F)))), (6, .int (iI ((gW P (T + 1) - gW P F)))), (7, .int (iI ((gM P (t + 1) - gM P f)))), (8, .int (iI ((gW P (t + 1) - gW P f)))), (9, .int (iI (f))), (12, .int (iI (la)))]) hx hb dX8_turns_165 hl (by decide) rfl (fun ls hl => ?_)
                        refine lv_iload hx hb dX8_turns_167 (lv_at hl 4 rfl) ?_
                        refine lv_istore (lv' := [(5, .int (iI ((gM P (la + 1) - gM P f)))), (4, .int (iI (la))), (3, .int (iI (f))), (13, .int (iI (sc))), (11, .int (iI ((gW P (la + 1) - gW P f)))), (10, .int (iI ((gM P (la + 1) - gM P f)))), (0, .ref (Y.2.1 (0))), (1, .int (iI (t))), (2, .int (iI (side))), (6, .int (iI ((gW P (T + 1) - gW P F)))), (7, .int (iI ((gM P (t + 1) - gM P f)))), (8, .int (iI ((gW P (t + 1) - gW P f)))), (9, .int (iI (f))), (12, .int (iI (la)))]) hx hb dX8_turns_169 hl (by decide) rfl (fun ls hl => ?_)
                        refine lv_iload hx hb dX8_turns_171 (lv_at hl 4 rfl) ?_
                        refine lv_istore (lv' := [(6, .int (iI ((gW P (la + 1) - gW P f)))), (5, .int (iI ((gM P (la + 1) - gM P f)))), (4, .int (iI (la))), (3, .int (iI (f))), (13, .int (iI (sc))), (11, .int (iI ((gW P (la + 1) - gW P f)))), (10, .int (iI ((gM P (la + 1) - gM P f)))), (0, .ref (Y.2.1 (0))), (1, .int (iI (t))), (2, .int (iI (side))), (7, .int (iI ((gM P (t + 1) - gM P f)))), (8, .int (iI ((gW P (t + 1) - gW P f)))), (9, .int (iI (f))), (12, .int (iI (la)))]) hx hb dX8_turns_173 hl (by decide) rfl (fun ls hl => ?_)
                        refine lv_iinc (v := iI (la + 1)) (lv' := [(12, .int (iI ((la + 1)))), (6, .int (iI ((gW P (la + 1) - gW P f)))), (5, .int (iI ((gM P (la + 1) - gM P f)))), (4, .int (iI (la))), (3, .int (iI (f))), (13, .int (iI (sc))), (11, .int (iI ((gW P (la + 1) - gW P f)))), (10, .int (iI ((gM P (la + 1) - gM P f)))), (0, .ref (Y.2.1 (0))), (1, .int (iI (t))), (2, .int (iI (side))), (7, .int (iI ((gM P (t + 1) - gM P f)))), (8, .int (iI ((gW P (t + 1) - gW P f)))), (9, .int (iI (f)))]) hx hb dX8_turns_175 hl (k := 13) rfl (iI_add _ _) (by decide) rfl (fun ls hl => ?_)
                        refine lv_goto (tgt := 70) hx hb dX8_turns_178 (by decide) ?_
                        exact ih_70 ((gM P (la + 1) - gM P f)) ((gW P (la + 1) - gW P f)) ((la + 1)) (f) (la) (by omega) ⟨fun h => absurd h (by omega), fun _ => ⟨rfl, rfl⟩⟩ (by first | exact FTL_take hPr hJ (by omega) hsc (by omega) | exact FTL_keep hJ hsc (by omega)) (by omega) _ _ _ X (lv_sub hl [8, 9, 10, 4, 3, 2, 1, 11, 12, 13, 7, 6, 0] rfl)
                ·
                  refine lv_aload_n hx hb dX8_turns_109 rfl (lv_at hl 1 rfl) ?_
                  refine g_get G X (k := 0) (fs := fM Y) (Nat.le_of_ble_eq_true rfl) (fun _ => rfl) rfl in_X8 10 (by decide) l_f29 rfl (v := .ref (Y.2.1 (7))) rfl dX8_turns_110 ?_
                  refine lv_iload hx hb dX8_turns_113 (lv_at hl 12 rfl) ?_
                  refine g_iald G X (k := 7) (n := 12) (Nat.le_of_ble_eq_true rfl) (fun _ => rfl) (by decide) (z := la) (by omega) dX8_turns_115 ?_
                  refine lv_goto (tgt := 120) hx hb dX8_turns_116 (by decide) ?_
                  refine g_iadd G dX8_turns_120 ?_
                  refine g_topi (z' := gW P (la + 1) - gW P f) (by omega) ?_
                  refine lv_istore (lv' := [(11, .int (iI ((gW P (la + 1) - gW P f)))), (10, .int (iI ((gM P (la + 1) - gM P f)))), (0, .ref (Y.2.1 (0))), (1, .int (iI (t))), (2, .int (iI (side))), (3, .int (iI (F))), (4, .int (iI (T))), (5, .int (iI ((gM P (T + 1) - gM P F)))), (6, .int (iI ((gW P (T + 1) - gW P F)))), (7, .int (iI ((gM P (t + 1) - gM P f)))), (8, .int (iI ((gW P (t + 1) - gW P f)))), (9, .int (iI (f))), (12, .int (iI (la)))]) hx hb dX8_turns_121 hl (by decide) rfl (fun ls hl => ?_)
                  refine lv_iload_n hx hb dX8_turns_123 rfl (lv_at hl 4 rfl) ?_
                  refine lv_iload hx hb dX8_turns_124 (lv_at hl 1 rfl) ?_
                  refine lv_iload hx hb dX8_turns_126 (lv_at hl 0 rfl) ?_
                  refine lv_iload hx hb dX8_turns_128 (lv_at hl 7 rfl) ?_
                  refine lv_iload hx hb dX8_turns_130 (lv_at hl 8 rfl) ?_
                  refine g_callSi G X (rest := [.int (iI (side))]) (As := [.int (iI ((gM P (la + 1) - gM P f))), .int (iI ((gW P (la + 1) - gW P f))), .int (iI ((gM P (T + 1) - gM P F))), .int (iI ((gW P (T + 1) - gW P F)))]) (t_X8_compared l Y (σ) ((gM P (la + 1) - gM P f)) ((gW P (la + 1) - gW P f)) ((gM P (T + 1) - gM P F)) ((gW P (T + 1) - gW P F))) (va_cwS 4 hts gX8_turns_X8_compared rfl rfl rfl (by decide +kernel) ⟨Nat.le_of_ble_eq_true rfl, Nat.le_of_ble_eq_true rfl⟩) rfl hl.1 rfl (Nat.le_of_ble_eq_true rfl) dX8_turns_132 ⟨Nat.le_refl _, Nat.le_refl _⟩ (fun z132 u132 H locs hq132 X => ?_)
                  rw [hq132.1] at X
                  have hq132 := hq132.2
                  try dsimp only at hq132
                  refine g_topi (z' := cmpM (gW P) (gM P) f la F T) (by rw [hq132]; rfl) ?_
                  refine g_imul G dX8_turns_135 ?_
                  obtain ⟨sc, hsc⟩ : ∃ sc : Int, sc = side * cmpM (gW P) (gM P) f la F T := ⟨_, rfl⟩
                  refine g_topi (z' := sc) hsc.symm ?_
                  have hsr : -114048 ≤ sc ∧ sc ≤ 114048 := by rw [hsc]; rcases hs with rfl | rfl <;> omega
                  refine lv_istore (lv' := [(13, .int (iI (sc))), (11, .int (iI ((gW P (la + 1) - gW P f)))), (10, .int (iI ((gM P (la + 1) - gM P f)))), (0, .ref (Y.2.1 (0))), (1, .int (iI (t))), (2, .int (iI (side))), (3, .int (iI (F))), (4, .int (iI (T))), (5, .int (iI ((gM P (T + 1) - gM P F)))), (6, .int (iI ((gW P (T + 1) - gW P F)))), (7, .int (iI ((gM P (t + 1) - gM P f)))), (8, .int (iI ((gW P (t + 1) - gW P f)))), (9, .int (iI (f))), (12, .int (iI (la)))]) hx hb dX8_turns_136 hl (by decide) rfl (fun ls hl => ?_)
                  refine lv_iload hx hb dX8_turns_138 (lv_at hl 0 rfl) ?_
                  refine g_if_gt (tgt := 160) G dX8_turns_140 (by decide) (by omega) (fun h140 => ?_) (fun h140 => ?_)
                  ·
                    refine lv_iload hx hb dX8_turns_160 (lv_at hl 12 rfl) ?_
                    refine lv_istore_n (lv' := [(3, .int (iI (f))), (13, .int (iI (sc))), (11, .int (iI ((gW P (la + 1) - gW P f)))), (10, .int (iI ((gM P (la + 1) - gM P f)))), (0, .ref (Y.2.1 (0))), (1, .int (iI (t))), (2, .int (iI (side))), (4, .int (iI (T))), (5, .int (iI ((gM P (T + 1) - gM P F)))), (6, .int (iI ((gW P (T + 1) - gW P F)))), (7, .int (iI ((gM P (t + 1) - gM P f)))), (8, .int (iI ((gW P (t + 1) - gW P f)))), (9, .int (iI (f))), (12, .int (iI (la)))]) hx hb dX8_turns_162 rfl hl (by decide) rfl (fun ls hl => ?_)
                    refine lv_iload hx hb dX8_turns_163 (lv_at hl 13 rfl) ?_
                    refine lv_istore (lv' := [(4, .int (iI (la))), (3, .int (iI (f))), (13, .int (iI (sc))), (11, .int (iI ((gW P (la + 1) - gW P f)))), (10, .int (iI ((gM P (la + 1) - gM P f)))), (0, .ref (Y.2.1 (0))), (1, .int (iI (t))), (2, .int (iI (side))), (5, .int (iI ((gM P (T + 1) - gM P F)))), (6, .int (iI ((gW P (T + 1) - gW P F)))), (7, .int (iI ((gM P (t + 1) - gM P f)))), (8, .int (iI ((gW P (t + 1) - gW P f)))), (9, .int (iI (f))), (12, .int (iI (la)))]) hx hb dX8_turns_165 hl (by decide) rfl (fun ls hl => ?_)
                    refine lv_iload hx hb dX8_turns_167 (lv_at hl 4 rfl) ?_
                    refine lv_istore (lv' := [(5, .int (iI ((gM P (la + 1) - gM P f)))), (4, .int (iI (la))), (3, .int (iI (f))), (13, .int (iI (sc))), (11, .int (iI ((gW P (la + 1) - gW P f)))), (10, .int (iI ((gM P (la + 1) - gM P f)))), (0, .ref (Y.2.1 (0))), (1, .int (iI (t))), (2, .int (iI (side))), (6, .int (iI ((gW P (T + 1) - gW P F)))), (7, .int (iI ((gM P (t + 1) - gM P f)))), (8, .int (iI ((gW P (t + 1) - gW P f)))), (9, .int (iI (f))), (12, .int (iI (la)))]) hx hb dX8_turns_169 hl (by decide) rfl (fun ls hl => ?_)
                    refine lv_iload hx hb dX8_turns_171 (lv_at hl 4 rfl) ?_
                    refine lv_istore (lv' := [(6, .int (iI ((gW P (la + 1) - gW P f)))), (5, .int (iI ((gM P (la + 1) - gM P f)))), (4, .int (iI (la))), (3, .int (iI (f))), (13, .int (iI (sc))), (11, .int (iI ((gW P (la + 1) - gW P f)))), (10, .int (iI ((gM P (la + 1) - gM P f)))), (0, .ref (Y.2.1 (0))), (1, .int (iI (t))), (2, .int (iI (side))), (7, .int (iI ((gM P (t + 1) - gM P f)))), (8, .int (iI ((gW P (t + 1) - gW P f)))), (9, .int (iI (f))), (12, .int (iI (la)))]) hx hb dX8_turns_173 hl (by decide) rfl (fun ls hl => ?_)
                    refine lv_iinc (v := iI (la + 1)) (lv' := [(12, .int (iI ((la + 1)))), (6, .int (iI ((gW P (la + 1) - gW P f)))), (5, .int (iI ((gM P (la + 1) - gM P f)))), (4, .int (iI (la))), (3, .int (iI (f))), (13, .int (iI (sc))), (11, .int (iI ((gW P (la + 1) - gW P f)))), (10, .int (iI ((gM P (la + 1) - gM P f)))), (0, .ref (Y.2.1 (0))), (1, .int (iI (t))), (2, .int (iI (side))), (7, .int (iI ((gM P (t + 1) - gM P f)))), (8, .int (iI ((gW P (t + 1) - gW P f)))), (9, .int (iI (f)))]) hx hb dX8_turns_175 hl (k := 13) rfl (iI_add _ _) (by decide) rfl (fun ls hl => ?_)
                    refine lv_goto (tgt := 70) hx hb dX8_turns_178 (by decide) ?_
                    exact ih_70 ((gM P (la + 1) - gM P f)) ((gW P (la + 1) - gW P f)) ((la + 1)) (f) (la) (by omega) ⟨fun h => absurd h (by omega), fun _ => ⟨rfl, rfl⟩⟩ (by first | exact FTL_take hPr hJ (by omega) hsc (by omega) | exact FTL_keep hJ hsc (by omega)) (by omega) _ _ _ X (lv_sub hl [8, 9, 10, 4, 3, 2, 1, 11, 12, 13, 7, 6, 0] rfl)
                  ·
                    refine lv_iload hx hb dX8_turns_143 (lv_at hl 0 rfl) ?_
                    refine g_if_ne (tgt := 175) G dX8_turns_145 (by decide) (by omega) (fun h145 => ?_) (fun h145 => ?_)
                    ·
                      refine lv_iinc (v := iI (la + 1)) (lv' := [(12, .int (iI ((la + 1)))), (13, .int (iI (sc))), (11, .int (iI ((gW P (la + 1) - gW P f)))), (10, .int (iI ((gM P (la + 1) - gM P f)))), (0, .ref (Y.2.1 (0))), (1, .int (iI (t))), (2, .int (iI (side))), (3, .int (iI (F))), (4, .int (iI (T))), (5, .int (iI ((gM P (T + 1) - gM P F)))), (6, .int (iI ((gW P (T + 1) - gW P F)))), (7, .int (iI ((gM P (t + 1) - gM P f)))), (8, .int (iI ((gW P (t + 1) - gW P f)))), (9, .int (iI (f)))]) hx hb dX8_turns_175 hl (k := 13) rfl (iI_add _ _) (by decide) rfl (fun ls hl => ?_)
                      refine lv_goto (tgt := 70) hx hb dX8_turns_178 (by decide) ?_
                      exact ih_70 ((gM P (la + 1) - gM P f)) ((gW P (la + 1) - gW P f)) ((la + 1)) (F) (T) (by omega) ⟨fun h => absurd h (by omega), fun _ => ⟨rfl, rfl⟩⟩ (by first | exact FTL_take hPr hJ (by omega) hsc (by omega) | exact FTL_keep hJ hsc (by omega)) (by omega) _ _ _ X (lv_sub hl [4, 5, 6, 7, 8, 9, 10, 11, 12, 13, 3, 2, 0] rfl)
                    ·
                      refine lv_iload hx hb dX8_turns_148 (lv_at hl 13 rfl) ?_
                      refine lv_iload hx hb dX8_turns_150 (lv_at hl 12 rfl) ?_
                      refine g_isub G dX8_turns_152 ?_
                      refine lv_iload hx hb dX8_turns_153 (lv_at hl 7 rfl) ?_
                      refine lv_iload_n hx hb dX8_turns_155 rfl (lv_at hl 6 rfl) ?_
                      refine g_isub G dX8_turns_156 ?_
                      refine g_icmp_le (tgt := 175) G dX8_turns_157 (by decide) (by omega) (by omega) (fun h157 => ?_) (fun h157 => ?_)
                      ·
                        refine lv_iinc (v := iI (la + 1)) (lv' := [(12, .int (iI ((la + 1)))), (13, .int (iI (sc))), (11, .int (iI ((gW P (la + 1) - gW P f)))), (10, .int (iI ((gM P (la + 1) - gM P f)))), (0, .ref (Y.2.1 (0))), (1, .int (iI (t))), (2, .int (iI (side))), (3, .int (iI (F))), (4, .int (iI (T))), (5, .int (iI ((gM P (T + 1) - gM P F)))), (6, .int (iI ((gW P (T + 1) - gW P F)))), (7, .int (iI ((gM P (t + 1) - gM P f)))), (8, .int (iI ((gW P (t + 1) - gW P f)))), (9, .int (iI (f)))]) hx hb dX8_turns_175 hl (k := 13) rfl (iI_add _ _) (by decide) rfl (fun ls hl => ?_)
                        refine lv_goto (tgt := 70) hx hb dX8_turns_178 (by decide) ?_
                        exact ih_70 ((gM P (la + 1) - gM P f)) ((gW P (la + 1) - gW P f)) ((la + 1)) (F) (T) (by omega) ⟨fun h => absurd h (by omega), fun _ => ⟨rfl, rfl⟩⟩ (by first | exact FTL_take hPr hJ (by omega) hsc (by omega) | exact FTL_keep hJ hsc (by omega)) (by omega) _ _ _ X (lv_sub hl [4, 5, 6, 7, 8, 9, 10, 11, 12, 13, 3, 2, 0] rfl)
                      ·
                        refine lv_iload hx hb dX8_turns_160 (lv_at hl 12 rfl) ?_
                        refine lv_istore_n (lv' := [(3, .int (iI (f))), (13, .int (iI (sc))), (11, .int (iI ((gW P (la + 1) - gW P f)))), (10, .int (iI ((gM P (la + 1) - gM P f)))), (0, .ref (Y.2.1 (0))), (1, .int (iI (t))), (2, .int (iI (side))), (4, .int (iI (T))), (5, .int (iI ((gM P (T + 1) - gM P F)))), (6, .int (iI ((gW P (T + 1) - gW P F)))), (7, .int (iI ((gM P (t + 1) - gM P f)))), (8, .int (iI ((gW P (t + 1) - gW P f)))), (9, .int (iI (f))), (12, .int (iI (la)))]) hx hb dX8_turns_162 rfl hl (by decide) rfl (fun ls hl => ?_)
                        refine lv_iload hx hb dX8_turns_163 (lv_at hl 13 rfl) ?_
                        refine lv_istore (lv' := [(4, .int (iI (la))), (3, .int (iI (f))), (13, .int (iI (sc))), (11, .int (iI ((gW P (la + 1) - gW P f)))), (10, .int (iI ((gM P (la + 1) - gM P f)))), (0, .ref (Y.2.1 (0))), (1, .int (iI (t))), (2, .int (iI (side))), (5, .int (iI ((gM P (T + 1) - gM P F)))), (6, .int (iI ((gW P (T + 1) - gW P F)))), (7, .int (iI ((gM P (t + 1) - gM P f)))), (8, .int (iI ((gW P (t + 1) - gW P f)))), (9, .int (iI (f))), (12, .int (iI (la)))]) hx hb dX8_turns_165 hl (by decide) rfl (fun ls hl => ?_)
                        refine lv_iload hx hb dX8_turns_167 (lv_at hl 4 rfl) ?_
                        refine lv_istore (lv' := [(5, .int (iI ((gM P (la + 1) - gM P f)))), (4, .int (iI (la))), (3, .int (iI (f))), (13, .int (iI (sc))), (11, .int (iI ((gW P (la + 1) - gW P f)))), (10, .int (iI ((gM P (la + 1) - gM P f)))), (0, .ref (Y.2.1 (0))), (1, .int (iI (t))), (2, .int (iI (side))), (6, .int (iI ((gW P (T + 1) - gW P F)))), (7, .int (iI ((gM P (t + 1) - gM P f)))), (8, .int (iI ((gW P (t + 1) - gW P f)))), (9, .int (iI (f))), (12, .int (iI (la)))]) hx hb dX8_turns_169 hl (by decide) rfl (fun ls hl => ?_)
                        refine lv_iload hx hb dX8_turns_171 (lv_at hl 4 rfl) ?_
                        refine lv_istore (lv' := [(6, .int (iI ((gW P (la + 1) - gW P f)))), (5, .int (iI ((gM P (la + 1) - gM P f)))), (4, .int (iI (la))), (3, .int (iI (f))), (13, .int (iI (sc))), (11, .int (iI ((gW P (la + 1) - gW P f)))), (10, .int (iI ((gM P (la + 1) - gM P f)))), (0, .ref (Y.2.1 (0))), (1, .int (iI (t))), (2, .int (iI (side))), (7, .int (iI ((gM P (t + 1) - gM P f)))), (8, .int (iI ((gW P (t + 1) - gW P f)))), (9, .int (iI (f))), (12, .int (iI (la)))]) hx hb dX8_turns_173 hl (by decide) rfl (fun ls hl => ?_)
                        refine lv_iinc (v := iI (la + 1)) (lv' := [(12, .int (iI ((la + 1)))), (6, .int (iI ((gW P (la + 1) - gW P f)))), (5, .int (iI ((gM P (la + 1) - gM P f)))), (4, .int (iI (la))), (3, .int (iI (f))), (13, .int (iI (sc))), (11, .int (iI ((gW P (la + 1) - gW P f)))), (10, .int (iI ((gM P (la + 1) - gM P f)))), (0, .ref (Y.2.1 (0))), (1, .int (iI (t))), (2, .int (iI (side))), (7, .int (iI ((gM P (t + 1) - gM P f)))), (8, .int (iI ((gW P (t + 1) - gW P f)))), (9, .int (iI (f)))]) hx hb dX8_turns_175 hl (k := 13) rfl (iI_add _ _) (by decide) rfl (fun ls hl => ?_)
                        refine lv_goto (tgt := 70) hx hb dX8_turns_178 (by decide) ?_
                        exact ih_70 ((gM P (la + 1) - gM P f)) ((gW P (la + 1) - gW P f)) ((la + 1)) (f) (la) (by omega) ⟨fun h => absurd h (by omega), fun _ => ⟨rfl, rfl⟩⟩ (by first | exact FTL_take hPr hJ (by omega) hsc (by omega) | exact FTL_keep hJ hsc (by omega)) (by omega) _ _ _ X (lv_sub hl [8, 9, 10, 4, 3, 2, 1, 11, 12, 13, 7, 6, 0] rfl)
        exact lp_70 ((((ng P - (t)) : Int).toNat + 1)) ((gM P (t + 1) - gM P f)) ((gW P (t + 1) - gW P f)) (t) (F) (T) (by omega) ⟨fun _ => ⟨rfl, rfl⟩, fun h => absurd h (by omega)⟩ hI (by omega) _ _ _ X (lv_sub hl [5, 6, 7, 8, 9, 10, 11, 4, 3, 12, 2, 1, 0] rfl)
  exact lp_30 (((((t) + 1) : Int).toNat + 1)) (t) (t) (t) (by omega) (FTL_0 ht) (by omega) _ _ _ X (lv_sub hl [7, 8, 9, 6, 5, 4, 3, 2, 1, 0] rfl)

set_option maxHeartbeats 4000000 in
set_option maxRecDepth 100000 in
theorem t_X8_fits (l : Launch) (Y : Yt) (σ : Mem) (P : List Pt) (kind : Int) (hMG : MG σ P) (hkd : 0 ≤ kind ∧ kind ≤ 3) : MXi l LM Y yX8_fits wsX8_fits { frames := 4, cells := 0, slots := 0, locals := 107 } [.ref (Y.2.1 (0)), .int (iI (kind))] σ (fun z u => z = (if 2 ≤ kind then bTurn (ng P) (gW P) (gM P) (gQ P) (if kind = 2 then 1 else -1) else 0) ∧ (0 < ng P → MBlE u (gW P) (gM P) (kdB P kind) (ng P) ∧ Asc (ng P) (kdB P kind)) ∧ Fr 9 11 12 12 σ u) := by
  obtain ⟨hP, hok, hG⟩ := id hMG
  have hPr := hMG.prof
  obtain ⟨⟨hn0, hn12, hW0, hM0, hW24⟩, hstep, hXa, hXr⟩ := id hPr
  have hsd : (if kind = 2 then 1 else -1) = (1 : Int) ∨ (if kind = 2 then 1 else -1) = (-1 : Int) := by split <;> omega
  have hq0 : 0 ≤ gQ P ∧ gQ P ≤ 235224 := gQ_rg hok hP.2.1
  refine g_starti (rty := .int) (fun _ _ _ => rfl) (cc := cX8_fits) (nL := 8) (own := RX8) (by decide) rfl rfl (Nat.le_of_ble_eq_true rfl) ?_
  intro pp ee ss mm bw mt cd AA ZZ ls G hret X hl
  have hl : lv_has ls 8 [(0, .ref (Y.2.1 (0))), (1, .int (iI (kind)))] := hl
  have hx := G.1
  have hb := G.2.1
  have hts := G.2.2.2.2.1
  have l_f72 := hts (.fieldLink RX8 72 "ShapeFitsModel" "groups" "I") (List.mem_of_getElem? (i := 2) rfl)
  have l_f96 := hts (.fieldLink RX8 96 "ShapeFitsModel" "blocks" "I") (List.mem_of_getElem? (i := 1) rfl)
  have in_X8 : ∀ w ∈ u_ws RX8 TX8 24, w ∈ wsX8_fits := by decide +kernel
  refine lv_iconst (v := iI 0) hx hb dX8_fits_0 rfl ?_
  refine lv_istore_n (lv' := [(2, .int (iI (0))), (0, .ref (Y.2.1 (0))), (1, .int (iI (kind)))]) hx hb dX8_fits_1 rfl hl (by decide) rfl (fun ls hl => ?_)
  refine lv_iload_n hx hb dX8_fits_2 rfl (lv_at hl 2 rfl) ?_
  refine lv_iconst (v := iI 2) hx hb dX8_fits_3 rfl ?_
  refine g_icmp_ge (tgt := 37) G dX8_fits_4 (by decide) (by omega) (by omega) (fun h4 => ?_) (fun h4 => ?_)
  ·
    refine lv_lconst (v := lI 0) hx hb dX8_fits_37 (by decide +kernel) ?_
    refine lv_lstore_n (lv' := [(3, .long (lI (0))), (2, .int (iI (0))), (0, .ref (Y.2.1 (0))), (1, .int (iI (kind)))]) hx hb dX8_fits_38 rfl hl (by decide) rfl (fun ls hl => ?_)
    refine lv_iconst (v := iI 0) hx hb dX8_fits_39 rfl ?_
    refine lv_istore (lv' := [(5, .int (iI (0))), (3, .long (lI (0))), (2, .int (iI (0))), (0, .ref (Y.2.1 (0))), (1, .int (iI (kind)))]) hx hb dX8_fits_40 hl (by decide) rfl (fun ls hl => ?_)
    have lp_42 : ∀ (nn : Nat) (best least g : Int) (τ : Mem), ∀ hg : 0 ≤ g ∧ g ≤ ng P, ∀ hb2 : best = amin (turnE (ng P) (gW P) (gM P) (gQ P) (if kind = 2 then 1 else -1)) g.toNat, ∀ hle : 0 < g → least = turnE (ng P) (gW P) (gM P) (gQ P) (if kind = 2 then 1 else -1) (amin (turnE (ng P) (gW P) (gM P) (gQ P) (if kind = 2 then 1 else -1)) g.toNat), ∀ hlr : -400000000000000000 ≤ least ∧ least ≤ 1300000000000000, ∀ hF : Fr 9 11 12 12 σ τ, ∀ hdec : (ng P - g) < (nn : Int), ∀ (H : Heap) (locs : List Loc) (ls : Array Slot), wx LM Y τ ss AA H locs → lv_has ls 8 [(0, .ref (Y.2.1 (0))), (1, .int (iI (kind))), (2, .int (iI (best))), (3, .long (lI (least))), (5, .int (iI (g)))] → W pp l ee { frames := 4, cells := 0, slots := 0, locals := 107 } ss mm ([.ref (Y.2.1 (0)), .int (iI (kind))] : List Value).toArray bw mt cd H locs 0 0 ZZ (F0 mm 42 ls []) := by
      intro nn
      induction nn with
      | zero =>
        intro best least g τ hg hb2 hle hlr hF hdec
        exact absurd hdec (by omega)
      | succ nn ih_42 =>
        intro best least g τ hg hb2 hle hlr hF hdec H locs ls X hl
        have hMT := hMG.fr hF (by omega) (by omega)
        refine lv_iload hx hb dX8_fits_42 (lv_at hl 4 rfl) ?_
        refine lv_aload_n hx hb dX8_fits_44 rfl (lv_at hl 0 rfl) ?_
        refine g_get G X (k := 0) (fs := fM Y) (Nat.le_of_ble_eq_true rfl) (fun _ => rfl) rfl in_X8 8 (by decide) l_f72 rfl (v := .int (iI ((τ 0 8)))) rfl dX8_fits_45 ?_
        refine g_topi (z' := ng P) (hMT.2.2.1) ?_
        refine g_icmp_ge (tgt := 97) G dX8_fits_48 (by decide) (by omega) (by omega) (fun h48 => ?_) (fun h48 => ?_)
        ·
          refine lv_aload_n hx hb dX8_fits_97 rfl (lv_at hl 0 rfl) ?_
          refine g_get G X (k := 0) (fs := fM Y) (Nat.le_of_ble_eq_true rfl) (fun _ => rfl) rfl in_X8 8 (by decide) l_f72 rfl (v := .int (iI ((τ 0 8)))) rfl dX8_fits_98 ?_
          refine g_topi (z' := ng P) (hMT.2.2.1) ?_
          refine g_if_le (tgt := 119) G dX8_fits_101 (by decide) (by omega) (fun h101 => ?_) (fun h101 => ?_)
          ·
            have hfin : best = (if 2 ≤ kind then bTurn (ng P) (gW P) (gM P) (gQ P) (if kind = 2 then 1 else -1) else 0) ∧ (0 < ng P → MBlE τ (gW P) (gM P) (kdB P kind) (ng P) ∧ Asc (ng P) (kdB P kind)) ∧ Fr 9 11 12 12 σ τ := ⟨by rw [if_pos (by omega), hb2, show g = ng P by omega]; rfl, fun h => absurd h (by omega), hF⟩
            refine lv_iload_n hx hb dX8_fits_119 rfl (lv_at hl 2 rfl) ?_
            exact hret _ _ _ _ _ _ (hfin) X dX8_fits_120
          ·
            refine lv_aload_n hx hb dX8_fits_104 rfl (lv_at hl 0 rfl) ?_
            refine lv_iload_n hx hb dX8_fits_105 rfl (lv_at hl 2 rfl) ?_
            refine lv_iload_n hx hb dX8_fits_106 rfl (lv_at hl 1 rfl) ?_
            refine lv_iconst (v := iI 2) hx hb dX8_fits_107 rfl ?_
            refine g_icmp_ne (tgt := 115) G dX8_fits_108 (by decide) (by omega) (by omega) (fun h108 => ?_) (fun h108 => ?_)
            ·
              refine lv_iconst (v := iI (-1)) hx hb dX8_fits_115 rfl ?_
              refine g_topi (z' := (if kind = 2 then 1 else -1)) (by split <;> omega) ?_
              refine g_callVv G X (rest := []) (As := [.int (iI (best)), .int (iI ((if kind = 2 then 1 else -1)))]) (t_X8_turns l Y (τ) P (best) ((if kind = 2 then 1 else -1)) hMT hsd (by have e1 := (amin_rg (turnE (ng P) (gW P) (gM P) (gQ P) (if kind = 2 then 1 else -1)) g.toNat).1; have e2 := (amin_rg (turnE (ng P) (gW P) (gM P) (gQ P) (if kind = 2 then 1 else -1)) g.toNat).2 (by omega); rw [hb2]; omega)) (cwV 2 hts gX8_fits_X8_turns rfl rfl rfl (by decide +kernel) ⟨Nat.le_of_ble_eq_true rfl, Nat.le_of_ble_eq_true rfl⟩) (k := 0) (Nat.le_of_ble_eq_true rfl) rfl rfl rfl rfl hl.1 rfl (Nat.le_of_ble_eq_true rfl) dX8_fits_116 ⟨Nat.le_refl _, Nat.le_refl _⟩ (fun u116 H locs hq116 X => ?_)
              have hfin : best = (if 2 ≤ kind then bTurn (ng P) (gW P) (gM P) (gQ P) (if kind = 2 then 1 else -1) else 0) ∧ (0 < ng P → MBlE u116 (gW P) (gM P) (kdB P kind) (ng P) ∧ Asc (ng P) (kdB P kind)) ∧ Fr 9 11 12 12 σ u116 := ⟨by rw [if_pos (by omega), hb2, show g = ng P by omega]; rfl, fun _ => (by rw [kdB_high (by omega) (by omega)]; have e : bTurn (ng P) (gW P) (gM P) (gQ P) (if kind = 2 then 1 else -1) = best := (by rw [hb2, show g = ng P by omega]; rfl); rw [e]; exact hq116.1), hF.trans hq116.2⟩
              refine lv_iload_n hx hb dX8_fits_119 rfl (lv_at hl 2 rfl) ?_
              exact hret _ _ _ _ _ _ (hfin) X dX8_fits_120
            ·
              refine lv_iconst (v := iI 1) hx hb dX8_fits_111 rfl ?_
              refine lv_goto (tgt := 116) hx hb dX8_fits_112 (by decide) ?_
              refine g_topi (z' := (if kind = 2 then 1 else -1)) (by split <;> omega) ?_
              refine g_callVv G X (rest := []) (As := [.int (iI (best)), .int (iI ((if kind = 2 then 1 else -1)))]) (t_X8_turns l Y (τ) P (best) ((if kind = 2 then 1 else -1)) hMT hsd (by have e1 := (amin_rg (turnE (ng P) (gW P) (gM P) (gQ P) (if kind = 2 then 1 else -1)) g.toNat).1; have e2 := (amin_rg (turnE (ng P) (gW P) (gM P) (gQ P) (if kind = 2 then 1 else -1)) g.toNat).2 (by omega); rw [hb2]; omega)) (cwV 2 hts gX8_fits_X8_turns rfl rfl rfl (by decide +kernel) ⟨Nat.le_of_ble_eq_true rfl, Nat.le_of_ble_eq_true rfl⟩) (k := 0) (Nat.le_of_ble_eq_true rfl) rfl rfl rfl rfl hl.1 rfl (Nat.le_of_ble_eq_true rfl) dX8_fits_116 ⟨Nat.le_refl _, Nat.le_refl _⟩ (fun u116 H locs hq116 X => ?_)
              have hfin : best = (if 2 ≤ kind then bTurn (ng P) (gW P) (gM P) (gQ P) (if kind = 2 then 1 else -1) else 0) ∧ (0 < ng P → MBlE u116 (gW P) (gM P) (kdB P kind) (ng P) ∧ Asc (ng P) (kdB P kind)) ∧ Fr 9 11 12 12 σ u116 := ⟨by rw [if_pos (by omega), hb2, show g = ng P by omega]; rfl, fun _ => (by rw [kdB_high (by omega) (by omega)]; have e : bTurn (ng P) (gW P) (gM P) (gQ P) (if kind = 2 then 1 else -1) = best := (by rw [hb2, show g = ng P by omega]; rfl); rw [e]; exact hq116.1), hF.trans hq116.2⟩
              refine lv_iload_n hx hb dX8_fits_119 rfl (lv_at hl 2 rfl) ?_
              exact hret _ _ _ _ _ _ (hfin) X dX8_fits_120
        ·
          refine lv_aload_n hx hb dX8_fits_51 rfl (lv_at hl 0 rfl) ?_
          refine lv_iload hx hb dX8_fits_52 (lv_at hl 4 rfl) ?_
          refine lv_iload_n hx hb dX8_fits_54 rfl (lv_at hl 1 rfl) ?_
          refine lv_iconst (v := iI 2) hx hb dX8_fits_55 rfl ?_
          refine g_icmp_ne (tgt := 63) G dX8_fits_56 (by decide) (by omega) (by omega) (fun h56 => ?_) (fun h56 => ?_)
          ·
            refine lv_iconst (v := iI (-1)) hx hb dX8_fits_63 rfl ?_
            refine g_topi (z' := (if kind = 2 then 1 else -1)) (by split <;> omega) ?_
            refine g_callVv G X (rest := []) (As := [.int (iI (g)), .int (iI ((if kind = 2 then 1 else -1)))]) (t_X8_turns l Y (τ) P (g) ((if kind = 2 then 1 else -1)) hMT hsd (by first | assumption | omega)) (cwV 2 hts gX8_fits_X8_turns rfl rfl rfl (by decide +kernel) ⟨Nat.le_of_ble_eq_true rfl, Nat.le_of_ble_eq_true rfl⟩) (k := 0) (Nat.le_of_ble_eq_true rfl) rfl rfl rfl rfl hl.1 rfl (Nat.le_of_ble_eq_true rfl) dX8_fits_64 ⟨Nat.le_refl _, Nat.le_refl _⟩ (fun u64 H locs hq64 X => ?_)
            refine lv_aload_n hx hb dX8_fits_67 rfl (lv_at hl 0 rfl) ?_
            refine g_callVl G X (rest := []) (As := []) (t_X8_errorOf l Y (u64) P (_) (hMT.fr hq64.2 (by omega) (by omega)) hq64.1.1.1 (fun _ => hq64.1.2)) (cwV 0 hts gX8_fits_X8_errorOf rfl rfl rfl (by decide +kernel) ⟨Nat.le_of_ble_eq_true rfl, Nat.le_of_ble_eq_true rfl⟩) (k := 0) (Nat.le_of_ble_eq_true rfl) rfl rfl rfl rfl hl.1 rfl (Nat.le_of_ble_eq_true rfl) dX8_fits_68 ⟨Nat.le_refl _, Nat.le_refl _⟩ (fun z68 u68 H locs hq68 X => ?_)
            rw [hq68.1] at X
            have hq68 := hq68.2
            try dsimp only at hq68
            have hE : z68 = turnE (ng P) (gW P) (gM P) (gQ P) (if kind = 2 then 1 else -1) g := hq68
            have hEr : -400000000000000000 ≤ z68 ∧ z68 ≤ 1300000000000000 := by rw [hq68]; exact Err_rg hPr hq0 hq64.1.2
            refine lv_lstore (lv' := [(6, .long (lI (z68))), (0, .ref (Y.2.1 (0))), (1, .int (iI (kind))), (2, .int (iI (best))), (3, .long (lI (least))), (5, .int (iI (g)))]) hx hb dX8_fits_71 hl (by decide) rfl (fun ls hl => ?_)
            refine lv_iload hx hb dX8_fits_73 (lv_at hl 5 rfl) ?_
            refine g_if_eq (tgt := 85) G dX8_fits_75 (by decide) (by omega) (fun h75 => ?_) (fun h75 => ?_)
            ·
              have hbn : g = amin (turnE (ng P) (gW P) (gM P) (gQ P) (if kind = 2 then 1 else -1)) (g + 1).toNat := by { rw [amin_s hg.1]; by_cases h0 : g = 0; (rw [if_pos h0]; exact h0); rw [if_neg h0, if_pos (by rw [← hle (by omega), ← hE]; omega)] }
              have hln : z68 = turnE (ng P) (gW P) (gM P) (gQ P) (if kind = 2 then 1 else -1) (amin (turnE (ng P) (gW P) (gM P) (gQ P) (if kind = 2 then 1 else -1)) (g + 1).toNat) := by rw [← hbn]; exact hE
              refine lv_lload hx hb dX8_fits_85 (lv_at hl 0 rfl) ?_
              refine lv_lstore_n (lv' := [(3, .long (lI (z68))), (6, .long (lI (z68))), (0, .ref (Y.2.1 (0))), (1, .int (iI (kind))), (2, .int (iI (best))), (5, .int (iI (g)))]) hx hb dX8_fits_87 rfl hl (by decide) rfl (fun ls hl => ?_)
              refine lv_iload hx hb dX8_fits_88 (lv_at hl 5 rfl) ?_
              refine lv_istore_n (lv' := [(2, .int (iI (g))), (3, .long (lI (z68))), (6, .long (lI (z68))), (0, .ref (Y.2.1 (0))), (1, .int (iI (kind))), (5, .int (iI (g)))]) hx hb dX8_fits_90 rfl hl (by decide) rfl (fun ls hl => ?_)
              refine lv_iinc (v := iI (g + 1)) (lv' := [(5, .int (iI ((g + 1)))), (2, .int (iI (g))), (3, .long (lI (z68))), (6, .long (lI (z68))), (0, .ref (Y.2.1 (0))), (1, .int (iI (kind)))]) hx hb dX8_fits_91 hl (k := 5) rfl (iI_add _ _) (by decide) rfl (fun ls hl => ?_)
              refine lv_goto (tgt := 42) hx hb dX8_fits_94 (by decide) ?_
              exact ih_42 (g) (z68) ((g + 1)) (u64) (by omega) hbn (fun _ => hln) (by first | exact hlr | exact hEr) (hF.trans hq64.2) (by omega) _ _ _ X (lv_sub hl [4, 5, 1, 2, 0] rfl)
            ·
              refine lv_lload hx hb dX8_fits_78 (lv_at hl 0 rfl) ?_
              refine lv_lload_n hx hb dX8_fits_80 rfl (lv_at hl 4 rfl) ?_
              refine g_lif_ge (tgt := 91) G dX8_fits_81 dX8_fits_82 (by decide) (by omega) (by omega) (fun h81 => ?_) (fun h81 => ?_)
              ·
                have hbn : best = amin (turnE (ng P) (gW P) (gM P) (gQ P) (if kind = 2 then 1 else -1)) (g + 1).toNat := by rw [amin_s hg.1, if_neg (by omega), if_neg (by rw [← hle (by omega), ← hE]; omega)]; exact hb2
                have hln : least = turnE (ng P) (gW P) (gM P) (gQ P) (if kind = 2 then 1 else -1) (amin (turnE (ng P) (gW P) (gM P) (gQ P) (if kind = 2 then 1 else -1)) (g + 1).toNat) := by rw [← hbn, hb2]; exact hle (by omega)
                refine lv_iinc (v := iI (g + 1)) (lv' := [(5, .int (iI ((g + 1)))), (6, .long (lI (z68))), (0, .ref (Y.2.1 (0))), (1, .int (iI (kind))), (2, .int (iI (best))), (3, .long (lI (least)))]) hx hb dX8_fits_91 hl (k := 5) rfl (iI_add _ _) (by decide) rfl (fun ls hl => ?_)
                refine lv_goto (tgt := 42) hx hb dX8_fits_94 (by decide) ?_
                exact ih_42 (best) (least) ((g + 1)) (u64) (by omega) hbn (fun _ => hln) (by first | exact hlr | exact hEr) (hF.trans hq64.2) (by omega) _ _ _ X (lv_sub hl [2, 3, 4, 5, 0] rfl)
              ·
                have hbn : g = amin (turnE (ng P) (gW P) (gM P) (gQ P) (if kind = 2 then 1 else -1)) (g + 1).toNat := by { rw [amin_s hg.1]; by_cases h0 : g = 0; (rw [if_pos h0]; exact h0); rw [if_neg h0, if_pos (by rw [← hle (by omega), ← hE]; omega)] }
                have hln : z68 = turnE (ng P) (gW P) (gM P) (gQ P) (if kind = 2 then 1 else -1) (amin (turnE (ng P) (gW P) (gM P) (gQ P) (if kind = 2 then 1 else -1)) (g + 1).toNat) := by rw [← hbn]; exact hE
                refine lv_lload hx hb dX8_fits_85 (lv_at hl 0 rfl) ?_
                refine lv_lstore_n (lv' := [(3, .long (lI (z68))), (6, .long (lI (z68))), (0, .ref (Y.2.1 (0))), (1, .int (iI (kind))), (2, .int (iI (best))), (5, .int (iI (g)))]) hx hb dX8_fits_87 rfl hl (by decide) rfl (fun ls hl => ?_)
                refine lv_iload hx hb dX8_fits_88 (lv_at hl 5 rfl) ?_
                refine lv_istore_n (lv' := [(2, .int (iI (g))), (3, .long (lI (z68))), (6, .long (lI (z68))), (0, .ref (Y.2.1 (0))), (1, .int (iI (kind))), (5, .int (iI (g)))]) hx hb dX8_fits_90 rfl hl (by decide) rfl (fun ls hl => ?_)
                refine lv_iinc (v := iI (g + 1)) (lv' := [(5, .int (iI ((g + 1)))), (2, .int (iI (g))), (3, .long (lI (z68))), (6, .long (lI (z68))), (0, .ref (Y.2.1 (0))), (1, .int (iI (kind)))]) hx hb dX8_fits_91 hl (k := 5) rfl (iI_add _ _) (by decide) rfl (fun ls hl => ?_)
                refine lv_goto (tgt := 42) hx hb dX8_fits_94 (by decide) ?_
                exact ih_42 (g) (z68) ((g + 1)) (u64) (by omega) hbn (fun _ => hln) (by first | exact hlr | exact hEr) (hF.trans hq64.2) (by omega) _ _ _ X (lv_sub hl [4, 5, 1, 2, 0] rfl)
          ·
            refine lv_iconst (v := iI 1) hx hb dX8_fits_59 rfl ?_
            refine lv_goto (tgt := 64) hx hb dX8_fits_60 (by decide) ?_
            refine g_topi (z' := (if kind = 2 then 1 else -1)) (by split <;> omega) ?_
            refine g_callVv G X (rest := []) (As := [.int (iI (g)), .int (iI ((if kind = 2 then 1 else -1)))]) (t_X8_turns l Y (τ) P (g) ((if kind = 2 then 1 else -1)) hMT hsd (by first | assumption | omega)) (cwV 2 hts gX8_fits_X8_turns rfl rfl rfl (by decide +kernel) ⟨Nat.le_of_ble_eq_true rfl, Nat.le_of_ble_eq_true rfl⟩) (k := 0) (Nat.le_of_ble_eq_true rfl) rfl rfl rfl rfl hl.1 rfl (Nat.le_of_ble_eq_true rfl) dX8_fits_64 ⟨Nat.le_refl _, Nat.le_refl _⟩ (fun u64 H locs hq64 X => ?_)
            refine lv_aload_n hx hb dX8_fits_67 rfl (lv_at hl 0 rfl) ?_
            refine g_callVl G X (rest := []) (As := []) (t_X8_errorOf l Y (u64) P (_) (hMT.fr hq64.2 (by omega) (by omega)) hq64.1.1.1 (fun _ => hq64.1.2)) (cwV 0 hts gX8_fits_X8_errorOf rfl rfl rfl (by decide +kernel) ⟨Nat.le_of_ble_eq_true rfl, Nat.le_of_ble_eq_true rfl⟩) (k := 0) (Nat.le_of_ble_eq_true rfl) rfl rfl rfl rfl hl.1 rfl (Nat.le_of_ble_eq_true rfl) dX8_fits_68 ⟨Nat.le_refl _, Nat.le_refl _⟩ (fun z68 u68 H locs hq68 X => ?_)
            rw [hq68.1] at X
            have hq68 := hq68.2
            try dsimp only at hq68
            have hE : z68 = turnE (ng P) (gW P) (gM P) (gQ P) (if kind = 2 then 1 else -1) g := hq68
            have hEr : -400000000000000000 ≤ z68 ∧ z68 ≤ 1300000000000000 := by rw [hq68]; exact Err_rg hPr hq0 hq64.1.2
            refine lv_lstore (lv' := [(6, .long (lI (z68))), (0, .ref (Y.2.1 (0))), (1, .int (iI (kind))), (2, .int (iI (best))), (3, .long (lI (least))), (5, .int (iI (g)))]) hx hb dX8_fits_71 hl (by decide) rfl (fun ls hl => ?_)
            refine lv_iload hx hb dX8_fits_73 (lv_at hl 5 rfl) ?_
            refine g_if_eq (tgt := 85) G dX8_fits_75 (by decide) (by omega) (fun h75 => ?_) (fun h75 => ?_)
            ·
              have hbn : g = amin (turnE (ng P) (gW P) (gM P) (gQ P) (if kind = 2 then 1 else -1)) (g + 1).toNat := by { rw [amin_s hg.1]; by_cases h0 : g = 0; (rw [if_pos h0]; exact h0); rw [if_neg h0, if_pos (by rw [← hle (by omega), ← hE]; omega)] }
              have hln : z68 = turnE (ng P) (gW P) (gM P) (gQ P) (if kind = 2 then 1 else -1) (amin (turnE (ng P) (gW P) (gM P) (gQ P) (if kind = 2 then 1 else -1)) (g + 1).toNat) := by rw [← hbn]; exact hE
              refine lv_lload hx hb dX8_fits_85 (lv_at hl 0 rfl) ?_
              refine lv_lstore_n (lv' := [(3, .long (lI (z68))), (6, .long (lI (z68))), (0, .ref (Y.2.1 (0))), (1, .int (iI (kind))), (2, .int (iI (best))), (5, .int (iI (g)))]) hx hb dX8_fits_87 rfl hl (by decide) rfl (fun ls hl => ?_)
              refine lv_iload hx hb dX8_fits_88 (lv_at hl 5 rfl) ?_
              refine lv_istore_n (lv' := [(2, .int (iI (g))), (3, .long (lI (z68))), (6, .long (lI (z68))), (0, .ref (Y.2.1 (0))), (1, .int (iI (kind))), (5, .int (iI (g)))]) hx hb dX8_fits_90 rfl hl (by decide) rfl (fun ls hl => ?_)
              refine lv_iinc (v := iI (g + 1)) (lv' := [(5, .int (iI ((g + 1)))), (2, .int (iI (g))), (3, .long (lI (z68))), (6, .long (lI (z68))), (0, .ref (Y.2.1 (0))), (1, .int (iI (kind)))]) hx hb dX8_fits_91 hl (k := 5) rfl (iI_add _ _) (by decide) rfl (fun ls hl => ?_)
              refine lv_goto (tgt := 42) hx hb dX8_fits_94 (by decide) ?_
              exact ih_42 (g) (z68) ((g + 1)) (u64) (by omega) hbn (fun _ => hln) (by first | exact hlr | exact hEr) (hF.trans hq64.2) (by omega) _ _ _ X (lv_sub hl [4, 5, 1, 2, 0] rfl)
            ·
              refine lv_lload hx hb dX8_fits_78 (lv_at hl 0 rfl) ?_
              refine lv_lload_n hx hb dX8_fits_80 rfl (lv_at hl 4 rfl) ?_
              refine g_lif_ge (tgt := 91) G dX8_fits_81 dX8_fits_82 (by decide) (by omega) (by omega) (fun h81 => ?_) (fun h81 => ?_)
              ·
                have hbn : best = amin (turnE (ng P) (gW P) (gM P) (gQ P) (if kind = 2 then 1 else -1)) (g + 1).toNat := by rw [amin_s hg.1, if_neg (by omega), if_neg (by rw [← hle (by omega), ← hE]; omega)]; exact hb2
                have hln : least = turnE (ng P) (gW P) (gM P) (gQ P) (if kind = 2 then 1 else -1) (amin (turnE (ng P) (gW P) (gM P) (gQ P) (if kind = 2 then 1 else -1)) (g + 1).toNat) := by rw [← hbn, hb2]; exact hle (by omega)
                refine lv_iinc (v := iI (g + 1)) (lv' := [(5, .int (iI ((g + 1)))), (6, .long (lI (z68))), (0, .ref (Y.2.1 (0))), (1, .int (iI (kind))), (2, .int (iI (best))), (3, .long (lI (least)))]) hx hb dX8_fits_91 hl (k := 5) rfl (iI_add _ _) (by decide) rfl (fun ls hl => ?_)
                refine lv_goto (tgt := 42) hx hb dX8_fits_94 (by decide) ?_
                exact ih_42 (best) (least) ((g + 1)) (u64) (by omega) hbn (fun _ => hln) (by first | exact hlr | exact hEr) (hF.trans hq64.2) (by omega) _ _ _ X (lv_sub hl [2, 3, 4, 5, 0] rfl)
              ·
                have hbn : g = amin (turnE (ng P) (gW P) (gM P) (gQ P) (if kind = 2 then 1 else -1)) (g + 1).toNat := by { rw [amin_s hg.1]; by_cases h0 : g = 0; (rw [if_pos h0]; exact h0); rw [if_neg h0, if_pos (by rw [← hle (by omega), ← hE]; omega)] }
                have hln : z68 = turnE (ng P) (gW P) (gM P) (gQ P) (if kind = 2 then 1 else -1) (amin (turnE (ng P) (gW P) (gM P) (gQ P) (if kind = 2 then 1 else -1)) (g + 1).toNat) := by rw [← hbn]; exact hE
                refine lv_lload hx hb dX8_fits_85 (lv_at hl 0 rfl) ?_
                refine lv_lstore_n (lv' := [(3, .long (lI (z68))), (6, .long (lI (z68))), (0, .ref (Y.2.1 (0))), (1, .int (iI (kind))), (2, .int (iI (best))), (5, .int (iI (g)))]) hx hb dX8_fits_87 rfl hl (by decide) rfl (fun ls hl => ?_)
                refine lv_iload hx hb dX8_fits_88 (lv_at hl 5 rfl) ?_
                refine lv_istore_n (lv' := [(2, .int (iI (g))), (3, .long (lI (z68))), (6, .long (lI (z68))), (0, .ref (Y.2.1 (0))), (1, .int (iI (kind))), (5, .int (iI (g)))]) hx hb dX8_fits_90 rfl hl (by decide) rfl (fun ls hl => ?_)
                refine lv_iinc (v := iI (g + 1)) (lv' := [(5, .int (iI ((g + 1)))), (2, .int (iI (g))), (3, .long (lI (z68))), (6, .long (lI (z68))), (0, .ref (Y.2.1 (0))), (1, .int (iI (kind)))]) hx hb dX8_fits_91 hl (k := 5) rfl (iI_add _ _) (by decide) rfl (fun ls hl => ?_)
                refine lv_goto (tgt := 42) hx hb dX8_fits_94 (by decide) ?_
                exact ih_42 (g) (z68) ((g + 1)) (u64) (by omega) hbn (fun _ => hln) (by first | exact hlr | exact hEr) (hF.trans hq64.2) (by omega) _ _ _ X (lv_sub hl [4, 5, 1, 2, 0] rfl)
    exact lp_42 ((((ng P - (0)) : Int).toNat + 1)) (0) (0) (0) (σ) (by omega) rfl (fun h => by omega) (by omega) Fr.rf (by omega) _ _ _ X (lv_sub hl [3, 4, 2, 1, 0] rfl)
  ·
    refine lv_aload_n hx hb dX8_fits_7 rfl (lv_at hl 1 rfl) ?_
    refine lv_iconst (v := iI 0) hx hb dX8_fits_8 rfl ?_
    refine g_puti G X (k := 0) (fs := fM Y) (z := 0) (Nat.le_of_ble_eq_true rfl) (fun _ => rfl) rfl in_X8 tyX8 tyX8_ok nmX8 12 12 (by decide) l_f96 rfl rfl (by decide +kernel) (Nat.le_of_ble_eq_true rfl) (fun _ => rfl) dX8_fits_9 (fun H locs X => ?_)
    have hF0 : Fr 9 11 12 12 σ (up σ 0 12 0) := Fr.rf.fl (Or.inl rfl)
    refine lv_aload_n hx hb dX8_fits_12 rfl (lv_at hl 1 rfl) ?_
    refine lv_iconst (v := iI 0) hx hb dX8_fits_13 rfl ?_
    refine lv_aload_n hx hb dX8_fits_14 rfl (lv_at hl 1 rfl) ?_
    refine g_get G X (k := 0) (fs := fM Y) (Nat.le_of_ble_eq_true rfl) (fun _ => rfl) rfl in_X8 8 (by decide) l_f72 rfl (v := .int (iI ((σ 0 8)))) rfl dX8_fits_15 ?_
    refine g_topi (z' := ng P) hG.1 ?_
    refine lv_iload_n hx hb dX8_fits_18 rfl (lv_at hl 2 rfl) ?_
    refine g_if_ne (tgt := 26) G dX8_fits_19 (by decide) (by omega) (fun h19 => ?_) (fun h19 => ?_)
    ·
      refine lv_iconst (v := iI (-1)) hx hb dX8_fits_26 rfl ?_
      refine g_topi (z' := (if kind = 0 then 1 else -1)) (by split <;> omega) ?_
      refine g_callVv G X (rest := []) (As := [.int (iI (0)), .int (iI ((ng P))), .int (iI ((if kind = 0 then 1 else -1)))]) (t_X8_rises l Y ((up σ 0 12 0)) P (0) ((ng P)) ((if kind = 0 then 1 else -1)) ([]) (hMG.fr hF0 (by omega) (by omega)) (by split <;> omega) (by first | assumption | omega) (by show ((0 : Nat) : Int) ≤ 0; omega) mblk_0) (cwV 3 hts gX8_fits_X8_rises rfl rfl rfl (by decide +kernel) ⟨Nat.le_of_ble_eq_true rfl, Nat.le_of_ble_eq_true rfl⟩) (k := 0) (Nat.le_of_ble_eq_true rfl) rfl rfl rfl rfl hl.1 rfl (Nat.le_of_ble_eq_true rfl) dX8_fits_27 ⟨Nat.le_refl _, Nat.le_refl _⟩ (fun u27 H locs hq27 X => ?_)
      have hF1 := hF0.trans hq27.2
      have hB1 : MBlk u27 (gW P) (gM P) (kdB P kind) (ng P) := by { rw [kdB_low (by omega)]; have e := hq27.1; rw [List.nil_append, show ng P - 0 = ng P by omega] at e; exact e }
      have hA1 : Asc (ng P) (kdB P kind) := by rw [kdB_low (by omega)]; exact pool_asc hn0
      have hD1 : AdjB (gW P) (gM P) (kdB P kind) (ng P) := by rw [kdB_low (by omega)]; exact adj_pool hn0
      refine lv_aload_n hx hb dX8_fits_30 rfl (lv_at hl 1 rfl) ?_
      refine g_callVv G X (rest := []) (As := []) (t_X8_joins l Y (u27) P (_) (hMG.fr hF1 (by omega) (by omega)) hB1 hA1 hD1) (cwV 0 hts gX8_fits_X8_joins rfl rfl rfl (by decide +kernel) ⟨Nat.le_of_ble_eq_true rfl, Nat.le_of_ble_eq_true rfl⟩) (k := 0) (Nat.le_of_ble_eq_true rfl) rfl rfl rfl rfl hl.1 rfl (Nat.le_of_ble_eq_true rfl) dX8_fits_31 ⟨Nat.le_refl _, Nat.le_refl _⟩ (fun u31 H locs hq31 X => ?_)
      have hfin : 0 = (if 2 ≤ kind then bTurn (ng P) (gW P) (gM P) (gQ P) (if kind = 2 then 1 else -1) else 0) ∧ (0 < ng P → MBlE u31 (gW P) (gM P) (kdB P kind) (ng P) ∧ Asc (ng P) (kdB P kind)) ∧ Fr 9 11 12 12 σ u31 := ⟨by rw [if_neg (by omega)], fun _ => ⟨hq31.1, hA1⟩, hF1.trans hq31.2⟩
      refine lv_goto (tgt := 119) hx hb dX8_fits_34 (by decide) ?_
      refine lv_iload_n hx hb dX8_fits_119 rfl (lv_at hl 0 rfl) ?_
      exact hret _ _ _ _ _ _ (hfin) X dX8_fits_120
    ·
      refine lv_iconst (v := iI 1) hx hb dX8_fits_22 rfl ?_
      refine lv_goto (tgt := 27) hx hb dX8_fits_23 (by decide) ?_
      refine g_topi (z' := (if kind = 0 then 1 else -1)) (by split <;> omega) ?_
      refine g_callVv G X (rest := []) (As := [.int (iI (0)), .int (iI ((ng P))), .int (iI ((if kind = 0 then 1 else -1)))]) (t_X8_rises l Y ((up σ 0 12 0)) P (0) ((ng P)) ((if kind = 0 then 1 else -1)) ([]) (hMG.fr hF0 (by omega) (by omega)) (by split <;> omega) (by first | assumption | omega) (by show ((0 : Nat) : Int) ≤ 0; omega) mblk_0) (cwV 3 hts gX8_fits_X8_rises rfl rfl rfl (by decide +kernel) ⟨Nat.le_of_ble_eq_true rfl, Nat.le_of_ble_eq_true rfl⟩) (k := 0) (Nat.le_of_ble_eq_true rfl) rfl rfl rfl rfl hl.1 rfl (Nat.le_of_ble_eq_true rfl) dX8_fits_27 ⟨Nat.le_refl _, Nat.le_refl _⟩ (fun u27 H locs hq27 X => ?_)
      have hF1 := hF0.trans hq27.2
      have hB1 : MBlk u27 (gW P) (gM P) (kdB P kind) (ng P) := by { rw [kdB_low (by omega)]; have e := hq27.1; rw [List.nil_append, show ng P - 0 = ng P by omega] at e; exact e }
      have hA1 : Asc (ng P) (kdB P kind) := by rw [kdB_low (by omega)]; exact pool_asc hn0
      have hD1 : AdjB (gW P) (gM P) (kdB P kind) (ng P) := by rw [kdB_low (by omega)]; exact adj_pool hn0
      refine lv_aload_n hx hb dX8_fits_30 rfl (lv_at hl 1 rfl) ?_
      refine g_callVv G X (rest := []) (As := []) (t_X8_joins l Y (u27) P (_) (hMG.fr hF1 (by omega) (by omega)) hB1 hA1 hD1) (cwV 0 hts gX8_fits_X8_joins rfl rfl rfl (by decide +kernel) ⟨Nat.le_of_ble_eq_true rfl, Nat.le_of_ble_eq_true rfl⟩) (k := 0) (Nat.le_of_ble_eq_true rfl) rfl rfl rfl rfl hl.1 rfl (Nat.le_of_ble_eq_true rfl) dX8_fits_31 ⟨Nat.le_refl _, Nat.le_refl _⟩ (fun u31 H locs hq31 X => ?_)
      have hfin : 0 = (if 2 ≤ kind then bTurn (ng P) (gW P) (gM P) (gQ P) (if kind = 2 then 1 else -1) else 0) ∧ (0 < ng P → MBlE u31 (gW P) (gM P) (kdB P kind) (ng P) ∧ Asc (ng P) (kdB P kind)) ∧ Fr 9 11 12 12 σ u31 := ⟨by rw [if_neg (by omega)], fun _ => ⟨hq31.1, hA1⟩, hF1.trans hq31.2⟩
      refine lv_goto (tgt := 119) hx hb dX8_fits_34 (by decide) ?_
      refine lv_iload_n hx hb dX8_fits_119 rfl (lv_at hl 0 rfl) ?_
      exact hret _ _ _ _ _ _ (hfin) X dX8_fits_120

