set_option maxHeartbeats 4000000 in
set_option maxRecDepth 100000 in
theorem t_X7_outside (l : Launch) (Y : Yt) (σ : Mem) (x : Int) (lo : Int) (hi : Int) (hx0 : -2147483648 ≤ x ∧ x ≤ 2147483647) (hlo : -2147483648 ≤ lo ∧ lo ≤ 2147483647) (hhi : -2147483648 ≤ hi ∧ hi ≤ 2147483647) : MXi l LX Y yX7_outside wsX7_outside { frames := 0, cells := 0, slots := 0, locals := 0 } [.int (iI (x)), .int (iI (lo)), .int (iI (hi))] σ (fun z u => u = σ ∧ ((z = 1 ∧ (x < lo ∨ hi < x)) ∨ (z = 0 ∧ lo ≤ x ∧ x ≤ hi))) := by
  refine g_starti (rty := .boolean) (fun z u h => nrZ (by have := h.2; omega)) (cc := cX7_outside) (nL := 3) (own := RX7) (by decide) rfl rfl (Nat.le_of_ble_eq_true rfl) ?_
  intro pp ee ss mm bw mt cd AA ZZ ls G hret X hl
  have hl : lv_has ls 3 [(0, .int (iI (x))), (1, .int (iI (lo))), (2, .int (iI (hi)))] := hl
  have hx := G.1
  have hb := G.2.1
  have hts := G.2.2.2.2.1
  refine lv_iload_n hx hb dX7_outside_0 rfl (lv_at hl 0 rfl) ?_
  refine lv_iload_n hx hb dX7_outside_1 rfl (lv_at hl 1 rfl) ?_
  refine g_icmp_lt (tgt := 10) G dX7_outside_2 (by decide) (by omega) (by omega) (fun h2 => ?_) (fun h2 => ?_)
  ·
    refine lv_iconst (v := iI 1) hx hb dX7_outside_10 rfl ?_
    refine lv_goto (tgt := 15) hx hb dX7_outside_11 (by decide) ?_
    exact hret _ _ _ _ _ _ (⟨rfl, by omega⟩) X dX7_outside_15
  ·
    refine lv_iload_n hx hb dX7_outside_5 rfl (lv_at hl 0 rfl) ?_
    refine lv_iload_n hx hb dX7_outside_6 rfl (lv_at hl 2 rfl) ?_
    refine g_icmp_le (tgt := 14) G dX7_outside_7 (by decide) (by omega) (by omega) (fun h7 => ?_) (fun h7 => ?_)
    ·
      refine lv_iconst (v := iI 0) hx hb dX7_outside_14 rfl ?_
      exact hret _ _ _ _ _ _ (⟨rfl, by omega⟩) X dX7_outside_15
    ·
      refine lv_iconst (v := iI 1) hx hb dX7_outside_10 rfl ?_
      refine lv_goto (tgt := 15) hx hb dX7_outside_11 (by decide) ?_
      exact hret _ _ _ _ _ _ (⟨rfl, by omega⟩) X dX7_outside_15

set_option maxHeartbeats 4000000 in
set_option maxRecDepth 100000 in
theorem t_X7_wrongValueOrWeight (l : Launch) (Y : Yt) (σ : Mem) (v : Int) (w : Int) (hv0 : -2147483648 ≤ v ∧ v ≤ 2147483647) (hw0 : -2147483648 ≤ w ∧ w ≤ 2147483647) : MXi l LX Y yX7_wrongValueOrWeight wsX7_wrongValueOrWeight { frames := 1, cells := 0, slots := 0, locals := 22 } [.int (iI (v)), .int (iI (w))] σ (fun z u => u = σ ∧ ((z = 1 ∧ ¬ (-99 ≤ v ∧ v ≤ 99 ∧ 1 ≤ w ∧ w ≤ 2)) ∨ (z = 0 ∧ (-99 ≤ v ∧ v ≤ 99 ∧ 1 ≤ w ∧ w ≤ 2)))) := by
  refine g_starti (rty := .boolean) (fun z u h => nrZ (by have := h.2; omega)) (cc := cX7_wrongValueOrWeight) (nL := 2) (own := RX7) (by decide) rfl rfl (Nat.le_of_ble_eq_true rfl) ?_
  intro pp ee ss mm bw mt cd AA ZZ ls G hret X hl
  have hl : lv_has ls 2 [(0, .int (iI (v))), (1, .int (iI (w)))] := hl
  have hx := G.1
  have hb := G.2.1
  have hts := G.2.2.2.2.1
  refine lv_iload_n hx hb dX7_wrongValueOrWeight_0 rfl (lv_at hl 0 rfl) ?_
  refine lv_bipush (v := iI (-99)) hx hb dX7_wrongValueOrWeight_1 (by decide +kernel) ?_
  refine lv_bipush (v := iI 99) hx hb dX7_wrongValueOrWeight_3 (by decide +kernel) ?_
  refine g_callSi G X (rest := []) (As := [.int (iI (v)), .int (iI ((-99))), .int (iI (99))]) (t_X7_outside l Y (σ) (v) ((-99)) (99) (by first | assumption | omega) (by first | assumption | omega) (by first | assumption | omega)) (va_cwS 3 hts gX7_wrongValueOrWeight_X7_outside rfl rfl rfl (by decide +kernel) ⟨Nat.le_of_ble_eq_true rfl, Nat.le_of_ble_eq_true rfl⟩) rfl hl.1 rfl (Nat.le_of_ble_eq_true rfl) dX7_wrongValueOrWeight_5 ⟨Nat.le_refl _, Nat.le_refl _⟩ (fun z5 u5 H locs hq5 X => ?_)
  rw [hq5.1] at X
  have hq5 := hq5.2
  try dsimp only at hq5
  refine g_if_ne (tgt := 20) G dX7_wrongValueOrWeight_8 (by decide) (by omega) (fun h8 => ?_) (fun h8 => ?_)
  ·
    refine lv_iconst (v := iI 1) hx hb dX7_wrongValueOrWeight_20 rfl ?_
    refine lv_goto (tgt := 25) hx hb dX7_wrongValueOrWeight_21 (by decide) ?_
    exact hret _ _ _ _ _ _ (⟨rfl, by omega⟩) X dX7_wrongValueOrWeight_25
  ·
    refine lv_iload_n hx hb dX7_wrongValueOrWeight_11 rfl (lv_at hl 1 rfl) ?_
    refine lv_iconst (v := iI 1) hx hb dX7_wrongValueOrWeight_12 rfl ?_
    refine lv_iconst (v := iI 2) hx hb dX7_wrongValueOrWeight_13 rfl ?_
    refine g_callSi G X (rest := []) (As := [.int (iI (w)), .int (iI (1)), .int (iI (2))]) (t_X7_outside l Y (σ) (w) (1) (2) (by first | assumption | omega) (by first | assumption | omega) (by first | assumption | omega)) (va_cwS 3 hts gX7_wrongValueOrWeight_X7_outside rfl rfl rfl (by decide +kernel) ⟨Nat.le_of_ble_eq_true rfl, Nat.le_of_ble_eq_true rfl⟩) rfl hl.1 rfl (Nat.le_of_ble_eq_true rfl) dX7_wrongValueOrWeight_14 ⟨Nat.le_refl _, Nat.le_refl _⟩ (fun z14 u14 H locs hq14 X => ?_)
    rw [hq14.1] at X
    have hq14 := hq14.2
    try dsimp only at hq14
    refine g_if_eq (tgt := 24) G dX7_wrongValueOrWeight_17 (by decide) (by omega) (fun h17 => ?_) (fun h17 => ?_)
    ·
      refine lv_iconst (v := iI 0) hx hb dX7_wrongValueOrWeight_24 rfl ?_
      exact hret _ _ _ _ _ _ (⟨rfl, by omega⟩) X dX7_wrongValueOrWeight_25
    ·
      refine lv_iconst (v := iI 1) hx hb dX7_wrongValueOrWeight_20 rfl ?_
      refine lv_goto (tgt := 25) hx hb dX7_wrongValueOrWeight_21 (by decide) ?_
      exact hret _ _ _ _ _ _ (⟨rfl, by omega⟩) X dX7_wrongValueOrWeight_25

set_option maxHeartbeats 4000000 in
set_option maxRecDepth 100000 in
theorem t_X7_notFractionPart (l : Launch) (Y : Yt) (σ : Mem) (w : Int) (hw0 : -2147483648 ≤ w ∧ w ≤ 2147483647) : MXi l LX Y yX7_notFractionPart wsX7_notFractionPart { frames := 1, cells := 0, slots := 0, locals := 22 } [.int (iI (w))] σ (fun z u => u = σ ∧ ((z = 1 ∧ (w < 0 ∨ 1 < w)) ∨ (z = 0 ∧ 0 ≤ w ∧ w ≤ 1))) := by
  refine g_starti (rty := .boolean) (fun z u h => nrZ (by have := h.2; omega)) (cc := cX7_notFractionPart) (nL := 1) (own := RX7) (by decide) rfl rfl (Nat.le_of_ble_eq_true rfl) ?_
  intro pp ee ss mm bw mt cd AA ZZ ls G hret X hl
  have hl : lv_has ls 1 [(0, .int (iI (w)))] := hl
  have hx := G.1
  have hb := G.2.1
  have hts := G.2.2.2.2.1
  refine lv_iload_n hx hb dX7_notFractionPart_0 rfl (lv_at hl 0 rfl) ?_
  refine lv_iconst (v := iI 0) hx hb dX7_notFractionPart_1 rfl ?_
  refine lv_iconst (v := iI 1) hx hb dX7_notFractionPart_2 rfl ?_
  refine g_callSi G X (rest := []) (As := [.int (iI (w)), .int (iI (0)), .int (iI (1))]) (t_X7_outside l Y (σ) (w) (0) (1) (by first | assumption | omega) (by first | assumption | omega) (by first | assumption | omega)) (va_cwS 3 hts gX7_notFractionPart_X7_outside rfl rfl rfl (by decide +kernel) ⟨Nat.le_of_ble_eq_true rfl, Nat.le_of_ble_eq_true rfl⟩) rfl hl.1 rfl (Nat.le_of_ble_eq_true rfl) dX7_notFractionPart_3 ⟨Nat.le_refl _, Nat.le_refl _⟩ (fun z3 u3 H locs hq3 X => ?_)
  rw [hq3.1] at X
  have hq3 := hq3.2
  try dsimp only at hq3
  exact hret _ _ _ _ _ _ (⟨rfl, by omega⟩) X dX7_notFractionPart_6

set_option maxHeartbeats 4000000 in
set_option maxRecDepth 100000 in
theorem t_X7_hullOf (l : Launch) (Y : Yt) (σ : Mem) (kd : Int) (hk0 : -2147483648 ≤ kd ∧ kd ≤ 2147483647) : MXr l LX Y yX7_hullOf wsX7_hullOf { frames := 0, cells := 0, slots := 0, locals := 0 } [.ref (Y.2.1 (0)), .int (iI (kd))] σ (fun z u => u = σ ∧ ((kd = 4 ∧ z = 45) ∨ (kd ≠ 4 ∧ z = 47))) := by
  refine g_startr (rty := .object "ShapeFits$Hull") (Or.inl ⟨_, rfl⟩) (cc := cX7_hullOf) (nL := 2) (own := RX7) (by decide) rfl rfl (Nat.le_of_ble_eq_true rfl) ?_
  intro pp ee ss mm bw mt cd AA ZZ ls G hret X hl
  have hl : lv_has ls 2 [(0, .ref (Y.2.1 (0))), (1, .int (iI (kd)))] := hl
  have hx := G.1
  have hb := G.2.1
  have hts := G.2.2.2.2.1
  have l_f51 := hts (.fieldLink RX7 51 "ShapeFits" "minorant" "LShapeFits$Hull;") (List.mem_of_getElem? (i := 1) rfl)
  have l_f55 := hts (.fieldLink RX7 55 "ShapeFits" "majorant" "LShapeFits$Hull;") (List.mem_of_getElem? (i := 2) rfl)
  have in_X7 : ∀ w ∈ u_ws RX7 TX7 8, w ∈ wsX7_hullOf := by decide +kernel
  refine lv_iload_n hx hb dX7_hullOf_0 rfl (lv_at hl 1 rfl) ?_
  refine lv_iconst (v := iI 4) hx hb dX7_hullOf_1 rfl ?_
  refine g_icmp_ne (tgt := 12) G dX7_hullOf_2 (by decide) (by omega) (by omega) (fun h2 => ?_) (fun h2 => ?_)
  ·
    refine lv_aload_n hx hb dX7_hullOf_12 rfl (lv_at hl 0 rfl) ?_
    refine g_get G X (k := 0) (fs := fX Y) (Nat.le_of_ble_eq_true rfl) (fun _ => rfl) rfl in_X7 6 (by decide) l_f55 rfl (v := .ref (Y.2.1 (47))) rfl dX7_hullOf_13 ?_
    exact hret _ _ _ _ _ _ (⟨rfl, by omega⟩) X dX7_hullOf_16
  ·
    refine lv_aload_n hx hb dX7_hullOf_5 rfl (lv_at hl 0 rfl) ?_
    refine g_get G X (k := 0) (fs := fX Y) (Nat.le_of_ble_eq_true rfl) (fun _ => rfl) rfl in_X7 5 (by decide) l_f51 rfl (v := .ref (Y.2.1 (45))) rfl dX7_hullOf_6 ?_
    refine lv_goto (tgt := 16) hx hb dX7_hullOf_9 (by decide) ?_
    exact hret _ _ _ _ _ _ (⟨rfl, by omega⟩) X dX7_hullOf_16

set_option maxHeartbeats 4000000 in
set_option maxRecDepth 100000 in
theorem t_X7_greatestDivisor (l : Launch) (Y : Yt) (σ : Mem) (a : Int) (b : Int) (ha : 0 ≤ a ∧ a ≤ 9223372036854775807) (hb0 : 0 ≤ b ∧ b ≤ 9223372036854775807) : MXl l LX Y yX7_greatestDivisor wsX7_greatestDivisor { frames := 0, cells := 0, slots := 0, locals := 0 } [.long (lI (a)), .long (lI (b))] σ (fun z u => u = σ ∧ (z = gcdI a b ∧ 0 ≤ z ∧ z ≤ 9223372036854775807)) := by
  refine g_startl (cc := cX7_greatestDivisor) (nL := 11) (own := RX7) (by decide) rfl rfl (Nat.le_of_ble_eq_true rfl) ?_
  intro pp ee ss mm bw mt cd AA ZZ ls G hret X hl
  have hl : lv_has ls 11 [(0, .long (lI (a))), (2, .long (lI (b)))] := hl
  have hx := G.1
  have hb := G.2.1
  have hts := G.2.2.2.2.1
  refine lv_lload_n hx hb dX7_greatestDivisor_0 rfl (lv_at hl 0 rfl) ?_
  refine lv_lstore (lv' := [(4, .long (lI (a))), (0, .long (lI (a))), (2, .long (lI (b)))]) hx hb dX7_greatestDivisor_1 hl (by decide) rfl (fun ls hl => ?_)
  refine lv_lload_n hx hb dX7_greatestDivisor_3 rfl (lv_at hl 2 rfl) ?_
  refine lv_lstore (lv' := [(6, .long (lI (b))), (4, .long (lI (a))), (0, .long (lI (a))), (2, .long (lI (b)))]) hx hb dX7_greatestDivisor_4 hl (by decide) rfl (fun ls hl => ?_)
  refine lv_iconst (v := iI 0) hx hb dX7_greatestDivisor_6 rfl ?_
  refine lv_istore (lv' := [(8, .int (iI (0))), (6, .long (lI (b))), (4, .long (lI (a))), (0, .long (lI (a))), (2, .long (lI (b)))]) hx hb dX7_greatestDivisor_7 hl (by decide) rfl (fun ls hl => ?_)
  have lp_9 : ∀ (nn : Nat) (g la s : Int), ∀ hs : 0 ≤ s ∧ s ≤ 1000, ∀ hE : EuI s g la, ∀ hG : gcdI a b = gcdI g la, ∀ hdec : (1000 - s) < (nn : Int), ∀ (H : Heap) (locs : List Loc) (ls : Array Slot), wx LX Y σ ss AA H locs → lv_has ls 11 [(0, .long (lI (a))), (2, .long (lI (b))), (4, .long (lI (g))), (6, .long (lI (la))), (8, .int (iI (s)))] → W pp l ee { frames := 0, cells := 0, slots := 0, locals := 0 } ss mm ([.long (lI (a)), .long (lI (b))] : List Value).toArray bw mt cd H locs 0 0 ZZ (F0 mm 9 ls []) := by
    intro nn
    induction nn with
    | zero =>
      intro g la s hs hE hG hdec
      exact absurd hdec (by omega)
    | succ nn ih_9 =>
      intro g la s hs hE hG hdec H locs ls X hl
      obtain ⟨hE1, hE2, hE3, hE4, -⟩ := id hE
      refine lv_iload hx hb dX7_greatestDivisor_9 (lv_at hl 4 rfl) ?_
      refine lv_sipush (v := iI 1000) hx hb dX7_greatestDivisor_11 (by decide +kernel) ?_
      refine g_icmp_ge (tgt := 45) G dX7_greatestDivisor_14 (by decide) (by omega) (by omega) (fun h14 => ?_) (fun h14 => ?_)
      ·
        have hl1 : la = 0 := by by_cases h9 : la = 0; exact h9; exact eu_end hE (by omega)
        refine lv_lload hx hb dX7_greatestDivisor_45 (lv_at hl 2 rfl) ?_
        exact hret _ _ _ _ _ _ (⟨rfl, by rw [hG, hl1]; exact (gcdI_0 hE1).symm, by omega, by omega⟩) X dX7_greatestDivisor_47
      ·
        refine lv_lload hx hb dX7_greatestDivisor_17 (lv_at hl 3 rfl) ?_
        refine lv_lconst (v := lI 0) hx hb dX7_greatestDivisor_19 (by decide +kernel) ?_
        refine g_lif_eq (tgt := 45) G dX7_greatestDivisor_20 dX7_greatestDivisor_21 (by decide) (by omega) (by omega) (fun h20 => ?_) (fun h20 => ?_)
        ·
          have hl1 : la = 0 := by by_cases h9 : la = 0; exact h9; exact eu_end hE (by omega)
          refine lv_lload hx hb dX7_greatestDivisor_45 (lv_at hl 2 rfl) ?_
          exact hret _ _ _ _ _ _ (⟨rfl, by rw [hG, hl1]; exact (gcdI_0 hE1).symm, by omega, by omega⟩) X dX7_greatestDivisor_47
        ·
          refine lv_lload hx hb dX7_greatestDivisor_24 (lv_at hl 2 rfl) ?_
          refine lv_lload hx hb dX7_greatestDivisor_26 (lv_at hl 3 rfl) ?_
          refine g_lrem G (by omega) (by omega) dX7_greatestDivisor_28 ?_
          refine lv_lstore (lv' := [(9, .long (lI ((g.tmod la)))), (0, .long (lI (a))), (2, .long (lI (b))), (4, .long (lI (g))), (6, .long (lI (la))), (8, .int (iI (s)))]) hx hb dX7_greatestDivisor_29 hl (by decide) rfl (fun ls hl => ?_)
          refine lv_lload hx hb dX7_greatestDivisor_31 (lv_at hl 4 rfl) ?_
          refine lv_lstore (lv' := [(4, .long (lI (la))), (9, .long (lI ((g.tmod la)))), (0, .long (lI (a))), (2, .long (lI (b))), (6, .long (lI (la))), (8, .int (iI (s)))]) hx hb dX7_greatestDivisor_33 hl (by decide) rfl (fun ls hl => ?_)
          refine lv_lload hx hb dX7_greatestDivisor_35 (lv_at hl 1 rfl) ?_
          refine lv_lstore (lv' := [(6, .long (lI ((g.tmod la)))), (4, .long (lI (la))), (9, .long (lI ((g.tmod la)))), (0, .long (lI (a))), (2, .long (lI (b))), (8, .int (iI (s)))]) hx hb dX7_greatestDivisor_37 hl (by decide) rfl (fun ls hl => ?_)
          refine lv_iinc (v := iI (s + 1)) (lv' := [(8, .int (iI ((s + 1)))), (6, .long (lI ((g.tmod la)))), (4, .long (lI (la))), (9, .long (lI ((g.tmod la)))), (0, .long (lI (a))), (2, .long (lI (b)))]) hx hb dX7_greatestDivisor_39 hl (k := 5) rfl (iI_add _ _) (by decide) rfl (fun ls hl => ?_)
          refine lv_goto (tgt := 9) hx hb dX7_greatestDivisor_42 (by decide) ?_
          exact ih_9 (la) ((g.tmod la)) ((s + 1)) (by omega) (eu_s hs.1 hE (by omega)) (hG.trans (gcdI_step hE.1 (by omega)).symm) (by omega) _ _ _ X (lv_sub hl [4, 5, 2, 1, 0] rfl)
  exact lp_9 ((((1000 - (0)) : Int).toNat + 1)) (a) (b) (0) (by omega) ⟨ha.1, hb0.1, ha.2, hb0.2, fun h => by omega⟩ rfl (by omega) _ _ _ X (lv_sub hl [3, 4, 2, 1, 0] rfl)

set_option maxHeartbeats 4000000 in
set_option maxRecDepth 100000 in
theorem t_X7_lowest (l : Launch) (Y : Yt) (σ : Mem) (n : Int) (d : Int) (w : Int) (hn : -9223372036854775807 ≤ n ∧ n ≤ 9223372036854775807) (hd : 0 < d ∧ d ≤ 9223372036854775807) (hw0 : 0 ≤ w ∧ w ≤ 1) : MXl l LX Y yX7_lowest wsX7_lowest { frames := 1, cells := 0, slots := 0, locals := 30 } [.long (lI (n)), .long (lI (d)), .int (iI (w))] σ (fun z u => u = σ ∧ (z = low n d w)) := by
  have hgp := gcdI_pos (n := n) hd.1
  refine g_startl (cc := cX7_lowest) (nL := 9) (own := RX7) (by decide) rfl rfl (Nat.le_of_ble_eq_true rfl) ?_
  intro pp ee ss mm bw mt cd AA ZZ ls G hret X hl
  have hl : lv_has ls 9 [(0, .long (lI (n))), (2, .long (lI (d))), (4, .int (iI (w)))] := hl
  have hx := G.1
  have hb := G.2.1
  have hts := G.2.2.2.2.1
  refine lv_iload hx hb dX7_lowest_0 (lv_at hl 2 rfl) ?_
  refine g_if_ne (tgt := 9) G dX7_lowest_2 (by decide) (by omega) (fun h2 => ?_) (fun h2 => ?_)
  ·
    have hpt : ∀ x, x = d → x = if w = 0 then n else d := fun x h => by rw [h, if_neg h2]
    refine lv_lload_n hx hb dX7_lowest_9 rfl (lv_at hl 1 rfl) ?_
    refine g_topl (z' := (if w = 0 then n else d)) (hpt _ rfl) ?_
    refine lv_lstore (lv' := [(5, .long (lI ((if w = 0 then n else d)))), (0, .long (lI (n))), (2, .long (lI (d))), (4, .int (iI (w)))]) hx hb dX7_lowest_10 hl (by decide) rfl (fun ls hl => ?_)
    refine lv_lload_n hx hb dX7_lowest_12 rfl (lv_at hl 1 rfl) ?_
    refine g_mabsl G (a := n) (by omega) (hts (.methodLink RX7 247 Lib.MathLoose.abs_long.x) (List.mem_of_getElem? (i := 1) rfl)) (hts (.static Lib.MathLoose.abs_long.x) (List.mem_of_getElem? (i := 2) rfl)) (hts (.initialized "java/lang/Math") (List.mem_of_getElem? (i := 3) rfl)) (hts (.code Lib.MathLoose.abs_long.x Lib.MathLoose.abs_long.code 2 (some .long)) (List.mem_of_getElem? (i := 4) rfl)) hl.1 (Nat.le_of_ble_eq_true rfl) (Nat.le_of_ble_eq_true rfl) ⟨Nat.le_refl _, Nat.le_refl _⟩ dX7_lowest_13 ?_
    refine lv_lload_n hx hb dX7_lowest_16 rfl (lv_at hl 2 rfl) ?_
    refine g_callSl G X (rest := []) (As := [.long (lI ((if 0 < n then n else -n))), .long (lI (d))]) (t_X7_greatestDivisor l Y (σ) ((if 0 < n then n else -n)) (d) (by split <;> omega) (by first | assumption | omega)) (va_cwS 2 hts gX7_lowest_X7_greatestDivisor rfl rfl rfl (by decide +kernel) ⟨Nat.le_of_ble_eq_true rfl, Nat.le_of_ble_eq_true rfl⟩) rfl hl.1 rfl (Nat.le_of_ble_eq_true rfl) dX7_lowest_17 ⟨Nat.le_refl _, Nat.le_refl _⟩ (fun z17 u17 H locs hq17 X => ?_)
    rw [hq17.1] at X
    have hq17 := hq17.2
    try dsimp only at hq17
    have hg2 := hq17.2
    refine g_topl (z' := gcdI n d) (hq17.1.trans (gcdI_abs n d)) ?_
    rw [hq17.1, gcdI_abs] at hg2
    refine lv_lstore (lv' := [(7, .long (lI ((gcdI n d)))), (5, .long (lI ((if w = 0 then n else d)))), (0, .long (lI (n))), (2, .long (lI (d))), (4, .int (iI (w)))]) hx hb dX7_lowest_20 hl (by decide) rfl (fun ls hl => ?_)
    refine lv_lload hx hb dX7_lowest_22 (lv_at hl 0 rfl) ?_
    refine lv_lconst (v := lI 0) hx hb dX7_lowest_24 (by decide +kernel) ?_
    refine g_lif_ne (tgt := 34) G dX7_lowest_25 dX7_lowest_26 (by decide) (by omega) (by omega) (fun h25 => ?_) (fun h25 => ?_)
    ·
      refine lv_lload hx hb dX7_lowest_34 (lv_at hl 1 rfl) ?_
      have hpr : -9223372036854775807 ≤ (if w = 0 then n else d) ∧ (if w = 0 then n else d) ≤ 9223372036854775807 := by split <;> omega
      refine lv_lload hx hb dX7_lowest_36 (lv_at hl 0 rfl) ?_
      refine g_ldiv G (by omega) (by omega) dX7_lowest_38 ?_
      exact hret _ _ _ _ _ _ (⟨rfl, by unfold low; by_cases h9 : w = 0; (rw [if_pos h9, if_pos h9]; exact Int.tdiv_eq_ediv_of_dvd (gcdI_l n d)); (rw [if_neg h9, if_neg h9]; exact Int.tdiv_eq_ediv_of_dvd (gcdI_r n d))⟩) X dX7_lowest_39
    ·
      exact absurd hgp (by omega)
  ·
    have hpt : ∀ x, x = n → x = if w = 0 then n else d := fun x h => by rw [h, if_pos (by omega)]
    refine lv_lload_n hx hb dX7_lowest_5 rfl (lv_at hl 0 rfl) ?_
    refine lv_goto (tgt := 10) hx hb dX7_lowest_6 (by decide) ?_
    refine g_topl (z' := (if w = 0 then n else d)) (hpt _ rfl) ?_
    refine lv_lstore (lv' := [(5, .long (lI ((if w = 0 then n else d)))), (0, .long (lI (n))), (2, .long (lI (d))), (4, .int (iI (w)))]) hx hb dX7_lowest_10 hl (by decide) rfl (fun ls hl => ?_)
    refine lv_lload_n hx hb dX7_lowest_12 rfl (lv_at hl 1 rfl) ?_
    refine g_mabsl G (a := n) (by omega) (hts (.methodLink RX7 247 Lib.MathLoose.abs_long.x) (List.mem_of_getElem? (i := 1) rfl)) (hts (.static Lib.MathLoose.abs_long.x) (List.mem_of_getElem? (i := 2) rfl)) (hts (.initialized "java/lang/Math") (List.mem_of_getElem? (i := 3) rfl)) (hts (.code Lib.MathLoose.abs_long.x Lib.MathLoose.abs_long.code 2 (some .long)) (List.mem_of_getElem? (i := 4) rfl)) hl.1 (Nat.le_of_ble_eq_true rfl) (Nat.le_of_ble_eq_true rfl) ⟨Nat.le_refl _, Nat.le_refl _⟩ dX7_lowest_13 ?_
    refine lv_lload_n hx hb dX7_lowest_16 rfl (lv_at hl 2 rfl) ?_
    refine g_callSl G X (rest := []) (As := [.long (lI ((if 0 < n then n else -n))), .long (lI (d))]) (t_X7_greatestDivisor l Y (σ) ((if 0 < n then n else -n)) (d) (by split <;> omega) (by first | assumption | omega)) (va_cwS 2 hts gX7_lowest_X7_greatestDivisor rfl rfl rfl (by decide +kernel) ⟨Nat.le_of_ble_eq_true rfl, Nat.le_of_ble_eq_true rfl⟩) rfl hl.1 rfl (Nat.le_of_ble_eq_true rfl) dX7_lowest_17 ⟨Nat.le_refl _, Nat.le_refl _⟩ (fun z17 u17 H locs hq17 X => ?_)
    rw [hq17.1] at X
    have hq17 := hq17.2
    try dsimp only at hq17
    have hg2 := hq17.2
    refine g_topl (z' := gcdI n d) (hq17.1.trans (gcdI_abs n d)) ?_
    rw [hq17.1, gcdI_abs] at hg2
    refine lv_lstore (lv' := [(7, .long (lI ((gcdI n d)))), (5, .long (lI ((if w = 0 then n else d)))), (0, .long (lI (n))), (2, .long (lI (d))), (4, .int (iI (w)))]) hx hb dX7_lowest_20 hl (by decide) rfl (fun ls hl => ?_)
    refine lv_lload hx hb dX7_lowest_22 (lv_at hl 0 rfl) ?_
    refine lv_lconst (v := lI 0) hx hb dX7_lowest_24 (by decide +kernel) ?_
    refine g_lif_ne (tgt := 34) G dX7_lowest_25 dX7_lowest_26 (by decide) (by omega) (by omega) (fun h25 => ?_) (fun h25 => ?_)
    ·
      refine lv_lload hx hb dX7_lowest_34 (lv_at hl 1 rfl) ?_
      have hpr : -9223372036854775807 ≤ (if w = 0 then n else d) ∧ (if w = 0 then n else d) ≤ 9223372036854775807 := by split <;> omega
      refine lv_lload hx hb dX7_lowest_36 (lv_at hl 0 rfl) ?_
      refine g_ldiv G (by omega) (by omega) dX7_lowest_38 ?_
      exact hret _ _ _ _ _ _ (⟨rfl, by unfold low; by_cases h9 : w = 0; (rw [if_pos h9, if_pos h9]; exact Int.tdiv_eq_ediv_of_dvd (gcdI_l n d)); (rw [if_neg h9, if_neg h9]; exact Int.tdiv_eq_ediv_of_dvd (gcdI_r n d))⟩) X dX7_lowest_39
    ·
      exact absurd hgp (by omega)

