set_option maxHeartbeats 4000000 in
set_option maxRecDepth 100000 in
theorem t_X8_has (l : Launch) (Y : Yt) (σ : Mem) (tx : List Int) (c : Int) (p : Int) (hT : MText σ tx) (hok : txOk tx) (hp5 : σ 0 22 = p) (hpr : 0 ≤ p ∧ p ≤ tx.length) (hc0 : 0 ≤ c ∧ c < 65536) : MXi l LM Y yX8_has wsX8_has { frames := 0, cells := 0, slots := 0, locals := 0 } [.ref (Y.2.1 (0)), .int (iI (c))] σ (fun z u => (z = 1 ∧ (p < tx.length ∧ at0 tx p = c) ∧ u = up σ 0 22 (p + 1)) ∨ (z = 0 ∧ ¬ (p < tx.length ∧ at0 tx p = c) ∧ u = σ)) := by
  have hT1 := hT.1
  have hT2 := hT.2
  have hok1 := hok.1
  refine g_starti (rty := .boolean) (fun z u h => nrZ (by omega)) (cc := cX8_has) (nL := 3) (own := RX8) (by decide) rfl rfl (Nat.le_of_ble_eq_true rfl) ?_
  intro pp ee ss mm bw mt cd AA ZZ ls G hret X hl
  have hl : lv_has ls 3 [(0, .ref (Y.2.1 (0))), (1, .int (iI (c)))] := hl
  have hx := G.1
  have hb := G.2.1
  have hts := G.2.2.2.2.1
  have l_f16 := hts (.fieldLink RX8 16 "ShapeFitsModel" "text" "[C") (List.mem_of_getElem? (i := 3) rfl)
  have l_f176 := hts (.fieldLink RX8 176 "ShapeFitsModel" "typed" "I") (List.mem_of_getElem? (i := 2) rfl)
  have l_f179 := hts (.fieldLink RX8 179 "ShapeFitsModel" "at" "I") (List.mem_of_getElem? (i := 1) rfl)
  have in_X8 : ∀ w ∈ u_ws RX8 TX8 24, w ∈ wsX8_has := by decide +kernel
  refine lv_aload_n hx hb dX8_has_0 rfl (lv_at hl 0 rfl) ?_
  refine g_get G X (k := 0) (fs := fM Y) (Nat.le_of_ble_eq_true rfl) (fun _ => rfl) rfl in_X8 22 (by decide) l_f179 rfl (v := .int (iI ((σ 0 22)))) rfl dX8_has_1 ?_
  refine g_topi (z' := p) hp5 ?_
  refine lv_aload_n hx hb dX8_has_4 rfl (lv_at hl 0 rfl) ?_
  refine g_get G X (k := 0) (fs := fM Y) (Nat.le_of_ble_eq_true rfl) (fun _ => rfl) rfl in_X8 4 (by decide) l_f176 rfl (v := .int (iI ((σ 0 4)))) rfl dX8_has_5 ?_
  refine g_topi (z' := (tx.length : Int)) hT1 ?_
  refine g_icmp_ge (tgt := 28) G dX8_has_8 (by decide) (by omega) (by omega) (fun h8 => ?_) (fun h8 => ?_)
  ·
    refine lv_iconst (v := iI 0) hx hb dX8_has_28 rfl ?_
    refine lv_istore_n (lv' := [(2, .int (iI (0))), (0, .ref (Y.2.1 (0))), (1, .int (iI (c)))]) hx hb dX8_has_29 rfl hl (by decide) rfl (fun ls hl => ?_)
    refine lv_aload_n hx hb dX8_has_30 rfl (lv_at hl 1 rfl) ?_
    refine lv_dup hx hb dX8_has_31 rfl ?_
    refine g_get G X (k := 0) (fs := fM Y) (Nat.le_of_ble_eq_true rfl) (fun _ => rfl) rfl in_X8 22 (by decide) l_f179 rfl (v := .int (iI ((σ 0 22)))) rfl dX8_has_32 ?_
    refine g_topi (z' := p) hp5 ?_
    refine lv_iload_n hx hb dX8_has_35 rfl (lv_at hl 0 rfl) ?_
    refine g_if_eq (tgt := 43) G dX8_has_36 (by decide) (by omega) (fun h36 => ?_) (fun h36 => ?_)
    ·
      refine lv_iconst (v := iI 0) hx hb dX8_has_43 rfl ?_
      refine g_iadd G dX8_has_44 ?_
      refine g_puti G X (k := 0) (fs := fM Y) (z := (p + 0)) (Nat.le_of_ble_eq_true rfl) (fun _ => rfl) rfl in_X8 tyX8 tyX8_ok nmX8 22 22 (by decide) l_f179 rfl rfl (by decide +kernel) (Nat.le_of_ble_eq_true rfl) (fun _ => rfl) dX8_has_45 (fun H locs X => ?_)
      refine lv_iload_n hx hb dX8_has_48 rfl (lv_at hl 0 rfl) ?_
      exact hret _ _ _ _ _ _ (by first | exact Or.inl ⟨rfl, ⟨by omega, by omega⟩, rfl⟩ | exact Or.inr ⟨rfl, by omega, by rw [Int.add_zero, ← hp5]; exact up_id _ _ _⟩) X dX8_has_49
    ·
      exact False.elim (by omega)
  ·
    refine lv_aload_n hx hb dX8_has_11 rfl (lv_at hl 0 rfl) ?_
    refine g_get G X (k := 0) (fs := fM Y) (Nat.le_of_ble_eq_true rfl) (fun _ => rfl) rfl in_X8 3 (by decide) l_f16 rfl (v := .ref (Y.2.1 (3))) rfl dX8_has_12 ?_
    refine lv_aload_n hx hb dX8_has_15 rfl (lv_at hl 0 rfl) ?_
    refine g_get G X (k := 0) (fs := fM Y) (Nat.le_of_ble_eq_true rfl) (fun _ => rfl) rfl in_X8 22 (by decide) l_f179 rfl (v := .int (iI ((σ 0 22)))) rfl dX8_has_16 ?_
    refine g_topi (z' := p) hp5 ?_
    refine g_cald G X (k := 3) (n := 90) (Nat.le_of_ble_eq_true rfl) (fun _ => rfl) (by decide) (z := p) (by omega) dX8_has_19 ?_
    have ha := tx_at hok (p := p) (by omega) (by omega)
    refine g_topi (z' := at0 tx p) (hT2 p (by omega) (by omega)) ?_
    refine lv_iload_n hx hb dX8_has_20 rfl (lv_at hl 1 rfl) ?_
    refine g_icmp_ne (tgt := 28) G dX8_has_21 (by decide) (by omega) (by omega) (fun h21 => ?_) (fun h21 => ?_)
    ·
      refine lv_iconst (v := iI 0) hx hb dX8_has_28 rfl ?_
      refine lv_istore_n (lv' := [(2, .int (iI (0))), (0, .ref (Y.2.1 (0))), (1, .int (iI (c)))]) hx hb dX8_has_29 rfl hl (by decide) rfl (fun ls hl => ?_)
      refine lv_aload_n hx hb dX8_has_30 rfl (lv_at hl 1 rfl) ?_
      refine lv_dup hx hb dX8_has_31 rfl ?_
      refine g_get G X (k := 0) (fs := fM Y) (Nat.le_of_ble_eq_true rfl) (fun _ => rfl) rfl in_X8 22 (by decide) l_f179 rfl (v := .int (iI ((σ 0 22)))) rfl dX8_has_32 ?_
      refine g_topi (z' := p) hp5 ?_
      refine lv_iload_n hx hb dX8_has_35 rfl (lv_at hl 0 rfl) ?_
      refine g_if_eq (tgt := 43) G dX8_has_36 (by decide) (by omega) (fun h36 => ?_) (fun h36 => ?_)
      ·
        refine lv_iconst (v := iI 0) hx hb dX8_has_43 rfl ?_
        refine g_iadd G dX8_has_44 ?_
        refine g_puti G X (k := 0) (fs := fM Y) (z := (p + 0)) (Nat.le_of_ble_eq_true rfl) (fun _ => rfl) rfl in_X8 tyX8 tyX8_ok nmX8 22 22 (by decide) l_f179 rfl rfl (by decide +kernel) (Nat.le_of_ble_eq_true rfl) (fun _ => rfl) dX8_has_45 (fun H locs X => ?_)
        refine lv_iload_n hx hb dX8_has_48 rfl (lv_at hl 0 rfl) ?_
        exact hret _ _ _ _ _ _ (by first | exact Or.inl ⟨rfl, ⟨by omega, by omega⟩, rfl⟩ | exact Or.inr ⟨rfl, by omega, by rw [Int.add_zero, ← hp5]; exact up_id _ _ _⟩) X dX8_has_49
      ·
        exact False.elim (by omega)
    ·
      refine lv_iconst (v := iI 1) hx hb dX8_has_24 rfl ?_
      refine lv_goto (tgt := 29) hx hb dX8_has_25 (by decide) ?_
      refine lv_istore_n (lv' := [(2, .int (iI (1))), (0, .ref (Y.2.1 (0))), (1, .int (iI (c)))]) hx hb dX8_has_29 rfl hl (by decide) rfl (fun ls hl => ?_)
      refine lv_aload_n hx hb dX8_has_30 rfl (lv_at hl 1 rfl) ?_
      refine lv_dup hx hb dX8_has_31 rfl ?_
      refine g_get G X (k := 0) (fs := fM Y) (Nat.le_of_ble_eq_true rfl) (fun _ => rfl) rfl in_X8 22 (by decide) l_f179 rfl (v := .int (iI ((σ 0 22)))) rfl dX8_has_32 ?_
      refine g_topi (z' := p) hp5 ?_
      refine lv_iload_n hx hb dX8_has_35 rfl (lv_at hl 0 rfl) ?_
      refine g_if_eq (tgt := 43) G dX8_has_36 (by decide) (by omega) (fun h36 => ?_) (fun h36 => ?_)
      ·
        exact False.elim (by omega)
      ·
        refine lv_iconst (v := iI 1) hx hb dX8_has_39 rfl ?_
        refine lv_goto (tgt := 44) hx hb dX8_has_40 (by decide) ?_
        refine g_iadd G dX8_has_44 ?_
        refine g_puti G X (k := 0) (fs := fM Y) (z := (p + 1)) (Nat.le_of_ble_eq_true rfl) (fun _ => rfl) rfl in_X8 tyX8 tyX8_ok nmX8 22 22 (by decide) l_f179 rfl rfl (by decide +kernel) (Nat.le_of_ble_eq_true rfl) (fun _ => rfl) dX8_has_45 (fun H locs X => ?_)
        refine lv_iload_n hx hb dX8_has_48 rfl (lv_at hl 0 rfl) ?_
        exact hret _ _ _ _ _ _ (by first | exact Or.inl ⟨rfl, ⟨by omega, by omega⟩, rfl⟩ | exact Or.inr ⟨rfl, by omega, by rw [Int.add_zero, ← hp5]; exact up_id _ _ _⟩) X dX8_has_49

set_option maxHeartbeats 4000000 in
set_option maxRecDepth 100000 in
theorem t_X8_number (l : Launch) (Y : Yt) (σ : Mem) (tx : List Int) (m : Int) (p : Int) (mN : Nat) (hT : MText σ tx) (hok : txOk tx) (hp5 : σ 0 22 = p) (hpr : 0 ≤ p ∧ p ≤ tx.length) (hm : m = (mN : Int) ∧ mN ≤ 2) : MXi l LM Y yX8_number wsX8_number { frames := 1, cells := 0, slots := 0, locals := 22 } [.ref (Y.2.1 (0)), .int (iI (m))] σ (fun z u => z = (rd tx mN (-1) p).1 ∧ u = up σ 0 22 (rd tx mN (-1) p).2) := by
  have hT1 := hT.1
  have hT2 := hT.2
  have hok1 := hok.1
  refine g_starti (rty := .int) (fun _ _ _ => rfl) (cc := cX8_number) (nL := 4) (own := RX8) (by decide) rfl rfl (Nat.le_of_ble_eq_true rfl) ?_
  intro pp ee ss mm bw mt cd AA ZZ ls G hret X hl
  have hl : lv_has ls 4 [(0, .ref (Y.2.1 (0))), (1, .int (iI (m)))] := hl
  have hx := G.1
  have hb := G.2.1
  have hts := G.2.2.2.2.1
  have l_f16 := hts (.fieldLink RX8 16 "ShapeFitsModel" "text" "[C") (List.mem_of_getElem? (i := 3) rfl)
  have l_f176 := hts (.fieldLink RX8 176 "ShapeFitsModel" "typed" "I") (List.mem_of_getElem? (i := 2) rfl)
  have l_f179 := hts (.fieldLink RX8 179 "ShapeFitsModel" "at" "I") (List.mem_of_getElem? (i := 1) rfl)
  have in_X8 : ∀ w ∈ u_ws RX8 TX8 24, w ∈ wsX8_number := by decide +kernel
  have X := (show σ = (up σ 0 22 p) from (by rw [← hp5]; exact (up_id σ 0 22).symm)) ▸ X
  refine lv_iconst (v := iI (-1)) hx hb dX8_number_0 rfl ?_
  refine lv_istore_n (lv' := [(2, .int (iI ((-1)))), (0, .ref (Y.2.1 (0))), (1, .int (iI (m)))]) hx hb dX8_number_1 rfl hl (by decide) rfl (fun ls hl => ?_)
  refine lv_iconst (v := iI 0) hx hb dX8_number_2 rfl ?_
  refine lv_istore_n (lv' := [(3, .int (iI (0))), (2, .int (iI ((-1)))), (0, .ref (Y.2.1 (0))), (1, .int (iI (m)))]) hx hb dX8_number_3 rfl hl (by decide) rfl (fun ls hl => ?_)
  have lp_4 : ∀ (nn : Nat) (num dg pl : Int), ∀ hd : 0 ≤ dg ∧ dg ≤ m, ∀ hpl : 0 ≤ pl ∧ pl ≤ tx.length, ∀ hnu : -1 ≤ num ∧ num ≤ 99 ∧ (dg ≤ 1 → num ≤ 9) ∧ (dg = 0 → num ≤ 0), ∀ hE : rd tx mN (-1) p = rd tx (m - dg).toNat num pl, ∀ hdec : (m - dg) < (nn : Int), ∀ (H : Heap) (locs : List Loc) (ls : Array Slot), wx LM Y (up σ 0 22 pl) ss AA H locs → lv_has ls 4 [(0, .ref (Y.2.1 (0))), (1, .int (iI (m))), (2, .int (iI (num))), (3, .int (iI (dg)))] → W pp l ee { frames := 1, cells := 0, slots := 0, locals := 22 } ss mm ([.ref (Y.2.1 (0)), .int (iI (m))] : List Value).toArray bw mt cd H locs 0 0 ZZ (F0 mm 4 ls []) := by
    intro nn
    induction nn with
    | zero =>
      intro num dg pl hd hpl hnu hE hdec
      exact absurd hdec (by omega)
    | succ nn ih_4 =>
      intro num dg pl hd hpl hnu hE hdec H locs ls X hl
      refine lv_iload_n hx hb dX8_number_4 rfl (lv_at hl 3 rfl) ?_
      refine lv_iload_n hx hb dX8_number_5 rfl (lv_at hl 1 rfl) ?_
      refine g_icmp_ge (tgt := 81) G dX8_number_6 (by decide) (by omega) (by omega) (fun h6 => ?_) (fun h6 => ?_)
      ·
        refine lv_iload_n hx hb dX8_number_81 rfl (lv_at hl 2 rfl) ?_
        exact hret _ _ _ _ _ _ ((by have e : rd tx mN (-1) p = (num, pl) := by { rw [hE]; first | exact rd_stop (by omega) | (rw [show (m - dg).toNat = 0 by omega]; rfl) }; rw [e]; exact ⟨rfl, rfl⟩)) X dX8_number_82
      ·
        refine lv_aload_n hx hb dX8_number_9 rfl (lv_at hl 0 rfl) ?_
        refine g_get G X (k := 0) (fs := fM Y) (Nat.le_of_ble_eq_true rfl) (fun _ => rfl) rfl in_X8 22 (by decide) l_f179 rfl (v := .int (iI (pl))) rfl dX8_number_10 ?_
        refine lv_aload_n hx hb dX8_number_13 rfl (lv_at hl 0 rfl) ?_
        refine g_get G X (k := 0) (fs := fM Y) (Nat.le_of_ble_eq_true rfl) (fun _ => rfl) rfl in_X8 4 (by decide) l_f176 rfl (v := .int (iI ((σ 0 4)))) rfl dX8_number_14 ?_
        refine g_topi (z' := (tx.length : Int)) hT1 ?_
        refine g_icmp_ge (tgt := 81) G dX8_number_17 (by decide) (by omega) (by omega) (fun h17 => ?_) (fun h17 => ?_)
        ·
          refine lv_iload_n hx hb dX8_number_81 rfl (lv_at hl 2 rfl) ?_
          exact hret _ _ _ _ _ _ ((by have e : rd tx mN (-1) p = (num, pl) := by { rw [hE]; first | exact rd_stop (by omega) | (rw [show (m - dg).toNat = 0 by omega]; rfl) }; rw [e]; exact ⟨rfl, rfl⟩)) X dX8_number_82
        ·
          have ha := tx_at hok (p := pl) (by omega) (by omega)
          refine lv_aload_n hx hb dX8_number_20 rfl (lv_at hl 0 rfl) ?_
          refine g_get G X (k := 0) (fs := fM Y) (Nat.le_of_ble_eq_true rfl) (fun _ => rfl) rfl in_X8 3 (by decide) l_f16 rfl (v := .ref (Y.2.1 (3))) rfl dX8_number_21 ?_
          refine lv_aload_n hx hb dX8_number_24 rfl (lv_at hl 0 rfl) ?_
          refine g_get G X (k := 0) (fs := fM Y) (Nat.le_of_ble_eq_true rfl) (fun _ => rfl) rfl in_X8 22 (by decide) l_f179 rfl (v := .int (iI (pl))) rfl dX8_number_25 ?_
          refine g_cald G X (k := 3) (n := 90) (Nat.le_of_ble_eq_true rfl) (fun _ => rfl) (by decide) (z := pl) (by omega) dX8_number_28 ?_
          refine g_topi (z' := (σ 3 pl)) rfl ?_
          refine g_topi (z' := at0 tx pl) (hT2 pl (by omega) (by omega)) ?_
          refine lv_bipush (v := iI 48) hx hb dX8_number_29 (by decide +kernel) ?_
          refine lv_bipush (v := iI 57) hx hb dX8_number_31 (by decide +kernel) ?_
          refine g_callSi G X (rest := []) (As := [.int (iI ((at0 tx pl))), .int (iI (48)), .int (iI (57))]) (t_X8_in l Y ((up σ 0 22 pl)) ((at0 tx pl)) (48) (57) (by first | assumption | omega) (by first | assumption | omega) (by first | assumption | omega)) (va_cwS 3 hts gX8_number_X8_in rfl rfl rfl (by decide +kernel) ⟨Nat.le_of_ble_eq_true rfl, Nat.le_of_ble_eq_true rfl⟩) rfl hl.1 rfl (Nat.le_of_ble_eq_true rfl) dX8_number_33 ⟨Nat.le_refl _, Nat.le_refl _⟩ (fun z33 u33 H locs hq33 X => ?_)
          rw [hq33.1] at X
          have hq33 := hq33.2
          try dsimp only at hq33
          refine g_if_eq (tgt := 81) G dX8_number_36 (by decide) (by omega) (fun h36 => ?_) (fun h36 => ?_)
          ·
            refine lv_iload_n hx hb dX8_number_81 rfl (lv_at hl 2 rfl) ?_
            exact hret _ _ _ _ _ _ ((by have e : rd tx mN (-1) p = (num, pl) := by { rw [hE]; first | exact rd_stop (by omega) | (rw [show (m - dg).toNat = 0 by omega]; rfl) }; rw [e]; exact ⟨rfl, rfl⟩)) X dX8_number_82
          ·
            have hdig : 0 ≤ pl ∧ pl < tx.length ∧ 48 ≤ at0 tx pl ∧ at0 tx pl ≤ 57 := by omega
            refine lv_iload_n hx hb dX8_number_39 rfl (lv_at hl 2 rfl) ?_
            refine g_if_ge (tgt := 47) G dX8_number_40 (by decide) (by omega) (fun h40 => ?_) (fun h40 => ?_)
            ·
              refine lv_bipush (v := iI 10) hx hb dX8_number_47 (by decide +kernel) ?_
              refine lv_iload_n hx hb dX8_number_49 rfl (lv_at hl 2 rfl) ?_
              refine g_imul G dX8_number_50 ?_
              refine lv_aload_n hx hb dX8_number_51 rfl (lv_at hl 0 rfl) ?_
              refine g_get G X (k := 0) (fs := fM Y) (Nat.le_of_ble_eq_true rfl) (fun _ => rfl) rfl in_X8 3 (by decide) l_f16 rfl (v := .ref (Y.2.1 (3))) rfl dX8_number_52 ?_
              refine lv_aload_n hx hb dX8_number_55 rfl (lv_at hl 0 rfl) ?_
              refine g_get G X (k := 0) (fs := fM Y) (Nat.le_of_ble_eq_true rfl) (fun _ => rfl) rfl in_X8 22 (by decide) l_f179 rfl (v := .int (iI (pl))) rfl dX8_number_56 ?_
              refine g_cald G X (k := 3) (n := 90) (Nat.le_of_ble_eq_true rfl) (fun _ => rfl) (by decide) (z := pl) (by omega) dX8_number_59 ?_
              refine g_topi (z' := (σ 3 pl)) rfl ?_
              refine g_topi (z' := at0 tx pl) (hT2 pl (by omega) (by omega)) ?_
              refine g_iadd G dX8_number_60 ?_
              refine lv_bipush (v := iI 48) hx hb dX8_number_61 (by decide +kernel) ?_
              refine g_isub G dX8_number_63 ?_
              refine g_topi (z' := ((if num < 0 then 0 else num) * 10 + (at0 tx pl - 48))) (by split <;> omega) ?_
              have hnu2 : -1 ≤ ((if num < 0 then 0 else num) * 10 + (at0 tx pl - 48)) ∧ ((if num < 0 then 0 else num) * 10 + (at0 tx pl - 48)) ≤ 99 ∧ (dg + 1 ≤ 1 → ((if num < 0 then 0 else num) * 10 + (at0 tx pl - 48)) ≤ 9) ∧ (dg + 1 = 0 → ((if num < 0 then 0 else num) * 10 + (at0 tx pl - 48)) ≤ 0) := by split <;> omega
              refine lv_istore_n (lv' := [(2, .int (iI (((if num < 0 then 0 else num) * 10 + (at0 tx pl - 48))))), (0, .ref (Y.2.1 (0))), (1, .int (iI (m))), (3, .int (iI (dg)))]) hx hb dX8_number_64 rfl hl (by decide) rfl (fun ls hl => ?_)
              refine lv_aload_n hx hb dX8_number_65 rfl (lv_at hl 1 rfl) ?_
              refine lv_dup hx hb dX8_number_66 rfl ?_
              refine g_get G X (k := 0) (fs := fM Y) (Nat.le_of_ble_eq_true rfl) (fun _ => rfl) rfl in_X8 22 (by decide) l_f179 rfl (v := .int (iI (pl))) rfl dX8_number_67 ?_
              refine lv_iconst (v := iI 1) hx hb dX8_number_70 rfl ?_
              refine g_iadd G dX8_number_71 ?_
              refine g_puti G X (k := 0) (fs := fM Y) (z := (pl + 1)) (Nat.le_of_ble_eq_true rfl) (fun _ => rfl) rfl in_X8 tyX8 tyX8_ok nmX8 22 22 (by decide) l_f179 rfl rfl (by decide +kernel) (Nat.le_of_ble_eq_true rfl) (fun _ => rfl) dX8_number_72 (fun H locs X => ?_)
              have X := (show (up (up σ 0 22 pl) 0 22 (pl + 1)) = (up σ 0 22 (pl + 1)) from (up_up _ _ _ _ _)) ▸ X
              refine lv_iinc (v := iI (dg + 1)) (lv' := [(3, .int (iI ((dg + 1)))), (2, .int (iI (((if num < 0 then 0 else num) * 10 + (at0 tx pl - 48))))), (0, .ref (Y.2.1 (0))), (1, .int (iI (m)))]) hx hb dX8_number_75 hl (k := 3) rfl (iI_add _ _) (by decide) rfl (fun ls hl => ?_)
              refine lv_goto (tgt := 4) hx hb dX8_number_78 (by decide) ?_
              exact ih_4 (((if num < 0 then 0 else num) * 10 + (at0 tx pl - 48))) ((dg + 1)) ((pl + 1)) (by omega) (by omega) hnu2 (by rw [hE, show (m - dg).toNat = (m - (dg + 1)).toNat + 1 by omega, rd_dig hdig]) (by omega) _ _ _ X (lv_sub hl [2, 3, 1, 0] rfl)
            ·
              refine lv_iconst (v := iI 0) hx hb dX8_number_43 rfl ?_
              refine lv_goto (tgt := 51) hx hb dX8_number_44 (by decide) ?_
              refine lv_aload_n hx hb dX8_number_51 rfl (lv_at hl 0 rfl) ?_
              refine g_get G X (k := 0) (fs := fM Y) (Nat.le_of_ble_eq_true rfl) (fun _ => rfl) rfl in_X8 3 (by decide) l_f16 rfl (v := .ref (Y.2.1 (3))) rfl dX8_number_52 ?_
              refine lv_aload_n hx hb dX8_number_55 rfl (lv_at hl 0 rfl) ?_
              refine g_get G X (k := 0) (fs := fM Y) (Nat.le_of_ble_eq_true rfl) (fun _ => rfl) rfl in_X8 22 (by decide) l_f179 rfl (v := .int (iI (pl))) rfl dX8_number_56 ?_
              refine g_cald G X (k := 3) (n := 90) (Nat.le_of_ble_eq_true rfl) (fun _ => rfl) (by decide) (z := pl) (by omega) dX8_number_59 ?_
              refine g_topi (z' := (σ 3 pl)) rfl ?_
              refine g_topi (z' := at0 tx pl) (hT2 pl (by omega) (by omega)) ?_
              refine g_iadd G dX8_number_60 ?_
              refine lv_bipush (v := iI 48) hx hb dX8_number_61 (by decide +kernel) ?_
              refine g_isub G dX8_number_63 ?_
              refine g_topi (z' := ((if num < 0 then 0 else num) * 10 + (at0 tx pl - 48))) (by split <;> omega) ?_
              have hnu2 : -1 ≤ ((if num < 0 then 0 else num) * 10 + (at0 tx pl - 48)) ∧ ((if num < 0 then 0 else num) * 10 + (at0 tx pl - 48)) ≤ 99 ∧ (dg + 1 ≤ 1 → ((if num < 0 then 0 else num) * 10 + (at0 tx pl - 48)) ≤ 9) ∧ (dg + 1 = 0 → ((if num < 0 then 0 else num) * 10 + (at0 tx pl - 48)) ≤ 0) := by split <;> omega
              refine lv_istore_n (lv' := [(2, .int (iI (((if num < 0 then 0 else num) * 10 + (at0 tx pl - 48))))), (0, .ref (Y.2.1 (0))), (1, .int (iI (m))), (3, .int (iI (dg)))]) hx hb dX8_number_64 rfl hl (by decide) rfl (fun ls hl => ?_)
              refine lv_aload_n hx hb dX8_number_65 rfl (lv_at hl 1 rfl) ?_
              refine lv_dup hx hb dX8_number_66 rfl ?_
              refine g_get G X (k := 0) (fs := fM Y) (Nat.le_of_ble_eq_true rfl) (fun _ => rfl) rfl in_X8 22 (by decide) l_f179 rfl (v := .int (iI (pl))) rfl dX8_number_67 ?_
              refine lv_iconst (v := iI 1) hx hb dX8_number_70 rfl ?_
              refine g_iadd G dX8_number_71 ?_
              refine g_puti G X (k := 0) (fs := fM Y) (z := (pl + 1)) (Nat.le_of_ble_eq_true rfl) (fun _ => rfl) rfl in_X8 tyX8 tyX8_ok nmX8 22 22 (by decide) l_f179 rfl rfl (by decide +kernel) (Nat.le_of_ble_eq_true rfl) (fun _ => rfl) dX8_number_72 (fun H locs X => ?_)
              have X := (show (up (up σ 0 22 pl) 0 22 (pl + 1)) = (up σ 0 22 (pl + 1)) from (up_up _ _ _ _ _)) ▸ X
              refine lv_iinc (v := iI (dg + 1)) (lv' := [(3, .int (iI ((dg + 1)))), (2, .int (iI (((if num < 0 then 0 else num) * 10 + (at0 tx pl - 48))))), (0, .ref (Y.2.1 (0))), (1, .int (iI (m)))]) hx hb dX8_number_75 hl (k := 3) rfl (iI_add _ _) (by decide) rfl (fun ls hl => ?_)
              refine lv_goto (tgt := 4) hx hb dX8_number_78 (by decide) ?_
              exact ih_4 (((if num < 0 then 0 else num) * 10 + (at0 tx pl - 48))) ((dg + 1)) ((pl + 1)) (by omega) (by omega) hnu2 (by rw [hE, show (m - dg).toNat = (m - (dg + 1)).toNat + 1 by omega, rd_dig hdig]) (by omega) _ _ _ X (lv_sub hl [2, 3, 1, 0] rfl)
  exact lp_4 ((((m - (0)) : Int).toNat + 1)) ((-1)) (0) (p) (by omega) (by omega) (by omega) (by rw [show (m - 0).toNat = mN by omega]) (by omega) _ _ _ X (lv_sub hl [2, 3, 1, 0] rfl)

set_option maxHeartbeats 4000000 in
set_option maxRecDepth 100000 in
theorem t_X8_blames (l : Launch) (Y : Yt) (σ : Mem) (n : Int) (part : Int) (det : Int) (hd0 : 0 ≤ det ∧ det ≤ 7) : MXv l LM Y yX8_blames wsX8_blames { frames := 0, cells := 0, slots := 0, locals := 0 } [.ref (Y.2.1 (0)), .int (iI (n)), .int (iI (part)), .int (iI (det))] σ (fun u => MChain u (chn n part (if det = 0 then -1 else det)) ∧ SameF σ u ∧ u 0 22 = σ 0 22 ∧ u 0 23 = σ 0 23) := by
  refine g_startv (cc := cX8_blames) (nL := 4) (own := RX8) (by decide) rfl rfl (Nat.le_of_ble_eq_true rfl) ?_
  intro pp ee ss mm bw mt cd AA ZZ ls G hret X hl
  have hl : lv_has ls 4 [(0, .ref (Y.2.1 (0))), (1, .int (iI (n))), (2, .int (iI (part))), (3, .int (iI (det)))] := hl
  have hx := G.1
  have hb := G.2.1
  have hts := G.2.2.2.2.1
  have l_f20 := hts (.fieldLink RX8 20 "ShapeFitsModel" "reasons" "[I") (List.mem_of_getElem? (i := 1) rfl)
  have l_f182 := hts (.fieldLink RX8 182 "ShapeFitsModel" "reasoned" "I") (List.mem_of_getElem? (i := 2) rfl)
  have in_X8 : ∀ w ∈ u_ws RX8 TX8 24, w ∈ wsX8_blames := by decide +kernel
  refine lv_aload_n hx hb dX8_blames_0 rfl (lv_at hl 0 rfl) ?_
  refine g_get G X (k := 0) (fs := fM Y) (Nat.le_of_ble_eq_true rfl) (fun _ => rfl) rfl in_X8 5 (by decide) l_f20 rfl (v := .ref (Y.2.1 (4))) rfl dX8_blames_1 ?_
  refine lv_iconst (v := iI 0) hx hb dX8_blames_4 rfl ?_
  refine lv_bipush (v := iI 10) hx hb dX8_blames_5 (by decide +kernel) ?_
  refine lv_iload_n hx hb dX8_blames_7 rfl (lv_at hl 1 rfl) ?_
  refine g_iadd G dX8_blames_8 ?_
  refine g_iast G X (k := 4) (n := 3) (Nat.le_of_ble_eq_true rfl) (fun _ => rfl) (by decide) (z := 0) (v := (10 + n)) (by omega) dX8_blames_9 (fun H locs X => ?_)
  refine lv_aload_n hx hb dX8_blames_10 rfl (lv_at hl 0 rfl) ?_
  refine g_get G X (k := 0) (fs := fM Y) (Nat.le_of_ble_eq_true rfl) (fun _ => rfl) rfl in_X8 5 (by decide) l_f20 rfl (v := .ref (Y.2.1 (4))) rfl dX8_blames_11 ?_
  refine lv_iconst (v := iI 1) hx hb dX8_blames_14 rfl ?_
  refine lv_iload_n hx hb dX8_blames_15 rfl (lv_at hl 2 rfl) ?_
  refine g_iast G X (k := 4) (n := 3) (Nat.le_of_ble_eq_true rfl) (fun _ => rfl) (by decide) (z := 1) (v := part) (by omega) dX8_blames_16 (fun H locs X => ?_)
  refine lv_aload_n hx hb dX8_blames_17 rfl (lv_at hl 0 rfl) ?_
  refine g_get G X (k := 0) (fs := fM Y) (Nat.le_of_ble_eq_true rfl) (fun _ => rfl) rfl in_X8 5 (by decide) l_f20 rfl (v := .ref (Y.2.1 (4))) rfl dX8_blames_18 ?_
  refine lv_iconst (v := iI 2) hx hb dX8_blames_21 rfl ?_
  refine lv_iload_n hx hb dX8_blames_22 rfl (lv_at hl 3 rfl) ?_
  refine g_iast G X (k := 4) (n := 3) (Nat.le_of_ble_eq_true rfl) (fun _ => rfl) (by decide) (z := 2) (v := det) (by omega) dX8_blames_23 (fun H locs X => ?_)
  refine lv_aload_n hx hb dX8_blames_24 rfl (lv_at hl 0 rfl) ?_
  refine lv_iload_n hx hb dX8_blames_25 rfl (lv_at hl 3 rfl) ?_
  refine g_if_ne (tgt := 33) G dX8_blames_26 (by decide) (by omega) (fun h26 => ?_) (fun h26 => ?_)
  ·
    refine lv_iconst (v := iI 3) hx hb dX8_blames_33 rfl ?_
    refine g_puti G X (k := 0) (fs := fM Y) (z := 3) (Nat.le_of_ble_eq_true rfl) (fun _ => rfl) rfl in_X8 tyX8 tyX8_ok nmX8 6 6 (by decide) l_f182 rfl rfl (by decide +kernel) (Nat.le_of_ble_eq_true rfl) (fun _ => rfl) dX8_blames_34 (fun H locs X => ?_)
    exact hret _ _ _ _ _ (⟨mchain_put hd0.1 (by split <;> omega), ((((SameF.rf.pl (Or.inl rfl)).pl (Or.inl rfl)).pl (Or.inl rfl)).fl (Or.inl rfl)), rfl, rfl⟩) X dX8_blames_37
  ·
    refine lv_iconst (v := iI 2) hx hb dX8_blames_29 rfl ?_
    refine lv_goto (tgt := 34) hx hb dX8_blames_30 (by decide) ?_
    refine g_puti G X (k := 0) (fs := fM Y) (z := 2) (Nat.le_of_ble_eq_true rfl) (fun _ => rfl) rfl in_X8 tyX8 tyX8_ok nmX8 6 6 (by decide) l_f182 rfl rfl (by decide +kernel) (Nat.le_of_ble_eq_true rfl) (fun _ => rfl) dX8_blames_34 (fun H locs X => ?_)
    exact hret _ _ _ _ _ (⟨mchain_put hd0.1 (by split <;> omega), ((((SameF.rf.pl (Or.inl rfl)).pl (Or.inl rfl)).pl (Or.inl rfl)).fl (Or.inl rfl)), rfl, rfl⟩) X dX8_blames_37

set_option maxHeartbeats 4000000 in
set_option maxRecDepth 100000 in
theorem t_X8_reads (l : Launch) (Y : Yt) (σ : Mem) (tx : List Int) (pt : Int) (what : Int) (m : Int) (le : Int) (mo : Int) (p : Int) (mN : Nat) (hT : MText σ tx) (hok : txOk tx) (hp5 : σ 0 22 = p) (hpr : 0 ≤ p ∧ p ≤ tx.length) (hm : m = (mN : Int) ∧ (mN = 1 ∨ mN = 2)) (hpt : 0 ≤ pt ∧ pt < 12) (hwh : 1 ≤ what ∧ what ≤ 3) (hlm : 0 ≤ le ∧ le ≤ mo ∧ mo ≤ 99) : MXi l LM Y yX8_reads wsX8_reads { frames := 2, cells := 0, slots := 0, locals := 45 } [.ref (Y.2.1 (0)), .int (iI (pt)), .int (iI (what)), .int (iI (m)), .int (iI (le)), .int (iI (mo))] σ (fun z u => RdsPost σ u tx mN pt what le mo p z) := by
  have hT1 := hT.1
  have hT2 := hT.2
  have hok1 := hok.1
  refine g_starti (rty := .boolean) (fun z u h => nrZ h.z) (cc := cX8_reads) (nL := 8) (own := RX8) (by decide) rfl rfl (Nat.le_of_ble_eq_true rfl) ?_
  intro pp ee ss mm bw mt cd AA ZZ ls G hret X hl
  have hl : lv_has ls 8 [(0, .ref (Y.2.1 (0))), (1, .int (iI (pt))), (2, .int (iI (what))), (3, .int (iI (m))), (4, .int (iI (le))), (5, .int (iI (mo)))] := hl
  have hx := G.1
  have hb := G.2.1
  have hts := G.2.2.2.2.1
  have l_f23 := hts (.fieldLink RX8 23 "ShapeFitsModel" "read" "[I") (List.mem_of_getElem? (i := 1) rfl)
  have in_X8 : ∀ w ∈ u_ws RX8 TX8 24, w ∈ wsX8_reads := by decide +kernel
  refine lv_iload_n hx hb dX8_reads_0 rfl (lv_at hl 2 rfl) ?_
  refine lv_iconst (v := iI 2) hx hb dX8_reads_1 rfl ?_
  refine g_icmp_ne (tgt := 18) G dX8_reads_2 (by decide) (by omega) (by omega) (fun h2 => ?_) (fun h2 => ?_)
  ·
    have hcs : RdS tx what p 0 p := Or.inr ⟨by omega, rfl, rfl⟩
    have X := (show σ = (up σ 0 22 p) from (by rw [← hp5]; exact (up_id σ 0 22).symm)) ▸ X
    refine lv_iconst (v := iI 0) hx hb dX8_reads_18 rfl ?_
    obtain ⟨sg, q0, hsg, hq0, hcase⟩ : ∃ sg q0 : Int, sg = 0 ∧ q0 = p ∧ RdS tx what p sg q0 := ⟨_, _, rfl, rfl, hcs⟩
    have hcase2 := hcase
    unfold RdS at hcase2
    have hq0r : 0 ≤ q0 ∧ q0 ≤ tx.length := by omega
    refine g_topi (z' := sg) hsg.symm ?_
    have X := (show (up σ 0 22 p) = (up σ 0 22 q0) from (by rw [hq0])) ▸ X
    refine lv_istore (lv' := [(6, .int (iI (sg))), (0, .ref (Y.2.1 (0))), (1, .int (iI (pt))), (2, .int (iI (what))), (3, .int (iI (m))), (4, .int (iI (le))), (5, .int (iI (mo)))]) hx hb dX8_reads_19 hl (by decide) rfl (fun ls hl => ?_)
    refine lv_aload_n hx hb dX8_reads_21 rfl (lv_at hl 1 rfl) ?_
    refine lv_iload_n hx hb dX8_reads_22 rfl (lv_at hl 4 rfl) ?_
    refine g_callVi G X (rest := []) (As := [.int (iI (m))]) (t_X8_number l Y ((up σ 0 22 q0)) tx (m) (q0) (mN) (hT.eq rfl rfl) (by first | assumption | omega) rfl hq0r ⟨hm.1, by omega⟩) (cwV 1 hts gX8_reads_X8_number rfl rfl rfl (by decide +kernel) ⟨Nat.le_of_ble_eq_true rfl, Nat.le_of_ble_eq_true rfl⟩) (k := 0) (Nat.le_of_ble_eq_true rfl) rfl rfl rfl rfl hl.1 rfl (Nat.le_of_ble_eq_true rfl) dX8_reads_23 ⟨Nat.le_refl _, Nat.le_refl _⟩ (fun z23 u23 H locs hq23 X => ?_)
    obtain ⟨n1, q1, hrd⟩ : ∃ n1 q1, rd tx mN (-1) q0 = (n1, q1) := ⟨_, _, rfl⟩
    have hrr := rd_mN (tx := tx) hm.2 hq0r.1 hq0r.2
    rw [hrd] at hrr
    dsimp only at hrr
    refine g_topi (z' := n1) (by rw [hq23.1, hrd]) ?_
    have X := (show u23 = (up σ 0 22 q1) from (by rw [hq23.2, hrd, up_up])) ▸ X
    refine lv_istore (lv' := [(7, .int (iI (n1))), (6, .int (iI (sg))), (0, .ref (Y.2.1 (0))), (1, .int (iI (pt))), (2, .int (iI (what))), (3, .int (iI (m))), (4, .int (iI (le))), (5, .int (iI (mo)))]) hx hb dX8_reads_26 hl (by decide) rfl (fun ls hl => ?_)
    refine lv_iload hx hb dX8_reads_28 (lv_at hl 0 rfl) ?_
    refine g_if_lt (tgt := 45) G dX8_reads_30 (by decide) (by omega) (fun h30 => ?_) (fun h30 => ?_)
    ·
      refine lv_aload_n hx hb dX8_reads_45 rfl (lv_at hl 2 rfl) ?_
      refine lv_iload_n hx hb dX8_reads_46 rfl (lv_at hl 3 rfl) ?_
      refine lv_iload_n hx hb dX8_reads_47 rfl (lv_at hl 4 rfl) ?_
      refine lv_iload hx hb dX8_reads_48 (lv_at hl 0 rfl) ?_
      refine g_if_ge (tgt := 58) G dX8_reads_50 (by decide) (by omega) (fun h50 => ?_) (fun h50 => ?_)
      ·
        refine lv_bipush (v := iI 7) hx hb dX8_reads_58 (by decide +kernel) ?_
        refine g_callVv G X (rest := []) (As := [.int (iI (pt)), .int (iI (what)), .int (iI (7))]) (t_X8_blames l Y ((up σ 0 22 q1)) (pt) (what) (7) (by first | assumption | omega)) (cwV 3 hts gX8_reads_X8_blames rfl rfl rfl (by decide +kernel) ⟨Nat.le_of_ble_eq_true rfl, Nat.le_of_ble_eq_true rfl⟩) (k := 0) (Nat.le_of_ble_eq_true rfl) rfl rfl rfl rfl hl.1 rfl (Nat.le_of_ble_eq_true rfl) dX8_reads_60 ⟨Nat.le_refl _, Nat.le_refl _⟩ (fun u60 H locs hq60 X => ?_)
        have hch : MChain u60 (chn pt what (if n1 = -1 then 6 else 7)) := by { have e := hq60.1; first | (rw [if_neg (by decide)] at e; first | (rw [if_pos (show n1 = -1 by omega)]; exact e) | (rw [if_neg (show ¬ n1 = -1 by omega)]; exact e)) }
        refine lv_iconst (v := iI 0) hx hb dX8_reads_63 rfl ?_
        exact hret _ _ _ _ _ _ (⟨sg, q0, n1, q1, hcase, hrd, Or.inl ⟨by omega, rfl, hch, (SameF.rf.fl (Or.inr (Or.inl rfl))).trans hq60.2.1, hq60.2.2.2⟩⟩) X dX8_reads_64
      ·
        refine lv_bipush (v := iI 6) hx hb dX8_reads_53 (by decide +kernel) ?_
        refine lv_goto (tgt := 60) hx hb dX8_reads_55 (by decide) ?_
        refine g_callVv G X (rest := []) (As := [.int (iI (pt)), .int (iI (what)), .int (iI (6))]) (t_X8_blames l Y ((up σ 0 22 q1)) (pt) (what) (6) (by first | assumption | omega)) (cwV 3 hts gX8_reads_X8_blames rfl rfl rfl (by decide +kernel) ⟨Nat.le_of_ble_eq_true rfl, Nat.le_of_ble_eq_true rfl⟩) (k := 0) (Nat.le_of_ble_eq_true rfl) rfl rfl rfl rfl hl.1 rfl (Nat.le_of_ble_eq_true rfl) dX8_reads_60 ⟨Nat.le_refl _, Nat.le_refl _⟩ (fun u60 H locs hq60 X => ?_)
        have hch : MChain u60 (chn pt what (if n1 = -1 then 6 else 7)) := by { have e := hq60.1; first | (rw [if_neg (by decide)] at e; first | (rw [if_pos (show n1 = -1 by omega)]; exact e) | (rw [if_neg (show ¬ n1 = -1 by omega)]; exact e)) }
        refine lv_iconst (v := iI 0) hx hb dX8_reads_63 rfl ?_
        exact hret _ _ _ _ _ _ (⟨sg, q0, n1, q1, hcase, hrd, Or.inl ⟨by omega, rfl, hch, (SameF.rf.fl (Or.inr (Or.inl rfl))).trans hq60.2.1, hq60.2.2.2⟩⟩) X dX8_reads_64
    ·
      refine lv_iload hx hb dX8_reads_33 (lv_at hl 0 rfl) ?_
      refine lv_iload hx hb dX8_reads_35 (lv_at hl 6 rfl) ?_
      refine lv_iload hx hb dX8_reads_37 (lv_at hl 7 rfl) ?_
      refine g_callSi G X (rest := []) (As := [.int (iI (n1)), .int (iI (le)), .int (iI (mo))]) (t_X8_in l Y ((up σ 0 22 q1)) (n1) (le) (mo) (by first | assumption | omega) (by first | assumption | omega) (by first | assumption | omega)) (va_cwS 3 hts gX8_reads_X8_in rfl rfl rfl (by decide +kernel) ⟨Nat.le_of_ble_eq_true rfl, Nat.le_of_ble_eq_true rfl⟩) rfl hl.1 rfl (Nat.le_of_ble_eq_true rfl) dX8_reads_39 ⟨Nat.le_refl _, Nat.le_refl _⟩ (fun z39 u39 H locs hq39 X => ?_)
      rw [hq39.1] at X
      have hq39 := hq39.2
      try dsimp only at hq39
      refine g_if_ne (tgt := 65) G dX8_reads_42 (by decide) (by omega) (fun h42 => ?_) (fun h42 => ?_)
      ·
        refine lv_aload_n hx hb dX8_reads_65 rfl (lv_at hl 2 rfl) ?_
        refine g_get G X (k := 0) (fs := fM Y) (Nat.le_of_ble_eq_true rfl) (fun _ => rfl) rfl in_X8 7 (by decide) l_f23 rfl (v := .ref (Y.2.1 (5))) rfl dX8_reads_66 ?_
        refine lv_bipush (v := iI 12) hx hb dX8_reads_69 (by decide +kernel) ?_
        refine lv_iload_n hx hb dX8_reads_71 rfl (lv_at hl 4 rfl) ?_
        refine lv_iconst (v := iI 1) hx hb dX8_reads_72 rfl ?_
        refine g_isub G dX8_reads_73 ?_
        refine g_imul G dX8_reads_74 ?_
        refine lv_iload_n hx hb dX8_reads_75 rfl (lv_at hl 3 rfl) ?_
        refine g_iadd G dX8_reads_76 ?_
        refine lv_iload hx hb dX8_reads_77 (lv_at hl 1 rfl) ?_
        refine g_if_eq (tgt := 88) G dX8_reads_79 (by decide) (by omega) (fun h79 => ?_) (fun h79 => ?_)
        ·
          refine lv_iload hx hb dX8_reads_88 (lv_at hl 0 rfl) ?_
          refine g_topi (z' := (if sg = 1 then -n1 else n1)) (by split <;> omega) ?_
          refine g_iast G X (k := 5) (n := 36) (Nat.le_of_ble_eq_true rfl) (fun _ => rfl) (by decide) (z := ((12 * (what - 1)) + pt)) (v := (if sg = 1 then -n1 else n1)) (by omega) dX8_reads_90 (fun H locs X => ?_)
          refine lv_iconst (v := iI 1) hx hb dX8_reads_91 rfl ?_
          exact hret _ _ _ _ _ _ (⟨sg, q0, n1, q1, hcase, hrd, Or.inr ⟨by omega, rfl, rfl⟩⟩) X dX8_reads_92
        ·
          refine lv_iload hx hb dX8_reads_82 (lv_at hl 0 rfl) ?_
          refine g_ineg G dX8_reads_84 ?_
          refine lv_goto (tgt := 90) hx hb dX8_reads_85 (by decide) ?_
          refine g_topi (z' := (if sg = 1 then -n1 else n1)) (by split <;> omega) ?_
          refine g_iast G X (k := 5) (n := 36) (Nat.le_of_ble_eq_true rfl) (fun _ => rfl) (by decide) (z := ((12 * (what - 1)) + pt)) (v := (if sg = 1 then -n1 else n1)) (by omega) dX8_reads_90 (fun H locs X => ?_)
          refine lv_iconst (v := iI 1) hx hb dX8_reads_91 rfl ?_
          exact hret _ _ _ _ _ _ (⟨sg, q0, n1, q1, hcase, hrd, Or.inr ⟨by omega, rfl, rfl⟩⟩) X dX8_reads_92
      ·
        refine lv_aload_n hx hb dX8_reads_45 rfl (lv_at hl 2 rfl) ?_
        refine lv_iload_n hx hb dX8_reads_46 rfl (lv_at hl 3 rfl) ?_
        refine lv_iload_n hx hb dX8_reads_47 rfl (lv_at hl 4 rfl) ?_
        refine lv_iload hx hb dX8_reads_48 (lv_at hl 0 rfl) ?_
        refine g_if_ge (tgt := 58) G dX8_reads_50 (by decide) (by omega) (fun h50 => ?_) (fun h50 => ?_)
        ·
          refine lv_bipush (v := iI 7) hx hb dX8_reads_58 (by decide +kernel) ?_
          refine g_callVv G X (rest := []) (As := [.int (iI (pt)), .int (iI (what)), .int (iI (7))]) (t_X8_blames l Y ((up σ 0 22 q1)) (pt) (what) (7) (by first | assumption | omega)) (cwV 3 hts gX8_reads_X8_blames rfl rfl rfl (by decide +kernel) ⟨Nat.le_of_ble_eq_true rfl, Nat.le_of_ble_eq_true rfl⟩) (k := 0) (Nat.le_of_ble_eq_true rfl) rfl rfl rfl rfl hl.1 rfl (Nat.le_of_ble_eq_true rfl) dX8_reads_60 ⟨Nat.le_refl _, Nat.le_refl _⟩ (fun u60 H locs hq60 X => ?_)
          have hch : MChain u60 (chn pt what (if n1 = -1 then 6 else 7)) := by { have e := hq60.1; first | (rw [if_neg (by decide)] at e; first | (rw [if_pos (show n1 = -1 by omega)]; exact e) | (rw [if_neg (show ¬ n1 = -1 by omega)]; exact e)) }
          refine lv_iconst (v := iI 0) hx hb dX8_reads_63 rfl ?_
          exact hret _ _ _ _ _ _ (⟨sg, q0, n1, q1, hcase, hrd, Or.inl ⟨by omega, rfl, hch, (SameF.rf.fl (Or.inr (Or.inl rfl))).trans hq60.2.1, hq60.2.2.2⟩⟩) X dX8_reads_64
        ·
          refine lv_bipush (v := iI 6) hx hb dX8_reads_53 (by decide +kernel) ?_
          refine lv_goto (tgt := 60) hx hb dX8_reads_55 (by decide) ?_
          refine g_callVv G X (rest := []) (As := [.int (iI (pt)), .int (iI (what)), .int (iI (6))]) (t_X8_blames l Y ((up σ 0 22 q1)) (pt) (what) (6) (by first | assumption | omega)) (cwV 3 hts gX8_reads_X8_blames rfl rfl rfl (by decide +kernel) ⟨Nat.le_of_ble_eq_true rfl, Nat.le_of_ble_eq_true rfl⟩) (k := 0) (Nat.le_of_ble_eq_true rfl) rfl rfl rfl rfl hl.1 rfl (Nat.le_of_ble_eq_true rfl) dX8_reads_60 ⟨Nat.le_refl _, Nat.le_refl _⟩ (fun u60 H locs hq60 X => ?_)
          have hch : MChain u60 (chn pt what (if n1 = -1 then 6 else 7)) := by { have e := hq60.1; first | (rw [if_neg (by decide)] at e; first | (rw [if_pos (show n1 = -1 by omega)]; exact e) | (rw [if_neg (show ¬ n1 = -1 by omega)]; exact e)) }
          refine lv_iconst (v := iI 0) hx hb dX8_reads_63 rfl ?_
          exact hret _ _ _ _ _ _ (⟨sg, q0, n1, q1, hcase, hrd, Or.inl ⟨by omega, rfl, hch, (SameF.rf.fl (Or.inr (Or.inl rfl))).trans hq60.2.1, hq60.2.2.2⟩⟩) X dX8_reads_64
  ·
    refine lv_aload_n hx hb dX8_reads_5 rfl (lv_at hl 0 rfl) ?_
    refine lv_bipush (v := iI 45) hx hb dX8_reads_6 (by decide +kernel) ?_
    refine g_callVi G X (rest := []) (As := [.int (iI (45))]) (t_X8_has l Y (σ) tx (45) p (by first | assumption | omega) (by first | assumption | omega) (by first | assumption | omega) (by first | assumption | omega) (by first | assumption | omega)) (cwV 1 hts gX8_reads_X8_has rfl rfl rfl (by decide +kernel) ⟨Nat.le_of_ble_eq_true rfl, Nat.le_of_ble_eq_true rfl⟩) (k := 0) (Nat.le_of_ble_eq_true rfl) rfl rfl rfl rfl hl.1 rfl (Nat.le_of_ble_eq_true rfl) dX8_reads_8 ⟨Nat.le_refl _, Nat.le_refl _⟩ (fun z8 u8 H locs hq8 X => ?_)
    rcases hq8 with ⟨hz8, hh8, hu8⟩ | ⟨hz8, hh8, hu8⟩
    ·
      refine g_topi (z' := 1) hz8 ?_
      have X := (show u8 = (up σ 0 22 (p + 1)) from hu8) ▸ X
      have hcs : RdS tx what p 1 (p + 1) := Or.inl ⟨by omega, hh8.1, hh8.2, rfl, rfl⟩
      refine g_if_eq (tgt := 18) G dX8_reads_11 (by decide) (by omega) (fun h11 => ?_) (fun h11 => ?_)
      ·
        exact False.elim (by omega)
      ·
        refine lv_iconst (v := iI 1) hx hb dX8_reads_14 rfl ?_
        refine lv_goto (tgt := 19) hx hb dX8_reads_15 (by decide) ?_
        obtain ⟨sg, q0, hsg, hq0, hcase⟩ : ∃ sg q0 : Int, sg = 1 ∧ q0 = (p + 1) ∧ RdS tx what p sg q0 := ⟨_, _, rfl, rfl, hcs⟩
        have hcase2 := hcase
        unfold RdS at hcase2
        have hq0r : 0 ≤ q0 ∧ q0 ≤ tx.length := by omega
        refine g_topi (z' := sg) hsg.symm ?_
        have X := (show (up σ 0 22 (p + 1)) = (up σ 0 22 q0) from (by rw [hq0])) ▸ X
        refine lv_istore (lv' := [(6, .int (iI (sg))), (0, .ref (Y.2.1 (0))), (1, .int (iI (pt))), (2, .int (iI (what))), (3, .int (iI (m))), (4, .int (iI (le))), (5, .int (iI (mo)))]) hx hb dX8_reads_19 hl (by decide) rfl (fun ls hl => ?_)
        refine lv_aload_n hx hb dX8_reads_21 rfl (lv_at hl 1 rfl) ?_
        refine lv_iload_n hx hb dX8_reads_22 rfl (lv_at hl 4 rfl) ?_
        refine g_callVi G X (rest := []) (As := [.int (iI (m))]) (t_X8_number l Y ((up σ 0 22 q0)) tx (m) (q0) (mN) (hT.eq rfl rfl) (by first | assumption | omega) rfl hq0r ⟨hm.1, by omega⟩) (cwV 1 hts gX8_reads_X8_number rfl rfl rfl (by decide +kernel) ⟨Nat.le_of_ble_eq_true rfl, Nat.le_of_ble_eq_true rfl⟩) (k := 0) (Nat.le_of_ble_eq_true rfl) rfl rfl rfl rfl hl.1 rfl (Nat.le_of_ble_eq_true rfl) dX8_reads_23 ⟨Nat.le_refl _, Nat.le_refl _⟩ (fun z23 u23 H locs hq23 X => ?_)
        obtain ⟨n1, q1, hrd⟩ : ∃ n1 q1, rd tx mN (-1) q0 = (n1, q1) := ⟨_, _, rfl⟩
        have hrr := rd_mN (tx := tx) hm.2 hq0r.1 hq0r.2
        rw [hrd] at hrr
        dsimp only at hrr
        refine g_topi (z' := n1) (by rw [hq23.1, hrd]) ?_
        have X := (show u23 = (up σ 0 22 q1) from (by rw [hq23.2, hrd, up_up])) ▸ X
        refine lv_istore (lv' := [(7, .int (iI (n1))), (6, .int (iI (sg))), (0, .ref (Y.2.1 (0))), (1, .int (iI (pt))), (2, .int (iI (what))), (3, .int (iI (m))), (4, .int (iI (le))), (5, .int (iI (mo)))]) hx hb dX8_reads_26 hl (by decide) rfl (fun ls hl => ?_)
        refine lv_iload hx hb dX8_reads_28 (lv_at hl 0 rfl) ?_
        refine g_if_lt (tgt := 45) G dX8_reads_30 (by decide) (by omega) (fun h30 => ?_) (fun h30 => ?_)
        ·
          refine lv_aload_n hx hb dX8_reads_45 rfl (lv_at hl 2 rfl) ?_
          refine lv_iload_n hx hb dX8_reads_46 rfl (lv_at hl 3 rfl) ?_
          refine lv_iload_n hx hb dX8_reads_47 rfl (lv_at hl 4 rfl) ?_
          refine lv_iload hx hb dX8_reads_48 (lv_at hl 0 rfl) ?_
          refine g_if_ge (tgt := 58) G dX8_reads_50 (by decide) (by omega) (fun h50 => ?_) (fun h50 => ?_)
          ·
            refine lv_bipush (v := iI 7) hx hb dX8_reads_58 (by decide +kernel) ?_
            refine g_callVv G X (rest := []) (As := [.int (iI (pt)), .int (iI (what)), .int (iI (7))]) (t_X8_blames l Y ((up σ 0 22 q1)) (pt) (what) (7) (by first | assumption | omega)) (cwV 3 hts gX8_reads_X8_blames rfl rfl rfl (by decide +kernel) ⟨Nat.le_of_ble_eq_true rfl, Nat.le_of_ble_eq_true rfl⟩) (k := 0) (Nat.le_of_ble_eq_true rfl) rfl rfl rfl rfl hl.1 rfl (Nat.le_of_ble_eq_true rfl) dX8_reads_60 ⟨Nat.le_refl _, Nat.le_refl _⟩ (fun u60 H locs hq60 X => ?_)
            have hch : MChain u60 (chn pt what (if n1 = -1 then 6 else 7)) := by { have e := hq60.1; first | (rw [if_neg (by decide)] at e; first | (rw [if_pos (show n1 = -1 by omega)]; exact e) | (rw [if_neg (show ¬ n1 = -1 by omega)]; exact e)) }
            refine lv_iconst (v := iI 0) hx hb dX8_reads_63 rfl ?_
            exact hret _ _ _ _ _ _ (⟨sg, q0, n1, q1, hcase, hrd, Or.inl ⟨by omega, rfl, hch, (SameF.rf.fl (Or.inr (Or.inl rfl))).trans hq60.2.1, hq60.2.2.2⟩⟩) X dX8_reads_64
          ·
            refine lv_bipush (v := iI 6) hx hb dX8_reads_53 (by decide +kernel) ?_
            refine lv_goto (tgt := 60) hx hb dX8_reads_55 (by decide) ?_
            refine g_callVv G X (rest := []) (As := [.int (iI (pt)), .int (iI (what)), .int (iI (6))]) (t_X8_blames l Y ((up σ 0 22 q1)) (pt) (what) (6) (by first | assumption | omega)) (cwV 3 hts gX8_reads_X8_blames rfl rfl rfl (by decide +kernel) ⟨Nat.le_of_ble_eq_true rfl, Nat.le_of_ble_eq_true rfl⟩) (k := 0) (Nat.le_of_ble_eq_true rfl) rfl rfl rfl rfl hl.1 rfl (Nat.le_of_ble_eq_true rfl) dX8_reads_60 ⟨Nat.le_refl _, Nat.le_refl _⟩ (fun u60 H locs hq60 X => ?_)
            have hch : MChain u60 (chn pt what (if n1 = -1 then 6 else 7)) := by { have e := hq60.1; first | (rw [if_neg (by decide)] at e; first | (rw [if_pos (show n1 = -1 by omega)]; exact e) | (rw [if_neg (show ¬ n1 = -1 by omega)]; exact e)) }
            refine lv_iconst (v := iI 0) hx hb dX8_reads_63 rfl ?_
            exact hret _ _ _ _ _ _ (⟨sg, q0, n1, q1, hcase, hrd, Or.inl ⟨by omega, rfl, hch, (SameF.rf.fl (Or.inr (Or.inl rfl))).trans hq60.2.1, hq60.2.2.2⟩⟩) X dX8_reads_64
        ·
          refine lv_iload hx hb dX8_reads_33 (lv_at hl 0 rfl) ?_
          refine lv_iload hx hb dX8_reads_35 (lv_at hl 6 rfl) ?_
          refine lv_iload hx hb dX8_reads_37 (lv_at hl 7 rfl) ?_
          refine g_callSi G X (rest := []) (As := [.int (iI (n1)), .int (iI (le)), .int (iI (mo))]) (t_X8_in l Y ((up σ 0 22 q1)) (n1) (le) (mo) (by first | assumption | omega) (by first | assumption | omega) (by first | assumption | omega)) (va_cwS 3 hts gX8_reads_X8_in rfl rfl rfl (by decide +kernel) ⟨Nat.le_of_ble_eq_true rfl, Nat.le_of_ble_eq_true rfl⟩) rfl hl.1 rfl (Nat.le_of_ble_eq_true rfl) dX8_reads_39 ⟨Nat.le_refl _, Nat.le_refl _⟩ (fun z39 u39 H locs hq39 X => ?_)
          rw [hq39.1] at X
          have hq39 := hq39.2
          try dsimp only at hq39
          refine g_if_ne (tgt := 65) G dX8_reads_42 (by decide) (by omega) (fun h42 => ?_) (fun h42 => ?_)
          ·
            refine lv_aload_n hx hb dX8_reads_65 rfl (lv_at hl 2 rfl) ?_
            refine g_get G X (k := 0) (fs := fM Y) (Nat.le_of_ble_eq_true rfl) (fun _ => rfl) rfl in_X8 7 (by decide) l_f23 rfl (v := .ref (Y.2.1 (5))) rfl dX8_reads_66 ?_
            refine lv_bipush (v := iI 12) hx hb dX8_reads_69 (by decide +kernel) ?_
            refine lv_iload_n hx hb dX8_reads_71 rfl (lv_at hl 4 rfl) ?_
            refine lv_iconst (v := iI 1) hx hb dX8_reads_72 rfl ?_
            refine g_isub G dX8_reads_73 ?_
            refine g_imul G dX8_reads_74 ?_
            refine lv_iload_n hx hb dX8_reads_75 rfl (lv_at hl 3 rfl) ?_
            refine g_iadd G dX8_reads_76 ?_
            refine lv_iload hx hb dX8_reads_77 (lv_at hl 1 rfl) ?_
            refine g_if_eq (tgt := 88) G dX8_reads_79 (by decide) (by omega) (fun h79 => ?_) (fun h79 => ?_)
            ·
              refine lv_iload hx hb dX8_reads_88 (lv_at hl 0 rfl) ?_
              refine g_topi (z' := (if sg = 1 then -n1 else n1)) (by split <;> omega) ?_
              refine g_iast G X (k := 5) (n := 36) (Nat.le_of_ble_eq_true rfl) (fun _ => rfl) (by decide) (z := ((12 * (what - 1)) + pt)) (v := (if sg = 1 then -n1 else n1)) (by omega) dX8_reads_90 (fun H locs X => ?_)
              refine lv_iconst (v := iI 1) hx hb dX8_reads_91 rfl ?_
              exact hret _ _ _ _ _ _ (⟨sg, q0, n1, q1, hcase, hrd, Or.inr ⟨by omega, rfl, rfl⟩⟩) X dX8_reads_92
            ·
              refine lv_iload hx hb dX8_reads_82 (lv_at hl 0 rfl) ?_
              refine g_ineg G dX8_reads_84 ?_
              refine lv_goto (tgt := 90) hx hb dX8_reads_85 (by decide) ?_
              refine g_topi (z' := (if sg = 1 then -n1 else n1)) (by split <;> omega) ?_
              refine g_iast G X (k := 5) (n := 36) (Nat.le_of_ble_eq_true rfl) (fun _ => rfl) (by decide) (z := ((12 * (what - 1)) + pt)) (v := (if sg = 1 then -n1 else n1)) (by omega) dX8_reads_90 (fun H locs X => ?_)
              refine lv_iconst (v := iI 1) hx hb dX8_reads_91 rfl ?_
              exact hret _ _ _ _ _ _ (⟨sg, q0, n1, q1, hcase, hrd, Or.inr ⟨by omega, rfl, rfl⟩⟩) X dX8_reads_92
          ·
            refine lv_aload_n hx hb dX8_reads_45 rfl (lv_at hl 2 rfl) ?_
            refine lv_iload_n hx hb dX8_reads_46 rfl (lv_at hl 3 rfl) ?_
            refine lv_iload_n hx hb dX8_reads_47 rfl (lv_at hl 4 rfl) ?_
            refine lv_iload hx hb dX8_reads_48 (lv_at hl 0 rfl) ?_
            refine g_if_ge (tgt := 58) G dX8_reads_50 (by decide) (by omega) (fun h50 => ?_) (fun h50 => ?_)
            ·
              refine lv_bipush (v := iI 7) hx hb dX8_reads_58 (by decide +kernel) ?_
              refine g_callVv G X (rest := []) (As := [.int (iI (pt)), .int (iI (what)), .int (iI (7))]) (t_X8_blames l Y ((up σ 0 22 q1)) (pt) (what) (7) (by first | assumption | omega)) (cwV 3 hts gX8_reads_X8_blames rfl rfl rfl (by decide +kernel) ⟨Nat.le_of_ble_eq_true rfl, Nat.le_of_ble_eq_true rfl⟩) (k := 0) (Nat.le_of_ble_eq_true rfl) rfl rfl rfl rfl hl.1 rfl (Nat.le_of_ble_eq_true rfl) dX8_reads_60 ⟨Nat.le_refl _, Nat.le_refl _⟩ (fun u60 H locs hq60 X => ?_)
              have hch : MChain u60 (chn pt what (if n1 = -1 then 6 else 7)) := by { have e := hq60.1; first | (rw [if_neg (by decide)] at e; first | (rw [if_pos (show n1 = -1 by omega)]; exact e) | (rw [if_neg (show ¬ n1 = -1 by omega)]; exact e)) }
              refine lv_iconst (v := iI 0) hx hb dX8_reads_63 rfl ?_
              exact hret _ _ _ _ _ _ (⟨sg, q0, n1, q1, hcase, hrd, Or.inl ⟨by omega, rfl, hch, (SameF.rf.fl (Or.inr (Or.inl rfl))).trans hq60.2.1, hq60.2.2.2⟩⟩) X dX8_reads_64
            ·
              refine lv_bipush (v := iI 6) hx hb dX8_reads_53 (by decide +kernel) ?_
              refine lv_goto (tgt := 60) hx hb dX8_reads_55 (by decide) ?_
              refine g_callVv G X (rest := []) (As := [.int (iI (pt)), .int (iI (what)), .int (iI (6))]) (t_X8_blames l Y ((up σ 0 22 q1)) (pt) (what) (6) (by first | assumption | omega)) (cwV 3 hts gX8_reads_X8_blames rfl rfl rfl (by decide +kernel) ⟨Nat.le_of_ble_eq_true rfl, Nat.le_of_ble_eq_true rfl⟩) (k := 0) (Nat.le_of_ble_eq_true rfl) rfl rfl rfl rfl hl.1 rfl (Nat.le_of_ble_eq_true rfl) dX8_reads_60 ⟨Nat.le_refl _, Nat.le_refl _⟩ (fun u60 H locs hq60 X => ?_)
              have hch : MChain u60 (chn pt what (if n1 = -1 then 6 else 7)) := by { have e := hq60.1; first | (rw [if_neg (by decide)] at e; first | (rw [if_pos (show n1 = -1 by omega)]; exact e) | (rw [if_neg (show ¬ n1 = -1 by omega)]; exact e)) }
              refine lv_iconst (v := iI 0) hx hb dX8_reads_63 rfl ?_
              exact hret _ _ _ _ _ _ (⟨sg, q0, n1, q1, hcase, hrd, Or.inl ⟨by omega, rfl, hch, (SameF.rf.fl (Or.inr (Or.inl rfl))).trans hq60.2.1, hq60.2.2.2⟩⟩) X dX8_reads_64
    ·
      refine g_topi (z' := 0) hz8 ?_
      have X := (show u8 = (up σ 0 22 p) from (by rw [hu8, ← hp5]; exact (up_id σ 0 22).symm)) ▸ X
      have hcs : RdS tx what p 0 p := Or.inr ⟨fun h => hh8 h.2, rfl, rfl⟩
      refine g_if_eq (tgt := 18) G dX8_reads_11 (by decide) (by omega) (fun h11 => ?_) (fun h11 => ?_)
      ·
        refine lv_iconst (v := iI 0) hx hb dX8_reads_18 rfl ?_
        obtain ⟨sg, q0, hsg, hq0, hcase⟩ : ∃ sg q0 : Int, sg = 0 ∧ q0 = p ∧ RdS tx what p sg q0 := ⟨_, _, rfl, rfl, hcs⟩
        have hcase2 := hcase
        unfold RdS at hcase2
        have hq0r : 0 ≤ q0 ∧ q0 ≤ tx.length := by omega
        refine g_topi (z' := sg) hsg.symm ?_
        have X := (show (up σ 0 22 p) = (up σ 0 22 q0) from (by rw [hq0])) ▸ X
        refine lv_istore (lv' := [(6, .int (iI (sg))), (0, .ref (Y.2.1 (0))), (1, .int (iI (pt))), (2, .int (iI (what))), (3, .int (iI (m))), (4, .int (iI (le))), (5, .int (iI (mo)))]) hx hb dX8_reads_19 hl (by decide) rfl (fun ls hl => ?_)
        refine lv_aload_n hx hb dX8_reads_21 rfl (lv_at hl 1 rfl) ?_
        refine lv_iload_n hx hb dX8_reads_22 rfl (lv_at hl 4 rfl) ?_
        refine g_callVi G X (rest := []) (As := [.int (iI (m))]) (t_X8_number l Y ((up σ 0 22 q0)) tx (m) (q0) (mN) (hT.eq rfl rfl) (by first | assumption | omega) rfl hq0r ⟨hm.1, by omega⟩) (cwV 1 hts gX8_reads_X8_number rfl rfl rfl (by decide +kernel) ⟨Nat.le_of_ble_eq_true rfl, Nat.le_of_ble_eq_true rfl⟩) (k := 0) (Nat.le_of_ble_eq_true rfl) rfl rfl rfl rfl hl.1 rfl (Nat.le_of_ble_eq_true rfl) dX8_reads_23 ⟨Nat.le_refl _, Nat.le_refl _⟩ (fun z23 u23 H locs hq23 X => ?_)
        obtain ⟨n1, q1, hrd⟩ : ∃ n1 q1, rd tx mN (-1) q0 = (n1, q1) := ⟨_, _, rfl⟩
        have hrr := rd_mN (tx := tx) hm.2 hq0r.1 hq0r.2
        rw [hrd] at hrr
        dsimp only at hrr
        refine g_topi (z' := n1) (by rw [hq23.1, hrd]) ?_
        have X := (show u23 = (up σ 0 22 q1) from (by rw [hq23.2, hrd, up_up])) ▸ X
        refine lv_istore (lv' := [(7, .int (iI (n1))), (6, .int (iI (sg))), (0, .ref (Y.2.1 (0))), (1, .int (iI (pt))), (2, .int (iI (what))), (3, .int (iI (m))), (4, .int (iI (le))), (5, .int (iI (mo)))]) hx hb dX8_reads_26 hl (by decide) rfl (fun ls hl => ?_)
        refine lv_iload hx hb dX8_reads_28 (lv_at hl 0 rfl) ?_
        refine g_if_lt (tgt := 45) G dX8_reads_30 (by decide) (by omega) (fun h30 => ?_) (fun h30 => ?_)
        ·
          refine lv_aload_n hx hb dX8_reads_45 rfl (lv_at hl 2 rfl) ?_
          refine lv_iload_n hx hb dX8_reads_46 rfl (lv_at hl 3 rfl) ?_
          refine lv_iload_n hx hb dX8_reads_47 rfl (lv_at hl 4 rfl) ?_
          refine lv_iload hx hb dX8_reads_48 (lv_at hl 0 rfl) ?_
          refine g_if_ge (tgt := 58) G dX8_reads_50 (by decide) (by omega) (fun h50 => ?_) (fun h50 => ?_)
          ·
            refine lv_bipush (v := iI 7) hx hb dX8_reads_58 (by decide +kernel) ?_
            refine g_callVv G X (rest := []) (As := [.int (iI (pt)), .int (iI (what)), .int (iI (7))]) (t_X8_blames l Y ((up σ 0 22 q1)) (pt) (what) (7) (by first | assumption | omega)) (cwV 3 hts gX8_reads_X8_blames rfl rfl rfl (by decide +kernel) ⟨Nat.le_of_ble_eq_true rfl, Nat.le_of_ble_eq_true rfl⟩) (k := 0) (Nat.le_of_ble_eq_true rfl) rfl rfl rfl rfl hl.1 rfl (Nat.le_of_ble_eq_true rfl) dX8_reads_60 ⟨Nat.le_refl _, Nat.le_refl _⟩ (fun u60 H locs hq60 X => ?_)
            have hch : MChain u60 (chn pt what (if n1 = -1 then 6 else 7)) := by { have e := hq60.1; first | (rw [if_neg (by decide)] at e; first | (rw [if_pos (show n1 = -1 by omega)]; exact e) | (rw [if_neg (show ¬ n1 = -1 by omega)]; exact e)) }
            refine lv_iconst (v := iI 0) hx hb dX8_reads_63 rfl ?_
            exact hret _ _ _ _ _ _ (⟨sg, q0, n1, q1, hcase, hrd, Or.inl ⟨by omega, rfl, hch, (SameF.rf.fl (Or.inr (Or.inl rfl))).trans hq60.2.1, hq60.2.2.2⟩⟩) X dX8_reads_64
          ·
            refine lv_bipush (v := iI 6) hx hb dX8_reads_53 (by decide +kernel) ?_
            refine lv_goto (tgt := 60) hx hb dX8_reads_55 (by decide) ?_
            refine g_callVv G X (rest := []) (As := [.int (iI (pt)), .int (iI (what)), .int (iI (6))]) (t_X8_blames l Y ((up σ 0 22 q1)) (pt) (what) (6) (by first | assumption | omega)) (cwV 3 hts gX8_reads_X8_blames rfl rfl rfl (by decide +kernel) ⟨Nat.le_of_ble_eq_true rfl, Nat.le_of_ble_eq_true rfl⟩) (k := 0) (Nat.le_of_ble_eq_true rfl) rfl rfl rfl rfl hl.1 rfl (Nat.le_of_ble_eq_true rfl) dX8_reads_60 ⟨Nat.le_refl _, Nat.le_refl _⟩ (fun u60 H locs hq60 X => ?_)
            have hch : MChain u60 (chn pt what (if n1 = -1 then 6 else 7)) := by { have e := hq60.1; first | (rw [if_neg (by decide)] at e; first | (rw [if_pos (show n1 = -1 by omega)]; exact e) | (rw [if_neg (show ¬ n1 = -1 by omega)]; exact e)) }
            refine lv_iconst (v := iI 0) hx hb dX8_reads_63 rfl ?_
            exact hret _ _ _ _ _ _ (⟨sg, q0, n1, q1, hcase, hrd, Or.inl ⟨by omega, rfl, hch, (SameF.rf.fl (Or.inr (Or.inl rfl))).trans hq60.2.1, hq60.2.2.2⟩⟩) X dX8_reads_64
        ·
          refine lv_iload hx hb dX8_reads_33 (lv_at hl 0 rfl) ?_
          refine lv_iload hx hb dX8_reads_35 (lv_at hl 6 rfl) ?_
          refine lv_iload hx hb dX8_reads_37 (lv_at hl 7 rfl) ?_
          refine g_callSi G X (rest := []) (As := [.int (iI (n1)), .int (iI (le)), .int (iI (mo))]) (t_X8_in l Y ((up σ 0 22 q1)) (n1) (le) (mo) (by first | assumption | omega) (by first | assumption | omega) (by first | assumption | omega)) (va_cwS 3 hts gX8_reads_X8_in rfl rfl rfl (by decide +kernel) ⟨Nat.le_of_ble_eq_true rfl, Nat.le_of_ble_eq_true rfl⟩) rfl hl.1 rfl (Nat.le_of_ble_eq_true rfl) dX8_reads_39 ⟨Nat.le_refl _, Nat.le_refl _⟩ (fun z39 u39 H locs hq39 X => ?_)
          rw [hq39.1] at X
          have hq39 := hq39.2
          try dsimp only at hq39
          refine g_if_ne (tgt := 65) G dX8_reads_42 (by decide) (by omega) (fun h42 => ?_) (fun h42 => ?_)
          ·
            refine lv_aload_n hx hb dX8_reads_65 rfl (lv_at hl 2 rfl) ?_
            refine g_get G X (k := 0) (fs := fM Y) (Nat.le_of_ble_eq_true rfl) (fun _ => rfl) rfl in_X8 7 (by decide) l_f23 rfl (v := .ref (Y.2.1 (5))) rfl dX8_reads_66 ?_
            refine lv_bipush (v := iI 12) hx hb dX8_reads_69 (by decide +kernel) ?_
            refine lv_iload_n hx hb dX8_reads_71 rfl (lv_at hl 4 rfl) ?_
            refine lv_iconst (v := iI 1) hx hb dX8_reads_72 rfl ?_
            refine g_isub G dX8_reads_73 ?_
            refine g_imul G dX8_reads_74 ?_
            refine lv_iload_n hx hb dX8_reads_75 rfl (lv_at hl 3 rfl) ?_
            refine g_iadd G dX8_reads_76 ?_
            refine lv_iload hx hb dX8_reads_77 (lv_at hl 1 rfl) ?_
            refine g_if_eq (tgt := 88) G dX8_reads_79 (by decide) (by omega) (fun h79 => ?_) (fun h79 => ?_)
            ·
              refine lv_iload hx hb dX8_reads_88 (lv_at hl 0 rfl) ?_
              refine g_topi (z' := (if sg = 1 then -n1 else n1)) (by split <;> omega) ?_
              refine g_iast G X (k := 5) (n := 36) (Nat.le_of_ble_eq_true rfl) (fun _ => rfl) (by decide) (z := ((12 * (what - 1)) + pt)) (v := (if sg = 1 then -n1 else n1)) (by omega) dX8_reads_90 (fun H locs X => ?_)
              refine lv_iconst (v := iI 1) hx hb dX8_reads_91 rfl ?_
              exact hret _ _ _ _ _ _ (⟨sg, q0, n1, q1, hcase, hrd, Or.inr ⟨by omega, rfl, rfl⟩⟩) X dX8_reads_92
            ·
              refine lv_iload hx hb dX8_reads_82 (lv_at hl 0 rfl) ?_
              refine g_ineg G dX8_reads_84 ?_
              refine lv_goto (tgt := 90) hx hb dX8_reads_85 (by decide) ?_
              refine g_topi (z' := (if sg = 1 then -n1 else n1)) (by split <;> omega) ?_
              refine g_iast G X (k := 5) (n := 36) (Nat.le_of_ble_eq_true rfl) (fun _ => rfl) (by decide) (z := ((12 * (what - 1)) + pt)) (v := (if sg = 1 then -n1 else n1)) (by omega) dX8_reads_90 (fun H locs X => ?_)
              refine lv_iconst (v := iI 1) hx hb dX8_reads_91 rfl ?_
              exact hret _ _ _ _ _ _ (⟨sg, q0, n1, q1, hcase, hrd, Or.inr ⟨by omega, rfl, rfl⟩⟩) X dX8_reads_92
          ·
            refine lv_aload_n hx hb dX8_reads_45 rfl (lv_at hl 2 rfl) ?_
            refine lv_iload_n hx hb dX8_reads_46 rfl (lv_at hl 3 rfl) ?_
            refine lv_iload_n hx hb dX8_reads_47 rfl (lv_at hl 4 rfl) ?_
            refine lv_iload hx hb dX8_reads_48 (lv_at hl 0 rfl) ?_
            refine g_if_ge (tgt := 58) G dX8_reads_50 (by decide) (by omega) (fun h50 => ?_) (fun h50 => ?_)
            ·
              refine lv_bipush (v := iI 7) hx hb dX8_reads_58 (by decide +kernel) ?_
              refine g_callVv G X (rest := []) (As := [.int (iI (pt)), .int (iI (what)), .int (iI (7))]) (t_X8_blames l Y ((up σ 0 22 q1)) (pt) (what) (7) (by first | assumption | omega)) (cwV 3 hts gX8_reads_X8_blames rfl rfl rfl (by decide +kernel) ⟨Nat.le_of_ble_eq_true rfl, Nat.le_of_ble_eq_true rfl⟩) (k := 0) (Nat.le_of_ble_eq_true rfl) rfl rfl rfl rfl hl.1 rfl (Nat.le_of_ble_eq_true rfl) dX8_reads_60 ⟨Nat.le_refl _, Nat.le_refl _⟩ (fun u60 H locs hq60 X => ?_)
              have hch : MChain u60 (chn pt what (if n1 = -1 then 6 else 7)) := by { have e := hq60.1; first | (rw [if_neg (by decide)] at e; first | (rw [if_pos (show n1 = -1 by omega)]; exact e) | (rw [if_neg (show ¬ n1 = -1 by omega)]; exact e)) }
              refine lv_iconst (v := iI 0) hx hb dX8_reads_63 rfl ?_
              exact hret _ _ _ _ _ _ (⟨sg, q0, n1, q1, hcase, hrd, Or.inl ⟨by omega, rfl, hch, (SameF.rf.fl (Or.inr (Or.inl rfl))).trans hq60.2.1, hq60.2.2.2⟩⟩) X dX8_reads_64
            ·
              refine lv_bipush (v := iI 6) hx hb dX8_reads_53 (by decide +kernel) ?_
              refine lv_goto (tgt := 60) hx hb dX8_reads_55 (by decide) ?_
              refine g_callVv G X (rest := []) (As := [.int (iI (pt)), .int (iI (what)), .int (iI (6))]) (t_X8_blames l Y ((up σ 0 22 q1)) (pt) (what) (6) (by first | assumption | omega)) (cwV 3 hts gX8_reads_X8_blames rfl rfl rfl (by decide +kernel) ⟨Nat.le_of_ble_eq_true rfl, Nat.le_of_ble_eq_true rfl⟩) (k := 0) (Nat.le_of_ble_eq_true rfl) rfl rfl rfl rfl hl.1 rfl (Nat.le_of_ble_eq_true rfl) dX8_reads_60 ⟨Nat.le_refl _, Nat.le_refl _⟩ (fun u60 H locs hq60 X => ?_)
              have hch : MChain u60 (chn pt what (if n1 = -1 then 6 else 7)) := by { have e := hq60.1; first | (rw [if_neg (by decide)] at e; first | (rw [if_pos (show n1 = -1 by omega)]; exact e) | (rw [if_neg (show ¬ n1 = -1 by omega)]; exact e)) }
              refine lv_iconst (v := iI 0) hx hb dX8_reads_63 rfl ?_
              exact hret _ _ _ _ _ _ (⟨sg, q0, n1, q1, hcase, hrd, Or.inl ⟨by omega, rfl, hch, (SameF.rf.fl (Or.inr (Or.inl rfl))).trans hq60.2.1, hq60.2.2.2⟩⟩) X dX8_reads_64
      ·
        exact False.elim (by omega)

set_option maxHeartbeats 4000000 in
set_option maxRecDepth 100000 in
theorem t_X8_expects (l : Launch) (Y : Yt) (σ : Mem) (tx : List Int) (pt : Int) (c : Int) (p : Int) (hT : MText σ tx) (hok : txOk tx) (hp5 : σ 0 22 = p) (hpr : 0 ≤ p ∧ p ≤ tx.length) (hc0 : 0 ≤ c ∧ c < 65536) : MXi l LM Y yX8_expects wsX8_expects { frames := 1, cells := 0, slots := 0, locals := 23 } [.ref (Y.2.1 (0)), .int (iI (pt)), .int (iI (c))] σ (fun z u => (z = 1 ∧ (p < tx.length ∧ at0 tx p = c) ∧ u = up σ 0 22 (p + 1)) ∨ (z = 0 ∧ ¬ (p < tx.length ∧ at0 tx p = c) ∧ MChain u (chn pt 4 (-1)) ∧ SameF σ u ∧ u 0 23 = σ 0 23)) := by
  have hT1 := hT.1
  have hT2 := hT.2
  have hok1 := hok.1
  refine g_starti (rty := .boolean) (fun z u h => nrZ (by rcases h with h | h <;> omega)) (cc := cX8_expects) (nL := 3) (own := RX8) (by decide) rfl rfl (Nat.le_of_ble_eq_true rfl) ?_
  intro pp ee ss mm bw mt cd AA ZZ ls G hret X hl
  have hl : lv_has ls 3 [(0, .ref (Y.2.1 (0))), (1, .int (iI (pt))), (2, .int (iI (c)))] := hl
  have hx := G.1
  have hb := G.2.1
  have hts := G.2.2.2.2.1
  refine lv_aload_n hx hb dX8_expects_0 rfl (lv_at hl 0 rfl) ?_
  refine lv_iload_n hx hb dX8_expects_1 rfl (lv_at hl 2 rfl) ?_
  refine g_callVi G X (rest := []) (As := [.int (iI (c))]) (t_X8_has l Y (σ) tx (c) p (by first | assumption | omega) (by first | assumption | omega) (by first | assumption | omega) (by first | assumption | omega) (by first | assumption | omega)) (cwV 1 hts gX8_expects_X8_has rfl rfl rfl (by decide +kernel) ⟨Nat.le_of_ble_eq_true rfl, Nat.le_of_ble_eq_true rfl⟩) (k := 0) (Nat.le_of_ble_eq_true rfl) rfl rfl rfl rfl hl.1 rfl (Nat.le_of_ble_eq_true rfl) dX8_expects_2 ⟨Nat.le_refl _, Nat.le_refl _⟩ (fun z2 u2 H locs hq2 X => ?_)
  rcases hq2 with ⟨hz2, hh2, hu2⟩ | ⟨hz2, hh2, hu2⟩
  ·
    refine g_topi (z' := 1) hz2 ?_
    have X := (show u2 = (up σ 0 22 (p + 1)) from hu2) ▸ X
    refine g_if_ne (tgt := 17) G dX8_expects_5 (by decide) (by omega) (fun h5 => ?_) (fun h5 => ?_)
    ·
      refine lv_iconst (v := iI 1) hx hb dX8_expects_17 rfl ?_
      exact hret _ _ _ _ _ _ (Or.inl ⟨rfl, hh2, rfl⟩) X dX8_expects_18
    ·
      exact False.elim (by omega)
  ·
    refine g_topi (z' := 0) hz2 ?_
    have X := (show u2 = σ from hu2) ▸ X
    refine g_if_ne (tgt := 17) G dX8_expects_5 (by decide) (by omega) (fun h5 => ?_) (fun h5 => ?_)
    ·
      exact False.elim (by omega)
    ·
      refine lv_aload_n hx hb dX8_expects_8 rfl (lv_at hl 0 rfl) ?_
      refine lv_iload_n hx hb dX8_expects_9 rfl (lv_at hl 1 rfl) ?_
      refine lv_iconst (v := iI 4) hx hb dX8_expects_10 rfl ?_
      refine lv_iconst (v := iI 0) hx hb dX8_expects_11 rfl ?_
      refine g_callVv G X (rest := []) (As := [.int (iI (pt)), .int (iI (4)), .int (iI (0))]) (t_X8_blames l Y (σ) (pt) (4) (0) (by first | assumption | omega)) (cwV 3 hts gX8_expects_X8_blames rfl rfl rfl (by decide +kernel) ⟨Nat.le_of_ble_eq_true rfl, Nat.le_of_ble_eq_true rfl⟩) (k := 0) (Nat.le_of_ble_eq_true rfl) rfl rfl rfl rfl hl.1 rfl (Nat.le_of_ble_eq_true rfl) dX8_expects_12 ⟨Nat.le_refl _, Nat.le_refl _⟩ (fun u12 H locs hq12 X => ?_)
      refine lv_iconst (v := iI 0) hx hb dX8_expects_15 rfl ?_
      exact hret _ _ _ _ _ _ (Or.inr ⟨rfl, hh2, hq12.1, hq12.2.1, hq12.2.2.2⟩) X dX8_expects_16

set_option maxHeartbeats 4000000 in
set_option maxRecDepth 100000 in
theorem t_X8_readsPoint (l : Launch) (Y : Yt) (σ : Mem) (tx : List Int) (i : Int) (p : Int) (acc : List Pt) (hT : MText σ tx) (hok : txOk tx) (hp5 : σ 0 22 = p) (hpr : 0 ≤ p ∧ p ≤ tx.length) (hA : RdIs σ acc) (hi : i = acc.length ∧ i ≤ 12) : MXi l LM Y yX8_readsPoint wsX8_readsPoint { frames := 3, cells := 0, slots := 0, locals := 72 } [.ref (Y.2.1 (0)), .int (iI (i))] σ (fun z u => RPm σ u tx p acc z) := by
  have hT1 := hT.1
  have hT2 := hT.2
  have hok1 := hok.1
  obtain ⟨a1, a2, ea⟩ : ∃ a1 a2, rd tx 2 (-1) p = (a1, a2) := ⟨_, _, rfl⟩
  have ra := rd2_rg (tx := tx) hpr.1 hpr.2
  rw [ea] at ra
  dsimp only at ra
  refine g_starti (rty := .boolean) (fun z u h => nrZ h.z) (cc := cX8_readsPoint) (nL := 2) (own := RX8) (by decide) rfl rfl (Nat.le_of_ble_eq_true rfl) ?_
  intro pp ee ss mm bw mt cd AA ZZ ls G hret X hl
  have hl : lv_has ls 2 [(0, .ref (Y.2.1 (0))), (1, .int (iI (i)))] := hl
  have hx := G.1
  have hb := G.2.1
  have hts := G.2.2.2.2.1
  have l_f23 := hts (.fieldLink RX8 23 "ShapeFitsModel" "read" "[I") (List.mem_of_getElem? (i := 1) rfl)
  have in_X8 : ∀ w ∈ u_ws RX8 TX8 24, w ∈ wsX8_readsPoint := by decide +kernel
  refine lv_iload_n hx hb dX8_readsPoint_0 rfl (lv_at hl 1 rfl) ?_
  refine lv_bipush (v := iI 12) hx hb dX8_readsPoint_1 (by decide +kernel) ?_
  refine g_icmp_ne (tgt := 15) G dX8_readsPoint_3 (by decide) (by omega) (by omega) (fun h3 => ?_) (fun h3 => ?_)
  ·
    refine lv_aload_n hx hb dX8_readsPoint_15 rfl (lv_at hl 0 rfl) ?_
    refine g_get G X (k := 0) (fs := fM Y) (Nat.le_of_ble_eq_true rfl) (fun _ => rfl) rfl in_X8 7 (by decide) l_f23 rfl (v := .ref (Y.2.1 (5))) rfl dX8_readsPoint_16 ?_
    refine lv_bipush (v := iI 24) hx hb dX8_readsPoint_19 (by decide +kernel) ?_
    refine lv_iload_n hx hb dX8_readsPoint_21 rfl (lv_at hl 1 rfl) ?_
    refine g_iadd G dX8_readsPoint_22 ?_
    refine lv_iconst (v := iI 1) hx hb dX8_readsPoint_23 rfl ?_
    refine g_iast G X (k := 5) (n := 36) (Nat.le_of_ble_eq_true rfl) (fun _ => rfl) (by decide) (z := (24 + i)) (v := 1) (by omega) dX8_readsPoint_24 (fun H locs X => ?_)
    have R0 := rq_0 (i := i) hp5
    have hTa : MText (up σ 5 (24 + i) 1) tx := hT.f R0.f
    have h12 : acc.length < 12 := by omega
    refine lv_aload_n hx hb dX8_readsPoint_25 rfl (lv_at hl 0 rfl) ?_
    refine lv_iload_n hx hb dX8_readsPoint_26 rfl (lv_at hl 1 rfl) ?_
    refine lv_iconst (v := iI 1) hx hb dX8_readsPoint_27 rfl ?_
    refine lv_iconst (v := iI 2) hx hb dX8_readsPoint_28 rfl ?_
    refine lv_iconst (v := iI 0) hx hb dX8_readsPoint_29 rfl ?_
    refine lv_bipush (v := iI 40) hx hb dX8_readsPoint_30 (by decide +kernel) ?_
    refine g_callVi G X (rest := []) (As := [.int (iI (i)), .int (iI (1)), .int (iI (2)), .int (iI (0)), .int (iI (40))]) (t_X8_reads l Y ((up σ 5 (24 + i) 1)) tx (i) (1) (2) (0) (40) (p) (2) hTa (by first | assumption | omega) R0.1.1 hpr (by first | assumption | omega) (by first | assumption | omega) (by first | assumption | omega) (by first | assumption | omega)) (cwV 5 hts gX8_readsPoint_X8_reads rfl rfl rfl (by decide +kernel) ⟨Nat.le_of_ble_eq_true rfl, Nat.le_of_ble_eq_true rfl⟩) (k := 0) (Nat.le_of_ble_eq_true rfl) rfl rfl rfl rfl hl.1 rfl (Nat.le_of_ble_eq_true rfl) dX8_readsPoint_32 ⟨Nat.le_refl _, Nat.le_refl _⟩ (fun z32 u32 H locs hq32 X => ?_)
    rcases hq32 with ⟨sg, q0, n, q1, hS, he, (⟨hr, hz, hC, hF, h23⟩ | ⟨hr, hz, hu⟩)⟩
    ·
      refine g_topi (z' := 0) hz ?_
      have hqp : q0 = p := by unfold RdS at hS; omega
      rw [hqp, ea] at he
      cases he
      have e1 : pR1 tx p = .inl (1, if a1 = -1 then 6 else 7) := by unfold pR1; rw [ea]; exact if_pos (show a1 = -1 ∨ 40 < a1 by omega)
      have hfin := fun z (hz : z = 0) => rpm_fail (z := z) e1 h12 hi.1 hz hC R0.f hF h23 rfl
      refine g_if_eq (tgt := 61) G dX8_readsPoint_35 (by decide) (by omega) (fun h35 => ?_) (fun h35 => ?_)
      ·
        refine lv_iconst (v := iI 0) hx hb dX8_readsPoint_61 rfl ?_
        exact hret _ _ _ _ _ _ (hfin _ rfl) X dX8_readsPoint_62
      ·
        exact False.elim (by omega)
    ·
      refine g_topi (z' := 1) hz ?_
      have hqp : q0 = p := by unfold RdS at hS; omega
      rw [hqp, ea] at he
      cases he
      have hsg0 : sg = 0 := by unfold RdS at hS; omega
      have R1 : RQ σ u32 i a2 a1 (σ 5 (12 + i)) 1 := by rw [hu, if_neg (by omega)]; exact (R0.at a2).px a1 (by omega)
      have hTb : MText u32 tx := hT.f R1.f
      refine g_if_eq (tgt := 61) G dX8_readsPoint_35 (by decide) (by omega) (fun h35 => ?_) (fun h35 => ?_)
      ·
        exact False.elim (by omega)
      ·
        refine lv_aload_n hx hb dX8_readsPoint_38 rfl (lv_at hl 0 rfl) ?_
        refine lv_iload_n hx hb dX8_readsPoint_39 rfl (lv_at hl 1 rfl) ?_
        refine lv_bipush (v := iI 58) hx hb dX8_readsPoint_40 (by decide +kernel) ?_
        refine g_callVi G X (rest := []) (As := [.int (iI (i)), .int (iI (58))]) (t_X8_expects l Y (u32) tx (i) (58) (a2) hTb (by first | assumption | omega) R1.1.1 (by first | assumption | omega) (by first | assumption | omega)) (cwV 2 hts gX8_readsPoint_X8_expects rfl rfl rfl (by decide +kernel) ⟨Nat.le_of_ble_eq_true rfl, Nat.le_of_ble_eq_true rfl⟩) (k := 0) (Nat.le_of_ble_eq_true rfl) rfl rfl rfl rfl hl.1 rfl (Nat.le_of_ble_eq_true rfl) dX8_readsPoint_42 ⟨Nat.le_refl _, Nat.le_refl _⟩ (fun z42 u42 H locs hq42 X => ?_)
        rcases hq42 with ⟨hz, hh, hu⟩ | ⟨hz, hh, hC, hF, h23⟩
        ·
          refine g_topi (z' := 1) hz ?_
          have R2 : RQ σ u42 i (a2 + 1) a1 (σ 5 (12 + i)) 1 := by rw [hu]; exact R1.at _
          have hTc : MText u42 tx := hT.f R2.f
          have e1 : pR1 tx p = pR2 tx a1 (a2 + 1) := by unfold pR1; rw [ea]; exact (if_neg (show ¬ (a1 = -1 ∨ 40 < a1) by omega)).trans (if_pos hh)
          refine g_if_eq (tgt := 61) G dX8_readsPoint_45 (by decide) (by omega) (fun h45 => ?_) (fun h45 => ?_)
          ·
            exact False.elim (by omega)
          ·
            refine lv_aload_n hx hb dX8_readsPoint_48 rfl (lv_at hl 0 rfl) ?_
            refine lv_iload_n hx hb dX8_readsPoint_49 rfl (lv_at hl 1 rfl) ?_
            refine lv_iconst (v := iI 2) hx hb dX8_readsPoint_50 rfl ?_
            refine lv_iconst (v := iI 2) hx hb dX8_readsPoint_51 rfl ?_
            refine lv_iconst (v := iI 0) hx hb dX8_readsPoint_52 rfl ?_
            refine lv_bipush (v := iI 99) hx hb dX8_readsPoint_53 (by decide +kernel) ?_
            refine g_callVi G X (rest := []) (As := [.int (iI (i)), .int (iI (2)), .int (iI (2)), .int (iI (0)), .int (iI (99))]) (t_X8_reads l Y (u42) tx (i) (2) (2) (0) (99) ((a2 + 1)) (2) hTc (by first | assumption | omega) R2.1.1 (by first | assumption | omega) (by first | assumption | omega) (by first | assumption | omega) (by first | assumption | omega) (by first | assumption | omega)) (cwV 5 hts gX8_readsPoint_X8_reads rfl rfl rfl (by decide +kernel) ⟨Nat.le_of_ble_eq_true rfl, Nat.le_of_ble_eq_true rfl⟩) (k := 0) (Nat.le_of_ble_eq_true rfl) rfl rfl rfl rfl hl.1 rfl (Nat.le_of_ble_eq_true rfl) dX8_readsPoint_55 ⟨Nat.le_refl _, Nat.le_refl _⟩ (fun z55 u55 H locs hq55 X => ?_)
            rcases hq55 with ⟨s1, q3, b1, b2, hS, he, (⟨hr, hz, hC, hF, h23⟩ | ⟨hr, hz, hu⟩)⟩
            ·
              refine g_topi (z' := 0) hz ?_
              have hq3r : 0 ≤ q3 ∧ q3 ≤ tx.length := by unfold RdS at hS; omega
              have rb := rd2_rg (tx := tx) hq3r.1 hq3r.2
              rw [he] at rb
              dsimp only at rb
              have hb1 : b1 = -1 := by omega
              have e2 : pR1 tx p = .inl (2, 6) := by rw [e1]; exact pr2_bad hS he hb1
              have hfin := fun z (hz : z = 0) => rpm_fail (z := z) e2 h12 hi.1 hz (by rw [if_pos hb1] at hC; exact hC) R2.f hF h23 (R2.2.2.1 23 (by omega))
              refine g_if_ne (tgt := 63) G dX8_readsPoint_58 (by decide) (by omega) (fun h58 => ?_) (fun h58 => ?_)
              ·
                exact False.elim (by omega)
              ·
                refine lv_iconst (v := iI 0) hx hb dX8_readsPoint_61 rfl ?_
                exact hret _ _ _ _ _ _ (hfin _ rfl) X dX8_readsPoint_62
            ·
              refine g_topi (z' := 1) hz ?_
              have hq3r : 0 ≤ q3 ∧ q3 ≤ tx.length := by unfold RdS at hS; omega
              have rb := rd2_rg (tx := tx) hq3r.1 hq3r.2
              rw [he] at rb
              dsimp only at rb
              obtain ⟨v, hv⟩ : ∃ v, v = (if s1 = 1 then -b1 else b1) := ⟨_, rfl⟩
              have R3 : RQ σ u55 i b2 a1 v 1 := by rw [hu, hv]; exact (R2.at b2).pv _ (by omega)
              have hTd : MText u55 tx := hT.f R3.f
              have e2 : pR1 tx p = if b2 < tx.length ∧ at0 tx b2 = 42 then pR4 tx a1 v (b2 + 1) else pR5 tx a1 v 1 b2 := by rw [e1]; exact pr2_good hS he (by omega) hv
              refine g_if_ne (tgt := 63) G dX8_readsPoint_58 (by decide) (by omega) (fun h58 => ?_) (fun h58 => ?_)
              ·
                refine lv_aload_n hx hb dX8_readsPoint_63 rfl (lv_at hl 0 rfl) ?_
                refine lv_bipush (v := iI 42) hx hb dX8_readsPoint_64 (by decide +kernel) ?_
                refine g_callVi G X (rest := []) (As := [.int (iI (42))]) (t_X8_has l Y (u55) tx (42) (b2) hTd (by first | assumption | omega) R3.1.1 (by first | assumption | omega) (by first | assumption | omega)) (cwV 1 hts gX8_readsPoint_X8_has rfl rfl rfl (by decide +kernel) ⟨Nat.le_of_ble_eq_true rfl, Nat.le_of_ble_eq_true rfl⟩) (k := 0) (Nat.le_of_ble_eq_true rfl) rfl rfl rfl rfl hl.1 rfl (Nat.le_of_ble_eq_true rfl) dX8_readsPoint_66 ⟨Nat.le_refl _, Nat.le_refl _⟩ (fun z66 u66 H locs hq66 X => ?_)
                rcases hq66 with ⟨hz, hh, hu⟩ | ⟨hz, hh, hu⟩
                ·
                  refine g_topi (z' := 1) hz ?_
                  have R4 : RQ σ u66 i (b2 + 1) a1 v 1 := by rw [hu]; exact R3.at _
                  have hTe : MText u66 tx := hT.f R4.f
                  rw [if_pos hh] at e2
                  refine g_if_eq (tgt := 84) G dX8_readsPoint_69 (by decide) (by omega) (fun h69 => ?_) (fun h69 => ?_)
                  ·
                    exact False.elim (by omega)
                  ·
                    refine lv_aload_n hx hb dX8_readsPoint_72 rfl (lv_at hl 0 rfl) ?_
                    refine lv_iload_n hx hb dX8_readsPoint_73 rfl (lv_at hl 1 rfl) ?_
                    refine lv_iconst (v := iI 3) hx hb dX8_readsPoint_74 rfl ?_
                    refine lv_iconst (v := iI 1) hx hb dX8_readsPoint_75 rfl ?_
                    refine lv_iconst (v := iI 1) hx hb dX8_readsPoint_76 rfl ?_
                    refine lv_iconst (v := iI 2) hx hb dX8_readsPoint_77 rfl ?_
                    refine g_callVi G X (rest := []) (As := [.int (iI (i)), .int (iI (3)), .int (iI (1)), .int (iI (1)), .int (iI (2))]) (t_X8_reads l Y (u66) tx (i) (3) (1) (1) (2) ((b2 + 1)) (1) hTe (by first | assumption | omega) R4.1.1 (by have := hh.1; omega) (by first | assumption | omega) (by first | assumption | omega) (by first | assumption | omega) (by first | assumption | omega)) (cwV 5 hts gX8_readsPoint_X8_reads rfl rfl rfl (by decide +kernel) ⟨Nat.le_of_ble_eq_true rfl, Nat.le_of_ble_eq_true rfl⟩) (k := 0) (Nat.le_of_ble_eq_true rfl) rfl rfl rfl rfl hl.1 rfl (Nat.le_of_ble_eq_true rfl) dX8_readsPoint_78 ⟨Nat.le_refl _, Nat.le_refl _⟩ (fun z78 u78 H locs hq78 X => ?_)
                    rcases hq78 with ⟨s3, q4, c1, c2, hS, he, (⟨hr, hz, hC, hF, h23⟩ | ⟨hr, hz, hu⟩)⟩
                    ·
                      refine g_topi (z' := 0) hz ?_
                      have hqp : q4 = b2 + 1 := by unfold RdS at hS; omega
                      have e3 : pR1 tx p = .inl (3, if c1 = -1 then 6 else 7) := by rw [e2]; unfold pR4; rw [← hqp, he]; exact if_pos (show c1 < 1 ∨ 2 < c1 by omega)
                      have hfin := fun z (hz : z = 0) => rpm_fail (z := z) e3 h12 hi.1 hz hC R4.f hF h23 (R4.2.2.1 23 (by omega))
                      refine g_if_eq (tgt := 98) G dX8_readsPoint_81 (by decide) (by omega) (fun h81 => ?_) (fun h81 => ?_)
                      ·
                        refine lv_iconst (v := iI 0) hx hb dX8_readsPoint_98 rfl ?_
                        exact hret _ _ _ _ _ _ (hfin _ rfl) X dX8_readsPoint_99
                      ·
                        exact False.elim (by omega)
                    ·
                      refine g_topi (z' := 1) hz ?_
                      have hqp : q4 = b2 + 1 := by unfold RdS at hS; omega
                      have hs30 : s3 = 0 := by unfold RdS at hS; omega
                      have hh4 := hh.1
                      have rc := rd1_rg (tx := tx) (p := q4) (by omega) (by omega)
                      rw [he] at rc
                      dsimp only at rc
                      obtain ⟨q5, w5, hq5, hw5⟩ : ∃ q5 w5, q5 = c2 ∧ w5 = c1 := ⟨_, _, rfl, rfl⟩
                      have R5 : RQ σ u78 i q5 a1 v w5 := by rw [hu, hq5, hw5, if_neg (by omega)]; exact (R4.at c2).pw _ (by omega)
                      have e4 : pR1 tx p = pR5 tx a1 v w5 q5 := by rw [e2]; unfold pR4; rw [← hqp, he, hq5, hw5]; exact if_neg (show ¬ (c1 < 1 ∨ 2 < c1) by omega)
                      have hq5r : 0 ≤ q5 ∧ q5 ≤ tx.length := by omega
                      have hTf : MText u78 tx := hT.f R5.f
                      refine g_if_eq (tgt := 98) G dX8_readsPoint_81 (by decide) (by omega) (fun h81 => ?_) (fun h81 => ?_)
                      ·
                        exact False.elim (by omega)
                      ·
                        refine lv_aload_n hx hb dX8_readsPoint_84 rfl (lv_at hl 0 rfl) ?_
                        refine lv_iload_n hx hb dX8_readsPoint_85 rfl (lv_at hl 1 rfl) ?_
                        refine lv_bipush (v := iI 59) hx hb dX8_readsPoint_86 (by decide +kernel) ?_
                        refine g_callVi G X (rest := []) (As := [.int (iI (i)), .int (iI (59))]) (t_X8_expects l Y (u78) tx (i) (59) (q5) hTf (by first | assumption | omega) R5.1.1 (by first | assumption | omega) (by first | assumption | omega)) (cwV 2 hts gX8_readsPoint_X8_expects rfl rfl rfl (by decide +kernel) ⟨Nat.le_of_ble_eq_true rfl, Nat.le_of_ble_eq_true rfl⟩) (k := 0) (Nat.le_of_ble_eq_true rfl) rfl rfl rfl rfl hl.1 rfl (Nat.le_of_ble_eq_true rfl) dX8_readsPoint_88 ⟨Nat.le_refl _, Nat.le_refl _⟩ (fun z88 u88 H locs hq88 X => ?_)
                        rcases hq88 with ⟨hz, hh, hu⟩ | ⟨hz, hh, hC, hF, h23⟩
                        ·
                          refine g_topi (z' := 1) hz ?_
                          have R6 : RQ σ u88 i (q5 + 1) a1 v w5 := by rw [hu]; exact R5.at _
                          have e5 : pR1 tx p = .inr ((a1, v, w5), q5 + 1) := by rw [e4]; exact if_pos hh
                          have hfin := fun z (hz : z = 1) => rpm_good (z := z) e5 h12 hi.1 hz R6 hA
                          refine g_if_eq (tgt := 98) G dX8_readsPoint_91 (by decide) (by omega) (fun h91 => ?_) (fun h91 => ?_)
                          ·
                            exact False.elim (by omega)
                          ·
                            refine lv_iconst (v := iI 1) hx hb dX8_readsPoint_94 rfl ?_
                            refine lv_goto (tgt := 99) hx hb dX8_readsPoint_95 (by decide) ?_
                            exact hret _ _ _ _ _ _ (hfin _ rfl) X dX8_readsPoint_99
                        ·
                          refine g_topi (z' := 0) hz ?_
                          have e5 : pR1 tx p = .inl (4, -1) := by rw [e4]; exact if_neg hh
                          have hfin := fun z (hz : z = 0) => rpm_fail (z := z) e5 h12 hi.1 hz hC R5.f hF h23 (R5.2.2.1 23 (by omega))
                          refine g_if_eq (tgt := 98) G dX8_readsPoint_91 (by decide) (by omega) (fun h91 => ?_) (fun h91 => ?_)
                          ·
                            refine lv_iconst (v := iI 0) hx hb dX8_readsPoint_98 rfl ?_
                            exact hret _ _ _ _ _ _ (hfin _ rfl) X dX8_readsPoint_99
                          ·
                            exact False.elim (by omega)
                ·
                  refine g_topi (z' := 0) hz ?_
                  rw [if_neg hh] at e2
                  obtain ⟨q5, w5, hq5, hw5⟩ : ∃ q5 w5, q5 = b2 ∧ w5 = (1 : Int) := ⟨_, _, rfl, rfl⟩
                  have R5 : RQ σ u66 i q5 a1 v w5 := by rw [hu, hq5, hw5]; exact R3
                  have e4 : pR1 tx p = pR5 tx a1 v w5 q5 := by rw [e2, hq5, hw5]
                  have hq5r : 0 ≤ q5 ∧ q5 ≤ tx.length := by omega
                  have hTf : MText u66 tx := hT.f R5.f
                  refine g_if_eq (tgt := 84) G dX8_readsPoint_69 (by decide) (by omega) (fun h69 => ?_) (fun h69 => ?_)
                  ·
                    refine lv_aload_n hx hb dX8_readsPoint_84 rfl (lv_at hl 0 rfl) ?_
                    refine lv_iload_n hx hb dX8_readsPoint_85 rfl (lv_at hl 1 rfl) ?_
                    refine lv_bipush (v := iI 59) hx hb dX8_readsPoint_86 (by decide +kernel) ?_
                    refine g_callVi G X (rest := []) (As := [.int (iI (i)), .int (iI (59))]) (t_X8_expects l Y (u66) tx (i) (59) (q5) hTf (by first | assumption | omega) R5.1.1 (by first | assumption | omega) (by first | assumption | omega)) (cwV 2 hts gX8_readsPoint_X8_expects rfl rfl rfl (by decide +kernel) ⟨Nat.le_of_ble_eq_true rfl, Nat.le_of_ble_eq_true rfl⟩) (k := 0) (Nat.le_of_ble_eq_true rfl) rfl rfl rfl rfl hl.1 rfl (Nat.le_of_ble_eq_true rfl) dX8_readsPoint_88 ⟨Nat.le_refl _, Nat.le_refl _⟩ (fun z88 u88 H locs hq88 X => ?_)
                    rcases hq88 with ⟨hz, hh, hu⟩ | ⟨hz, hh, hC, hF, h23⟩
                    ·
                      refine g_topi (z' := 1) hz ?_
                      have R6 : RQ σ u88 i (q5 + 1) a1 v w5 := by rw [hu]; exact R5.at _
                      have e5 : pR1 tx p = .inr ((a1, v, w5), q5 + 1) := by rw [e4]; exact if_pos hh
                      have hfin := fun z (hz : z = 1) => rpm_good (z := z) e5 h12 hi.1 hz R6 hA
                      refine g_if_eq (tgt := 98) G dX8_readsPoint_91 (by decide) (by omega) (fun h91 => ?_) (fun h91 => ?_)
                      ·
                        exact False.elim (by omega)
                      ·
                        refine lv_iconst (v := iI 1) hx hb dX8_readsPoint_94 rfl ?_
                        refine lv_goto (tgt := 99) hx hb dX8_readsPoint_95 (by decide) ?_
                        exact hret _ _ _ _ _ _ (hfin _ rfl) X dX8_readsPoint_99
                    ·
                      refine g_topi (z' := 0) hz ?_
                      have e5 : pR1 tx p = .inl (4, -1) := by rw [e4]; exact if_neg hh
                      have hfin := fun z (hz : z = 0) => rpm_fail (z := z) e5 h12 hi.1 hz hC R5.f hF h23 (R5.2.2.1 23 (by omega))
                      refine g_if_eq (tgt := 98) G dX8_readsPoint_91 (by decide) (by omega) (fun h91 => ?_) (fun h91 => ?_)
                      ·
                        refine lv_iconst (v := iI 0) hx hb dX8_readsPoint_98 rfl ?_
                        exact hret _ _ _ _ _ _ (hfin _ rfl) X dX8_readsPoint_99
                      ·
                        exact False.elim (by omega)
                  ·
                    exact False.elim (by omega)
              ·
                exact False.elim (by omega)
        ·
          refine g_topi (z' := 0) hz ?_
          have e1 : pR1 tx p = .inl (4, -1) := by unfold pR1; rw [ea]; exact (if_neg (show ¬ (a1 = -1 ∨ 40 < a1) by omega)).trans (if_neg hh)
          have hfin := fun z (hz : z = 0) => rpm_fail (z := z) e1 h12 hi.1 hz hC R1.f hF h23 (R1.2.2.1 23 (by omega))
          refine g_if_eq (tgt := 61) G dX8_readsPoint_45 (by decide) (by omega) (fun h45 => ?_) (fun h45 => ?_)
          ·
            refine lv_iconst (v := iI 0) hx hb dX8_readsPoint_61 rfl ?_
            exact hret _ _ _ _ _ _ (hfin _ rfl) X dX8_readsPoint_62
          ·
            exact False.elim (by omega)
  ·
    refine lv_aload_n hx hb dX8_readsPoint_6 rfl (lv_at hl 0 rfl) ?_
    refine lv_iload_n hx hb dX8_readsPoint_7 rfl (lv_at hl 1 rfl) ?_
    refine lv_iconst (v := iI 5) hx hb dX8_readsPoint_8 rfl ?_
    refine lv_iconst (v := iI 0) hx hb dX8_readsPoint_9 rfl ?_
    refine g_callVv G X (rest := []) (As := [.int (iI (i)), .int (iI (5)), .int (iI (0))]) (t_X8_blames l Y (σ) (i) (5) (0) (by first | assumption | omega)) (cwV 3 hts gX8_readsPoint_X8_blames rfl rfl rfl (by decide +kernel) ⟨Nat.le_of_ble_eq_true rfl, Nat.le_of_ble_eq_true rfl⟩) (k := 0) (Nat.le_of_ble_eq_true rfl) rfl rfl rfl rfl hl.1 rfl (Nat.le_of_ble_eq_true rfl) dX8_readsPoint_10 ⟨Nat.le_refl _, Nat.le_refl _⟩ (fun u10 H locs hq10 X => ?_)
    refine lv_iconst (v := iI 0) hx hb dX8_readsPoint_13 rfl ?_
    exact hret _ _ _ _ _ _ (⟨Or.inl ⟨(5, -1), Or.inl ⟨by omega, rfl⟩, rfl, by rw [← hi.1]; have e := hq10.1; rw [if_pos rfl] at e; exact e⟩, hq10.2.1, hq10.2.2.2⟩) X dX8_readsPoint_14

