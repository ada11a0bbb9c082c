set_option maxHeartbeats 4000000 in
set_option maxRecDepth 100000 in
theorem t_X8_rise (l : Launch) (Y : Yt) (σ : Mem) (P : List Pt) (a : Int) (b : Int) (d : Int) (hMG : MG σ P) (ha : 0 ≤ a ∧ a < ng P) (hb0 : 0 ≤ b ∧ b < ng P) (hd : 0 ≤ d ∧ d < ng P) : MXl l LM Y yX8_rise wsX8_rise { frames := 0, cells := 0, slots := 0, locals := 0 } [.ref (Y.2.1 (0)), .int (iI (a)), .int (iI (b)), .int (iI (d))] σ (fun z u => u = σ ∧ ((z = -1 ∧ sD (gX P) (gW P) (gM P) a b d < 0) ∨ (z = 0 ∧ sD (gX P) (gW P) (gM P) a b d = 0) ∨ (z = 1 ∧ 0 < sD (gX P) (gW P) (gM P) a b d))) := by
  obtain ⟨hP, hok, hG⟩ := id hMG
  have hPr := hMG.prof
  obtain ⟨⟨hn0, hn12, hW0, hM0, hW24⟩, hstep, hXa, hXr⟩ := id hPr
  have hga := hG.2 a (by omega) (by omega)
  have hra := gr_rg hPr (g := a) (by omega)
  obtain ⟨ma, hma⟩ : ∃ ma : Int, ma = gM P (a + 1) - gM P a := ⟨_, rfl⟩
  obtain ⟨wa, hwa⟩ : ∃ wa : Int, wa = gW P (a + 1) - gW P a := ⟨_, rfl⟩
  obtain ⟨xa, hxa⟩ : ∃ xa : Int, xa = gX P a := ⟨_, rfl⟩
  have hxra := hXr a (by omega) (by omega)
  rw [← hma, ← hwa] at hra
  rw [← hxa] at hxra
  have hgb := hG.2 b (by omega) (by omega)
  have hrb := gr_rg hPr (g := b) (by omega)
  obtain ⟨mb, hmb⟩ : ∃ mb : Int, mb = gM P (b + 1) - gM P b := ⟨_, rfl⟩
  obtain ⟨wb, hwb⟩ : ∃ wb : Int, wb = gW P (b + 1) - gW P b := ⟨_, rfl⟩
  obtain ⟨xb, hxb⟩ : ∃ xb : Int, xb = gX P b := ⟨_, rfl⟩
  have hxrb := hXr b (by omega) (by omega)
  rw [← hmb, ← hwb] at hrb
  rw [← hxb] at hxrb
  have hgd := hG.2 d (by omega) (by omega)
  have hrd := gr_rg hPr (g := d) (by omega)
  obtain ⟨md, hmd⟩ : ∃ md : Int, md = gM P (d + 1) - gM P d := ⟨_, rfl⟩
  obtain ⟨wd, hwd⟩ : ∃ wd : Int, wd = gW P (d + 1) - gW P d := ⟨_, rfl⟩
  obtain ⟨xd, hxd⟩ : ∃ xd : Int, xd = gX P d := ⟨_, rfl⟩
  have hxrd := hXr d (by omega) (by omega)
  rw [← hmd, ← hwd] at hrd
  rw [← hxd] at hxrd
  have k1 := mul_rg (a := mb) (b := wa) (A := 2376) (B := 24) (by omega) (by omega)
  have k2 := mul_rg (a := ma) (b := wb) (A := 2376) (B := 24) (by omega) (by omega)
  have k3 := mul_rg (a := md) (b := wa) (A := 2376) (B := 24) (by omega) (by omega)
  have k4 := mul_rg (a := ma) (b := wd) (A := 2376) (B := 24) (by omega) (by omega)
  have k5 := mul_rg (a := mb * wa - ma * wb) (b := wd) (A := 114048) (B := 24) (by omega) (by omega)
  have k6 := mul_rg (a := (mb * wa - ma * wb) * wd) (b := xd - xa) (A := 2737152) (B := 40) (by omega) (by omega)
  have k7 := mul_rg (a := md * wa - ma * wd) (b := wb) (A := 114048) (B := 24) (by omega) (by omega)
  have k8 := mul_rg (a := (md * wa - ma * wd) * wb) (b := xb - xa) (A := 2737152) (B := 40) (by omega) (by omega)
  have hsd : sD (gX P) (gW P) (gM P) a b d = (mb * wa - ma * wb) * wd * (xd - xa) - (md * wa - ma * wd) * wb * (xb - xa) := by rw [hma, hmb, hmd, hwa, hwb, hwd, hxa, hxb, hxd]; rfl
  refine g_startl (cc := cX8_rise) (nL := 8) (own := RX8) (by decide) rfl rfl (Nat.le_of_ble_eq_true rfl) ?_
  intro pp ee ss mm bw mt cd AA ZZ ls G hret X hl
  have hl : lv_has ls 8 [(0, .ref (Y.2.1 (0))), (1, .int (iI (a))), (2, .int (iI (b))), (3, .int (iI (d)))] := hl
  have hx := G.1
  have hb := G.2.1
  have hts := G.2.2.2.2.1
  have l_f26 := hts (.fieldLink RX8 26 "ShapeFitsModel" "spot" "[I") (List.mem_of_getElem? (i := 3) rfl)
  have l_f29 := hts (.fieldLink RX8 29 "ShapeFitsModel" "weight" "[I") (List.mem_of_getElem? (i := 2) rfl)
  have l_f32 := hts (.fieldLink RX8 32 "ShapeFitsModel" "moment" "[I") (List.mem_of_getElem? (i := 1) rfl)
  have l_k123 := hts (.constantLong RX8 123 (-1)) (List.mem_of_getElem? (i := 4) rfl)
  have in_X8 : ∀ w ∈ u_ws RX8 TX8 24, w ∈ wsX8_rise := by decide +kernel
  refine lv_aload_n hx hb dX8_rise_0 rfl (lv_at hl 0 rfl) ?_
  refine g_get G X (k := 0) (fs := fM Y) (Nat.le_of_ble_eq_true rfl) (fun _ => rfl) rfl in_X8 11 (by decide) l_f32 rfl (v := .ref (Y.2.1 (8))) rfl dX8_rise_1 ?_
  refine lv_iload_n hx hb dX8_rise_4 rfl (lv_at hl 2 rfl) ?_
  refine g_iald G X (k := 8) (n := 12) (Nat.le_of_ble_eq_true rfl) (fun _ => rfl) (by decide) (z := b) (by omega) dX8_rise_5 ?_
  refine g_topi (z' := mb) (by rw [hmb]; exact hgb.2.2) ?_
  refine lv_aload_n hx hb dX8_rise_6 rfl (lv_at hl 0 rfl) ?_
  refine g_get G X (k := 0) (fs := fM Y) (Nat.le_of_ble_eq_true rfl) (fun _ => rfl) rfl in_X8 10 (by decide) l_f29 rfl (v := .ref (Y.2.1 (7))) rfl dX8_rise_7 ?_
  refine lv_iload_n hx hb dX8_rise_10 rfl (lv_at hl 1 rfl) ?_
  refine g_iald G X (k := 7) (n := 12) (Nat.le_of_ble_eq_true rfl) (fun _ => rfl) (by decide) (z := a) (by omega) dX8_rise_11 ?_
  refine g_topi (z' := wa) (by rw [hwa]; exact hga.2.1) ?_
  refine g_imul G dX8_rise_12 ?_
  refine lv_aload_n hx hb dX8_rise_13 rfl (lv_at hl 0 rfl) ?_
  refine g_get G X (k := 0) (fs := fM Y) (Nat.le_of_ble_eq_true rfl) (fun _ => rfl) rfl in_X8 11 (by decide) l_f32 rfl (v := .ref (Y.2.1 (8))) rfl dX8_rise_14 ?_
  refine lv_iload_n hx hb dX8_rise_17 rfl (lv_at hl 1 rfl) ?_
  refine g_iald G X (k := 8) (n := 12) (Nat.le_of_ble_eq_true rfl) (fun _ => rfl) (by decide) (z := a) (by omega) dX8_rise_18 ?_
  refine g_topi (z' := ma) (by rw [hma]; exact hga.2.2) ?_
  refine lv_aload_n hx hb dX8_rise_19 rfl (lv_at hl 0 rfl) ?_
  refine g_get G X (k := 0) (fs := fM Y) (Nat.le_of_ble_eq_true rfl) (fun _ => rfl) rfl in_X8 10 (by decide) l_f29 rfl (v := .ref (Y.2.1 (7))) rfl dX8_rise_20 ?_
  refine lv_iload_n hx hb dX8_rise_23 rfl (lv_at hl 2 rfl) ?_
  refine g_iald G X (k := 7) (n := 12) (Nat.le_of_ble_eq_true rfl) (fun _ => rfl) (by decide) (z := b) (by omega) dX8_rise_24 ?_
  refine g_topi (z' := wb) (by rw [hwb]; exact hgb.2.1) ?_
  refine g_imul G dX8_rise_25 ?_
  refine g_isub G dX8_rise_26 ?_
  refine g_i2l G (by omega) dX8_rise_27 ?_
  refine lv_aload_n hx hb dX8_rise_28 rfl (lv_at hl 0 rfl) ?_
  refine g_get G X (k := 0) (fs := fM Y) (Nat.le_of_ble_eq_true rfl) (fun _ => rfl) rfl in_X8 10 (by decide) l_f29 rfl (v := .ref (Y.2.1 (7))) rfl dX8_rise_29 ?_
  refine lv_iload_n hx hb dX8_rise_32 rfl (lv_at hl 3 rfl) ?_
  refine g_iald G X (k := 7) (n := 12) (Nat.le_of_ble_eq_true rfl) (fun _ => rfl) (by decide) (z := d) (by omega) dX8_rise_33 ?_
  refine g_topi (z' := wd) (by rw [hwd]; exact hgd.2.1) ?_
  refine g_i2l G (by omega) dX8_rise_34 ?_
  refine g_lmul G dX8_rise_35 ?_
  refine lv_aload_n hx hb dX8_rise_36 rfl (lv_at hl 0 rfl) ?_
  refine g_get G X (k := 0) (fs := fM Y) (Nat.le_of_ble_eq_true rfl) (fun _ => rfl) rfl in_X8 9 (by decide) l_f26 rfl (v := .ref (Y.2.1 (6))) rfl dX8_rise_37 ?_
  refine lv_iload_n hx hb dX8_rise_40 rfl (lv_at hl 3 rfl) ?_
  refine g_iald G X (k := 6) (n := 12) (Nat.le_of_ble_eq_true rfl) (fun _ => rfl) (by decide) (z := d) (by omega) dX8_rise_41 ?_
  refine g_topi (z' := xd) (by rw [hxd]; exact hgd.1) ?_
  refine lv_aload_n hx hb dX8_rise_42 rfl (lv_at hl 0 rfl) ?_
  refine g_get G X (k := 0) (fs := fM Y) (Nat.le_of_ble_eq_true rfl) (fun _ => rfl) rfl in_X8 9 (by decide) l_f26 rfl (v := .ref (Y.2.1 (6))) rfl dX8_rise_43 ?_
  refine lv_iload_n hx hb dX8_rise_46 rfl (lv_at hl 1 rfl) ?_
  refine g_iald G X (k := 6) (n := 12) (Nat.le_of_ble_eq_true rfl) (fun _ => rfl) (by decide) (z := a) (by omega) dX8_rise_47 ?_
  refine g_topi (z' := xa) (by rw [hxa]; exact hga.1) ?_
  refine g_isub G dX8_rise_48 ?_
  refine g_i2l G (by omega) dX8_rise_49 ?_
  refine g_lmul G dX8_rise_50 ?_
  refine lv_lstore (lv' := [(4, .long (lI (((((mb * wa) - (ma * wb)) * wd) * (xd - xa))))), (0, .ref (Y.2.1 (0))), (1, .int (iI (a))), (2, .int (iI (b))), (3, .int (iI (d)))]) hx hb dX8_rise_51 hl (by decide) rfl (fun ls hl => ?_)
  refine lv_aload_n hx hb dX8_rise_53 rfl (lv_at hl 1 rfl) ?_
  refine g_get G X (k := 0) (fs := fM Y) (Nat.le_of_ble_eq_true rfl) (fun _ => rfl) rfl in_X8 11 (by decide) l_f32 rfl (v := .ref (Y.2.1 (8))) rfl dX8_rise_54 ?_
  refine lv_iload_n hx hb dX8_rise_57 rfl (lv_at hl 4 rfl) ?_
  refine g_iald G X (k := 8) (n := 12) (Nat.le_of_ble_eq_true rfl) (fun _ => rfl) (by decide) (z := d) (by omega) dX8_rise_58 ?_
  refine g_topi (z' := md) (by rw [hmd]; exact hgd.2.2) ?_
  refine lv_aload_n hx hb dX8_rise_59 rfl (lv_at hl 1 rfl) ?_
  refine g_get G X (k := 0) (fs := fM Y) (Nat.le_of_ble_eq_true rfl) (fun _ => rfl) rfl in_X8 10 (by decide) l_f29 rfl (v := .ref (Y.2.1 (7))) rfl dX8_rise_60 ?_
  refine lv_iload_n hx hb dX8_rise_63 rfl (lv_at hl 2 rfl) ?_
  refine g_iald G X (k := 7) (n := 12) (Nat.le_of_ble_eq_true rfl) (fun _ => rfl) (by decide) (z := a) (by omega) dX8_rise_64 ?_
  refine g_topi (z' := wa) (by rw [hwa]; exact hga.2.1) ?_
  refine g_imul G dX8_rise_65 ?_
  refine lv_aload_n hx hb dX8_rise_66 rfl (lv_at hl 1 rfl) ?_
  refine g_get G X (k := 0) (fs := fM Y) (Nat.le_of_ble_eq_true rfl) (fun _ => rfl) rfl in_X8 11 (by decide) l_f32 rfl (v := .ref (Y.2.1 (8))) rfl dX8_rise_67 ?_
  refine lv_iload_n hx hb dX8_rise_70 rfl (lv_at hl 2 rfl) ?_
  refine g_iald G X (k := 8) (n := 12) (Nat.le_of_ble_eq_true rfl) (fun _ => rfl) (by decide) (z := a) (by omega) dX8_rise_71 ?_
  refine g_topi (z' := ma) (by rw [hma]; exact hga.2.2) ?_
  refine lv_aload_n hx hb dX8_rise_72 rfl (lv_at hl 1 rfl) ?_
  refine g_get G X (k := 0) (fs := fM Y) (Nat.le_of_ble_eq_true rfl) (fun _ => rfl) rfl in_X8 10 (by decide) l_f29 rfl (v := .ref (Y.2.1 (7))) rfl dX8_rise_73 ?_
  refine lv_iload_n hx hb dX8_rise_76 rfl (lv_at hl 4 rfl) ?_
  refine g_iald G X (k := 7) (n := 12) (Nat.le_of_ble_eq_true rfl) (fun _ => rfl) (by decide) (z := d) (by omega) dX8_rise_77 ?_
  refine g_topi (z' := wd) (by rw [hwd]; exact hgd.2.1) ?_
  refine g_imul G dX8_rise_78 ?_
  refine g_isub G dX8_rise_79 ?_
  refine g_i2l G (by omega) dX8_rise_80 ?_
  refine lv_aload_n hx hb dX8_rise_81 rfl (lv_at hl 1 rfl) ?_
  refine g_get G X (k := 0) (fs := fM Y) (Nat.le_of_ble_eq_true rfl) (fun _ => rfl) rfl in_X8 10 (by decide) l_f29 rfl (v := .ref (Y.2.1 (7))) rfl dX8_rise_82 ?_
  refine lv_iload_n hx hb dX8_rise_85 rfl (lv_at hl 3 rfl) ?_
  refine g_iald G X (k := 7) (n := 12) (Nat.le_of_ble_eq_true rfl) (fun _ => rfl) (by decide) (z := b) (by omega) dX8_rise_86 ?_
  refine g_topi (z' := wb) (by rw [hwb]; exact hgb.2.1) ?_
  refine g_i2l G (by omega) dX8_rise_87 ?_
  refine g_lmul G dX8_rise_88 ?_
  refine lv_aload_n hx hb dX8_rise_89 rfl (lv_at hl 1 rfl) ?_
  refine g_get G X (k := 0) (fs := fM Y) (Nat.le_of_ble_eq_true rfl) (fun _ => rfl) rfl in_X8 9 (by decide) l_f26 rfl (v := .ref (Y.2.1 (6))) rfl dX8_rise_90 ?_
  refine lv_iload_n hx hb dX8_rise_93 rfl (lv_at hl 3 rfl) ?_
  refine g_iald G X (k := 6) (n := 12) (Nat.le_of_ble_eq_true rfl) (fun _ => rfl) (by decide) (z := b) (by omega) dX8_rise_94 ?_
  refine g_topi (z' := xb) (by rw [hxb]; exact hgb.1) ?_
  refine lv_aload_n hx hb dX8_rise_95 rfl (lv_at hl 1 rfl) ?_
  refine g_get G X (k := 0) (fs := fM Y) (Nat.le_of_ble_eq_true rfl) (fun _ => rfl) rfl in_X8 9 (by decide) l_f26 rfl (v := .ref (Y.2.1 (6))) rfl dX8_rise_96 ?_
  refine lv_iload_n hx hb dX8_rise_99 rfl (lv_at hl 2 rfl) ?_
  refine g_iald G X (k := 6) (n := 12) (Nat.le_of_ble_eq_true rfl) (fun _ => rfl) (by decide) (z := a) (by omega) dX8_rise_100 ?_
  refine g_topi (z' := xa) (by rw [hxa]; exact hga.1) ?_
  refine g_isub G dX8_rise_101 ?_
  refine g_i2l G (by omega) dX8_rise_102 ?_
  refine g_lmul G dX8_rise_103 ?_
  refine lv_lstore (lv' := [(6, .long (lI (((((md * wa) - (ma * wd)) * wb) * (xb - xa))))), (4, .long (lI (((((mb * wa) - (ma * wb)) * wd) * (xd - xa))))), (0, .ref (Y.2.1 (0))), (1, .int (iI (a))), (2, .int (iI (b))), (3, .int (iI (d)))]) hx hb dX8_rise_104 hl (by decide) rfl (fun ls hl => ?_)
  refine lv_lload hx hb dX8_rise_106 (lv_at hl 1 rfl) ?_
  refine lv_lload hx hb dX8_rise_108 (lv_at hl 0 rfl) ?_
  refine g_lif_ge (tgt := 120) G dX8_rise_110 dX8_rise_111 (by decide) (by omega) (by omega) (fun h110 => ?_) (fun h110 => ?_)
  ·
    refine lv_lload hx hb dX8_rise_120 (lv_at hl 1 rfl) ?_
    refine lv_lload hx hb dX8_rise_122 (lv_at hl 0 rfl) ?_
    refine g_lif_ne (tgt := 132) G dX8_rise_124 dX8_rise_125 (by decide) (by omega) (by omega) (fun h124 => ?_) (fun h124 => ?_)
    ·
      refine lv_lconst (v := lI 1) hx hb dX8_rise_132 (by decide +kernel) ?_
      exact hret _ _ _ _ _ _ (⟨rfl, by omega⟩) X dX8_rise_133
    ·
      refine lv_lconst (v := lI 0) hx hb dX8_rise_128 (by decide +kernel) ?_
      refine lv_goto (tgt := 133) hx hb dX8_rise_129 (by decide) ?_
      exact hret _ _ _ _ _ _ (⟨rfl, by omega⟩) X dX8_rise_133
  ·
    refine g_ldc2 G (z := (-1)) l_k123 (by decide +kernel) dX8_rise_114 ?_
    refine lv_goto (tgt := 133) hx hb dX8_rise_117 (by decide) ?_
    exact hret _ _ _ _ _ _ (⟨rfl, by omega⟩) X dX8_rise_133

set_option maxHeartbeats 4000000 in
set_option maxRecDepth 100000 in
theorem t_X8_bends (l : Launch) (Y : Yt) (σ : Mem) (P : List Pt) (side : Int) (hMG : MG σ P) (hs : side = 1 ∨ side = -1) : MXv l LM Y yX8_bends wsX8_bends { frames := 1, cells := 0, slots := 0, locals := 27 } [.ref (Y.2.1 (0)), .int (iI (side))] σ (fun u => (MHul u (hulC P side) ∧ HullI (hulD P side) (ng P) (hulC P side)) ∧ Fr 12 12 16 16 σ u) := by
  obtain ⟨hP, hok, hG⟩ := id hMG
  have hPr := hMG.prof
  obtain ⟨⟨hn0, hn12, hW0, hM0, hW24⟩, hstep, hXa, hXr⟩ := id hPr
  refine g_startv (cc := cX8_bends) (nL := 5) (own := RX8) (by decide) rfl rfl (Nat.le_of_ble_eq_true rfl) ?_
  intro pp ee ss mm bw mt cd AA ZZ ls G hret X hl
  have hl : lv_has ls 5 [(0, .ref (Y.2.1 (0))), (1, .int (iI (side)))] := hl
  have hx := G.1
  have hb := G.2.1
  have hts := G.2.2.2.2.1
  have l_f44 := hts (.fieldLink RX8 44 "ShapeFitsModel" "corner" "[I") (List.mem_of_getElem? (i := 3) rfl)
  have l_f72 := hts (.fieldLink RX8 72 "ShapeFitsModel" "groups" "I") (List.mem_of_getElem? (i := 2) rfl)
  have l_f125 := hts (.fieldLink RX8 125 "ShapeFitsModel" "corners" "I") (List.mem_of_getElem? (i := 1) rfl)
  have in_X8 : ∀ w ∈ u_ws RX8 TX8 24, w ∈ wsX8_bends := by decide +kernel
  refine lv_aload_n hx hb dX8_bends_0 rfl (lv_at hl 0 rfl) ?_
  refine lv_iconst (v := iI 0) hx hb dX8_bends_1 rfl ?_
  refine g_puti G X (k := 0) (fs := fM Y) (z := 0) (Nat.le_of_ble_eq_true rfl) (fun _ => rfl) rfl in_X8 tyX8 tyX8_ok nmX8 16 16 (by decide) l_f125 rfl rfl (by decide +kernel) (Nat.le_of_ble_eq_true rfl) (fun _ => rfl) dX8_bends_2 (fun H locs X => ?_)
  have hF0 : Fr 12 12 16 16 σ (up σ 0 16 0) := Fr.rf.fl (Or.inl rfl)
  refine lv_iconst (v := iI 0) hx hb dX8_bends_5 rfl ?_
  refine lv_istore_n (lv' := [(2, .int (iI (0))), (0, .ref (Y.2.1 (0))), (1, .int (iI (side)))]) hx hb dX8_bends_6 rfl hl (by decide) rfl (fun ls hl => ?_)
  refine lv_aload_n hx hb dX8_bends_7 rfl (lv_at hl 1 rfl) ?_
  refine g_get G X (k := 0) (fs := fM Y) (Nat.le_of_ble_eq_true rfl) (fun _ => rfl) rfl in_X8 8 (by decide) l_f72 rfl (v := .int (iI ((σ 0 8)))) rfl dX8_bends_8 ?_
  refine g_topi (z' := ng P) ((hMG.fr hF0 (by omega) (by omega)).2.2.1) ?_
  refine g_if_le (tgt := 26) G dX8_bends_11 (by decide) (by omega) (fun h11 => ?_) (fun h11 => ?_)
  ·
    have hn0e : ng P = 0 := by omega
    obtain ⟨C0, hC0⟩ : ∃ C0 : List Int, C0 = [] := ⟨_, rfl⟩
    have hMe : MHul (up σ 0 16 0) C0 := by rw [hC0]; exact ⟨up_same _ _ _ _, fun j h0 h1 => by simp at h1; omega⟩
    have hFe := hF0
    have hHe : (0 < ng P → HBI (fun i j k => side * sD (gX P) (gW P) (gM P) i j k) (ng P) 0 C0) ∧ (ng P = 0 → C0 = []) := ⟨fun h => absurd h (by omega), fun _ => hC0⟩
    have lp_26 : ∀ (nn : Nat) (a : Int) (C : List Int) (τ : Mem), ∀ ha : 0 ≤ a ∧ (0 < ng P → a < ng P) ∧ (ng P = 0 → a = 0), ∀ hM : MHul τ C, ∀ hH : (0 < ng P → HBI (fun i j k => side * sD (gX P) (gW P) (gM P) i j k) (ng P) a C) ∧ (ng P = 0 → C = []), ∀ hF : Fr 12 12 16 16 σ τ, ∀ hdec : (ng P - a) < (nn : Int), ∀ (H : Heap) (locs : List Loc) (ls : Array Slot), wx LM Y τ ss AA H locs → lv_has ls 5 [(0, .ref (Y.2.1 (0))), (1, .int (iI (side))), (2, .int (iI (a)))] → W pp l ee { frames := 1, cells := 0, slots := 0, locals := 27 } ss mm ([.ref (Y.2.1 (0)), .int (iI (side))] : List Value).toArray bw mt cd H locs 0 0 ZZ (F0 mm 26 ls []) := by
      intro nn
      induction nn with
      | zero =>
        intro a C τ ha hM hH hF hdec
        exact absurd hdec (by omega)
      | succ nn ih_26 =>
        intro a C τ ha hM hH hF hdec H locs ls X hl
        have hMT := hMG.fr hF (by omega) (by omega)
        have hCl : 0 < ng P → (C.length : Int) ≤ a + 1 := fun h => (hH.1 h).2.2
        refine lv_iload_n hx hb dX8_bends_26 rfl (lv_at hl 2 rfl) ?_
        refine lv_aload_n hx hb dX8_bends_27 rfl (lv_at hl 0 rfl) ?_
        refine g_get G X (k := 0) (fs := fM Y) (Nat.le_of_ble_eq_true rfl) (fun _ => rfl) rfl in_X8 8 (by decide) l_f72 rfl (v := .int (iI ((τ 0 8)))) rfl dX8_bends_28 ?_
        refine g_topi (z' := ng P) (hMT.2.2.1) ?_
        refine lv_iconst (v := iI 1) hx hb dX8_bends_31 rfl ?_
        refine g_isub G dX8_bends_32 ?_
        refine g_icmp_ge (tgt := 108) G dX8_bends_33 (by decide) (by omega) (by omega) (fun h33 => ?_) (fun h33 => ?_)
        ·
          have hHul : HullI (hulD P side) (ng P) C := by { by_cases q : 0 < ng P; exact hbi_e (hH.1 q) (by omega) q; (rw [hH.2 (by omega)]; exact hull_0 (by omega)) }
          have hCe := hulC_eq hHul
          exact hret _ _ _ _ _ (⟨⟨by rw [hCe]; exact hM, by rw [hCe]; exact hHul⟩, hF⟩) X dX8_bends_108
        ·
          refine lv_iload_n hx hb dX8_bends_36 rfl (lv_at hl 2 rfl) ?_
          refine lv_iconst (v := iI 1) hx hb dX8_bends_37 rfl ?_
          refine g_iadd G dX8_bends_38 ?_
          refine lv_istore_n (lv' := [(3, .int (iI ((a + 1)))), (0, .ref (Y.2.1 (0))), (1, .int (iI (side))), (2, .int (iI (a)))]) hx hb dX8_bends_39 rfl hl (by decide) rfl (fun ls hl => ?_)
          refine lv_iload_n hx hb dX8_bends_40 rfl (lv_at hl 3 rfl) ?_
          refine lv_iconst (v := iI 2) hx hb dX8_bends_41 rfl ?_
          refine g_iadd G dX8_bends_42 ?_
          refine lv_istore (lv' := [(4, .int (iI ((a + 2)))), (3, .int (iI ((a + 1)))), (0, .ref (Y.2.1 (0))), (1, .int (iI (side))), (2, .int (iI (a)))]) hx hb dX8_bends_43 hl (by decide) rfl (fun ls hl => ?_)
          have lp_45 : ∀ (nn : Nat) (b g : Int), ∀ hb2 : (a < b ∧ b < g) ∧ g ≤ ng P, ∀ hN : NxI (fun i j k => side * sD (gX P) (gW P) (gM P) i j k) a b g, ∀ hdec : (ng P - g) < (nn : Int), ∀ (H : Heap) (locs : List Loc) (ls : Array Slot), wx LM Y τ ss AA H locs → lv_has ls 5 [(0, .ref (Y.2.1 (0))), (1, .int (iI (side))), (2, .int (iI (a))), (3, .int (iI (b))), (4, .int (iI (g)))] → W pp l ee { frames := 1, cells := 0, slots := 0, locals := 27 } ss mm ([.ref (Y.2.1 (0)), .int (iI (side))] : List Value).toArray bw mt cd H locs 0 0 ZZ (F0 mm 45 ls []) := by
            intro nn
            induction nn with
            | zero =>
              intro b g hb2 hN hdec
              exact absurd hdec (by omega)
            | succ nn ih_45 =>
              intro b g hb2 hN hdec H locs ls X hl
              refine lv_iload hx hb dX8_bends_45 (lv_at hl 4 rfl) ?_
              refine lv_aload_n hx hb dX8_bends_47 rfl (lv_at hl 0 rfl) ?_
              refine g_get G X (k := 0) (fs := fM Y) (Nat.le_of_ble_eq_true rfl) (fun _ => rfl) rfl in_X8 8 (by decide) l_f72 rfl (v := .int (iI ((τ 0 8)))) rfl dX8_bends_48 ?_
              refine g_topi (z' := ng P) (hMT.2.2.1) ?_
              refine g_icmp_ge (tgt := 83) G dX8_bends_51 (by decide) (by omega) (by omega) (fun h51 => ?_) (fun h51 => ?_)
              ·
                refine lv_iload_n hx hb dX8_bends_83 rfl (lv_at hl 3 rfl) ?_
                refine lv_istore_n (lv' := [(2, .int (iI (b))), (0, .ref (Y.2.1 (0))), (1, .int (iI (side))), (3, .int (iI (b))), (4, .int (iI (g)))]) hx hb dX8_bends_84 rfl hl (by decide) rfl (fun ls hl => ?_)
                refine lv_aload_n hx hb dX8_bends_85 rfl (lv_at hl 1 rfl) ?_
                refine g_get G X (k := 0) (fs := fM Y) (Nat.le_of_ble_eq_true rfl) (fun _ => rfl) rfl in_X8 17 (by decide) l_f44 rfl (v := .ref (Y.2.1 (12))) rfl dX8_bends_86 ?_
                refine lv_aload_n hx hb dX8_bends_89 rfl (lv_at hl 1 rfl) ?_
                refine g_get G X (k := 0) (fs := fM Y) (Nat.le_of_ble_eq_true rfl) (fun _ => rfl) rfl in_X8 16 (by decide) l_f125 rfl (v := .int (iI ((τ 0 16)))) rfl dX8_bends_90 ?_
                refine g_topi (z' := (C.length : Int)) hM.1 ?_
                refine lv_iload_n hx hb dX8_bends_93 rfl (lv_at hl 0 rfl) ?_
                refine g_iast G X (k := 12) (n := 13) (Nat.le_of_ble_eq_true rfl) (fun _ => rfl) (by decide) (z := (C.length : Int)) (v := b) (by omega) dX8_bends_94 (fun H locs X => ?_)
                refine lv_aload_n hx hb dX8_bends_95 rfl (lv_at hl 1 rfl) ?_
                refine lv_dup hx hb dX8_bends_96 rfl ?_
                refine g_get G X (k := 0) (fs := fM Y) (Nat.le_of_ble_eq_true rfl) (fun _ => rfl) rfl in_X8 16 (by decide) l_f125 rfl (v := .int (iI ((τ 0 16)))) rfl dX8_bends_97 ?_
                refine g_topi (z' := (C.length : Int)) hM.1 ?_
                refine lv_iconst (v := iI 1) hx hb dX8_bends_100 rfl ?_
                refine g_iadd G dX8_bends_101 ?_
                refine g_puti G X (k := 0) (fs := fM Y) (z := ((C.length : Int) + 1)) (Nat.le_of_ble_eq_true rfl) (fun _ => rfl) rfl in_X8 tyX8 tyX8_ok nmX8 16 16 (by decide) l_f125 rfl rfl (by decide +kernel) (Nat.le_of_ble_eq_true rfl) (fun _ => rfl) dX8_bends_102 (fun H locs X => ?_)
                refine lv_goto (tgt := 26) hx hb dX8_bends_105 (by decide) ?_
                exact ih_26 (b) (C ++ [b]) ((up (up τ 12 (C.length : Int) b) 0 16 ((C.length : Int) + 1))) (by omega) (mhul_push hM) ⟨fun h => hbi_s (hH.1 h) (by omega) hN (by omega), fun h => absurd h (by omega)⟩ ((hF.pl (by omega)).fl (Or.inl rfl)) (by omega) _ _ _ X (lv_sub hl [1, 2, 0] rfl)
              ·
                refine lv_iload_n hx hb dX8_bends_54 rfl (lv_at hl 1 rfl) ?_
                refine g_i2l G (by omega) dX8_bends_55 ?_
                refine lv_aload_n hx hb dX8_bends_56 rfl (lv_at hl 0 rfl) ?_
                refine lv_iload_n hx hb dX8_bends_57 rfl (lv_at hl 2 rfl) ?_
                refine lv_iload hx hb dX8_bends_58 (lv_at hl 4 rfl) ?_
                refine lv_iload_n hx hb dX8_bends_60 rfl (lv_at hl 3 rfl) ?_
                refine g_callVl G X (rest := [.long (lI (side))]) (As := [.int (iI (a)), .int (iI (g)), .int (iI (b))]) (t_X8_rise l Y (τ) P (a) (g) (b) hMT (by first | assumption | omega) (by first | assumption | omega) (by first | assumption | omega)) (cwV 3 hts gX8_bends_X8_rise rfl rfl rfl (by decide +kernel) ⟨Nat.le_of_ble_eq_true rfl, Nat.le_of_ble_eq_true rfl⟩) (k := 0) (Nat.le_of_ble_eq_true rfl) rfl rfl rfl rfl hl.1 rfl (Nat.le_of_ble_eq_true rfl) dX8_bends_61 ⟨Nat.le_refl _, Nat.le_refl _⟩ (fun z61 u61 H locs hq61 X => ?_)
                rw [hq61.1] at X
                have hq61 := hq61.2
                try dsimp only at hq61
                have hrs : (0 < side * z61 ↔ 0 < side * sD (gX P) (gW P) (gM P) a g b) ∧ -1 ≤ side * z61 ∧ side * z61 ≤ 1 := by rcases hs with rfl | rfl <;> omega
                refine g_lmul G dX8_bends_64 ?_
                refine lv_lconst (v := lI 0) hx hb dX8_bends_65 (by decide +kernel) ?_
                refine g_lif_gt (tgt := 75) G dX8_bends_66 dX8_bends_67 (by decide) (by omega) (by omega) (fun h66 => ?_) (fun h66 => ?_)
                ·
                  refine lv_iload_n hx hb dX8_bends_75 rfl (lv_at hl 3 rfl) ?_
                  refine lv_istore_n (lv' := [(3, .int (iI (b))), (0, .ref (Y.2.1 (0))), (1, .int (iI (side))), (2, .int (iI (a))), (4, .int (iI (g)))]) hx hb dX8_bends_76 rfl hl (by decide) rfl (fun ls hl => ?_)
                  refine lv_iinc (v := iI (g + 1)) (lv' := [(4, .int (iI ((g + 1)))), (3, .int (iI (b))), (0, .ref (Y.2.1 (0))), (1, .int (iI (side))), (2, .int (iI (a)))]) hx hb dX8_bends_77 hl (k := 4) rfl (iI_add _ _) (by decide) rfl (fun ls hl => ?_)
                  refine lv_goto (tgt := 45) hx hb dX8_bends_80 (by decide) ?_
                  exact ih_45 (b) ((g + 1)) (by omega) (by first | exact nxI_keep hN (by omega) | exact nxI_take hPr (by omega) hN (by omega)) (by omega) _ _ _ X (lv_sub hl [2, 3, 4, 1, 0] rfl)
                ·
                  refine lv_iload hx hb dX8_bends_70 (lv_at hl 4 rfl) ?_
                  refine lv_goto (tgt := 76) hx hb dX8_bends_72 (by decide) ?_
                  refine lv_istore_n (lv' := [(3, .int (iI (g))), (0, .ref (Y.2.1 (0))), (1, .int (iI (side))), (2, .int (iI (a))), (4, .int (iI (g)))]) hx hb dX8_bends_76 rfl hl (by decide) rfl (fun ls hl => ?_)
                  refine lv_iinc (v := iI (g + 1)) (lv' := [(4, .int (iI ((g + 1)))), (3, .int (iI (g))), (0, .ref (Y.2.1 (0))), (1, .int (iI (side))), (2, .int (iI (a)))]) hx hb dX8_bends_77 hl (k := 4) rfl (iI_add _ _) (by decide) rfl (fun ls hl => ?_)
                  refine lv_goto (tgt := 45) hx hb dX8_bends_80 (by decide) ?_
                  exact ih_45 (g) ((g + 1)) (by omega) (by first | exact nxI_keep hN (by omega) | exact nxI_take hPr (by omega) hN (by omega)) (by omega) _ _ _ X (lv_sub hl [2, 3, 4, 1, 0] rfl)
          exact lp_45 ((((ng P - ((a + 2))) : Int).toNat + 1)) ((a + 1)) ((a + 2)) (by omega) ⟨fun h h0 h1 => absurd h0 (by omega), fun h h0 h1 => absurd h0 (by omega)⟩ (by omega) _ _ _ X (lv_sub hl [2, 3, 4, 1, 0] rfl)
    exact lp_26 ((((ng P - (0)) : Int).toNat + 1)) (0) (C0) ((up σ 0 16 0)) (by omega) hMe hHe hFe (by omega) _ _ _ X (lv_sub hl [1, 2, 0] rfl)
  ·
    refine lv_aload_n hx hb dX8_bends_14 rfl (lv_at hl 1 rfl) ?_
    refine g_get G X (k := 0) (fs := fM Y) (Nat.le_of_ble_eq_true rfl) (fun _ => rfl) rfl in_X8 17 (by decide) l_f44 rfl (v := .ref (Y.2.1 (12))) rfl dX8_bends_15 ?_
    refine lv_iconst (v := iI 0) hx hb dX8_bends_18 rfl ?_
    refine lv_iconst (v := iI 0) hx hb dX8_bends_19 rfl ?_
    refine g_iast G X (k := 12) (n := 13) (Nat.le_of_ble_eq_true rfl) (fun _ => rfl) (by decide) (z := 0) (v := 0) (by omega) dX8_bends_20 (fun H locs X => ?_)
    refine lv_aload_n hx hb dX8_bends_21 rfl (lv_at hl 1 rfl) ?_
    refine lv_iconst (v := iI 1) hx hb dX8_bends_22 rfl ?_
    refine g_puti G X (k := 0) (fs := fM Y) (z := 1) (Nat.le_of_ble_eq_true rfl) (fun _ => rfl) rfl in_X8 tyX8 tyX8_ok nmX8 16 16 (by decide) l_f125 rfl rfl (by decide +kernel) (Nat.le_of_ble_eq_true rfl) (fun _ => rfl) dX8_bends_23 (fun H locs X => ?_)
    obtain ⟨C0, hC0⟩ : ∃ C0 : List Int, C0 = [0] := ⟨_, rfl⟩
    have hFe : Fr 12 12 16 16 σ (up (up (up σ 0 16 0) 12 0 0) 0 16 1) := ((hF0.pl (by omega)).fl (Or.inl rfl))
    have hMe : MHul (up (up (up σ 0 16 0) 12 0 0) 0 16 1) C0 := by rw [hC0]; exact ⟨up_same _ _ _ _, fun j h0 h1 => by { have e : j = 0 := (by simp at h1; omega); rw [e]; rfl }⟩
    have hHe : (0 < ng P → HBI (fun i j k => side * sD (gX P) (gW P) (gM P) i j k) (ng P) 0 C0) ∧ (ng P = 0 → C0 = []) := ⟨fun h => by rw [hC0]; exact hbi_0, fun h => absurd h (by omega)⟩
    have lp_26 : ∀ (nn : Nat) (a : Int) (C : List Int) (τ : Mem), ∀ ha : 0 ≤ a ∧ (0 < ng P → a < ng P) ∧ (ng P = 0 → a = 0), ∀ hM : MHul τ C, ∀ hH : (0 < ng P → HBI (fun i j k => side * sD (gX P) (gW P) (gM P) i j k) (ng P) a C) ∧ (ng P = 0 → C = []), ∀ hF : Fr 12 12 16 16 σ τ, ∀ hdec : (ng P - a) < (nn : Int), ∀ (H : Heap) (locs : List Loc) (ls : Array Slot), wx LM Y τ ss AA H locs → lv_has ls 5 [(0, .ref (Y.2.1 (0))), (1, .int (iI (side))), (2, .int (iI (a)))] → W pp l ee { frames := 1, cells := 0, slots := 0, locals := 27 } ss mm ([.ref (Y.2.1 (0)), .int (iI (side))] : List Value).toArray bw mt cd H locs 0 0 ZZ (F0 mm 26 ls []) := by
      intro nn
      induction nn with
      | zero =>
        intro a C τ ha hM hH hF hdec
        exact absurd hdec (by omega)
      | succ nn ih_26 =>
        intro a C τ ha hM hH hF hdec H locs ls X hl
        have hMT := hMG.fr hF (by omega) (by omega)
        have hCl : 0 < ng P → (C.length : Int) ≤ a + 1 := fun h => (hH.1 h).2.2
        refine lv_iload_n hx hb dX8_bends_26 rfl (lv_at hl 2 rfl) ?_
        refine lv_aload_n hx hb dX8_bends_27 rfl (lv_at hl 0 rfl) ?_
        refine g_get G X (k := 0) (fs := fM Y) (Nat.le_of_ble_eq_true rfl) (fun _ => rfl) rfl in_X8 8 (by decide) l_f72 rfl (v := .int (iI ((τ 0 8)))) rfl dX8_bends_28 ?_
        refine g_topi (z' := ng P) (hMT.2.2.1) ?_
        refine lv_iconst (v := iI 1) hx hb dX8_bends_31 rfl ?_
        refine g_isub G dX8_bends_32 ?_
        refine g_icmp_ge (tgt := 108) G dX8_bends_33 (by decide) (by omega) (by omega) (fun h33 => ?_) (fun h33 => ?_)
        ·
          have hHul : HullI (hulD P side) (ng P) C := by { by_cases q : 0 < ng P; exact hbi_e (hH.1 q) (by omega) q; (rw [hH.2 (by omega)]; exact hull_0 (by omega)) }
          have hCe := hulC_eq hHul
          exact hret _ _ _ _ _ (⟨⟨by rw [hCe]; exact hM, by rw [hCe]; exact hHul⟩, hF⟩) X dX8_bends_108
        ·
          refine lv_iload_n hx hb dX8_bends_36 rfl (lv_at hl 2 rfl) ?_
          refine lv_iconst (v := iI 1) hx hb dX8_bends_37 rfl ?_
          refine g_iadd G dX8_bends_38 ?_
          refine lv_istore_n (lv' := [(3, .int (iI ((a + 1)))), (0, .ref (Y.2.1 (0))), (1, .int (iI (side))), (2, .int (iI (a)))]) hx hb dX8_bends_39 rfl hl (by decide) rfl (fun ls hl => ?_)
          refine lv_iload_n hx hb dX8_bends_40 rfl (lv_at hl 3 rfl) ?_
          refine lv_iconst (v := iI 2) hx hb dX8_bends_41 rfl ?_
          refine g_iadd G dX8_bends_42 ?_
          refine lv_istore (lv' := [(4, .int (iI ((a + 2)))), (3, .int (iI ((a + 1)))), (0, .ref (Y.2.1 (0))), (1, .int (iI (side))), (2, .int (iI (a)))]) hx hb dX8_bends_43 hl (by decide) rfl (fun ls hl => ?_)
          have lp_45 : ∀ (nn : Nat) (b g : Int), ∀ hb2 : (a < b ∧ b < g) ∧ g ≤ ng P, ∀ hN : NxI (fun i j k => side * sD (gX P) (gW P) (gM P) i j k) a b g, ∀ hdec : (ng P - g) < (nn : Int), ∀ (H : Heap) (locs : List Loc) (ls : Array Slot), wx LM Y τ ss AA H locs → lv_has ls 5 [(0, .ref (Y.2.1 (0))), (1, .int (iI (side))), (2, .int (iI (a))), (3, .int (iI (b))), (4, .int (iI (g)))] → W pp l ee { frames := 1, cells := 0, slots := 0, locals := 27 } ss mm ([.ref (Y.2.1 (0)), .int (iI (side))] : List Value).toArray bw mt cd H locs 0 0 ZZ (F0 mm 45 ls []) := by
            intro nn
            induction nn with
            | zero =>
              intro b g hb2 hN hdec
              exact absurd hdec (by omega)
            | succ nn ih_45 =>
              intro b g hb2 hN hdec H locs ls X hl
              refine lv_iload hx hb dX8_bends_45 (lv_at hl 4 rfl) ?_
              refine lv_aload_n hx hb dX8_bends_47 rfl (lv_at hl 0 rfl) ?_
              refine g_get G X (k := 0) (fs := fM Y) (Nat.le_of_ble_eq_true rfl) (fun _ => rfl) rfl in_X8 8 (by decide) l_f72 rfl (v := .int (iI ((τ 0 8)))) rfl dX8_bends_48 ?_
              refine g_topi (z' := ng P) (hMT.2.2.1) ?_
              refine g_icmp_ge (tgt := 83) G dX8_bends_51 (by decide) (by omega) (by omega) (fun h51 => ?_) (fun h51 => ?_)
              ·
                refine lv_iload_n hx hb dX8_bends_83 rfl (lv_at hl 3 rfl) ?_
                refine lv_istore_n (lv' := [(2, .int (iI (b))), (0, .ref (Y.2.1 (0))), (1, .int (iI (side))), (3, .int (iI (b))), (4, .int (iI (g)))]) hx hb dX8_bends_84 rfl hl (by decide) rfl (fun ls hl => ?_)
                refine lv_aload_n hx hb dX8_bends_85 rfl (lv_at hl 1 rfl) ?_
                refine g_get G X (k := 0) (fs := fM Y) (Nat.le_of_ble_eq_true rfl) (fun _ => rfl) rfl in_X8 17 (by decide) l_f44 rfl (v := .ref (Y.2.1 (12))) rfl dX8_bends_86 ?_
                refine lv_aload_n hx hb dX8_bends_89 rfl (lv_at hl 1 rfl) ?_
                refine g_get G X (k := 0) (fs := fM Y) (Nat.le_of_ble_eq_true rfl) (fun _ => rfl) rfl in_X8 16 (by decide) l_f125 rfl (v := .int (iI ((τ 0 16)))) rfl dX8_bends_90 ?_
                refine g_topi (z' := (C.length : Int)) hM.1 ?_
                refine lv_iload_n hx hb dX8_bends_93 rfl (lv_at hl 0 rfl) ?_
                refine g_iast G X (k := 12) (n := 13) (Nat.le_of_ble_eq_true rfl) (fun _ => rfl) (by decide) (z := (C.length : Int)) (v := b) (by omega) dX8_bends_94 (fun H locs X => ?_)
                refine lv_aload_n hx hb dX8_bends_95 rfl (lv_at hl 1 rfl) ?_
                refine lv_dup hx hb dX8_bends_96 rfl ?_
                refine g_get G X (k := 0) (fs := fM Y) (Nat.le_of_ble_eq_true rfl) (fun _ => rfl) rfl in_X8 16 (by decide) l_f125 rfl (v := .int (iI ((τ 0 16)))) rfl dX8_bends_97 ?_
                refine g_topi (z' := (C.length : Int)) hM.1 ?_
                refine lv_iconst (v := iI 1) hx hb dX8_bends_100 rfl ?_
                refine g_iadd G dX8_bends_101 ?_
                refine g_puti G X (k := 0) (fs := fM Y) (z := ((C.length : Int) + 1)) (Nat.le_of_ble_eq_true rfl) (fun _ => rfl) rfl in_X8 tyX8 tyX8_ok nmX8 16 16 (by decide) l_f125 rfl rfl (by decide +kernel) (Nat.le_of_ble_eq_true rfl) (fun _ => rfl) dX8_bends_102 (fun H locs X => ?_)
                refine lv_goto (tgt := 26) hx hb dX8_bends_105 (by decide) ?_
                exact ih_26 (b) (C ++ [b]) ((up (up τ 12 (C.length : Int) b) 0 16 ((C.length : Int) + 1))) (by omega) (mhul_push hM) ⟨fun h => hbi_s (hH.1 h) (by omega) hN (by omega), fun h => absurd h (by omega)⟩ ((hF.pl (by omega)).fl (Or.inl rfl)) (by omega) _ _ _ X (lv_sub hl [1, 2, 0] rfl)
              ·
                refine lv_iload_n hx hb dX8_bends_54 rfl (lv_at hl 1 rfl) ?_
                refine g_i2l G (by omega) dX8_bends_55 ?_
                refine lv_aload_n hx hb dX8_bends_56 rfl (lv_at hl 0 rfl) ?_
                refine lv_iload_n hx hb dX8_bends_57 rfl (lv_at hl 2 rfl) ?_
                refine lv_iload hx hb dX8_bends_58 (lv_at hl 4 rfl) ?_
                refine lv_iload_n hx hb dX8_bends_60 rfl (lv_at hl 3 rfl) ?_
                refine g_callVl G X (rest := [.long (lI (side))]) (As := [.int (iI (a)), .int (iI (g)), .int (iI (b))]) (t_X8_rise l Y (τ) P (a) (g) (b) hMT (by first | assumption | omega) (by first | assumption | omega) (by first | assumption | omega)) (cwV 3 hts gX8_bends_X8_rise rfl rfl rfl (by decide +kernel) ⟨Nat.le_of_ble_eq_true rfl, Nat.le_of_ble_eq_true rfl⟩) (k := 0) (Nat.le_of_ble_eq_true rfl) rfl rfl rfl rfl hl.1 rfl (Nat.le_of_ble_eq_true rfl) dX8_bends_61 ⟨Nat.le_refl _, Nat.le_refl _⟩ (fun z61 u61 H locs hq61 X => ?_)
                rw [hq61.1] at X
                have hq61 := hq61.2
                try dsimp only at hq61
                have hrs : (0 < side * z61 ↔ 0 < side * sD (gX P) (gW P) (gM P) a g b) ∧ -1 ≤ side * z61 ∧ side * z61 ≤ 1 := by rcases hs with rfl | rfl <;> omega
                refine g_lmul G dX8_bends_64 ?_
                refine lv_lconst (v := lI 0) hx hb dX8_bends_65 (by decide +kernel) ?_
                refine g_lif_gt (tgt := 75) G dX8_bends_66 dX8_bends_67 (by decide) (by omega) (by omega) (fun h66 => ?_) (fun h66 => ?_)
                ·
                  refine lv_iload_n hx hb dX8_bends_75 rfl (lv_at hl 3 rfl) ?_
                  refine lv_istore_n (lv' := [(3, .int (iI (b))), (0, .ref (Y.2.1 (0))), (1, .int (iI (side))), (2, .int (iI (a))), (4, .int (iI (g)))]) hx hb dX8_bends_76 rfl hl (by decide) rfl (fun ls hl => ?_)
                  refine lv_iinc (v := iI (g + 1)) (lv' := [(4, .int (iI ((g + 1)))), (3, .int (iI (b))), (0, .ref (Y.2.1 (0))), (1, .int (iI (side))), (2, .int (iI (a)))]) hx hb dX8_bends_77 hl (k := 4) rfl (iI_add _ _) (by decide) rfl (fun ls hl => ?_)
                  refine lv_goto (tgt := 45) hx hb dX8_bends_80 (by decide) ?_
                  exact ih_45 (b) ((g + 1)) (by omega) (by first | exact nxI_keep hN (by omega) | exact nxI_take hPr (by omega) hN (by omega)) (by omega) _ _ _ X (lv_sub hl [2, 3, 4, 1, 0] rfl)
                ·
                  refine lv_iload hx hb dX8_bends_70 (lv_at hl 4 rfl) ?_
                  refine lv_goto (tgt := 76) hx hb dX8_bends_72 (by decide) ?_
                  refine lv_istore_n (lv' := [(3, .int (iI (g))), (0, .ref (Y.2.1 (0))), (1, .int (iI (side))), (2, .int (iI (a))), (4, .int (iI (g)))]) hx hb dX8_bends_76 rfl hl (by decide) rfl (fun ls hl => ?_)
                  refine lv_iinc (v := iI (g + 1)) (lv' := [(4, .int (iI ((g + 1)))), (3, .int (iI (g))), (0, .ref (Y.2.1 (0))), (1, .int (iI (side))), (2, .int (iI (a)))]) hx hb dX8_bends_77 hl (k := 4) rfl (iI_add _ _) (by decide) rfl (fun ls hl => ?_)
                  refine lv_goto (tgt := 45) hx hb dX8_bends_80 (by decide) ?_
                  exact ih_45 (g) ((g + 1)) (by omega) (by first | exact nxI_keep hN (by omega) | exact nxI_take hPr (by omega) hN (by omega)) (by omega) _ _ _ X (lv_sub hl [2, 3, 4, 1, 0] rfl)
          exact lp_45 ((((ng P - ((a + 2))) : Int).toNat + 1)) ((a + 1)) ((a + 2)) (by omega) ⟨fun h h0 h1 => absurd h0 (by omega), fun h h0 h1 => absurd h0 (by omega)⟩ (by omega) _ _ _ X (lv_sub hl [2, 3, 4, 1, 0] rfl)
    exact lp_26 ((((ng P - (0)) : Int).toNat + 1)) (0) (C0) ((up (up (up σ 0 16 0) 12 0 0) 0 16 1)) (by omega) hMe hHe hFe (by omega) _ _ _ X (lv_sub hl [1, 2, 0] rfl)

set_option maxHeartbeats 4000000 in
set_option maxRecDepth 100000 in
theorem t_X8_bent (l : Launch) (Y : Yt) (σ : Mem) (P : List Pt) (g : Int) (side : Int) (hMG : MG σ P) (hM : MHul σ (hulC P side)) (hH : HullI (hulD P side) (ng P) (hulC P side)) (hg : 0 ≤ g ∧ g < ng P) : MXv l LM Y yX8_bent wsX8_bent { frames := 2, cells := 0, slots := 0, locals := 55 } [.ref (Y.2.1 (0)), .int (iI (g))] σ (fun u => u 0 18 = low (hNum (gX P) (gW P) (gM P) (hulC P side) g) (hDen (gX P) (gW P) (hulC P side) g) 0 ∧ u 0 19 = low (hNum (gX P) (gW P) (gM P) (hulC P side) g) (hDen (gX P) (gW P) (hulC P side) g) 1 ∧ Fr 1 0 18 19 σ u) := by
  obtain ⟨hP, hok, hG⟩ := id hMG
  have hPr := hMG.prof
  obtain ⟨⟨hn0, hn12, hW0, hM0, hW24⟩, hstep, hXa, hXr⟩ := id hPr
  have hC0 := hH.2.1 (by omega)
  have hCl := hH.2.2.2
  have hhr := h_rg hPr hH hg
  refine g_startv (cc := cX8_bent) (nL := 9) (own := RX8) (by decide) rfl rfl (Nat.le_of_ble_eq_true rfl) ?_
  intro pp ee ss mm bw mt cd AA ZZ ls G hret X hl
  have hl : lv_has ls 9 [(0, .ref (Y.2.1 (0))), (1, .int (iI (g)))] := hl
  have hx := G.1
  have hb := G.2.1
  have hts := G.2.2.2.2.1
  have l_f26 := hts (.fieldLink RX8 26 "ShapeFitsModel" "spot" "[I") (List.mem_of_getElem? (i := 5) rfl)
  have l_f29 := hts (.fieldLink RX8 29 "ShapeFitsModel" "weight" "[I") (List.mem_of_getElem? (i := 4) rfl)
  have l_f32 := hts (.fieldLink RX8 32 "ShapeFitsModel" "moment" "[I") (List.mem_of_getElem? (i := 3) rfl)
  have l_f44 := hts (.fieldLink RX8 44 "ShapeFitsModel" "corner" "[I") (List.mem_of_getElem? (i := 2) rfl)
  have l_f125 := hts (.fieldLink RX8 125 "ShapeFitsModel" "corners" "I") (List.mem_of_getElem? (i := 1) rfl)
  have in_X8 : ∀ w ∈ u_ws RX8 TX8 24, w ∈ wsX8_bent := by decide +kernel
  refine lv_iconst (v := iI 0) hx hb dX8_bent_0 rfl ?_
  refine lv_istore_n (lv' := [(2, .int (iI (0))), (0, .ref (Y.2.1 (0))), (1, .int (iI (g)))]) hx hb dX8_bent_1 rfl hl (by decide) rfl (fun ls hl => ?_)
  have lp_2 : ∀ (nn : Nat) (i : Int), ∀ hi : 0 ≤ i ∧ i < (hulC P side).length, ∀ hle : at0 (hulC P side) i ≤ g, ∀ hdec : ((hulC P side).length - i) < (nn : Int), ∀ (H : Heap) (locs : List Loc) (ls : Array Slot), wx LM Y σ ss AA H locs → lv_has ls 9 [(0, .ref (Y.2.1 (0))), (1, .int (iI (g))), (2, .int (iI (i)))] → W pp l ee { frames := 2, cells := 0, slots := 0, locals := 55 } ss mm ([.ref (Y.2.1 (0)), .int (iI (g))] : List Value).toArray bw mt cd H locs 0 0 ZZ (F0 mm 2 ls []) := by
    intro nn
    induction nn with
    | zero =>
      intro i hi hle hdec
      exact absurd hdec (by omega)
    | succ nn ih_2 =>
      intro i hi hle hdec H locs ls X hl
      refine lv_iload_n hx hb dX8_bent_2 rfl (lv_at hl 2 rfl) ?_
      refine lv_iconst (v := iI 1) hx hb dX8_bent_3 rfl ?_
      refine g_iadd G dX8_bent_4 ?_
      refine lv_aload_n hx hb dX8_bent_5 rfl (lv_at hl 0 rfl) ?_
      refine g_get G X (k := 0) (fs := fM Y) (Nat.le_of_ble_eq_true rfl) (fun _ => rfl) rfl in_X8 16 (by decide) l_f125 rfl (v := .int (iI ((σ 0 16)))) rfl dX8_bent_6 ?_
      refine g_topi (z' := ((hulC P side).length : Int)) hM.1 ?_
      refine g_icmp_ge (tgt := 30) G dX8_bent_9 (by decide) (by omega) (by omega) (fun h9 => ?_) (fun h9 => ?_)
      ·
        have hcor : CorAt (hulC P side) g i := ⟨hi.1, by omega, hle, fun h => by omega⟩
        have hat := hnum_at (X := gX P) (W := gW P) (M := gM P) hH hg hcor
        have hcr := hull_rg hH (i := i) (by omega) (by omega)
        have heB := hB_eq hH hg.2 hcor
        obtain ⟨a, ha⟩ : ∃ a : Int, a = at0 (hulC P side) i := ⟨_, rfl⟩
        rw [← ha] at hat hcr heB
        refine lv_aload_n hx hb dX8_bent_30 rfl (lv_at hl 0 rfl) ?_
        refine g_get G X (k := 0) (fs := fM Y) (Nat.le_of_ble_eq_true rfl) (fun _ => rfl) rfl in_X8 17 (by decide) l_f44 rfl (v := .ref (Y.2.1 (12))) rfl dX8_bent_31 ?_
        refine lv_iload_n hx hb dX8_bent_34 rfl (lv_at hl 2 rfl) ?_
        refine g_iald G X (k := 12) (n := 13) (Nat.le_of_ble_eq_true rfl) (fun _ => rfl) (by decide) (z := i) (by omega) dX8_bent_35 ?_
        refine g_topi (z' := a) (by rw [ha]; exact hM.2 i (by omega) (by omega)) ?_
        refine lv_istore_n (lv' := [(3, .int (iI (a))), (0, .ref (Y.2.1 (0))), (1, .int (iI (g))), (2, .int (iI (i)))]) hx hb dX8_bent_36 rfl hl (by decide) rfl (fun ls hl => ?_)
        refine lv_iload_n hx hb dX8_bent_37 rfl (lv_at hl 0 rfl) ?_
        refine lv_iload_n hx hb dX8_bent_38 rfl (lv_at hl 2 rfl) ?_
        refine g_icmp_ne (tgt := 63) G dX8_bent_39 (by decide) (by omega) (by omega) (fun h39 => ?_) (fun h39 => ?_)
        ·
          have hj1 := (heB.2 (by omega)).1
          have hne : a ≠ g := (by omega)
          have hbr := hull_rg hH (i := i + 1) (by omega) (by omega)
          have hbg := hcor.2.2.2 hj1
          obtain ⟨b, hb0⟩ : ∃ b : Int, b = at0 (hulC P side) (i + 1) := ⟨_, rfl⟩
          have hat2 := hat.2 hne a b rfl hb0
          rw [← hb0] at hbr hbg
          have hga := hG.2 a (by omega) (by omega)
          have hra := gr_rg hPr (g := a) (by omega)
          obtain ⟨ma, hma⟩ : ∃ ma : Int, ma = gM P (a + 1) - gM P a := ⟨_, rfl⟩
          obtain ⟨wa, hwa⟩ : ∃ wa : Int, wa = gW P (a + 1) - gW P a := ⟨_, rfl⟩
          obtain ⟨xa, hxa⟩ : ∃ xa : Int, xa = gX P a := ⟨_, rfl⟩
          have hxra := hXr a (by omega) (by omega)
          rw [← hma, ← hwa] at hra
          rw [← hxa] at hxra
          have hgb := hG.2 b (by omega) (by omega)
          have hrb := gr_rg hPr (g := b) (by omega)
          obtain ⟨mb, hmb⟩ : ∃ mb : Int, mb = gM P (b + 1) - gM P b := ⟨_, rfl⟩
          obtain ⟨wb, hwb⟩ : ∃ wb : Int, wb = gW P (b + 1) - gW P b := ⟨_, rfl⟩
          obtain ⟨xb, hxb⟩ : ∃ xb : Int, xb = gX P b := ⟨_, rfl⟩
          have hxrb := hXr b (by omega) (by omega)
          rw [← hmb, ← hwb] at hrb
          rw [← hxb] at hxrb
          have hgg := hG.2 g (by omega) (by omega)
          have hrg := gr_rg hPr (g := g) (by omega)
          obtain ⟨mg, hmg⟩ : ∃ mg : Int, mg = gM P (g + 1) - gM P g := ⟨_, rfl⟩
          obtain ⟨wg, hwg⟩ : ∃ wg : Int, wg = gW P (g + 1) - gW P g := ⟨_, rfl⟩
          obtain ⟨xg, hxg⟩ : ∃ xg : Int, xg = gX P g := ⟨_, rfl⟩
          have hxrg := hXr g (by omega) (by omega)
          rw [← hmg, ← hwg] at hrg
          rw [← hxg] at hxrg
          rw [← hma, ← hmb, ← hwa, ← hwb, ← hxa, ← hxb, ← hxg] at hat2
          have k2 := mul_rg (a := ma) (b := wb) (A := 2376) (B := 24) (by omega) (by omega)
          have k1 := mul_rg (a := mb) (b := wa) (A := 2376) (B := 24) (by omega) (by omega)
          have k3 := mul_rg (a := wa) (b := wb) (A := 24) (B := 24) (by omega) (by omega)
          refine lv_aload_n hx hb dX8_bent_63 rfl (lv_at hl 1 rfl) ?_
          refine g_get G X (k := 0) (fs := fM Y) (Nat.le_of_ble_eq_true rfl) (fun _ => rfl) rfl in_X8 17 (by decide) l_f44 rfl (v := .ref (Y.2.1 (12))) rfl dX8_bent_64 ?_
          refine lv_iload_n hx hb dX8_bent_67 rfl (lv_at hl 3 rfl) ?_
          refine lv_iconst (v := iI 1) hx hb dX8_bent_68 rfl ?_
          refine g_iadd G dX8_bent_69 ?_
          refine g_iald G X (k := 12) (n := 13) (Nat.le_of_ble_eq_true rfl) (fun _ => rfl) (by decide) (z := (i + 1)) (by omega) dX8_bent_70 ?_
          refine g_topi (z' := b) (by rw [hb0]; exact hM.2 (i + 1) (by omega) (by omega)) ?_
          refine lv_istore (lv' := [(4, .int (iI (b))), (3, .int (iI (a))), (0, .ref (Y.2.1 (0))), (1, .int (iI (g))), (2, .int (iI (i)))]) hx hb dX8_bent_71 hl (by decide) rfl (fun ls hl => ?_)
          refine lv_aload_n hx hb dX8_bent_73 rfl (lv_at hl 2 rfl) ?_
          refine g_get G X (k := 0) (fs := fM Y) (Nat.le_of_ble_eq_true rfl) (fun _ => rfl) rfl in_X8 9 (by decide) l_f26 rfl (v := .ref (Y.2.1 (6))) rfl dX8_bent_74 ?_
          refine lv_iload hx hb dX8_bent_77 (lv_at hl 0 rfl) ?_
          refine g_iald G X (k := 6) (n := 12) (Nat.le_of_ble_eq_true rfl) (fun _ => rfl) (by decide) (z := b) (by omega) dX8_bent_79 ?_
          refine g_topi (z' := xb) (by rw [hxb]; exact hgb.1) ?_
          refine lv_aload_n hx hb dX8_bent_80 rfl (lv_at hl 2 rfl) ?_
          refine g_get G X (k := 0) (fs := fM Y) (Nat.le_of_ble_eq_true rfl) (fun _ => rfl) rfl in_X8 9 (by decide) l_f26 rfl (v := .ref (Y.2.1 (6))) rfl dX8_bent_81 ?_
          refine lv_iload_n hx hb dX8_bent_84 rfl (lv_at hl 1 rfl) ?_
          refine g_iald G X (k := 6) (n := 12) (Nat.le_of_ble_eq_true rfl) (fun _ => rfl) (by decide) (z := a) (by omega) dX8_bent_85 ?_
          refine g_topi (z' := xa) (by rw [hxa]; exact hga.1) ?_
          refine g_isub G dX8_bent_86 ?_
          refine g_i2l G (by omega) dX8_bent_87 ?_
          refine lv_lstore (lv' := [(5, .long (lI ((xb - xa)))), (4, .int (iI (b))), (3, .int (iI (a))), (0, .ref (Y.2.1 (0))), (1, .int (iI (g))), (2, .int (iI (i)))]) hx hb dX8_bent_88 hl (by decide) rfl (fun ls hl => ?_)
          refine lv_aload_n hx hb dX8_bent_90 rfl (lv_at hl 3 rfl) ?_
          refine g_get G X (k := 0) (fs := fM Y) (Nat.le_of_ble_eq_true rfl) (fun _ => rfl) rfl in_X8 11 (by decide) l_f32 rfl (v := .ref (Y.2.1 (8))) rfl dX8_bent_91 ?_
          refine lv_iload hx hb dX8_bent_94 (lv_at hl 1 rfl) ?_
          refine g_iald G X (k := 8) (n := 12) (Nat.le_of_ble_eq_true rfl) (fun _ => rfl) (by decide) (z := b) (by omega) dX8_bent_96 ?_
          refine g_topi (z' := mb) (by rw [hmb]; exact hgb.2.2) ?_
          refine g_i2l G (by omega) dX8_bent_97 ?_
          refine lv_aload_n hx hb dX8_bent_98 rfl (lv_at hl 3 rfl) ?_
          refine g_get G X (k := 0) (fs := fM Y) (Nat.le_of_ble_eq_true rfl) (fun _ => rfl) rfl in_X8 10 (by decide) l_f29 rfl (v := .ref (Y.2.1 (7))) rfl dX8_bent_99 ?_
          refine lv_iload_n hx hb dX8_bent_102 rfl (lv_at hl 2 rfl) ?_
          refine g_iald G X (k := 7) (n := 12) (Nat.le_of_ble_eq_true rfl) (fun _ => rfl) (by decide) (z := a) (by omega) dX8_bent_103 ?_
          refine g_topi (z' := wa) (by rw [hwa]; exact hga.2.1) ?_
          refine g_i2l G (by omega) dX8_bent_104 ?_
          refine g_lmul G dX8_bent_105 ?_
          refine lv_aload_n hx hb dX8_bent_106 rfl (lv_at hl 3 rfl) ?_
          refine g_get G X (k := 0) (fs := fM Y) (Nat.le_of_ble_eq_true rfl) (fun _ => rfl) rfl in_X8 11 (by decide) l_f32 rfl (v := .ref (Y.2.1 (8))) rfl dX8_bent_107 ?_
          refine lv_iload_n hx hb dX8_bent_110 rfl (lv_at hl 2 rfl) ?_
          refine g_iald G X (k := 8) (n := 12) (Nat.le_of_ble_eq_true rfl) (fun _ => rfl) (by decide) (z := a) (by omega) dX8_bent_111 ?_
          refine g_topi (z' := ma) (by rw [hma]; exact hga.2.2) ?_
          refine g_i2l G (by omega) dX8_bent_112 ?_
          refine lv_aload_n hx hb dX8_bent_113 rfl (lv_at hl 3 rfl) ?_
          refine g_get G X (k := 0) (fs := fM Y) (Nat.le_of_ble_eq_true rfl) (fun _ => rfl) rfl in_X8 10 (by decide) l_f29 rfl (v := .ref (Y.2.1 (7))) rfl dX8_bent_114 ?_
          refine lv_iload hx hb dX8_bent_117 (lv_at hl 1 rfl) ?_
          refine g_iald G X (k := 7) (n := 12) (Nat.le_of_ble_eq_true rfl) (fun _ => rfl) (by decide) (z := b) (by omega) dX8_bent_119 ?_
          refine g_topi (z' := wb) (by rw [hwb]; exact hgb.2.1) ?_
          refine g_i2l G (by omega) dX8_bent_120 ?_
          refine g_lmul G dX8_bent_121 ?_
          refine g_lsub G dX8_bent_122 ?_
          refine lv_lstore (lv' := [(7, .long (lI (((mb * wa) - (ma * wb))))), (5, .long (lI ((xb - xa)))), (4, .int (iI (b))), (3, .int (iI (a))), (0, .ref (Y.2.1 (0))), (1, .int (iI (g))), (2, .int (iI (i)))]) hx hb dX8_bent_123 hl (by decide) rfl (fun ls hl => ?_)
          refine lv_aload_n hx hb dX8_bent_125 rfl (lv_at hl 4 rfl) ?_
          refine lv_aload_n hx hb dX8_bent_126 rfl (lv_at hl 4 rfl) ?_
          refine g_get G X (k := 0) (fs := fM Y) (Nat.le_of_ble_eq_true rfl) (fun _ => rfl) rfl in_X8 11 (by decide) l_f32 rfl (v := .ref (Y.2.1 (8))) rfl dX8_bent_127 ?_
          refine lv_iload_n hx hb dX8_bent_130 rfl (lv_at hl 3 rfl) ?_
          refine g_iald G X (k := 8) (n := 12) (Nat.le_of_ble_eq_true rfl) (fun _ => rfl) (by decide) (z := a) (by omega) dX8_bent_131 ?_
          refine g_topi (z' := ma) (by rw [hma]; exact hga.2.2) ?_
          refine g_i2l G (by omega) dX8_bent_132 ?_
          refine lv_aload_n hx hb dX8_bent_133 rfl (lv_at hl 4 rfl) ?_
          refine g_get G X (k := 0) (fs := fM Y) (Nat.le_of_ble_eq_true rfl) (fun _ => rfl) rfl in_X8 10 (by decide) l_f29 rfl (v := .ref (Y.2.1 (7))) rfl dX8_bent_134 ?_
          refine lv_iload hx hb dX8_bent_137 (lv_at hl 2 rfl) ?_
          refine g_iald G X (k := 7) (n := 12) (Nat.le_of_ble_eq_true rfl) (fun _ => rfl) (by decide) (z := b) (by omega) dX8_bent_139 ?_
          refine g_topi (z' := wb) (by rw [hwb]; exact hgb.2.1) ?_
          refine g_i2l G (by omega) dX8_bent_140 ?_
          refine g_lmul G dX8_bent_141 ?_
          refine lv_lload hx hb dX8_bent_142 (lv_at hl 1 rfl) ?_
          refine g_lmul G dX8_bent_144 ?_
          refine lv_aload_n hx hb dX8_bent_145 rfl (lv_at hl 4 rfl) ?_
          refine g_get G X (k := 0) (fs := fM Y) (Nat.le_of_ble_eq_true rfl) (fun _ => rfl) rfl in_X8 9 (by decide) l_f26 rfl (v := .ref (Y.2.1 (6))) rfl dX8_bent_146 ?_
          refine lv_iload_n hx hb dX8_bent_149 rfl (lv_at hl 5 rfl) ?_
          refine g_iald G X (k := 6) (n := 12) (Nat.le_of_ble_eq_true rfl) (fun _ => rfl) (by decide) (z := g) (by omega) dX8_bent_150 ?_
          refine g_topi (z' := xg) (by rw [hxg]; exact hgg.1) ?_
          refine lv_aload_n hx hb dX8_bent_151 rfl (lv_at hl 4 rfl) ?_
          refine g_get G X (k := 0) (fs := fM Y) (Nat.le_of_ble_eq_true rfl) (fun _ => rfl) rfl in_X8 9 (by decide) l_f26 rfl (v := .ref (Y.2.1 (6))) rfl dX8_bent_152 ?_
          refine lv_iload_n hx hb dX8_bent_155 rfl (lv_at hl 3 rfl) ?_
          refine g_iald G X (k := 6) (n := 12) (Nat.le_of_ble_eq_true rfl) (fun _ => rfl) (by decide) (z := a) (by omega) dX8_bent_156 ?_
          refine g_topi (z' := xa) (by rw [hxa]; exact hga.1) ?_
          refine g_isub G dX8_bent_157 ?_
          refine g_i2l G (by omega) dX8_bent_158 ?_
          refine lv_lload hx hb dX8_bent_159 (lv_at hl 0 rfl) ?_
          refine g_lmul G dX8_bent_161 ?_
          refine g_ladd G dX8_bent_162 ?_
          refine g_topl (z' := hNum (gX P) (gW P) (gM P) (hulC P side) g) hat2.1.symm ?_
          refine lv_aload_n hx hb dX8_bent_163 rfl (lv_at hl 4 rfl) ?_
          refine g_get G X (k := 0) (fs := fM Y) (Nat.le_of_ble_eq_true rfl) (fun _ => rfl) rfl in_X8 10 (by decide) l_f29 rfl (v := .ref (Y.2.1 (7))) rfl dX8_bent_164 ?_
          refine lv_iload_n hx hb dX8_bent_167 rfl (lv_at hl 3 rfl) ?_
          refine g_iald G X (k := 7) (n := 12) (Nat.le_of_ble_eq_true rfl) (fun _ => rfl) (by decide) (z := a) (by omega) dX8_bent_168 ?_
          refine g_topi (z' := wa) (by rw [hwa]; exact hga.2.1) ?_
          refine lv_aload_n hx hb dX8_bent_169 rfl (lv_at hl 4 rfl) ?_
          refine g_get G X (k := 0) (fs := fM Y) (Nat.le_of_ble_eq_true rfl) (fun _ => rfl) rfl in_X8 10 (by decide) l_f29 rfl (v := .ref (Y.2.1 (7))) rfl dX8_bent_170 ?_
          refine lv_iload hx hb dX8_bent_173 (lv_at hl 2 rfl) ?_
          refine g_iald G X (k := 7) (n := 12) (Nat.le_of_ble_eq_true rfl) (fun _ => rfl) (by decide) (z := b) (by omega) dX8_bent_175 ?_
          refine g_topi (z' := wb) (by rw [hwb]; exact hgb.2.1) ?_
          refine g_imul G dX8_bent_176 ?_
          refine g_i2l G (by omega) dX8_bent_177 ?_
          refine lv_lload hx hb dX8_bent_178 (lv_at hl 1 rfl) ?_
          refine g_lmul G dX8_bent_180 ?_
          refine g_topl (z' := hDen (gX P) (gW P) (hulC P side) g) hat2.2.symm ?_
          refine g_callVv G X (rest := []) (As := [.long (lI ((hNum (gX P) (gW P) (gM P) (hulC P side) g))), .long (lI ((hDen (gX P) (gW P) (hulC P side) g)))]) (t_X8_lowers l Y (σ) ((hNum (gX P) (gW P) (gM P) (hulC P side) g)) ((hDen (gX P) (gW P) (hulC P side) g)) (by first | assumption | omega) (by first | assumption | omega)) (cwV 2 hts gX8_bent_X8_lowers rfl rfl rfl (by decide +kernel) ⟨Nat.le_of_ble_eq_true rfl, Nat.le_of_ble_eq_true rfl⟩) (k := 0) (Nat.le_of_ble_eq_true rfl) rfl rfl rfl rfl hl.1 rfl (Nat.le_of_ble_eq_true rfl) dX8_bent_181 ⟨Nat.le_refl _, Nat.le_refl _⟩ (fun u181 H locs hq181 X => ?_)
          have hfin := hq181
          exact hret _ _ _ _ _ (hfin) X dX8_bent_184
        ·
          have hgg := hG.2 g (by omega) (by omega)
          refine lv_aload_n hx hb dX8_bent_42 rfl (lv_at hl 1 rfl) ?_
          refine lv_aload_n hx hb dX8_bent_43 rfl (lv_at hl 1 rfl) ?_
          refine g_get G X (k := 0) (fs := fM Y) (Nat.le_of_ble_eq_true rfl) (fun _ => rfl) rfl in_X8 11 (by decide) l_f32 rfl (v := .ref (Y.2.1 (8))) rfl dX8_bent_44 ?_
          refine lv_iload_n hx hb dX8_bent_47 rfl (lv_at hl 2 rfl) ?_
          refine g_iald G X (k := 8) (n := 12) (Nat.le_of_ble_eq_true rfl) (fun _ => rfl) (by decide) (z := g) (by omega) dX8_bent_48 ?_
          refine g_topi (z' := gM P (g + 1) - gM P g) hgg.2.2 ?_
          have hir := gr_rg hPr hg
          have hi1 := hat.1 (by omega)
          refine g_i2l G (by omega) dX8_bent_49 ?_
          refine g_topl (z' := hNum (gX P) (gW P) (gM P) (hulC P side) g) hi1.1.symm ?_
          refine lv_aload_n hx hb dX8_bent_50 rfl (lv_at hl 1 rfl) ?_
          refine g_get G X (k := 0) (fs := fM Y) (Nat.le_of_ble_eq_true rfl) (fun _ => rfl) rfl in_X8 10 (by decide) l_f29 rfl (v := .ref (Y.2.1 (7))) rfl dX8_bent_51 ?_
          refine lv_iload_n hx hb dX8_bent_54 rfl (lv_at hl 2 rfl) ?_
          refine g_iald G X (k := 7) (n := 12) (Nat.le_of_ble_eq_true rfl) (fun _ => rfl) (by decide) (z := g) (by omega) dX8_bent_55 ?_
          refine g_topi (z' := gW P (g + 1) - gW P g) hgg.2.1 ?_
          refine g_i2l G (by omega) dX8_bent_56 ?_
          refine g_topl (z' := hDen (gX P) (gW P) (hulC P side) g) hi1.2.symm ?_
          refine g_callVv G X (rest := []) (As := [.long (lI ((hNum (gX P) (gW P) (gM P) (hulC P side) g))), .long (lI ((hDen (gX P) (gW P) (hulC P side) g)))]) (t_X8_lowers l Y (σ) ((hNum (gX P) (gW P) (gM P) (hulC P side) g)) ((hDen (gX P) (gW P) (hulC P side) g)) (by first | assumption | omega) (by first | assumption | omega)) (cwV 2 hts gX8_bent_X8_lowers rfl rfl rfl (by decide +kernel) ⟨Nat.le_of_ble_eq_true rfl, Nat.le_of_ble_eq_true rfl⟩) (k := 0) (Nat.le_of_ble_eq_true rfl) rfl rfl rfl rfl hl.1 rfl (Nat.le_of_ble_eq_true rfl) dX8_bent_57 ⟨Nat.le_refl _, Nat.le_refl _⟩ (fun u57 H locs hq57 X => ?_)
          have hfin := hq57
          refine lv_goto (tgt := 184) hx hb dX8_bent_60 (by decide) ?_
          exact hret _ _ _ _ _ (hfin) X dX8_bent_184
      ·
        refine lv_aload_n hx hb dX8_bent_12 rfl (lv_at hl 0 rfl) ?_
        refine g_get G X (k := 0) (fs := fM Y) (Nat.le_of_ble_eq_true rfl) (fun _ => rfl) rfl in_X8 17 (by decide) l_f44 rfl (v := .ref (Y.2.1 (12))) rfl dX8_bent_13 ?_
        refine lv_iload_n hx hb dX8_bent_16 rfl (lv_at hl 2 rfl) ?_
        refine lv_iconst (v := iI 1) hx hb dX8_bent_17 rfl ?_
        refine g_iadd G dX8_bent_18 ?_
        refine g_iald G X (k := 12) (n := 13) (Nat.le_of_ble_eq_true rfl) (fun _ => rfl) (by decide) (z := (i + 1)) (by omega) dX8_bent_19 ?_
        refine g_topi (z' := at0 (hulC P side) (i + 1)) (hM.2 (i + 1) (by omega) (by omega)) ?_
        have hcr := hull_rg hH (i := i + 1) (by omega) (by omega)
        refine lv_iload_n hx hb dX8_bent_20 rfl (lv_at hl 1 rfl) ?_
        refine g_icmp_gt (tgt := 30) G dX8_bent_21 (by decide) (by omega) (by omega) (fun h21 => ?_) (fun h21 => ?_)
        ·
          have hcor : CorAt (hulC P side) g i := ⟨hi.1, by omega, hle, fun h => by omega⟩
          have hat := hnum_at (X := gX P) (W := gW P) (M := gM P) hH hg hcor
          have hcr := hull_rg hH (i := i) (by omega) (by omega)
          have heB := hB_eq hH hg.2 hcor
          obtain ⟨a, ha⟩ : ∃ a : Int, a = at0 (hulC P side) i := ⟨_, rfl⟩
          rw [← ha] at hat hcr heB
          refine lv_aload_n hx hb dX8_bent_30 rfl (lv_at hl 0 rfl) ?_
          refine g_get G X (k := 0) (fs := fM Y) (Nat.le_of_ble_eq_true rfl) (fun _ => rfl) rfl in_X8 17 (by decide) l_f44 rfl (v := .ref (Y.2.1 (12))) rfl dX8_bent_31 ?_
          refine lv_iload_n hx hb dX8_bent_34 rfl (lv_at hl 2 rfl) ?_
          refine g_iald G X (k := 12) (n := 13) (Nat.le_of_ble_eq_true rfl) (fun _ => rfl) (by decide) (z := i) (by omega) dX8_bent_35 ?_
          refine g_topi (z' := a) (by rw [ha]; exact hM.2 i (by omega) (by omega)) ?_
          refine lv_istore_n (lv' := [(3, .int (iI (a))), (0, .ref (Y.2.1 (0))), (1, .int (iI (g))), (2, .int (iI (i)))]) hx hb dX8_bent_36 rfl hl (by decide) rfl (fun ls hl => ?_)
          refine lv_iload_n hx hb dX8_bent_37 rfl (lv_at hl 0 rfl) ?_
          refine lv_iload_n hx hb dX8_bent_38 rfl (lv_at hl 2 rfl) ?_
          refine g_icmp_ne (tgt := 63) G dX8_bent_39 (by decide) (by omega) (by omega) (fun h39 => ?_) (fun h39 => ?_)
          ·
            have hj1 := (heB.2 (by omega)).1
            have hne : a ≠ g := (by omega)
            have hbr := hull_rg hH (i := i + 1) (by omega) (by omega)
            have hbg := hcor.2.2.2 hj1
            obtain ⟨b, hb0⟩ : ∃ b : Int, b = at0 (hulC P side) (i + 1) := ⟨_, rfl⟩
            have hat2 := hat.2 hne a b rfl hb0
            rw [← hb0] at hbr hbg
            have hga := hG.2 a (by omega) (by omega)
            have hra := gr_rg hPr (g := a) (by omega)
            obtain ⟨ma, hma⟩ : ∃ ma : Int, ma = gM P (a + 1) - gM P a := ⟨_, rfl⟩
            obtain ⟨wa, hwa⟩ : ∃ wa : Int, wa = gW P (a + 1) - gW P a := ⟨_, rfl⟩
            obtain ⟨xa, hxa⟩ : ∃ xa : Int, xa = gX P a := ⟨_, rfl⟩
            have hxra := hXr a (by omega) (by omega)
            rw [← hma, ← hwa] at hra
            rw [← hxa] at hxra
            have hgb := hG.2 b (by omega) (by omega)
            have hrb := gr_rg hPr (g := b) (by omega)
            obtain ⟨mb, hmb⟩ : ∃ mb : Int, mb = gM P (b + 1) - gM P b := ⟨_, rfl⟩
            obtain ⟨wb, hwb⟩ : ∃ wb : Int, wb = gW P (b + 1) - gW P b := ⟨_, rfl⟩
            obtain ⟨xb, hxb⟩ : ∃ xb : Int, xb = gX P b := ⟨_, rfl⟩
            have hxrb := hXr b (by omega) (by omega)
            rw [← hmb, ← hwb] at hrb
            rw [← hxb] at hxrb
            have hgg := hG.2 g (by omega) (by omega)
            have hrg := gr_rg hPr (g := g) (by omega)
            obtain ⟨mg, hmg⟩ : ∃ mg : Int, mg = gM P (g + 1) - gM P g := ⟨_, rfl⟩
            obtain ⟨wg, hwg⟩ : ∃ wg : Int, wg = gW P (g + 1) - gW P g := ⟨_, rfl⟩
            obtain ⟨xg, hxg⟩ : ∃ xg : Int, xg = gX P g := ⟨_, rfl⟩
            have hxrg := hXr g (by omega) (by omega)
            rw [← hmg, ← hwg] at hrg
            rw [← hxg] at hxrg
            rw [← hma, ← hmb, ← hwa, ← hwb, ← hxa, ← hxb, ← hxg] at hat2
            have k2 := mul_rg (a := ma) (b := wb) (A := 2376) (B := 24) (by omega) (by omega)
            have k1 := mul_rg (a := mb) (b := wa) (A := 2376) (B := 24) (by omega) (by omega)
            have k3 := mul_rg (a := wa) (b := wb) (A := 24) (B := 24) (by omega) (by omega)
            refine lv_aload_n hx hb dX8_bent_63 rfl (lv_at hl 1 rfl) ?_
            refine g_get G X (k := 0) (fs := fM Y) (Nat.le_of_ble_eq_true rfl) (fun _ => rfl) rfl in_X8 17 (by decide) l_f44 rfl (v := .ref (Y.2.1 (12))) rfl dX8_bent_64 ?_
            refine lv_iload_n hx hb dX8_bent_67 rfl (lv_at hl 3 rfl) ?_
            refine lv_iconst (v := iI 1) hx hb dX8_bent_68 rfl ?_
            refine g_iadd G dX8_bent_69 ?_
            refine g_iald G X (k := 12) (n := 13) (Nat.le_of_ble_eq_true rfl) (fun _ => rfl) (by decide) (z := (i + 1)) (by omega) dX8_bent_70 ?_
            refine g_topi (z' := b) (by rw [hb0]; exact hM.2 (i + 1) (by omega) (by omega)) ?_
            refine lv_istore (lv' := [(4, .int (iI (b))), (3, .int (iI (a))), (0, .ref (Y.2.1 (0))), (1, .int (iI (g))), (2, .int (iI (i)))]) hx hb dX8_bent_71 hl (by decide) rfl (fun ls hl => ?_)
            refine lv_aload_n hx hb dX8_bent_73 rfl (lv_at hl 2 rfl) ?_
            refine g_get G X (k := 0) (fs := fM Y) (Nat.le_of_ble_eq_true rfl) (fun _ => rfl) rfl in_X8 9 (by decide) l_f26 rfl (v := .ref (Y.2.1 (6))) rfl dX8_bent_74 ?_
            refine lv_iload hx hb dX8_bent_77 (lv_at hl 0 rfl) ?_
            refine g_iald G X (k := 6) (n := 12) (Nat.le_of_ble_eq_true rfl) (fun _ => rfl) (by decide) (z := b) (by omega) dX8_bent_79 ?_
            refine g_topi (z' := xb) (by rw [hxb]; exact hgb.1) ?_
            refine lv_aload_n hx hb dX8_bent_80 rfl (lv_at hl 2 rfl) ?_
            refine g_get G X (k := 0) (fs := fM Y) (Nat.le_of_ble_eq_true rfl) (fun _ => rfl) rfl in_X8 9 (by decide) l_f26 rfl (v := .ref (Y.2.1 (6))) rfl dX8_bent_81 ?_
            refine lv_iload_n hx hb dX8_bent_84 rfl (lv_at hl 1 rfl) ?_
            refine g_iald G X (k := 6) (n := 12) (Nat.le_of_ble_eq_true rfl) (fun _ => rfl) (by decide) (z := a) (by omega) dX8_bent_85 ?_
            refine g_topi (z' := xa) (by rw [hxa]; exact hga.1) ?_
            refine g_isub G dX8_bent_86 ?_
            refine g_i2l G (by omega) dX8_bent_87 ?_
            refine lv_lstore (lv' := [(5, .long (lI ((xb - xa)))), (4, .int (iI (b))), (3, .int (iI (a))), (0, .ref (Y.2.1 (0))), (1, .int (iI (g))), (2, .int (iI (i)))]) hx hb dX8_bent_88 hl (by decide) rfl (fun ls hl => ?_)
            refine lv_aload_n hx hb dX8_bent_90 rfl (lv_at hl 3 rfl) ?_
            refine g_get G X (k := 0) (fs := fM Y) (Nat.le_of_ble_eq_true rfl) (fun _ => rfl) rfl in_X8 11 (by decide) l_f32 rfl (v := .ref (Y.2.1 (8))) rfl dX8_bent_91 ?_
            refine lv_iload hx hb dX8_bent_94 (lv_at hl 1 rfl) ?_
            refine g_iald G X (k := 8) (n := 12) (Nat.le_of_ble_eq_true rfl) (fun _ => rfl) (by decide) (z := b) (by omega) dX8_bent_96 ?_
            refine g_topi (z' := mb) (by rw [hmb]; exact hgb.2.2) ?_
            refine g_i2l G (by omega) dX8_bent_97 ?_
            refine lv_aload_n hx hb dX8_bent_98 rfl (lv_at hl 3 rfl) ?_
            refine g_get G X (k := 0) (fs := fM Y) (Nat.le_of_ble_eq_true rfl) (fun _ => rfl) rfl in_X8 10 (by decide) l_f29 rfl (v := .ref (Y.2.1 (7))) rfl dX8_bent_99 ?_
            refine lv_iload_n hx hb dX8_bent_102 rfl (lv_at hl 2 rfl) ?_
            refine g_iald G X (k := 7) (n := 12) (Nat.le_of_ble_eq_true rfl) (fun _ => rfl) (by decide) (z := a) (by omega) dX8_bent_103 ?_
            refine g_topi (z' := wa) (by rw [hwa]; exact hga.2.1) ?_
            refine g_i2l G (by omega) dX8_bent_104 ?_
            refine g_lmul G dX8_bent_105 ?_
            refine lv_aload_n hx hb dX8_bent_106 rfl (lv_at hl 3 rfl) ?_
            refine g_get G X (k := 0) (fs := fM Y) (Nat.le_of_ble_eq_true rfl) (fun _ => rfl) rfl in_X8 11 (by decide) l_f32 rfl (v := .ref (Y.2.1 (8))) rfl dX8_bent_107 ?_
            refine lv_iload_n hx hb dX8_bent_110 rfl (lv_at hl 2 rfl) ?_
            refine g_iald G X (k := 8) (n := 12) (Nat.le_of_ble_eq_true rfl) (fun _ => rfl) (by decide) (z := a) (by omega) dX8_bent_111 ?_
            refine g_topi (z' := ma) (by rw [hma]; exact hga.2.2) ?_
            refine g_i2l G (by omega) dX8_bent_112 ?_
            refine lv_aload_n hx hb dX8_bent_113 rfl (lv_at hl 3 rfl) ?_
            refine g_get G X (k := 0) (fs := fM Y) (Nat.le_of_ble_eq_true rfl) (fun _ => rfl) rfl in_X8 10 (by decide) l_f29 rfl (v := .ref (Y.2.1 (7))) rfl dX8_bent_114 ?_
            refine lv_iload hx hb dX8_bent_117 (lv_at hl 1 rfl) ?_
            refine g_iald G X (k := 7) (n := 12) (Nat.le_of_ble_eq_true rfl) (fun _ => rfl) (by decide) (z := b) (by omega) dX8_bent_119 ?_
            refine g_topi (z' := wb) (by rw [hwb]; exact hgb.2.1) ?_
            refine g_i2l G (by omega) dX8_bent_120 ?_
            refine g_lmul G dX8_bent_121 ?_
            refine g_lsub G dX8_bent_122 ?_
            refine lv_lstore (lv' := [(7, .long (lI (((mb * wa) - (ma * wb))))), (5, .long (lI ((xb - xa)))), (4, .int (iI (b))), (3, .int (iI (a))), (0, .ref (Y.2.1 (0))), (1, .int (iI (g))), (2, .int (iI (i)))]) hx hb dX8_bent_123 hl (by decide) rfl (fun ls hl => ?_)
            refine lv_aload_n hx hb dX8_bent_125 rfl (lv_at hl 4 rfl) ?_
            refine lv_aload_n hx hb dX8_bent_126 rfl (lv_at hl 4 rfl) ?_
            refine g_get G X (k := 0) (fs := fM Y) (Nat.le_of_ble_eq_true rfl) (fun _ => rfl) rfl in_X8 11 (by decide) l_f32 rfl (v := .ref (Y.2.1 (8))) rfl dX8_bent_127 ?_
            refine lv_iload_n hx hb dX8_bent_130 rfl (lv_at hl 3 rfl) ?_
            refine g_iald G X (k := 8) (n := 12) (Nat.le_of_ble_eq_true rfl) (fun _ => rfl) (by decide) (z := a) (by omega) dX8_bent_131 ?_
            refine g_topi (z' := ma) (by rw [hma]; exact hga.2.2) ?_
            refine g_i2l G (by omega) dX8_bent_132 ?_
            refine lv_aload_n hx hb dX8_bent_133 rfl (lv_at hl 4 rfl) ?_
            refine g_get G X (k := 0) (fs := fM Y) (Nat.le_of_ble_eq_true rfl) (fun _ => rfl) rfl in_X8 10 (by decide) l_f29 rfl (v := .ref (Y.2.1 (7))) rfl dX8_bent_134 ?_
            refine lv_iload hx hb dX8_bent_137 (lv_at hl 2 rfl) ?_
            refine g_iald G X (k := 7) (n := 12) (Nat.le_of_ble_eq_true rfl) (fun _ => rfl) (by decide) (z := b) (by omega) dX8_bent_139 ?_
            refine g_topi (z' := wb) (by rw [hwb]; exact hgb.2.1) ?_
            refine g_i2l G (by omega) dX8_bent_140 ?_
            refine g_lmul G dX8_bent_141 ?_
            refine lv_lload hx hb dX8_bent_142 (lv_at hl 1 rfl) ?_
            refine g_lmul G dX8_bent_144 ?_
            refine lv_aload_n hx hb dX8_bent_145 rfl (lv_at hl 4 rfl) ?_
            refine g_get G X (k := 0) (fs := fM Y) (Nat.le_of_ble_eq_true rfl) (fun _ => rfl) rfl in_X8 9 (by decide) l_f26 rfl (v := .ref (Y.2.1 (6))) rfl dX8_bent_146 ?_
            refine lv_iload_n hx hb dX8_bent_149 rfl (lv_at hl 5 rfl) ?_
            refine g_iald G X (k := 6) (n := 12) (Nat.le_of_ble_eq_true rfl) (fun _ => rfl) (by decide) (z := g) (by omega) dX8_bent_150 ?_
            refine g_topi (z' := xg) (by rw [hxg]; exact hgg.1) ?_
            refine lv_aload_n hx hb dX8_bent_151 rfl (lv_at hl 4 rfl) ?_
            refine g_get G X (k := 0) (fs := fM Y) (Nat.le_of_ble_eq_true rfl) (fun _ => rfl) rfl in_X8 9 (by decide) l_f26 rfl (v := .ref (Y.2.1 (6))) rfl dX8_bent_152 ?_
            refine lv_iload_n hx hb dX8_bent_155 rfl (lv_at hl 3 rfl) ?_
            refine g_iald G X (k := 6) (n := 12) (Nat.le_of_ble_eq_true rfl) (fun _ => rfl) (by decide) (z := a) (by omega) dX8_bent_156 ?_
            refine g_topi (z' := xa) (by rw [hxa]; exact hga.1) ?_
            refine g_isub G dX8_bent_157 ?_
            refine g_i2l G (by omega) dX8_bent_158 ?_
            refine lv_lload hx hb dX8_bent_159 (lv_at hl 0 rfl) ?_
            refine g_lmul G dX8_bent_161 ?_
            refine g_ladd G dX8_bent_162 ?_
            refine g_topl (z' := hNum (gX P) (gW P) (gM P) (hulC P side) g) hat2.1.symm ?_
            refine lv_aload_n hx hb dX8_bent_163 rfl (lv_at hl 4 rfl) ?_
            refine g_get G X (k := 0) (fs := fM Y) (Nat.le_of_ble_eq_true rfl) (fun _ => rfl) rfl in_X8 10 (by decide) l_f29 rfl (v := .ref (Y.2.1 (7))) rfl dX8_bent_164 ?_
            refine lv_iload_n hx hb dX8_bent_167 rfl (lv_at hl 3 rfl) ?_
            refine g_iald G X (k := 7) (n := 12) (Nat.le_of_ble_eq_true rfl) (fun _ => rfl) (by decide) (z := a) (by omega) dX8_bent_168 ?_
            refine g_topi (z' := wa) (by rw [hwa]; exact hga.2.1) ?_
            refine lv_aload_n hx hb dX8_bent_169 rfl (lv_at hl 4 rfl) ?_
            refine g_get G X (k := 0) (fs := fM Y) (Nat.le_of_ble_eq_true rfl) (fun _ => rfl) rfl in_X8 10 (by decide) l_f29 rfl (v := .ref (Y.2.1 (7))) rfl dX8_bent_170 ?_
            refine lv_iload hx hb dX8_bent_173 (lv_at hl 2 rfl) ?_
            refine g_iald G X (k := 7) (n := 12) (Nat.le_of_ble_eq_true rfl) (fun _ => rfl) (by decide) (z := b) (by omega) dX8_bent_175 ?_
            refine g_topi (z' := wb) (by rw [hwb]; exact hgb.2.1) ?_
            refine g_imul G dX8_bent_176 ?_
            refine g_i2l G (by omega) dX8_bent_177 ?_
            refine lv_lload hx hb dX8_bent_178 (lv_at hl 1 rfl) ?_
            refine g_lmul G dX8_bent_180 ?_
            refine g_topl (z' := hDen (gX P) (gW P) (hulC P side) g) hat2.2.symm ?_
            refine g_callVv G X (rest := []) (As := [.long (lI ((hNum (gX P) (gW P) (gM P) (hulC P side) g))), .long (lI ((hDen (gX P) (gW P) (hulC P side) g)))]) (t_X8_lowers l Y (σ) ((hNum (gX P) (gW P) (gM P) (hulC P side) g)) ((hDen (gX P) (gW P) (hulC P side) g)) (by first | assumption | omega) (by first | assumption | omega)) (cwV 2 hts gX8_bent_X8_lowers rfl rfl rfl (by decide +kernel) ⟨Nat.le_of_ble_eq_true rfl, Nat.le_of_ble_eq_true rfl⟩) (k := 0) (Nat.le_of_ble_eq_true rfl) rfl rfl rfl rfl hl.1 rfl (Nat.le_of_ble_eq_true rfl) dX8_bent_181 ⟨Nat.le_refl _, Nat.le_refl _⟩ (fun u181 H locs hq181 X => ?_)
            have hfin := hq181
            exact hret _ _ _ _ _ (hfin) X dX8_bent_184
          ·
            have hgg := hG.2 g (by omega) (by omega)
            refine lv_aload_n hx hb dX8_bent_42 rfl (lv_at hl 1 rfl) ?_
            refine lv_aload_n hx hb dX8_bent_43 rfl (lv_at hl 1 rfl) ?_
            refine g_get G X (k := 0) (fs := fM Y) (Nat.le_of_ble_eq_true rfl) (fun _ => rfl) rfl in_X8 11 (by decide) l_f32 rfl (v := .ref (Y.2.1 (8))) rfl dX8_bent_44 ?_
            refine lv_iload_n hx hb dX8_bent_47 rfl (lv_at hl 2 rfl) ?_
            refine g_iald G X (k := 8) (n := 12) (Nat.le_of_ble_eq_true rfl) (fun _ => rfl) (by decide) (z := g) (by omega) dX8_bent_48 ?_
            refine g_topi (z' := gM P (g + 1) - gM P g) hgg.2.2 ?_
            have hir := gr_rg hPr hg
            have hi1 := hat.1 (by omega)
            refine g_i2l G (by omega) dX8_bent_49 ?_
            refine g_topl (z' := hNum (gX P) (gW P) (gM P) (hulC P side) g) hi1.1.symm ?_
            refine lv_aload_n hx hb dX8_bent_50 rfl (lv_at hl 1 rfl) ?_
            refine g_get G X (k := 0) (fs := fM Y) (Nat.le_of_ble_eq_true rfl) (fun _ => rfl) rfl in_X8 10 (by decide) l_f29 rfl (v := .ref (Y.2.1 (7))) rfl dX8_bent_51 ?_
            refine lv_iload_n hx hb dX8_bent_54 rfl (lv_at hl 2 rfl) ?_
            refine g_iald G X (k := 7) (n := 12) (Nat.le_of_ble_eq_true rfl) (fun _ => rfl) (by decide) (z := g) (by omega) dX8_bent_55 ?_
            refine g_topi (z' := gW P (g + 1) - gW P g) hgg.2.1 ?_
            refine g_i2l G (by omega) dX8_bent_56 ?_
            refine g_topl (z' := hDen (gX P) (gW P) (hulC P side) g) hi1.2.symm ?_
            refine g_callVv G X (rest := []) (As := [.long (lI ((hNum (gX P) (gW P) (gM P) (hulC P side) g))), .long (lI ((hDen (gX P) (gW P) (hulC P side) g)))]) (t_X8_lowers l Y (σ) ((hNum (gX P) (gW P) (gM P) (hulC P side) g)) ((hDen (gX P) (gW P) (hulC P side) g)) (by first | assumption | omega) (by first | assumption | omega)) (cwV 2 hts gX8_bent_X8_lowers rfl rfl rfl (by decide +kernel) ⟨Nat.le_of_ble_eq_true rfl, Nat.le_of_ble_eq_true rfl⟩) (k := 0) (Nat.le_of_ble_eq_true rfl) rfl rfl rfl rfl hl.1 rfl (Nat.le_of_ble_eq_true rfl) dX8_bent_57 ⟨Nat.le_refl _, Nat.le_refl _⟩ (fun u57 H locs hq57 X => ?_)
            have hfin := hq57
            refine lv_goto (tgt := 184) hx hb dX8_bent_60 (by decide) ?_
            exact hret _ _ _ _ _ (hfin) X dX8_bent_184
        ·
          refine lv_iinc (v := iI (i + 1)) (lv' := [(2, .int (iI ((i + 1)))), (0, .ref (Y.2.1 (0))), (1, .int (iI (g)))]) hx hb dX8_bent_24 hl (k := 2) rfl (iI_add _ _) (by decide) rfl (fun ls hl => ?_)
          refine lv_goto (tgt := 2) hx hb dX8_bent_27 (by decide) ?_
          exact ih_2 ((i + 1)) (by omega) (by omega) (by omega) _ _ _ X (lv_sub hl [1, 2, 0] rfl)
  exact lp_2 (((((hulC P side).length - (0)) : Int).toNat + 1)) (0) (by omega) (by rw [hC0.2.1]; exact hg.1) (by omega) _ _ _ X (lv_sub hl [1, 2, 0] rfl)

set_option maxHeartbeats 4000000 in
set_option maxRecDepth 100000 in
theorem t_X8_fit (l : Launch) (Y : Yt) (σ : Mem) (P : List Pt) (hs : List (List Pt)) (tx : List Int) (ch : List Int) (kind : Int) (g : Int) (w : Int) (hI : MInv σ P hs tx ch) (h_kind : -2147483648 ≤ kind ∧ kind ≤ 2147483647) (h_g : -2147483648 ≤ g ∧ g ≤ 2147483647) (h_w : -2147483648 ≤ w ∧ w ≤ 2147483647) : MXl l LM Y yX8_fit wsX8_fit { frames := 5, cells := 0, slots := 0, locals := 134 } [.ref (Y.2.1 (0)), .int (iI (kind)), .int (iI (g)), .int (iI (w))] σ (fun z u => z = fitA P kind g w ∧ MInv u P hs tx ch) := by
  obtain ⟨⟨hP, hok⟩, ⟨hW, hHok⟩, ⟨hTx, htok⟩, hC, hC3⟩ := id hI
  obtain ⟨hd0, h12, hd⟩ := hP.d
  have hh6 := hW.2.1
  have hkp := hW.1
  have h90 := htok.1
  have hty := hTx.1
  have hre := hC.1
  have hPr := prof_of hok hP.2.1
  obtain ⟨⟨hn0, hn12, hW0, hM0, hW24⟩, hstep, hXa, hXr⟩ := id hPr
  have hq0 : 0 ≤ gQ P ∧ gQ P ≤ 235224 := gQ_rg hok hP.2.1
  have hn9 := ng_0 hok
  refine g_startl (cc := cX8_fit) (nL := 5) (own := RX8) (by decide) rfl rfl (Nat.le_of_ble_eq_true rfl) ?_
  intro pp ee ss mm bw mt cd AA ZZ ls G hret X hl
  have hl : lv_has ls 5 [(0, .ref (Y.2.1 (0))), (1, .int (iI (kind))), (2, .int (iI (g))), (3, .int (iI (w)))] := hl
  have hx := G.1
  have hb := G.2.1
  have hts := G.2.2.2.2.1
  have l_f38 := hts (.fieldLink RX8 38 "ShapeFitsModel" "blockWeight" "[I") (List.mem_of_getElem? (i := 3) rfl)
  have l_f41 := hts (.fieldLink RX8 41 "ShapeFitsModel" "blockMoment" "[I") (List.mem_of_getElem? (i := 2) rfl)
  have l_k136 := hts (.constantLong RX8 136 (-1000001)) (List.mem_of_getElem? (i := 1) rfl)
  have in_X8 : ∀ w ∈ u_ws RX8 TX8 24, w ∈ wsX8_fit := by decide +kernel
  refine lv_iload_n hx hb dX8_fit_0 rfl (lv_at hl 1 rfl) ?_
  refine lv_iconst (v := iI 0) hx hb dX8_fit_1 rfl ?_
  have hI2 := hI
  have hI3 := hI
  refine lv_iconst (v := iI 5) hx hb dX8_fit_2 rfl ?_
  refine g_callSi G X (rest := []) (As := [.int (iI (kind)), .int (iI (0)), .int (iI (5))]) (t_X8_in l Y (σ) (kind) (0) (5) (by first | assumption | omega) (by first | assumption | omega) (by first | assumption | omega)) (va_cwS 3 hts gX8_fit_X8_in rfl rfl rfl (by decide +kernel) ⟨Nat.le_of_ble_eq_true rfl, Nat.le_of_ble_eq_true rfl⟩) rfl hl.1 rfl (Nat.le_of_ble_eq_true rfl) dX8_fit_3 ⟨Nat.le_refl _, Nat.le_refl _⟩ (fun z3 u3 H locs hq3 X => ?_)
  rw [hq3.1] at X
  have hq3 := hq3.2
  try dsimp only at hq3
  refine g_if_eq (tgt := 26) G dX8_fit_6 (by decide) (by omega) (fun h6 => ?_) (fun h6 => ?_)
  ·
    refine g_ldc2 G (z := (-1000001)) l_k136 (by decide +kernel) dX8_fit_26 ?_
    exact hret _ _ _ _ _ _ (⟨(if_pos (by omega)).symm, hI2⟩) X dX8_fit_29
  ·
    refine lv_aload_n hx hb dX8_fit_9 rfl (lv_at hl 0 rfl) ?_
    refine lv_iload_n hx hb dX8_fit_10 rfl (lv_at hl 2 rfl) ?_
    refine g_callVi G X (rest := []) (As := [.int (iI (g))]) (t_X8_isGroup l Y (σ) P hs tx ch (g) (by first | assumption | omega) (by first | assumption | omega)) (cwV 1 hts gX8_fit_X8_isGroup rfl rfl rfl (by decide +kernel) ⟨Nat.le_of_ble_eq_true rfl, Nat.le_of_ble_eq_true rfl⟩) (k := 0) (Nat.le_of_ble_eq_true rfl) rfl rfl rfl rfl hl.1 rfl (Nat.le_of_ble_eq_true rfl) dX8_fit_11 ⟨Nat.le_refl _, Nat.le_refl _⟩ (fun z11 u11 H locs hq11 X => ?_)
    obtain ⟨hzg, hG, hFg⟩ := id hq11
    have hI2 := hI.keep (hFg.C (by omega) (by omega))
    have hMG : MG u11 P := ⟨hI2.1.1, hok, hG⟩
    refine g_if_eq (tgt := 26) G dX8_fit_14 (by decide) (by omega) (fun h14 => ?_) (fun h14 => ?_)
    ·
      refine g_ldc2 G (z := (-1000001)) l_k136 (by decide +kernel) dX8_fit_26 ?_
      exact hret _ _ _ _ _ _ (⟨(if_pos (by omega)).symm, hI2⟩) X dX8_fit_29
    ·
      refine lv_iload_n hx hb dX8_fit_17 rfl (lv_at hl 3 rfl) ?_
      refine lv_iconst (v := iI 0) hx hb dX8_fit_18 rfl ?_
      refine lv_iconst (v := iI 1) hx hb dX8_fit_19 rfl ?_
      refine g_callSi G X (rest := []) (As := [.int (iI (w)), .int (iI (0)), .int (iI (1))]) (t_X8_in l Y (u11) (w) (0) (1) (by first | assumption | omega) (by first | assumption | omega) (by first | assumption | omega)) (va_cwS 3 hts gX8_fit_X8_in rfl rfl rfl (by decide +kernel) ⟨Nat.le_of_ble_eq_true rfl, Nat.le_of_ble_eq_true rfl⟩) rfl hl.1 rfl (Nat.le_of_ble_eq_true rfl) dX8_fit_20 ⟨Nat.le_refl _, Nat.le_refl _⟩ (fun z20 u20 H locs hq20 X => ?_)
      rw [hq20.1] at X
      have hq20 := hq20.2
      try dsimp only at hq20
      refine g_if_ne (tgt := 30) G dX8_fit_23 (by decide) (by omega) (fun h23 => ?_) (fun h23 => ?_)
      ·
        refine lv_iload_n hx hb dX8_fit_30 rfl (lv_at hl 1 rfl) ?_
        refine lv_iconst (v := iI 3) hx hb dX8_fit_31 rfl ?_
        refine g_icmp_le (tgt := 57) G dX8_fit_32 (by decide) (by omega) (by omega) (fun h32 => ?_) (fun h32 => ?_)
        ·
          refine lv_aload_n hx hb dX8_fit_57 rfl (lv_at hl 0 rfl) ?_
          refine lv_iload_n hx hb dX8_fit_58 rfl (lv_at hl 1 rfl) ?_
          refine g_callVi G X (rest := []) (As := [.int (iI (kind))]) (t_X8_fits l Y (u11) P (kind) hMG (by first | assumption | omega)) (cwV 1 hts gX8_fit_X8_fits rfl rfl rfl (by decide +kernel) ⟨Nat.le_of_ble_eq_true rfl, Nat.le_of_ble_eq_true rfl⟩) (k := 0) (Nat.le_of_ble_eq_true rfl) rfl rfl rfl rfl hl.1 rfl (Nat.le_of_ble_eq_true rfl) dX8_fit_59 ⟨Nat.le_refl _, Nat.le_refl _⟩ (fun z59 u59 H locs hq59 X => ?_)
          have hI3 := hI2.keep (hq59.2.2.C (by omega) (by omega))
          obtain ⟨hBE, hBA⟩ := hq59.2.1 (by omega)
          refine lv_pop hx hb dX8_fit_62 rfl ?_
          refine lv_aload_n hx hb dX8_fit_63 rfl (lv_at hl 0 rfl) ?_
          refine lv_iload_n hx hb dX8_fit_64 rfl (lv_at hl 2 rfl) ?_
          refine g_callVi G X (rest := []) (As := [.int (iI (g))]) (t_X8_blockOf l Y (u59) P (g) ((kdB P kind)) (hMG.fr hq59.2.2 (by omega) (by omega)) hBE hBA (by first | assumption | omega)) (cwV 1 hts gX8_fit_X8_blockOf rfl rfl rfl (by decide +kernel) ⟨Nat.le_of_ble_eq_true rfl, Nat.le_of_ble_eq_true rfl⟩) (k := 0) (Nat.le_of_ble_eq_true rfl) rfl rfl rfl rfl hl.1 rfl (Nat.le_of_ble_eq_true rfl) dX8_fit_65 ⟨Nat.le_refl _, Nat.le_refl _⟩ (fun z65 u65 H locs hq65 X => ?_)
          rw [hq65.1] at X
          have hq65 := hq65.2
          try dsimp only at hq65
          refine g_topi (z' := blkA (kdB P kind) (ng P) g) hq65.1 ?_
          have hbz : 0 ≤ blkA (kdB P kind) (ng P) g ∧ blkA (kdB P kind) (ng P) g < (kdB P kind).length := by rw [← hq65.1]; exact hq65.2
          obtain ⟨b, hb0⟩ : ∃ b : Int, b = blkA (kdB P kind) (ng P) g := ⟨_, rfl⟩
          refine g_topi (z' := b) hb0.symm ?_
          rw [← hb0] at hbz
          have hll := hBA.2.2.2
          have hBb := hBE.1.2 b hbz.1 hbz.2
          have hbe := bEnd_rg hBA hbz.1 hbz.2
          have hbw := prof_w hPr (a := at0 (kdB P kind) b) (b := bEnd (kdB P kind) (ng P) b + 1) (by omega) (by omega) (by omega)
          have hbp := wt_pos hPr (a := at0 (kdB P kind) b) (b := bEnd (kdB P kind) (ng P) b) (by omega) (by omega) (by omega)
          refine lv_istore (lv' := [(4, .int (iI (b))), (0, .ref (Y.2.1 (0))), (1, .int (iI (kind))), (2, .int (iI (g))), (3, .int (iI (w)))]) hx hb dX8_fit_68 hl (by decide) rfl (fun ls hl => ?_)
          refine lv_aload_n hx hb dX8_fit_70 rfl (lv_at hl 1 rfl) ?_
          refine lv_aload_n hx hb dX8_fit_71 rfl (lv_at hl 1 rfl) ?_
          refine g_get G X (k := 0) (fs := fM Y) (Nat.le_of_ble_eq_true rfl) (fun _ => rfl) rfl in_X8 15 (by decide) l_f41 rfl (v := .ref (Y.2.1 (11))) rfl dX8_fit_72 ?_
          refine lv_iload hx hb dX8_fit_75 (lv_at hl 0 rfl) ?_
          refine g_iald G X (k := 11) (n := 13) (Nat.le_of_ble_eq_true rfl) (fun _ => rfl) (by decide) (z := b) (by omega) dX8_fit_77 ?_
          refine g_topi (z' := gM P (bEnd (kdB P kind) (ng P) b + 1) - gM P (at0 (kdB P kind) b)) (hBb.2.2) ?_
          refine g_i2l G (by omega) dX8_fit_78 ?_
          refine lv_aload_n hx hb dX8_fit_79 rfl (lv_at hl 1 rfl) ?_
          refine g_get G X (k := 0) (fs := fM Y) (Nat.le_of_ble_eq_true rfl) (fun _ => rfl) rfl in_X8 14 (by decide) l_f38 rfl (v := .ref (Y.2.1 (10))) rfl dX8_fit_80 ?_
          refine lv_iload hx hb dX8_fit_83 (lv_at hl 0 rfl) ?_
          refine g_iald G X (k := 10) (n := 13) (Nat.le_of_ble_eq_true rfl) (fun _ => rfl) (by decide) (z := b) (by omega) dX8_fit_85 ?_
          refine g_topi (z' := gW P (bEnd (kdB P kind) (ng P) b + 1) - gW P (at0 (kdB P kind) b)) (hBb.2.1) ?_
          refine g_i2l G (by omega) dX8_fit_86 ?_
          refine g_callVv G X (rest := []) (As := [.long (lI ((gM P (bEnd (kdB P kind) (ng P) b + 1) - gM P (at0 (kdB P kind) b)))), .long (lI ((gW P (bEnd (kdB P kind) (ng P) b + 1) - gW P (at0 (kdB P kind) b))))]) (t_X8_lowers l Y (u59) ((gM P (bEnd (kdB P kind) (ng P) b + 1) - gM P (at0 (kdB P kind) b))) ((gW P (bEnd (kdB P kind) (ng P) b + 1) - gW P (at0 (kdB P kind) b))) (by first | assumption | omega) (by first | assumption | omega)) (cwV 2 hts gX8_fit_X8_lowers rfl rfl rfl (by decide +kernel) ⟨Nat.le_of_ble_eq_true rfl, Nat.le_of_ble_eq_true rfl⟩) (k := 0) (Nat.le_of_ble_eq_true rfl) rfl rfl rfl rfl hl.1 rfl (Nat.le_of_ble_eq_true rfl) dX8_fit_87 ⟨Nat.le_refl _, Nat.le_refl _⟩ (fun u87 H locs hq87 X => ?_)
          have hI4 := hI3.keep (hq87.2.2.C (by omega) (by omega))
          have htl : (if w = 0 then u87 0 18 else u87 0 19) = fitA P kind g w := by { rw [tells_low (by omega) hq87.1 hq87.2.1]; unfold fitA; rw [← hb0]; exact ((if_neg (by omega)).trans (if_neg (by omega))).symm }
          refine lv_aload_n hx hb dX8_fit_90 rfl (lv_at hl 1 rfl) ?_
          refine lv_iload_n hx hb dX8_fit_91 rfl (lv_at hl 4 rfl) ?_
          refine g_callVl G X (rest := []) (As := [.int (iI (w))]) (t_X8_tells l Y (u87) (w) (by first | assumption | omega)) (cwV 1 hts gX8_fit_X8_tells rfl rfl rfl (by decide +kernel) ⟨Nat.le_of_ble_eq_true rfl, Nat.le_of_ble_eq_true rfl⟩) (k := 0) (Nat.le_of_ble_eq_true rfl) rfl rfl rfl rfl hl.1 rfl (Nat.le_of_ble_eq_true rfl) dX8_fit_92 ⟨Nat.le_refl _, Nat.le_refl _⟩ (fun z92 u92 H locs hq92 X => ?_)
          rw [hq92.1] at X
          have hq92 := hq92.2
          try dsimp only at hq92
          exact hret _ _ _ _ _ _ (⟨hq92.trans htl, hI4⟩) X dX8_fit_95
        ·
          refine lv_aload_n hx hb dX8_fit_35 rfl (lv_at hl 0 rfl) ?_
          refine lv_iload_n hx hb dX8_fit_36 rfl (lv_at hl 1 rfl) ?_
          refine lv_iconst (v := iI 4) hx hb dX8_fit_37 rfl ?_
          refine g_icmp_ne (tgt := 45) G dX8_fit_38 (by decide) (by omega) (by omega) (fun h38 => ?_) (fun h38 => ?_)
          ·
            refine lv_iconst (v := iI (-1)) hx hb dX8_fit_45 rfl ?_
            refine g_topi (z' := hSide kind) (by unfold hSide; split <;> omega) ?_
            refine g_callVv G X (rest := []) (As := [.int (iI ((hSide kind)))]) (t_X8_bends l Y (u11) P ((hSide kind)) hMG (by unfold hSide; split <;> omega)) (cwV 1 hts gX8_fit_X8_bends rfl rfl rfl (by decide +kernel) ⟨Nat.le_of_ble_eq_true rfl, Nat.le_of_ble_eq_true rfl⟩) (k := 0) (Nat.le_of_ble_eq_true rfl) rfl rfl rfl rfl hl.1 rfl (Nat.le_of_ble_eq_true rfl) dX8_fit_46 ⟨Nat.le_refl _, Nat.le_refl _⟩ (fun u46 H locs hq46 X => ?_)
            have hI3 := hI2.keep (hq46.2.C (by omega) (by omega))
            refine lv_aload_n hx hb dX8_fit_49 rfl (lv_at hl 0 rfl) ?_
            refine lv_iload_n hx hb dX8_fit_50 rfl (lv_at hl 2 rfl) ?_
            refine g_callVv G X (rest := []) (As := [.int (iI (g))]) (t_X8_bent l Y (u46) P (g) (hSide kind) (hMG.fr hq46.2 (by omega) (by omega)) hq46.1.1 hq46.1.2 (by first | assumption | omega)) (cwV 1 hts gX8_fit_X8_bent rfl rfl rfl (by decide +kernel) ⟨Nat.le_of_ble_eq_true rfl, Nat.le_of_ble_eq_true rfl⟩) (k := 0) (Nat.le_of_ble_eq_true rfl) rfl rfl rfl rfl hl.1 rfl (Nat.le_of_ble_eq_true rfl) dX8_fit_51 ⟨Nat.le_refl _, Nat.le_refl _⟩ (fun u51 H locs hq51 X => ?_)
            have hI4 := hI3.keep (hq51.2.2.C (by omega) (by omega))
            have htl : (if w = 0 then u51 0 18 else u51 0 19) = fitA P kind g w := by { rw [tells_low (by omega) hq51.1 hq51.2.1]; unfold fitA; exact ((if_neg (by omega)).trans (if_pos (by omega))).symm }
            refine lv_goto (tgt := 90) hx hb dX8_fit_54 (by decide) ?_
            refine lv_aload_n hx hb dX8_fit_90 rfl (lv_at hl 0 rfl) ?_
            refine lv_iload_n hx hb dX8_fit_91 rfl (lv_at hl 3 rfl) ?_
            refine g_callVl G X (rest := []) (As := [.int (iI (w))]) (t_X8_tells l Y (u51) (w) (by first | assumption | omega)) (cwV 1 hts gX8_fit_X8_tells rfl rfl rfl (by decide +kernel) ⟨Nat.le_of_ble_eq_true rfl, Nat.le_of_ble_eq_true rfl⟩) (k := 0) (Nat.le_of_ble_eq_true rfl) rfl rfl rfl rfl hl.1 rfl (Nat.le_of_ble_eq_true rfl) dX8_fit_92 ⟨Nat.le_refl _, Nat.le_refl _⟩ (fun z92 u92 H locs hq92 X => ?_)
            rw [hq92.1] at X
            have hq92 := hq92.2
            try dsimp only at hq92
            exact hret _ _ _ _ _ _ (⟨hq92.trans htl, hI4⟩) X dX8_fit_95
          ·
            refine lv_iconst (v := iI 1) hx hb dX8_fit_41 rfl ?_
            refine lv_goto (tgt := 46) hx hb dX8_fit_42 (by decide) ?_
            refine g_topi (z' := hSide kind) (by unfold hSide; split <;> omega) ?_
            refine g_callVv G X (rest := []) (As := [.int (iI ((hSide kind)))]) (t_X8_bends l Y (u11) P ((hSide kind)) hMG (by unfold hSide; split <;> omega)) (cwV 1 hts gX8_fit_X8_bends rfl rfl rfl (by decide +kernel) ⟨Nat.le_of_ble_eq_true rfl, Nat.le_of_ble_eq_true rfl⟩) (k := 0) (Nat.le_of_ble_eq_true rfl) rfl rfl rfl rfl hl.1 rfl (Nat.le_of_ble_eq_true rfl) dX8_fit_46 ⟨Nat.le_refl _, Nat.le_refl _⟩ (fun u46 H locs hq46 X => ?_)
            have hI3 := hI2.keep (hq46.2.C (by omega) (by omega))
            refine lv_aload_n hx hb dX8_fit_49 rfl (lv_at hl 0 rfl) ?_
            refine lv_iload_n hx hb dX8_fit_50 rfl (lv_at hl 2 rfl) ?_
            refine g_callVv G X (rest := []) (As := [.int (iI (g))]) (t_X8_bent l Y (u46) P (g) (hSide kind) (hMG.fr hq46.2 (by omega) (by omega)) hq46.1.1 hq46.1.2 (by first | assumption | omega)) (cwV 1 hts gX8_fit_X8_bent rfl rfl rfl (by decide +kernel) ⟨Nat.le_of_ble_eq_true rfl, Nat.le_of_ble_eq_true rfl⟩) (k := 0) (Nat.le_of_ble_eq_true rfl) rfl rfl rfl rfl hl.1 rfl (Nat.le_of_ble_eq_true rfl) dX8_fit_51 ⟨Nat.le_refl _, Nat.le_refl _⟩ (fun u51 H locs hq51 X => ?_)
            have hI4 := hI3.keep (hq51.2.2.C (by omega) (by omega))
            have htl : (if w = 0 then u51 0 18 else u51 0 19) = fitA P kind g w := by { rw [tells_low (by omega) hq51.1 hq51.2.1]; unfold fitA; exact ((if_neg (by omega)).trans (if_pos (by omega))).symm }
            refine lv_goto (tgt := 90) hx hb dX8_fit_54 (by decide) ?_
            refine lv_aload_n hx hb dX8_fit_90 rfl (lv_at hl 0 rfl) ?_
            refine lv_iload_n hx hb dX8_fit_91 rfl (lv_at hl 3 rfl) ?_
            refine g_callVl G X (rest := []) (As := [.int (iI (w))]) (t_X8_tells l Y (u51) (w) (by first | assumption | omega)) (cwV 1 hts gX8_fit_X8_tells rfl rfl rfl (by decide +kernel) ⟨Nat.le_of_ble_eq_true rfl, Nat.le_of_ble_eq_true rfl⟩) (k := 0) (Nat.le_of_ble_eq_true rfl) rfl rfl rfl rfl hl.1 rfl (Nat.le_of_ble_eq_true rfl) dX8_fit_92 ⟨Nat.le_refl _, Nat.le_refl _⟩ (fun z92 u92 H locs hq92 X => ?_)
            rw [hq92.1] at X
            have hq92 := hq92.2
            try dsimp only at hq92
            exact hret _ _ _ _ _ _ (⟨hq92.trans htl, hI4⟩) X dX8_fit_95
      ·
        refine g_ldc2 G (z := (-1000001)) l_k136 (by decide +kernel) dX8_fit_26 ?_
        exact hret _ _ _ _ _ _ (⟨(if_pos (by omega)).symm, hI2⟩) X dX8_fit_29

set_option maxHeartbeats 4000000 in
set_option maxRecDepth 100000 in
theorem t_X8_error (l : Launch) (Y : Yt) (σ : Mem) (P : List Pt) (hs : List (List Pt)) (tx : List Int) (ch : List Int) (kind : Int) (w : Int) (hI : MInv σ P hs tx ch) (h_kind : -2147483648 ≤ kind ∧ kind ≤ 2147483647) (h_w : -2147483648 ≤ w ∧ w ≤ 2147483647) : MXl l LM Y yX8_error wsX8_error { frames := 5, cells := 0, slots := 0, locals := 134 } [.ref (Y.2.1 (0)), .int (iI (kind)), .int (iI (w))] σ (fun z u => z = errA P kind w ∧ MInv u P hs tx ch) := by
  obtain ⟨⟨hP, hok⟩, ⟨hW, hHok⟩, ⟨hTx, htok⟩, hC, hC3⟩ := id hI
  obtain ⟨hd0, h12, hd⟩ := hP.d
  have hh6 := hW.2.1
  have hkp := hW.1
  have h90 := htok.1
  have hty := hTx.1
  have hre := hC.1
  have hPr := prof_of hok hP.2.1
  obtain ⟨⟨hn0, hn12, hW0, hM0, hW24⟩, hstep, hXa, hXr⟩ := id hPr
  have hq0 : 0 ≤ gQ P ∧ gQ P ≤ 235224 := gQ_rg hok hP.2.1
  have hn9 := ng_0 hok
  refine g_startl (cc := cX8_error) (nL := 3) (own := RX8) (by decide) rfl rfl (Nat.le_of_ble_eq_true rfl) ?_
  intro pp ee ss mm bw mt cd AA ZZ ls G hret X hl
  have hl : lv_has ls 3 [(0, .ref (Y.2.1 (0))), (1, .int (iI (kind))), (2, .int (iI (w)))] := hl
  have hx := G.1
  have hb := G.2.1
  have hts := G.2.2.2.2.1
  have l_f7 := hts (.fieldLink RX8 7 "ShapeFitsModel" "d" "[I") (List.mem_of_getElem? (i := 2) rfl)
  have l_k113 := hts (.constantLong RX8 113 (5354228880)) (List.mem_of_getElem? (i := 4) rfl)
  have l_k136 := hts (.constantLong RX8 136 (-1000001)) (List.mem_of_getElem? (i := 1) rfl)
  have l_k155 := hts (.constantLong RX8 155 (-1000002)) (List.mem_of_getElem? (i := 3) rfl)
  have in_X8 : ∀ w ∈ u_ws RX8 TX8 24, w ∈ wsX8_error := by decide +kernel
  refine lv_iload_n hx hb dX8_error_0 rfl (lv_at hl 1 rfl) ?_
  refine lv_iconst (v := iI 0) hx hb dX8_error_1 rfl ?_
  refine lv_iconst (v := iI 3) hx hb dX8_error_2 rfl ?_
  refine g_callSi G X (rest := []) (As := [.int (iI (kind)), .int (iI (0)), .int (iI (3))]) (t_X8_in l Y (σ) (kind) (0) (3) (by first | assumption | omega) (by first | assumption | omega) (by first | assumption | omega)) (va_cwS 3 hts gX8_error_X8_in rfl rfl rfl (by decide +kernel) ⟨Nat.le_of_ble_eq_true rfl, Nat.le_of_ble_eq_true rfl⟩) rfl hl.1 rfl (Nat.le_of_ble_eq_true rfl) dX8_error_3 ⟨Nat.le_refl _, Nat.le_refl _⟩ (fun z3 u3 H locs hq3 X => ?_)
  rw [hq3.1] at X
  have hq3 := hq3.2
  try dsimp only at hq3
  refine g_if_eq (tgt := 18) G dX8_error_6 (by decide) (by omega) (fun h6 => ?_) (fun h6 => ?_)
  ·
    refine g_ldc2 G (z := (-1000001)) l_k136 (by decide +kernel) dX8_error_18 ?_
    exact hret _ _ _ _ _ _ (⟨(if_pos (by omega)).symm, hI⟩) X dX8_error_21
  ·
    refine lv_iload_n hx hb dX8_error_9 rfl (lv_at hl 2 rfl) ?_
    refine lv_iconst (v := iI 0) hx hb dX8_error_10 rfl ?_
    refine lv_iconst (v := iI 1) hx hb dX8_error_11 rfl ?_
    refine g_callSi G X (rest := []) (As := [.int (iI (w)), .int (iI (0)), .int (iI (1))]) (t_X8_in l Y (σ) (w) (0) (1) (by first | assumption | omega) (by first | assumption | omega) (by first | assumption | omega)) (va_cwS 3 hts gX8_error_X8_in rfl rfl rfl (by decide +kernel) ⟨Nat.le_of_ble_eq_true rfl, Nat.le_of_ble_eq_true rfl⟩) rfl hl.1 rfl (Nat.le_of_ble_eq_true rfl) dX8_error_12 ⟨Nat.le_refl _, Nat.le_refl _⟩ (fun z12 u12 H locs hq12 X => ?_)
    rw [hq12.1] at X
    have hq12 := hq12.2
    try dsimp only at hq12
    refine g_if_ne (tgt := 22) G dX8_error_15 (by decide) (by omega) (fun h15 => ?_) (fun h15 => ?_)
    ·
      refine lv_aload_n hx hb dX8_error_22 rfl (lv_at hl 0 rfl) ?_
      refine g_get G X (k := 0) (fs := fM Y) (Nat.le_of_ble_eq_true rfl) (fun _ => rfl) rfl in_X8 0 (by decide) l_f7 rfl (v := .ref (Y.2.1 (1))) rfl dX8_error_23 ?_
      refine lv_iconst (v := iI 0) hx hb dX8_error_26 rfl ?_
      refine g_iald G X (k := 1) (n := 37) (Nat.le_of_ble_eq_true rfl) (fun _ => rfl) (by decide) (z := 0) (by omega) dX8_error_27 ?_
      refine g_topi (z' := (P.length : Int)) hd0 ?_
      refine g_if_ne (tgt := 35) G dX8_error_28 (by decide) (by omega) (fun h28 => ?_) (fun h28 => ?_)
      ·
        refine lv_aload_n hx hb dX8_error_35 rfl (lv_at hl 0 rfl) ?_
        refine g_callVv G X (rest := []) (As := []) (t_X8_finds l Y (σ) P hs tx ch (by first | assumption | omega)) (cwV 0 hts gX8_error_X8_finds rfl rfl rfl (by decide +kernel) ⟨Nat.le_of_ble_eq_true rfl, Nat.le_of_ble_eq_true rfl⟩) (k := 0) (Nat.le_of_ble_eq_true rfl) rfl rfl rfl rfl hl.1 rfl (Nat.le_of_ble_eq_true rfl) dX8_error_36 ⟨Nat.le_refl _, Nat.le_refl _⟩ (fun u36 H locs hq36 X => ?_)
        obtain ⟨hG, hFg⟩ := id hq36
        have hI2 := hI.keep (hFg.C (by omega) (by omega))
        have hMG : MG u36 P := ⟨hI2.1.1, hok, hG⟩
        refine lv_aload_n hx hb dX8_error_39 rfl (lv_at hl 0 rfl) ?_
        refine lv_iload_n hx hb dX8_error_40 rfl (lv_at hl 1 rfl) ?_
        refine g_callVi G X (rest := []) (As := [.int (iI (kind))]) (t_X8_fits l Y (u36) P (kind) hMG (by first | assumption | omega)) (cwV 1 hts gX8_error_X8_fits rfl rfl rfl (by decide +kernel) ⟨Nat.le_of_ble_eq_true rfl, Nat.le_of_ble_eq_true rfl⟩) (k := 0) (Nat.le_of_ble_eq_true rfl) rfl rfl rfl rfl hl.1 rfl (Nat.le_of_ble_eq_true rfl) dX8_error_41 ⟨Nat.le_refl _, Nat.le_refl _⟩ (fun z41 u41 H locs hq41 X => ?_)
        have hI3 := hI2.keep (hq41.2.2.C (by omega) (by omega))
        obtain ⟨hBE, hBA⟩ := hq41.2.1 (by omega)
        refine lv_pop hx hb dX8_error_44 rfl ?_
        refine lv_aload_n hx hb dX8_error_45 rfl (lv_at hl 0 rfl) ?_
        refine lv_aload_n hx hb dX8_error_46 rfl (lv_at hl 0 rfl) ?_
        refine g_callVl G X (rest := [.ref (Y.2.1 (0))]) (As := []) (t_X8_errorOf l Y (u41) P ((kdB P kind)) (hMG.fr hq41.2.2 (by omega) (by omega)) hBE.1 (fun _ => hBA)) (cwV 0 hts gX8_error_X8_errorOf rfl rfl rfl (by decide +kernel) ⟨Nat.le_of_ble_eq_true rfl, Nat.le_of_ble_eq_true rfl⟩) (k := 0) (Nat.le_of_ble_eq_true rfl) rfl rfl rfl rfl hl.1 rfl (Nat.le_of_ble_eq_true rfl) dX8_error_47 ⟨Nat.le_refl _, Nat.le_refl _⟩ (fun z47 u47 H locs hq47 X => ?_)
        rw [hq47.1] at X
        have hq47 := hq47.2
        try dsimp only at hq47
        have hEr := Err_rg hPr hq0 hBA
        refine g_topl (z' := Err (ng P) (gW P) (gM P) (gQ P) (kdB P kind)) hq47 ?_
        refine g_ldc2 G (z := 5354228880) l_k113 (by decide +kernel) dX8_error_50 ?_
        refine g_callVv G X (rest := []) (As := [.long (lI ((Err (ng P) (gW P) (gM P) (gQ P) (kdB P kind)))), .long (lI (5354228880))]) (t_X8_lowers l Y (u41) ((Err (ng P) (gW P) (gM P) (gQ P) (kdB P kind))) (5354228880) (by first | assumption | omega) (by first | assumption | omega)) (cwV 2 hts gX8_error_X8_lowers rfl rfl rfl (by decide +kernel) ⟨Nat.le_of_ble_eq_true rfl, Nat.le_of_ble_eq_true rfl⟩) (k := 0) (Nat.le_of_ble_eq_true rfl) rfl rfl rfl rfl hl.1 rfl (Nat.le_of_ble_eq_true rfl) dX8_error_53 ⟨Nat.le_refl _, Nat.le_refl _⟩ (fun u53 H locs hq53 X => ?_)
        have hI4 := hI3.keep (hq53.2.2.C (by omega) (by omega))
        have htl : (if w = 0 then u53 0 18 else u53 0 19) = errA P kind w := by { rw [tells_low (by omega) hq53.1 hq53.2.1]; unfold errA; exact ((if_neg (by omega)).trans (if_neg (by omega))).symm }
        refine lv_aload_n hx hb dX8_error_56 rfl (lv_at hl 0 rfl) ?_
        refine lv_iload_n hx hb dX8_error_57 rfl (lv_at hl 2 rfl) ?_
        refine g_callVl G X (rest := []) (As := [.int (iI (w))]) (t_X8_tells l Y (u53) (w) (by first | assumption | omega)) (cwV 1 hts gX8_error_X8_tells rfl rfl rfl (by decide +kernel) ⟨Nat.le_of_ble_eq_true rfl, Nat.le_of_ble_eq_true rfl⟩) (k := 0) (Nat.le_of_ble_eq_true rfl) rfl rfl rfl rfl hl.1 rfl (Nat.le_of_ble_eq_true rfl) dX8_error_58 ⟨Nat.le_refl _, Nat.le_refl _⟩ (fun z58 u58 H locs hq58 X => ?_)
        rw [hq58.1] at X
        have hq58 := hq58.2
        try dsimp only at hq58
        exact hret _ _ _ _ _ _ (⟨hq58.trans htl, hI4⟩) X dX8_error_61
      ·
        refine g_ldc2 G (z := (-1000002)) l_k155 (by decide +kernel) dX8_error_31 ?_
        exact hret _ _ _ _ _ _ (⟨((if_neg (by omega)).trans (if_pos (by omega))).symm, hI⟩) X dX8_error_34
    ·
      refine g_ldc2 G (z := (-1000001)) l_k136 (by decide +kernel) dX8_error_18 ?_
      exact hret _ _ _ _ _ _ (⟨(if_pos (by omega)).symm, hI⟩) X dX8_error_21

set_option maxHeartbeats 4000000 in
set_option maxRecDepth 100000 in
theorem t_X8_turn (l : Launch) (Y : Yt) (σ : Mem) (P : List Pt) (hs : List (List Pt)) (tx : List Int) (ch : List Int) (kind : Int) (hI : MInv σ P hs tx ch) (h_kind : -2147483648 ≤ kind ∧ kind ≤ 2147483647) : MXi l LM Y yX8_turn wsX8_turn { frames := 5, cells := 0, slots := 0, locals := 134 } [.ref (Y.2.1 (0)), .int (iI (kind))] σ (fun z u => z = turnA P kind ∧ MInv u P hs tx ch) := by
  obtain ⟨⟨hP, hok⟩, ⟨hW, hHok⟩, ⟨hTx, htok⟩, hC, hC3⟩ := id hI
  obtain ⟨hd0, h12, hd⟩ := hP.d
  have hh6 := hW.2.1
  have hkp := hW.1
  have h90 := htok.1
  have hty := hTx.1
  have hre := hC.1
  have hPr := prof_of hok hP.2.1
  obtain ⟨⟨hn0, hn12, hW0, hM0, hW24⟩, hstep, hXa, hXr⟩ := id hPr
  have hq0 : 0 ≤ gQ P ∧ gQ P ≤ 235224 := gQ_rg hok hP.2.1
  have hn9 := ng_0 hok
  refine g_starti (rty := .int) (fun _ _ _ => rfl) (cc := cX8_turn) (nL := 2) (own := RX8) (by decide) rfl rfl (Nat.le_of_ble_eq_true rfl) ?_
  intro pp ee ss mm bw mt cd AA ZZ ls G hret X hl
  have hl : lv_has ls 2 [(0, .ref (Y.2.1 (0))), (1, .int (iI (kind)))] := hl
  have hx := G.1
  have hb := G.2.1
  have hts := G.2.2.2.2.1
  have l_f7 := hts (.fieldLink RX8 7 "ShapeFitsModel" "d" "[I") (List.mem_of_getElem? (i := 2) rfl)
  have l_c62 := hts (.constant RX8 62 (-1000001)) (List.mem_of_getElem? (i := 1) rfl)
  have l_c71 := hts (.constant RX8 71 (-1000002)) (List.mem_of_getElem? (i := 3) rfl)
  have in_X8 : ∀ w ∈ u_ws RX8 TX8 24, w ∈ wsX8_turn := by decide +kernel
  refine lv_iload_n hx hb dX8_turn_0 rfl (lv_at hl 1 rfl) ?_
  refine lv_iconst (v := iI 2) hx hb dX8_turn_1 rfl ?_
  refine lv_iconst (v := iI 3) hx hb dX8_turn_2 rfl ?_
  refine g_callSi G X (rest := []) (As := [.int (iI (kind)), .int (iI (2)), .int (iI (3))]) (t_X8_in l Y (σ) (kind) (2) (3) (by first | assumption | omega) (by first | assumption | omega) (by first | assumption | omega)) (va_cwS 3 hts gX8_turn_X8_in rfl rfl rfl (by decide +kernel) ⟨Nat.le_of_ble_eq_true rfl, Nat.le_of_ble_eq_true rfl⟩) rfl hl.1 rfl (Nat.le_of_ble_eq_true rfl) dX8_turn_3 ⟨Nat.le_refl _, Nat.le_refl _⟩ (fun z3 u3 H locs hq3 X => ?_)
  rw [hq3.1] at X
  have hq3 := hq3.2
  try dsimp only at hq3
  refine g_if_ne (tgt := 12) G dX8_turn_6 (by decide) (by omega) (fun h6 => ?_) (fun h6 => ?_)
  ·
    refine lv_aload_n hx hb dX8_turn_12 rfl (lv_at hl 0 rfl) ?_
    refine g_get G X (k := 0) (fs := fM Y) (Nat.le_of_ble_eq_true rfl) (fun _ => rfl) rfl in_X8 0 (by decide) l_f7 rfl (v := .ref (Y.2.1 (1))) rfl dX8_turn_13 ?_
    refine lv_iconst (v := iI 0) hx hb dX8_turn_16 rfl ?_
    refine g_iald G X (k := 1) (n := 37) (Nat.le_of_ble_eq_true rfl) (fun _ => rfl) (by decide) (z := 0) (by omega) dX8_turn_17 ?_
    refine g_topi (z' := (P.length : Int)) hd0 ?_
    refine g_if_ne (tgt := 24) G dX8_turn_18 (by decide) (by omega) (fun h18 => ?_) (fun h18 => ?_)
    ·
      refine lv_aload_n hx hb dX8_turn_24 rfl (lv_at hl 0 rfl) ?_
      refine g_callVv G X (rest := []) (As := []) (t_X8_finds l Y (σ) P hs tx ch (by first | assumption | omega)) (cwV 0 hts gX8_turn_X8_finds rfl rfl rfl (by decide +kernel) ⟨Nat.le_of_ble_eq_true rfl, Nat.le_of_ble_eq_true rfl⟩) (k := 0) (Nat.le_of_ble_eq_true rfl) rfl rfl rfl rfl hl.1 rfl (Nat.le_of_ble_eq_true rfl) dX8_turn_25 ⟨Nat.le_refl _, Nat.le_refl _⟩ (fun u25 H locs hq25 X => ?_)
      obtain ⟨hG, hFg⟩ := id hq25
      have hI2 := hI.keep (hFg.C (by omega) (by omega))
      have hMG : MG u25 P := ⟨hI2.1.1, hok, hG⟩
      refine lv_aload_n hx hb dX8_turn_28 rfl (lv_at hl 0 rfl) ?_
      refine lv_iload_n hx hb dX8_turn_29 rfl (lv_at hl 1 rfl) ?_
      refine g_callVi G X (rest := []) (As := [.int (iI (kind))]) (t_X8_fits l Y (u25) P (kind) hMG (by first | assumption | omega)) (cwV 1 hts gX8_turn_X8_fits rfl rfl rfl (by decide +kernel) ⟨Nat.le_of_ble_eq_true rfl, Nat.le_of_ble_eq_true rfl⟩) (k := 0) (Nat.le_of_ble_eq_true rfl) rfl rfl rfl rfl hl.1 rfl (Nat.le_of_ble_eq_true rfl) dX8_turn_30 ⟨Nat.le_refl _, Nat.le_refl _⟩ (fun z30 u30 H locs hq30 X => ?_)
      have hI3 := hI2.keep (hq30.2.2.C (by omega) (by omega))
      exact hret _ _ _ _ _ _ (⟨by { rw [hq30.1, if_pos (by omega)]; unfold turnA tSide; exact ((if_neg (by omega)).trans (if_neg (by omega))).symm }, hI3⟩) X dX8_turn_33
    ·
      refine g_ldc G (z := (-1000002)) l_c71 (by decide +kernel) dX8_turn_21 ?_
      exact hret _ _ _ _ _ _ (⟨((if_neg (by omega)).trans (if_pos (by omega))).symm, hI⟩) X dX8_turn_23
  ·
    refine g_ldc G (z := (-1000001)) l_c62 (by decide +kernel) dX8_turn_9 ?_
    exact hret _ _ _ _ _ _ (⟨(if_pos (by omega)).symm, hI⟩) X dX8_turn_11

set_option maxHeartbeats 4000000 in
set_option maxRecDepth 100000 in
theorem t_X8_turnError (l : Launch) (Y : Yt) (σ : Mem) (P : List Pt) (hs : List (List Pt)) (tx : List Int) (ch : List Int) (kind : Int) (g : Int) (w : Int) (hI : MInv σ P hs tx ch) (h_kind : -2147483648 ≤ kind ∧ kind ≤ 2147483647) (h_g : -2147483648 ≤ g ∧ g ≤ 2147483647) (h_w : -2147483648 ≤ w ∧ w ≤ 2147483647) : MXl l LM Y yX8_turnError wsX8_turnError { frames := 4, cells := 0, slots := 0, locals := 107 } [.ref (Y.2.1 (0)), .int (iI (kind)), .int (iI (g)), .int (iI (w))] σ (fun z u => z = teA P kind g w ∧ MInv u P hs tx ch) := by
  obtain ⟨⟨hP, hok⟩, ⟨hW, hHok⟩, ⟨hTx, htok⟩, hC, hC3⟩ := id hI
  obtain ⟨hd0, h12, hd⟩ := hP.d
  have hh6 := hW.2.1
  have hkp := hW.1
  have h90 := htok.1
  have hty := hTx.1
  have hre := hC.1
  have hPr := prof_of hok hP.2.1
  obtain ⟨⟨hn0, hn12, hW0, hM0, hW24⟩, hstep, hXa, hXr⟩ := id hPr
  have hq0 : 0 ≤ gQ P ∧ gQ P ≤ 235224 := gQ_rg hok hP.2.1
  have hn9 := ng_0 hok
  refine g_startl (cc := cX8_turnError) (nL := 4) (own := RX8) (by decide) rfl rfl (Nat.le_of_ble_eq_true rfl) ?_
  intro pp ee ss mm bw mt cd AA ZZ ls G hret X hl
  have hl : lv_has ls 4 [(0, .ref (Y.2.1 (0))), (1, .int (iI (kind))), (2, .int (iI (g))), (3, .int (iI (w)))] := hl
  have hx := G.1
  have hb := G.2.1
  have hts := G.2.2.2.2.1
  have l_k113 := hts (.constantLong RX8 113 (5354228880)) (List.mem_of_getElem? (i := 2) rfl)
  have l_k136 := hts (.constantLong RX8 136 (-1000001)) (List.mem_of_getElem? (i := 1) rfl)
  refine lv_iload_n hx hb dX8_turnError_0 rfl (lv_at hl 1 rfl) ?_
  refine lv_iconst (v := iI 2) hx hb dX8_turnError_1 rfl ?_
  have hI2 := hI
  refine lv_iconst (v := iI 3) hx hb dX8_turnError_2 rfl ?_
  refine g_callSi G X (rest := []) (As := [.int (iI (kind)), .int (iI (2)), .int (iI (3))]) (t_X8_in l Y (σ) (kind) (2) (3) (by first | assumption | omega) (by first | assumption | omega) (by first | assumption | omega)) (va_cwS 3 hts gX8_turnError_X8_in rfl rfl rfl (by decide +kernel) ⟨Nat.le_of_ble_eq_true rfl, Nat.le_of_ble_eq_true rfl⟩) rfl hl.1 rfl (Nat.le_of_ble_eq_true rfl) dX8_turnError_3 ⟨Nat.le_refl _, Nat.le_refl _⟩ (fun z3 u3 H locs hq3 X => ?_)
  rw [hq3.1] at X
  have hq3 := hq3.2
  try dsimp only at hq3
  refine g_if_eq (tgt := 26) G dX8_turnError_6 (by decide) (by omega) (fun h6 => ?_) (fun h6 => ?_)
  ·
    refine g_ldc2 G (z := (-1000001)) l_k136 (by decide +kernel) dX8_turnError_26 ?_
    exact hret _ _ _ _ _ _ (⟨(if_pos (by omega)).symm, hI2⟩) X dX8_turnError_29
  ·
    refine lv_aload_n hx hb dX8_turnError_9 rfl (lv_at hl 0 rfl) ?_
    refine lv_iload_n hx hb dX8_turnError_10 rfl (lv_at hl 2 rfl) ?_
    refine g_callVi G X (rest := []) (As := [.int (iI (g))]) (t_X8_isGroup l Y (σ) P hs tx ch (g) (by first | assumption | omega) (by first | assumption | omega)) (cwV 1 hts gX8_turnError_X8_isGroup rfl rfl rfl (by decide +kernel) ⟨Nat.le_of_ble_eq_true rfl, Nat.le_of_ble_eq_true rfl⟩) (k := 0) (Nat.le_of_ble_eq_true rfl) rfl rfl rfl rfl hl.1 rfl (Nat.le_of_ble_eq_true rfl) dX8_turnError_11 ⟨Nat.le_refl _, Nat.le_refl _⟩ (fun z11 u11 H locs hq11 X => ?_)
    obtain ⟨hzg, hG, hFg⟩ := id hq11
    have hI2 := hI.keep (hFg.C (by omega) (by omega))
    have hMG : MG u11 P := ⟨hI2.1.1, hok, hG⟩
    refine g_if_eq (tgt := 26) G dX8_turnError_14 (by decide) (by omega) (fun h14 => ?_) (fun h14 => ?_)
    ·
      refine g_ldc2 G (z := (-1000001)) l_k136 (by decide +kernel) dX8_turnError_26 ?_
      exact hret _ _ _ _ _ _ (⟨(if_pos (by omega)).symm, hI2⟩) X dX8_turnError_29
    ·
      refine lv_iload_n hx hb dX8_turnError_17 rfl (lv_at hl 3 rfl) ?_
      refine lv_iconst (v := iI 0) hx hb dX8_turnError_18 rfl ?_
      refine lv_iconst (v := iI 1) hx hb dX8_turnError_19 rfl ?_
      refine g_callSi G X (rest := []) (As := [.int (iI (w)), .int (iI (0)), .int (iI (1))]) (t_X8_in l Y (u11) (w) (0) (1) (by first | assumption | omega) (by first | assumption | omega) (by first | assumption | omega)) (va_cwS 3 hts gX8_turnError_X8_in rfl rfl rfl (by decide +kernel) ⟨Nat.le_of_ble_eq_true rfl, Nat.le_of_ble_eq_true rfl⟩) rfl hl.1 rfl (Nat.le_of_ble_eq_true rfl) dX8_turnError_20 ⟨Nat.le_refl _, Nat.le_refl _⟩ (fun z20 u20 H locs hq20 X => ?_)
      rw [hq20.1] at X
      have hq20 := hq20.2
      try dsimp only at hq20
      refine g_if_ne (tgt := 30) G dX8_turnError_23 (by decide) (by omega) (fun h23 => ?_) (fun h23 => ?_)
      ·
        refine lv_aload_n hx hb dX8_turnError_30 rfl (lv_at hl 0 rfl) ?_
        refine lv_iload_n hx hb dX8_turnError_31 rfl (lv_at hl 2 rfl) ?_
        refine lv_iload_n hx hb dX8_turnError_32 rfl (lv_at hl 1 rfl) ?_
        refine lv_iconst (v := iI 2) hx hb dX8_turnError_33 rfl ?_
        refine g_icmp_ne (tgt := 41) G dX8_turnError_34 (by decide) (by omega) (by omega) (fun h34 => ?_) (fun h34 => ?_)
        ·
          refine lv_iconst (v := iI (-1)) hx hb dX8_turnError_41 rfl ?_
          refine g_topi (z' := tSide kind) (by unfold tSide; split <;> omega) ?_
          refine g_callVv G X (rest := []) (As := [.int (iI (g)), .int (iI ((tSide kind)))]) (t_X8_turns l Y (u11) P (g) ((tSide kind)) hMG (by unfold tSide; split <;> omega) (by first | assumption | omega)) (cwV 2 hts gX8_turnError_X8_turns rfl rfl rfl (by decide +kernel) ⟨Nat.le_of_ble_eq_true rfl, Nat.le_of_ble_eq_true rfl⟩) (k := 0) (Nat.le_of_ble_eq_true rfl) rfl rfl rfl rfl hl.1 rfl (Nat.le_of_ble_eq_true rfl) dX8_turnError_42 ⟨Nat.le_refl _, Nat.le_refl _⟩ (fun u42 H locs hq42 X => ?_)
          have hI3 := hI2.keep (hq42.2.C (by omega) (by omega))
          refine lv_aload_n hx hb dX8_turnError_45 rfl (lv_at hl 0 rfl) ?_
          refine lv_aload_n hx hb dX8_turnError_46 rfl (lv_at hl 0 rfl) ?_
          refine g_callVl G X (rest := [.ref (Y.2.1 (0))]) (As := []) (t_X8_errorOf l Y (u42) P (_) (hMG.fr hq42.2 (by omega) (by omega)) hq42.1.1.1 (fun _ => hq42.1.2)) (cwV 0 hts gX8_turnError_X8_errorOf rfl rfl rfl (by decide +kernel) ⟨Nat.le_of_ble_eq_true rfl, Nat.le_of_ble_eq_true rfl⟩) (k := 0) (Nat.le_of_ble_eq_true rfl) rfl rfl rfl rfl hl.1 rfl (Nat.le_of_ble_eq_true rfl) dX8_turnError_47 ⟨Nat.le_refl _, Nat.le_refl _⟩ (fun z47 u47 H locs hq47 X => ?_)
          rw [hq47.1] at X
          have hq47 := hq47.2
          try dsimp only at hq47
          have hEr := Err_rg hPr hq0 hq42.1.2
          refine g_topl (z' := Err (ng P) (gW P) (gM P) (gQ P) (pkB (ng P) (gW P) (gM P) (tSide kind) g)) hq47 ?_
          refine g_ldc2 G (z := 5354228880) l_k113 (by decide +kernel) dX8_turnError_50 ?_
          refine g_callVv G X (rest := []) (As := [.long (lI ((Err (ng P) (gW P) (gM P) (gQ P) (pkB (ng P) (gW P) (gM P) (tSide kind) g)))), .long (lI (5354228880))]) (t_X8_lowers l Y (u42) ((Err (ng P) (gW P) (gM P) (gQ P) (pkB (ng P) (gW P) (gM P) (tSide kind) g))) (5354228880) (by first | assumption | omega) (by first | assumption | omega)) (cwV 2 hts gX8_turnError_X8_lowers rfl rfl rfl (by decide +kernel) ⟨Nat.le_of_ble_eq_true rfl, Nat.le_of_ble_eq_true rfl⟩) (k := 0) (Nat.le_of_ble_eq_true rfl) rfl rfl rfl rfl hl.1 rfl (Nat.le_of_ble_eq_true rfl) dX8_turnError_53 ⟨Nat.le_refl _, Nat.le_refl _⟩ (fun u53 H locs hq53 X => ?_)
          have hI4 := hI3.keep (hq53.2.2.C (by omega) (by omega))
          have htl : (if w = 0 then u53 0 18 else u53 0 19) = teA P kind g w := by { rw [tells_low (by omega) hq53.1 hq53.2.1]; unfold teA; exact (if_neg (by omega)).symm }
          refine lv_aload_n hx hb dX8_turnError_56 rfl (lv_at hl 0 rfl) ?_
          refine lv_iload_n hx hb dX8_turnError_57 rfl (lv_at hl 3 rfl) ?_
          refine g_callVl G X (rest := []) (As := [.int (iI (w))]) (t_X8_tells l Y (u53) (w) (by first | assumption | omega)) (cwV 1 hts gX8_turnError_X8_tells rfl rfl rfl (by decide +kernel) ⟨Nat.le_of_ble_eq_true rfl, Nat.le_of_ble_eq_true rfl⟩) (k := 0) (Nat.le_of_ble_eq_true rfl) rfl rfl rfl rfl hl.1 rfl (Nat.le_of_ble_eq_true rfl) dX8_turnError_58 ⟨Nat.le_refl _, Nat.le_refl _⟩ (fun z58 u58 H locs hq58 X => ?_)
          rw [hq58.1] at X
          have hq58 := hq58.2
          try dsimp only at hq58
          exact hret _ _ _ _ _ _ (⟨hq58.trans htl, hI4⟩) X dX8_turnError_61
        ·
          refine lv_iconst (v := iI 1) hx hb dX8_turnError_37 rfl ?_
          refine lv_goto (tgt := 42) hx hb dX8_turnError_38 (by decide) ?_
          refine g_topi (z' := tSide kind) (by unfold tSide; split <;> omega) ?_
          refine g_callVv G X (rest := []) (As := [.int (iI (g)), .int (iI ((tSide kind)))]) (t_X8_turns l Y (u11) P (g) ((tSide kind)) hMG (by unfold tSide; split <;> omega) (by first | assumption | omega)) (cwV 2 hts gX8_turnError_X8_turns rfl rfl rfl (by decide +kernel) ⟨Nat.le_of_ble_eq_true rfl, Nat.le_of_ble_eq_true rfl⟩) (k := 0) (Nat.le_of_ble_eq_true rfl) rfl rfl rfl rfl hl.1 rfl (Nat.le_of_ble_eq_true rfl) dX8_turnError_42 ⟨Nat.le_refl _, Nat.le_refl _⟩ (fun u42 H locs hq42 X => ?_)
          have hI3 := hI2.keep (hq42.2.C (by omega) (by omega))
          refine lv_aload_n hx hb dX8_turnError_45 rfl (lv_at hl 0 rfl) ?_
          refine lv_aload_n hx hb dX8_turnError_46 rfl (lv_at hl 0 rfl) ?_
          refine g_callVl G X (rest := [.ref (Y.2.1 (0))]) (As := []) (t_X8_errorOf l Y (u42) P (_) (hMG.fr hq42.2 (by omega) (by omega)) hq42.1.1.1 (fun _ => hq42.1.2)) (cwV 0 hts gX8_turnError_X8_errorOf rfl rfl rfl (by decide +kernel) ⟨Nat.le_of_ble_eq_true rfl, Nat.le_of_ble_eq_true rfl⟩) (k := 0) (Nat.le_of_ble_eq_true rfl) rfl rfl rfl rfl hl.1 rfl (Nat.le_of_ble_eq_true rfl) dX8_turnError_47 ⟨Nat.le_refl _, Nat.le_refl _⟩ (fun z47 u47 H locs hq47 X => ?_)
          rw [hq47.1] at X
          have hq47 := hq47.2
          try dsimp only at hq47
          have hEr := Err_rg hPr hq0 hq42.1.2
          refine g_topl (z' := Err (ng P) (gW P) (gM P) (gQ P) (pkB (ng P) (gW P) (gM P) (tSide kind) g)) hq47 ?_
          refine g_ldc2 G (z := 5354228880) l_k113 (by decide +kernel) dX8_turnError_50 ?_
          refine g_callVv G X (rest := []) (As := [.long (lI ((Err (ng P) (gW P) (gM P) (gQ P) (pkB (ng P) (gW P) (gM P) (tSide kind) g)))), .long (lI (5354228880))]) (t_X8_lowers l Y (u42) ((Err (ng P) (gW P) (gM P) (gQ P) (pkB (ng P) (gW P) (gM P) (tSide kind) g))) (5354228880) (by first | assumption | omega) (by first | assumption | omega)) (cwV 2 hts gX8_turnError_X8_lowers rfl rfl rfl (by decide +kernel) ⟨Nat.le_of_ble_eq_true rfl, Nat.le_of_ble_eq_true rfl⟩) (k := 0) (Nat.le_of_ble_eq_true rfl) rfl rfl rfl rfl hl.1 rfl (Nat.le_of_ble_eq_true rfl) dX8_turnError_53 ⟨Nat.le_refl _, Nat.le_refl _⟩ (fun u53 H locs hq53 X => ?_)
          have hI4 := hI3.keep (hq53.2.2.C (by omega) (by omega))
          have htl : (if w = 0 then u53 0 18 else u53 0 19) = teA P kind g w := by { rw [tells_low (by omega) hq53.1 hq53.2.1]; unfold teA; exact (if_neg (by omega)).symm }
          refine lv_aload_n hx hb dX8_turnError_56 rfl (lv_at hl 0 rfl) ?_
          refine lv_iload_n hx hb dX8_turnError_57 rfl (lv_at hl 3 rfl) ?_
          refine g_callVl G X (rest := []) (As := [.int (iI (w))]) (t_X8_tells l Y (u53) (w) (by first | assumption | omega)) (cwV 1 hts gX8_turnError_X8_tells rfl rfl rfl (by decide +kernel) ⟨Nat.le_of_ble_eq_true rfl, Nat.le_of_ble_eq_true rfl⟩) (k := 0) (Nat.le_of_ble_eq_true rfl) rfl rfl rfl rfl hl.1 rfl (Nat.le_of_ble_eq_true rfl) dX8_turnError_58 ⟨Nat.le_refl _, Nat.le_refl _⟩ (fun z58 u58 H locs hq58 X => ?_)
          rw [hq58.1] at X
          have hq58 := hq58.2
          try dsimp only at hq58
          exact hret _ _ _ _ _ _ (⟨hq58.trans htl, hI4⟩) X dX8_turnError_61
      ·
        refine g_ldc2 G (z := (-1000001)) l_k136 (by decide +kernel) dX8_turnError_26 ?_
        exact hret _ _ _ _ _ _ (⟨(if_pos (by omega)).symm, hI2⟩) X dX8_turnError_29

set_option maxHeartbeats 4000000 in
set_option maxRecDepth 100000 in
theorem t_X8_blocks (l : Launch) (Y : Yt) (σ : Mem) (P : List Pt) (hs : List (List Pt)) (tx : List Int) (ch : List Int) (kind : Int) (hI : MInv σ P hs tx ch) (h_kind : -2147483648 ≤ kind ∧ kind ≤ 2147483647) : MXi l LM Y yX8_blocks wsX8_blocks { frames := 5, cells := 0, slots := 0, locals := 134 } [.ref (Y.2.1 (0)), .int (iI (kind))] σ (fun z u => (z = blocksA P kind ∧ MInv u P hs tx ch) ∧ (0 ≤ kind ∧ kind ≤ 3 → 0 < ng P → MBlE u (gW P) (gM P) (kdB P kind) (ng P) ∧ Asc (ng P) (kdB P kind))) := by
  obtain ⟨⟨hP, hok⟩, ⟨hW, hHok⟩, ⟨hTx, htok⟩, hC, hC3⟩ := id hI
  obtain ⟨hd0, h12, hd⟩ := hP.d
  have hh6 := hW.2.1
  have hkp := hW.1
  have h90 := htok.1
  have hty := hTx.1
  have hre := hC.1
  have hPr := prof_of hok hP.2.1
  obtain ⟨⟨hn0, hn12, hW0, hM0, hW24⟩, hstep, hXa, hXr⟩ := id hPr
  have hq0 : 0 ≤ gQ P ∧ gQ P ≤ 235224 := gQ_rg hok hP.2.1
  have hn9 := ng_0 hok
  refine g_starti (rty := .int) (fun _ _ _ => rfl) (cc := cX8_blocks) (nL := 2) (own := RX8) (by decide) rfl rfl (Nat.le_of_ble_eq_true rfl) ?_
  intro pp ee ss mm bw mt cd AA ZZ ls G hret X hl
  have hl : lv_has ls 2 [(0, .ref (Y.2.1 (0))), (1, .int (iI (kind)))] := hl
  have hx := G.1
  have hb := G.2.1
  have hts := G.2.2.2.2.1
  have l_c62 := hts (.constant RX8 62 (-1000001)) (List.mem_of_getElem? (i := 1) rfl)
  have l_f72 := hts (.fieldLink RX8 72 "ShapeFitsModel" "groups" "I") (List.mem_of_getElem? (i := 3) rfl)
  have l_f96 := hts (.fieldLink RX8 96 "ShapeFitsModel" "blocks" "I") (List.mem_of_getElem? (i := 2) rfl)
  have in_X8 : ∀ w ∈ u_ws RX8 TX8 24, w ∈ wsX8_blocks := by decide +kernel
  refine lv_iload_n hx hb dX8_blocks_0 rfl (lv_at hl 1 rfl) ?_
  refine lv_iconst (v := iI 0) hx hb dX8_blocks_1 rfl ?_
  refine lv_iconst (v := iI 3) hx hb dX8_blocks_2 rfl ?_
  refine g_callSi G X (rest := []) (As := [.int (iI (kind)), .int (iI (0)), .int (iI (3))]) (t_X8_in l Y (σ) (kind) (0) (3) (by first | assumption | omega) (by first | assumption | omega) (by first | assumption | omega)) (va_cwS 3 hts gX8_blocks_X8_in rfl rfl rfl (by decide +kernel) ⟨Nat.le_of_ble_eq_true rfl, Nat.le_of_ble_eq_true rfl⟩) rfl hl.1 rfl (Nat.le_of_ble_eq_true rfl) dX8_blocks_3 ⟨Nat.le_refl _, Nat.le_refl _⟩ (fun z3 u3 H locs hq3 X => ?_)
  rw [hq3.1] at X
  have hq3 := hq3.2
  try dsimp only at hq3
  refine g_if_ne (tgt := 12) G dX8_blocks_6 (by decide) (by omega) (fun h6 => ?_) (fun h6 => ?_)
  ·
    refine lv_aload_n hx hb dX8_blocks_12 rfl (lv_at hl 0 rfl) ?_
    refine g_callVv G X (rest := []) (As := []) (t_X8_finds l Y (σ) P hs tx ch (by first | assumption | omega)) (cwV 0 hts gX8_blocks_X8_finds rfl rfl rfl (by decide +kernel) ⟨Nat.le_of_ble_eq_true rfl, Nat.le_of_ble_eq_true rfl⟩) (k := 0) (Nat.le_of_ble_eq_true rfl) rfl rfl rfl rfl hl.1 rfl (Nat.le_of_ble_eq_true rfl) dX8_blocks_13 ⟨Nat.le_refl _, Nat.le_refl _⟩ (fun u13 H locs hq13 X => ?_)
    obtain ⟨hG, hFg⟩ := id hq13
    have hI2 := hI.keep (hFg.C (by omega) (by omega))
    have hMG : MG u13 P := ⟨hI2.1.1, hok, hG⟩
    refine lv_aload_n hx hb dX8_blocks_16 rfl (lv_at hl 0 rfl) ?_
    refine lv_iconst (v := iI 0) hx hb dX8_blocks_17 rfl ?_
    refine g_puti G X (k := 0) (fs := fM Y) (z := 0) (Nat.le_of_ble_eq_true rfl) (fun _ => rfl) rfl in_X8 tyX8 tyX8_ok nmX8 12 12 (by decide) l_f96 rfl rfl (by decide +kernel) (Nat.le_of_ble_eq_true rfl) (fun _ => rfl) dX8_blocks_18 (fun H locs X => ?_)
    have hF0 : Fr 9 11 12 12 u13 (up u13 0 12 0) := Fr.rf.fl (Or.inl rfl)
    refine lv_aload_n hx hb dX8_blocks_21 rfl (lv_at hl 0 rfl) ?_
    refine lv_iload_n hx hb dX8_blocks_22 rfl (lv_at hl 1 rfl) ?_
    refine g_callVi G X (rest := []) (As := [.int (iI (kind))]) (t_X8_fits l Y ((up u13 0 12 0)) P (kind) (hMG.fr hF0 (by omega) (by omega)) (by first | assumption | omega)) (cwV 1 hts gX8_blocks_X8_fits rfl rfl rfl (by decide +kernel) ⟨Nat.le_of_ble_eq_true rfl, Nat.le_of_ble_eq_true rfl⟩) (k := 0) (Nat.le_of_ble_eq_true rfl) rfl rfl rfl rfl hl.1 rfl (Nat.le_of_ble_eq_true rfl) dX8_blocks_23 ⟨Nat.le_refl _, Nat.le_refl _⟩ (fun z23 u23 H locs hq23 X => ?_)
    have hI3 := hI2.keep ((hF0.trans hq23.2.2).C (by omega) (by omega))
    refine lv_pop hx hb dX8_blocks_26 rfl ?_
    refine lv_aload_n hx hb dX8_blocks_27 rfl (lv_at hl 0 rfl) ?_
    refine g_get G X (k := 0) (fs := fM Y) (Nat.le_of_ble_eq_true rfl) (fun _ => rfl) rfl in_X8 8 (by decide) l_f72 rfl (v := .int (iI ((u23 0 8)))) rfl dX8_blocks_28 ?_
    refine g_topi (z' := ng P) ((hMG.fr hF0 (by omega) (by omega)).fr hq23.2.2 (by omega) (by omega)).2.2.1 ?_
    refine g_if_ne (tgt := 38) G dX8_blocks_31 (by decide) (by omega) (fun h31 => ?_) (fun h31 => ?_)
    ·
      refine lv_aload_n hx hb dX8_blocks_38 rfl (lv_at hl 0 rfl) ?_
      refine g_get G X (k := 0) (fs := fM Y) (Nat.le_of_ble_eq_true rfl) (fun _ => rfl) rfl in_X8 12 (by decide) l_f96 rfl (v := .int (iI ((u23 0 12)))) rfl dX8_blocks_39 ?_
      refine g_topi (z' := blocksA P kind) ((hq23.2.1 (by omega)).1.1.1.trans (by unfold blocksA; exact (if_neg (by omega)).symm)) ?_
      exact hret _ _ _ _ _ _ (⟨⟨rfl, hI3⟩, fun _ h => hq23.2.1 h⟩) X dX8_blocks_42
    ·
      refine lv_iconst (v := iI 0) hx hb dX8_blocks_34 rfl ?_
      refine g_topi (z' := blocksA P kind) (by unfold blocksA; rw [if_neg (by omega), kdB_0 (by omega)]; rfl) ?_
      refine lv_goto (tgt := 42) hx hb dX8_blocks_35 (by decide) ?_
      exact hret _ _ _ _ _ _ (⟨⟨rfl, hI3⟩, fun _ h => hq23.2.1 h⟩) X dX8_blocks_42
  ·
    refine g_ldc G (z := (-1000001)) l_c62 (by decide +kernel) dX8_blocks_9 ?_
    exact hret _ _ _ _ _ _ (⟨⟨(if_pos (by omega)).symm, hI⟩, fun h => absurd h (by omega)⟩) X dX8_blocks_11

set_option maxHeartbeats 4000000 in
set_option maxRecDepth 100000 in
theorem t_X8_blockInfo (l : Launch) (Y : Yt) (σ : Mem) (P : List Pt) (hs : List (List Pt)) (tx : List Int) (ch : List Int) (kind : Int) (b : Int) (w : Int) (hI : MInv σ P hs tx ch) (h_kind : -2147483648 ≤ kind ∧ kind ≤ 2147483647) (h_b : -2147483648 ≤ b ∧ b ≤ 2147483647) (h_w : -2147483648 ≤ w ∧ w ≤ 2147483647) : MXi l LM Y yX8_blockInfo wsX8_blockInfo { frames := 6, cells := 0, slots := 0, locals := 155 } [.ref (Y.2.1 (0)), .int (iI (kind)), .int (iI (b)), .int (iI (w))] σ (fun z u => z = binA P kind b w ∧ MInv u P hs tx ch) := by
  obtain ⟨⟨hP, hok⟩, ⟨hW, hHok⟩, ⟨hTx, htok⟩, hC, hC3⟩ := id hI
  obtain ⟨hd0, h12, hd⟩ := hP.d
  have hh6 := hW.2.1
  have hkp := hW.1
  have h90 := htok.1
  have hty := hTx.1
  have hre := hC.1
  have hPr := prof_of hok hP.2.1
  obtain ⟨⟨hn0, hn12, hW0, hM0, hW24⟩, hstep, hXa, hXr⟩ := id hPr
  have hq0 : 0 ≤ gQ P ∧ gQ P ≤ 235224 := gQ_rg hok hP.2.1
  have hn9 := ng_0 hok
  refine g_starti (rty := .int) (fun _ _ _ => rfl) (cc := cX8_blockInfo) (nL := 4) (own := RX8) (by decide) rfl rfl (Nat.le_of_ble_eq_true rfl) ?_
  intro pp ee ss mm bw mt cd AA ZZ ls G hret X hl
  have hl : lv_has ls 4 [(0, .ref (Y.2.1 (0))), (1, .int (iI (kind))), (2, .int (iI (b))), (3, .int (iI (w)))] := hl
  have hx := G.1
  have hb := G.2.1
  have hts := G.2.2.2.2.1
  have l_f35 := hts (.fieldLink RX8 35 "ShapeFitsModel" "first" "[I") (List.mem_of_getElem? (i := 3) rfl)
  have l_f38 := hts (.fieldLink RX8 38 "ShapeFitsModel" "blockWeight" "[I") (List.mem_of_getElem? (i := 4) rfl)
  have l_f41 := hts (.fieldLink RX8 41 "ShapeFitsModel" "blockMoment" "[I") (List.mem_of_getElem? (i := 5) rfl)
  have l_c62 := hts (.constant RX8 62 (-1000001)) (List.mem_of_getElem? (i := 1) rfl)
  have l_c159 := hts (.constant RX8 159 (-1000004)) (List.mem_of_getElem? (i := 2) rfl)
  have in_X8 : ∀ w ∈ u_ws RX8 TX8 24, w ∈ wsX8_blockInfo := by decide +kernel
  refine lv_iload_n hx hb dX8_blockInfo_0 rfl (lv_at hl 1 rfl) ?_
  refine lv_iconst (v := iI 0) hx hb dX8_blockInfo_1 rfl ?_
  refine lv_iconst (v := iI 3) hx hb dX8_blockInfo_2 rfl ?_
  refine g_callSi G X (rest := []) (As := [.int (iI (kind)), .int (iI (0)), .int (iI (3))]) (t_X8_in l Y (σ) (kind) (0) (3) (by first | assumption | omega) (by first | assumption | omega) (by first | assumption | omega)) (va_cwS 3 hts gX8_blockInfo_X8_in rfl rfl rfl (by decide +kernel) ⟨Nat.le_of_ble_eq_true rfl, Nat.le_of_ble_eq_true rfl⟩) rfl hl.1 rfl (Nat.le_of_ble_eq_true rfl) dX8_blockInfo_3 ⟨Nat.le_refl _, Nat.le_refl _⟩ (fun z3 u3 H locs hq3 X => ?_)
  rw [hq3.1] at X
  have hq3 := hq3.2
  try dsimp only at hq3
  refine g_if_eq (tgt := 22) G dX8_blockInfo_6 (by decide) (by omega) (fun h6 => ?_) (fun h6 => ?_)
  ·
    refine g_ldc G (z := (-1000001)) l_c62 (by decide +kernel) dX8_blockInfo_22 ?_
    exact hret _ _ _ _ _ _ (⟨(if_pos (by omega)).symm, hI⟩) X dX8_blockInfo_24
  ·
    refine lv_iload_n hx hb dX8_blockInfo_9 rfl (lv_at hl 2 rfl) ?_
    refine g_if_lt (tgt := 22) G dX8_blockInfo_10 (by decide) (by omega) (fun h10 => ?_) (fun h10 => ?_)
    ·
      refine g_ldc G (z := (-1000001)) l_c62 (by decide +kernel) dX8_blockInfo_22 ?_
      exact hret _ _ _ _ _ _ (⟨(if_pos (by omega)).symm, hI⟩) X dX8_blockInfo_24
    ·
      refine lv_iload_n hx hb dX8_blockInfo_13 rfl (lv_at hl 3 rfl) ?_
      refine lv_iconst (v := iI 0) hx hb dX8_blockInfo_14 rfl ?_
      refine lv_iconst (v := iI 3) hx hb dX8_blockInfo_15 rfl ?_
      refine g_callSi G X (rest := []) (As := [.int (iI (w)), .int (iI (0)), .int (iI (3))]) (t_X8_in l Y (σ) (w) (0) (3) (by first | assumption | omega) (by first | assumption | omega) (by first | assumption | omega)) (va_cwS 3 hts gX8_blockInfo_X8_in rfl rfl rfl (by decide +kernel) ⟨Nat.le_of_ble_eq_true rfl, Nat.le_of_ble_eq_true rfl⟩) rfl hl.1 rfl (Nat.le_of_ble_eq_true rfl) dX8_blockInfo_16 ⟨Nat.le_refl _, Nat.le_refl _⟩ (fun z16 u16 H locs hq16 X => ?_)
      rw [hq16.1] at X
      have hq16 := hq16.2
      try dsimp only at hq16
      refine g_if_ne (tgt := 25) G dX8_blockInfo_19 (by decide) (by omega) (fun h19 => ?_) (fun h19 => ?_)
      ·
        refine lv_iload_n hx hb dX8_blockInfo_25 rfl (lv_at hl 2 rfl) ?_
        refine lv_aload_n hx hb dX8_blockInfo_26 rfl (lv_at hl 0 rfl) ?_
        refine lv_iload_n hx hb dX8_blockInfo_27 rfl (lv_at hl 1 rfl) ?_
        refine g_callVi G X (rest := [.int (iI (b))]) (As := [.int (iI (kind))]) (t_X8_blocks l Y (σ) P hs tx ch (kind) (by first | assumption | omega) (by first | assumption | omega)) (cwV 1 hts gX8_blockInfo_X8_blocks rfl rfl rfl (by decide +kernel) ⟨Nat.le_of_ble_eq_true rfl, Nat.le_of_ble_eq_true rfl⟩) (k := 0) (Nat.le_of_ble_eq_true rfl) rfl rfl rfl rfl hl.1 rfl (Nat.le_of_ble_eq_true rfl) dX8_blockInfo_28 ⟨Nat.le_refl _, Nat.le_refl _⟩ (fun z28 u28 H locs hq28 X => ?_)
        obtain ⟨hz28, hI3⟩ := hq28.1
        have hbl : blocksA P kind = (kdB P kind).length := by { unfold blocksA; exact if_neg (by omega) }
        refine g_topi (z' := ((kdB P kind).length : Int)) (hz28.trans hbl) ?_
        have hl12 : (kdB P kind).length ≤ 12 := by { by_cases q : 0 < ng P; (have := (hq28.2 (by omega) q).2.2.2.2; omega); (rw [kdB_0 (by omega)]; exact Nat.zero_le _) }
        refine g_icmp_lt (tgt := 37) G dX8_blockInfo_31 (by decide) (by omega) (by omega) (fun h31 => ?_) (fun h31 => ?_)
        ·
          have hnp : 0 < ng P := by { by_cases q : 0 < ng P; exact q; (exfalso; rw [kdB_0 (by omega)] at h31; simp at h31; omega) }
          obtain ⟨hBE, hBA⟩ := hq28.2 (by omega) (by omega)
          have hBb := hBE.1.2 b (by omega) (by omega)
          have hbe := bEnd_rg hBA (j := b) (by omega) (by omega)
          have hll := hBA.2.2.2
          have hba : binA P kind b w = if w = 0 then at0 (kdB P kind) b else if w = 1 then bEnd (kdB P kind) (ng P) b else if w = 2 then gW P (bEnd (kdB P kind) (ng P) b + 1) - gW P (at0 (kdB P kind) b) else gM P (bEnd (kdB P kind) (ng P) b + 1) - gM P (at0 (kdB P kind) b) := by { unfold binA; exact (if_neg (by omega)).trans (if_neg (by omega)) }
          refine lv_iload_n hx hb dX8_blockInfo_37 rfl (lv_at hl 3 rfl) ?_
          refine g_if_ne (tgt := 50) G dX8_blockInfo_38 (by decide) (by omega) (fun h38 => ?_) (fun h38 => ?_)
          ·
            refine lv_iload_n hx hb dX8_blockInfo_50 rfl (lv_at hl 3 rfl) ?_
            refine lv_iconst (v := iI 1) hx hb dX8_blockInfo_51 rfl ?_
            refine g_icmp_ne (tgt := 68) G dX8_blockInfo_52 (by decide) (by omega) (by omega) (fun h52 => ?_) (fun h52 => ?_)
            ·
              refine lv_iload_n hx hb dX8_blockInfo_68 rfl (lv_at hl 3 rfl) ?_
              refine lv_iconst (v := iI 2) hx hb dX8_blockInfo_69 rfl ?_
              refine g_icmp_ne (tgt := 82) G dX8_blockInfo_70 (by decide) (by omega) (by omega) (fun h70 => ?_) (fun h70 => ?_)
              ·
                refine lv_aload_n hx hb dX8_blockInfo_82 rfl (lv_at hl 0 rfl) ?_
                refine g_get G X (k := 0) (fs := fM Y) (Nat.le_of_ble_eq_true rfl) (fun _ => rfl) rfl in_X8 15 (by decide) l_f41 rfl (v := .ref (Y.2.1 (11))) rfl dX8_blockInfo_83 ?_
                refine lv_iload_n hx hb dX8_blockInfo_86 rfl (lv_at hl 2 rfl) ?_
                refine g_iald G X (k := 11) (n := 13) (Nat.le_of_ble_eq_true rfl) (fun _ => rfl) (by decide) (z := b) (by omega) dX8_blockInfo_87 ?_
                refine g_topi (z' := binA P kind b w) (by rw [hba]; exact hBb.2.2.trans ((if_neg (by omega)).trans ((if_neg (by omega)).trans (if_neg (by omega)))).symm) ?_
                exact hret _ _ _ _ _ _ (⟨rfl, hI3⟩) X dX8_blockInfo_88
              ·
                refine lv_aload_n hx hb dX8_blockInfo_73 rfl (lv_at hl 0 rfl) ?_
                refine g_get G X (k := 0) (fs := fM Y) (Nat.le_of_ble_eq_true rfl) (fun _ => rfl) rfl in_X8 14 (by decide) l_f38 rfl (v := .ref (Y.2.1 (10))) rfl dX8_blockInfo_74 ?_
                refine lv_iload_n hx hb dX8_blockInfo_77 rfl (lv_at hl 2 rfl) ?_
                refine g_iald G X (k := 10) (n := 13) (Nat.le_of_ble_eq_true rfl) (fun _ => rfl) (by decide) (z := b) (by omega) dX8_blockInfo_78 ?_
                refine g_topi (z' := binA P kind b w) (by rw [hba]; exact hBb.2.1.trans ((if_neg (by omega)).trans ((if_neg (by omega)).trans (if_pos (by omega)))).symm) ?_
                refine lv_goto (tgt := 88) hx hb dX8_blockInfo_79 (by decide) ?_
                exact hret _ _ _ _ _ _ (⟨rfl, hI3⟩) X dX8_blockInfo_88
            ·
              refine lv_aload_n hx hb dX8_blockInfo_55 rfl (lv_at hl 0 rfl) ?_
              refine g_get G X (k := 0) (fs := fM Y) (Nat.le_of_ble_eq_true rfl) (fun _ => rfl) rfl in_X8 13 (by decide) l_f35 rfl (v := .ref (Y.2.1 (9))) rfl dX8_blockInfo_56 ?_
              refine lv_iload_n hx hb dX8_blockInfo_59 rfl (lv_at hl 2 rfl) ?_
              refine lv_iconst (v := iI 1) hx hb dX8_blockInfo_60 rfl ?_
              refine g_iadd G dX8_blockInfo_61 ?_
              refine g_iald G X (k := 9) (n := 14) (Nat.le_of_ble_eq_true rfl) (fun _ => rfl) (by decide) (z := (b + 1)) (by omega) dX8_blockInfo_62 ?_
              refine lv_iconst (v := iI 1) hx hb dX8_blockInfo_63 rfl ?_
              refine g_isub G dX8_blockInfo_64 ?_
              refine g_topi (z' := binA P kind b w) (by rw [hba, mble_first hBE (by omega) (by omega)]; exact (show bEnd (kdB P kind) (ng P) b + 1 - 1 = bEnd (kdB P kind) (ng P) b by omega).trans ((if_neg (by omega)).trans (if_pos (by omega))).symm) ?_
              refine lv_goto (tgt := 88) hx hb dX8_blockInfo_65 (by decide) ?_
              exact hret _ _ _ _ _ _ (⟨rfl, hI3⟩) X dX8_blockInfo_88
          ·
            refine lv_aload_n hx hb dX8_blockInfo_41 rfl (lv_at hl 0 rfl) ?_
            refine g_get G X (k := 0) (fs := fM Y) (Nat.le_of_ble_eq_true rfl) (fun _ => rfl) rfl in_X8 13 (by decide) l_f35 rfl (v := .ref (Y.2.1 (9))) rfl dX8_blockInfo_42 ?_
            refine lv_iload_n hx hb dX8_blockInfo_45 rfl (lv_at hl 2 rfl) ?_
            refine g_iald G X (k := 9) (n := 14) (Nat.le_of_ble_eq_true rfl) (fun _ => rfl) (by decide) (z := b) (by omega) dX8_blockInfo_46 ?_
            refine g_topi (z' := binA P kind b w) (by rw [hba]; exact hBb.1.trans (if_pos (by omega)).symm) ?_
            refine lv_goto (tgt := 88) hx hb dX8_blockInfo_47 (by decide) ?_
            exact hret _ _ _ _ _ _ (⟨rfl, hI3⟩) X dX8_blockInfo_88
        ·
          refine g_ldc G (z := (-1000004)) l_c159 (by decide +kernel) dX8_blockInfo_34 ?_
          exact hret _ _ _ _ _ _ (⟨by { unfold binA; exact ((if_neg (by omega)).trans (if_pos (by omega))).symm }, hI3⟩) X dX8_blockInfo_36
      ·
        refine g_ldc G (z := (-1000001)) l_c62 (by decide +kernel) dX8_blockInfo_22 ?_
        exact hret _ _ _ _ _ _ (⟨(if_pos (by omega)).symm, hI⟩) X dX8_blockInfo_24

set_option maxHeartbeats 4000000 in
set_option maxRecDepth 100000 in
theorem t_X8_kinks (l : Launch) (Y : Yt) (σ : Mem) (P : List Pt) (hs : List (List Pt)) (tx : List Int) (ch : List Int) (kind : Int) (hI : MInv σ P hs tx ch) (h_kind : -2147483648 ≤ kind ∧ kind ≤ 2147483647) : MXi l LM Y yX8_kinks wsX8_kinks { frames := 2, cells := 0, slots := 0, locals := 51 } [.ref (Y.2.1 (0)), .int (iI (kind))] σ (fun z u => (z = kinksA P kind ∧ MInv u P hs tx ch) ∧ (4 ≤ kind ∧ kind ≤ 5 → MHul u (hulC P (hSide kind)) ∧ ((hulC P (hSide kind)).length : Int) ≤ ng P)) := by
  obtain ⟨⟨hP, hok⟩, ⟨hW, hHok⟩, ⟨hTx, htok⟩, hC, hC3⟩ := id hI
  obtain ⟨hd0, h12, hd⟩ := hP.d
  have hh6 := hW.2.1
  have hkp := hW.1
  have h90 := htok.1
  have hty := hTx.1
  have hre := hC.1
  have hPr := prof_of hok hP.2.1
  obtain ⟨⟨hn0, hn12, hW0, hM0, hW24⟩, hstep, hXa, hXr⟩ := id hPr
  have hq0 : 0 ≤ gQ P ∧ gQ P ≤ 235224 := gQ_rg hok hP.2.1
  have hn9 := ng_0 hok
  refine g_starti (rty := .int) (fun _ _ _ => rfl) (cc := cX8_kinks) (nL := 2) (own := RX8) (by decide) rfl rfl (Nat.le_of_ble_eq_true rfl) ?_
  intro pp ee ss mm bw mt cd AA ZZ ls G hret X hl
  have hl : lv_has ls 2 [(0, .ref (Y.2.1 (0))), (1, .int (iI (kind)))] := hl
  have hx := G.1
  have hb := G.2.1
  have hts := G.2.2.2.2.1
  have l_c62 := hts (.constant RX8 62 (-1000001)) (List.mem_of_getElem? (i := 1) rfl)
  have l_f125 := hts (.fieldLink RX8 125 "ShapeFitsModel" "corners" "I") (List.mem_of_getElem? (i := 2) rfl)
  have in_X8 : ∀ w ∈ u_ws RX8 TX8 24, w ∈ wsX8_kinks := by decide +kernel
  refine lv_iload_n hx hb dX8_kinks_0 rfl (lv_at hl 1 rfl) ?_
  refine lv_iconst (v := iI 4) hx hb dX8_kinks_1 rfl ?_
  refine lv_iconst (v := iI 5) hx hb dX8_kinks_2 rfl ?_
  refine g_callSi G X (rest := []) (As := [.int (iI (kind)), .int (iI (4)), .int (iI (5))]) (t_X8_in l Y (σ) (kind) (4) (5) (by first | assumption | omega) (by first | assumption | omega) (by first | assumption | omega)) (va_cwS 3 hts gX8_kinks_X8_in rfl rfl rfl (by decide +kernel) ⟨Nat.le_of_ble_eq_true rfl, Nat.le_of_ble_eq_true rfl⟩) rfl hl.1 rfl (Nat.le_of_ble_eq_true rfl) dX8_kinks_3 ⟨Nat.le_refl _, Nat.le_refl _⟩ (fun z3 u3 H locs hq3 X => ?_)
  rw [hq3.1] at X
  have hq3 := hq3.2
  try dsimp only at hq3
  refine g_if_ne (tgt := 12) G dX8_kinks_6 (by decide) (by omega) (fun h6 => ?_) (fun h6 => ?_)
  ·
    refine lv_aload_n hx hb dX8_kinks_12 rfl (lv_at hl 0 rfl) ?_
    refine g_callVv G X (rest := []) (As := []) (t_X8_finds l Y (σ) P hs tx ch (by first | assumption | omega)) (cwV 0 hts gX8_kinks_X8_finds rfl rfl rfl (by decide +kernel) ⟨Nat.le_of_ble_eq_true rfl, Nat.le_of_ble_eq_true rfl⟩) (k := 0) (Nat.le_of_ble_eq_true rfl) rfl rfl rfl rfl hl.1 rfl (Nat.le_of_ble_eq_true rfl) dX8_kinks_13 ⟨Nat.le_refl _, Nat.le_refl _⟩ (fun u13 H locs hq13 X => ?_)
    obtain ⟨hG, hFg⟩ := id hq13
    have hI2 := hI.keep (hFg.C (by omega) (by omega))
    have hMG : MG u13 P := ⟨hI2.1.1, hok, hG⟩
    refine lv_aload_n hx hb dX8_kinks_16 rfl (lv_at hl 0 rfl) ?_
    refine lv_iload_n hx hb dX8_kinks_17 rfl (lv_at hl 1 rfl) ?_
    refine lv_iconst (v := iI 4) hx hb dX8_kinks_18 rfl ?_
    refine g_icmp_ne (tgt := 26) G dX8_kinks_19 (by decide) (by omega) (by omega) (fun h19 => ?_) (fun h19 => ?_)
    ·
      refine lv_iconst (v := iI (-1)) hx hb dX8_kinks_26 rfl ?_
      refine g_topi (z' := hSide kind) (by unfold hSide; split <;> omega) ?_
      refine g_callVv G X (rest := []) (As := [.int (iI ((hSide kind)))]) (t_X8_bends l Y (u13) P ((hSide kind)) hMG (by unfold hSide; split <;> omega)) (cwV 1 hts gX8_kinks_X8_bends rfl rfl rfl (by decide +kernel) ⟨Nat.le_of_ble_eq_true rfl, Nat.le_of_ble_eq_true rfl⟩) (k := 0) (Nat.le_of_ble_eq_true rfl) rfl rfl rfl rfl hl.1 rfl (Nat.le_of_ble_eq_true rfl) dX8_kinks_27 ⟨Nat.le_refl _, Nat.le_refl _⟩ (fun u27 H locs hq27 X => ?_)
      have hI3 := hI2.keep (hq27.2.C (by omega) (by omega))
      have hll := hq27.1.2.2.2.2
      refine lv_aload_n hx hb dX8_kinks_30 rfl (lv_at hl 0 rfl) ?_
      refine g_get G X (k := 0) (fs := fM Y) (Nat.le_of_ble_eq_true rfl) (fun _ => rfl) rfl in_X8 16 (by decide) l_f125 rfl (v := .int (iI ((u27 0 16)))) rfl dX8_kinks_31 ?_
      refine g_topi (z' := ((hulC P (hSide kind)).length : Int)) hq27.1.1.1 ?_
      refine lv_iconst (v := iI 2) hx hb dX8_kinks_34 rfl ?_
      refine g_icmp_ge (tgt := 42) G dX8_kinks_35 (by decide) (by omega) (by omega) (fun h35 => ?_) (fun h35 => ?_)
      ·
        refine lv_aload_n hx hb dX8_kinks_42 rfl (lv_at hl 0 rfl) ?_
        refine g_get G X (k := 0) (fs := fM Y) (Nat.le_of_ble_eq_true rfl) (fun _ => rfl) rfl in_X8 16 (by decide) l_f125 rfl (v := .int (iI ((u27 0 16)))) rfl dX8_kinks_43 ?_
        refine g_topi (z' := ((hulC P (hSide kind)).length : Int)) hq27.1.1.1 ?_
        refine lv_iconst (v := iI 2) hx hb dX8_kinks_46 rfl ?_
        refine g_isub G dX8_kinks_47 ?_
        exact hret _ _ _ _ _ _ (⟨⟨by { unfold kinksA; rw [if_neg (by omega)]; split <;> omega }, hI3⟩, fun _ => ⟨hq27.1.1, hll⟩⟩) X dX8_kinks_48
      ·
        refine lv_iconst (v := iI 0) hx hb dX8_kinks_38 rfl ?_
        refine lv_goto (tgt := 48) hx hb dX8_kinks_39 (by decide) ?_
        exact hret _ _ _ _ _ _ (⟨⟨by { unfold kinksA; rw [if_neg (by omega)]; split <;> omega }, hI3⟩, fun _ => ⟨hq27.1.1, hll⟩⟩) X dX8_kinks_48
    ·
      refine lv_iconst (v := iI 1) hx hb dX8_kinks_22 rfl ?_
      refine lv_goto (tgt := 27) hx hb dX8_kinks_23 (by decide) ?_
      refine g_topi (z' := hSide kind) (by unfold hSide; split <;> omega) ?_
      refine g_callVv G X (rest := []) (As := [.int (iI ((hSide kind)))]) (t_X8_bends l Y (u13) P ((hSide kind)) hMG (by unfold hSide; split <;> omega)) (cwV 1 hts gX8_kinks_X8_bends rfl rfl rfl (by decide +kernel) ⟨Nat.le_of_ble_eq_true rfl, Nat.le_of_ble_eq_true rfl⟩) (k := 0) (Nat.le_of_ble_eq_true rfl) rfl rfl rfl rfl hl.1 rfl (Nat.le_of_ble_eq_true rfl) dX8_kinks_27 ⟨Nat.le_refl _, Nat.le_refl _⟩ (fun u27 H locs hq27 X => ?_)
      have hI3 := hI2.keep (hq27.2.C (by omega) (by omega))
      have hll := hq27.1.2.2.2.2
      refine lv_aload_n hx hb dX8_kinks_30 rfl (lv_at hl 0 rfl) ?_
      refine g_get G X (k := 0) (fs := fM Y) (Nat.le_of_ble_eq_true rfl) (fun _ => rfl) rfl in_X8 16 (by decide) l_f125 rfl (v := .int (iI ((u27 0 16)))) rfl dX8_kinks_31 ?_
      refine g_topi (z' := ((hulC P (hSide kind)).length : Int)) hq27.1.1.1 ?_
      refine lv_iconst (v := iI 2) hx hb dX8_kinks_34 rfl ?_
      refine g_icmp_ge (tgt := 42) G dX8_kinks_35 (by decide) (by omega) (by omega) (fun h35 => ?_) (fun h35 => ?_)
      ·
        refine lv_aload_n hx hb dX8_kinks_42 rfl (lv_at hl 0 rfl) ?_
        refine g_get G X (k := 0) (fs := fM Y) (Nat.le_of_ble_eq_true rfl) (fun _ => rfl) rfl in_X8 16 (by decide) l_f125 rfl (v := .int (iI ((u27 0 16)))) rfl dX8_kinks_43 ?_
        refine g_topi (z' := ((hulC P (hSide kind)).length : Int)) hq27.1.1.1 ?_
        refine lv_iconst (v := iI 2) hx hb dX8_kinks_46 rfl ?_
        refine g_isub G dX8_kinks_47 ?_
        exact hret _ _ _ _ _ _ (⟨⟨by { unfold kinksA; rw [if_neg (by omega)]; split <;> omega }, hI3⟩, fun _ => ⟨hq27.1.1, hll⟩⟩) X dX8_kinks_48
      ·
        refine lv_iconst (v := iI 0) hx hb dX8_kinks_38 rfl ?_
        refine lv_goto (tgt := 48) hx hb dX8_kinks_39 (by decide) ?_
        exact hret _ _ _ _ _ _ (⟨⟨by { unfold kinksA; rw [if_neg (by omega)]; split <;> omega }, hI3⟩, fun _ => ⟨hq27.1.1, hll⟩⟩) X dX8_kinks_48
  ·
    refine g_ldc G (z := (-1000001)) l_c62 (by decide +kernel) dX8_kinks_9 ?_
    exact hret _ _ _ _ _ _ (⟨⟨(if_pos (by omega)).symm, hI⟩, fun h => absurd h (by omega)⟩) X dX8_kinks_11

set_option maxHeartbeats 4000000 in
set_option maxRecDepth 100000 in
theorem t_X8_kinkAt (l : Launch) (Y : Yt) (σ : Mem) (P : List Pt) (hs : List (List Pt)) (tx : List Int) (ch : List Int) (kind : Int) (i : Int) (hI : MInv σ P hs tx ch) (h_kind : -2147483648 ≤ kind ∧ kind ≤ 2147483647) (h_i : -2147483648 ≤ i ∧ i ≤ 2147483647) : MXi l LM Y yX8_kinkAt wsX8_kinkAt { frames := 3, cells := 0, slots := 0, locals := 72 } [.ref (Y.2.1 (0)), .int (iI (kind)), .int (iI (i))] σ (fun z u => z = kinkAtA P kind i ∧ MInv u P hs tx ch) := by
  obtain ⟨⟨hP, hok⟩, ⟨hW, hHok⟩, ⟨hTx, htok⟩, hC, hC3⟩ := id hI
  obtain ⟨hd0, h12, hd⟩ := hP.d
  have hh6 := hW.2.1
  have hkp := hW.1
  have h90 := htok.1
  have hty := hTx.1
  have hre := hC.1
  have hPr := prof_of hok hP.2.1
  obtain ⟨⟨hn0, hn12, hW0, hM0, hW24⟩, hstep, hXa, hXr⟩ := id hPr
  have hq0 : 0 ≤ gQ P ∧ gQ P ≤ 235224 := gQ_rg hok hP.2.1
  have hn9 := ng_0 hok
  refine g_starti (rty := .int) (fun _ _ _ => rfl) (cc := cX8_kinkAt) (nL := 3) (own := RX8) (by decide) rfl rfl (Nat.le_of_ble_eq_true rfl) ?_
  intro pp ee ss mm bw mt cd AA ZZ ls G hret X hl
  have hl : lv_has ls 3 [(0, .ref (Y.2.1 (0))), (1, .int (iI (kind))), (2, .int (iI (i)))] := hl
  have hx := G.1
  have hb := G.2.1
  have hts := G.2.2.2.2.1
  have l_f44 := hts (.fieldLink RX8 44 "ShapeFitsModel" "corner" "[I") (List.mem_of_getElem? (i := 2) rfl)
  have l_c62 := hts (.constant RX8 62 (-1000001)) (List.mem_of_getElem? (i := 1) rfl)
  have l_c159 := hts (.constant RX8 159 (-1000004)) (List.mem_of_getElem? (i := 3) rfl)
  have in_X8 : ∀ w ∈ u_ws RX8 TX8 24, w ∈ wsX8_kinkAt := by decide +kernel
  refine lv_iload_n hx hb dX8_kinkAt_0 rfl (lv_at hl 1 rfl) ?_
  refine lv_iconst (v := iI 4) hx hb dX8_kinkAt_1 rfl ?_
  refine lv_iconst (v := iI 5) hx hb dX8_kinkAt_2 rfl ?_
  refine g_callSi G X (rest := []) (As := [.int (iI (kind)), .int (iI (4)), .int (iI (5))]) (t_X8_in l Y (σ) (kind) (4) (5) (by first | assumption | omega) (by first | assumption | omega) (by first | assumption | omega)) (va_cwS 3 hts gX8_kinkAt_X8_in rfl rfl rfl (by decide +kernel) ⟨Nat.le_of_ble_eq_true rfl, Nat.le_of_ble_eq_true rfl⟩) rfl hl.1 rfl (Nat.le_of_ble_eq_true rfl) dX8_kinkAt_3 ⟨Nat.le_refl _, Nat.le_refl _⟩ (fun z3 u3 H locs hq3 X => ?_)
  rw [hq3.1] at X
  have hq3 := hq3.2
  try dsimp only at hq3
  refine g_if_eq (tgt := 13) G dX8_kinkAt_6 (by decide) (by omega) (fun h6 => ?_) (fun h6 => ?_)
  ·
    refine g_ldc G (z := (-1000001)) l_c62 (by decide +kernel) dX8_kinkAt_13 ?_
    exact hret _ _ _ _ _ _ (⟨(if_pos (by omega)).symm, hI⟩) X dX8_kinkAt_15
  ·
    refine lv_iload_n hx hb dX8_kinkAt_9 rfl (lv_at hl 2 rfl) ?_
    refine g_if_ge (tgt := 16) G dX8_kinkAt_10 (by decide) (by omega) (fun h10 => ?_) (fun h10 => ?_)
    ·
      refine lv_iload_n hx hb dX8_kinkAt_16 rfl (lv_at hl 2 rfl) ?_
      refine lv_aload_n hx hb dX8_kinkAt_17 rfl (lv_at hl 0 rfl) ?_
      refine lv_iload_n hx hb dX8_kinkAt_18 rfl (lv_at hl 1 rfl) ?_
      refine g_callVi G X (rest := [.int (iI (i))]) (As := [.int (iI (kind))]) (t_X8_kinks l Y (σ) P hs tx ch (kind) (by first | assumption | omega) (by first | assumption | omega)) (cwV 1 hts gX8_kinkAt_X8_kinks rfl rfl rfl (by decide +kernel) ⟨Nat.le_of_ble_eq_true rfl, Nat.le_of_ble_eq_true rfl⟩) (k := 0) (Nat.le_of_ble_eq_true rfl) rfl rfl rfl rfl hl.1 rfl (Nat.le_of_ble_eq_true rfl) dX8_kinkAt_19 ⟨Nat.le_refl _, Nat.le_refl _⟩ (fun z19 u19 H locs hq19 X => ?_)
      obtain ⟨hz19, hI3⟩ := hq19.1
      obtain ⟨hMH, hll⟩ := hq19.2 (by omega)
      have hka : kinksA P kind = if 2 ≤ (hulC P (hSide kind)).length then ((hulC P (hSide kind)).length : Int) - 2 else 0 := by { unfold kinksA; exact if_neg (by omega) }
      have hkr : (i < z19 → i + 2 < (hulC P (hSide kind)).length) ∧ (z19 ≤ i → ¬ i + 2 < (hulC P (hSide kind)).length) ∧ -2 ≤ z19 ∧ z19 ≤ 12 := by { rw [hz19, hka]; split <;> omega }
      refine g_icmp_ge (tgt := 36) G dX8_kinkAt_22 (by decide) (by omega) (by omega) (fun h22 => ?_) (fun h22 => ?_)
      ·
        refine g_ldc G (z := (-1000004)) l_c159 (by decide +kernel) dX8_kinkAt_36 ?_
        refine g_topi (z' := kinkAtA P kind i) (by unfold kinkAtA; exact ((if_neg (by omega)).trans (if_neg (by omega))).symm) ?_
        exact hret _ _ _ _ _ _ (⟨rfl, hI3⟩) X dX8_kinkAt_38
      ·
        refine lv_aload_n hx hb dX8_kinkAt_25 rfl (lv_at hl 0 rfl) ?_
        refine g_get G X (k := 0) (fs := fM Y) (Nat.le_of_ble_eq_true rfl) (fun _ => rfl) rfl in_X8 17 (by decide) l_f44 rfl (v := .ref (Y.2.1 (12))) rfl dX8_kinkAt_26 ?_
        refine lv_iload_n hx hb dX8_kinkAt_29 rfl (lv_at hl 2 rfl) ?_
        refine lv_iconst (v := iI 1) hx hb dX8_kinkAt_30 rfl ?_
        refine g_iadd G dX8_kinkAt_31 ?_
        refine g_iald G X (k := 12) (n := 13) (Nat.le_of_ble_eq_true rfl) (fun _ => rfl) (by decide) (z := (i + 1)) (by omega) dX8_kinkAt_32 ?_
        refine g_topi (z' := at0 (hulC P (hSide kind)) (i + 1)) (hMH.2 (i + 1) (by omega) (by omega)) ?_
        refine g_topi (z' := kinkAtA P kind i) (by unfold kinkAtA; exact ((if_neg (by omega)).trans (if_pos (by omega))).symm) ?_
        refine lv_goto (tgt := 38) hx hb dX8_kinkAt_33 (by decide) ?_
        exact hret _ _ _ _ _ _ (⟨rfl, hI3⟩) X dX8_kinkAt_38
    ·
      refine g_ldc G (z := (-1000001)) l_c62 (by decide +kernel) dX8_kinkAt_13 ?_
      exact hret _ _ _ _ _ _ (⟨(if_pos (by omega)).symm, hI⟩) X dX8_kinkAt_15

