set_option maxHeartbeats 4000000 in
set_option maxRecDepth 100000 in
theorem t_X5_init (l : Launch) (b : Nat) (D : va_G) (cf : Nat → ClassId) : MCt l yX5_init wsX5_init { frames := 1, cells := 3, slots := 36, locals := 12 } b [] 5 [.null, .null, .null, .int 0] (fun _ => True) D cf 3 36 (fun q => [(q 0, .inr (5, [.ref (q 1), .ref (q 2), .ref (q 3), .int 0])), (q 1, .inl (cf 0, 12, .inl (fun _ => iI 0))), (q 2, .inl (cf 0, 12, .inl (fun _ => iI 0))), (q 3, .inl (cf 0, 12, .inl (fun _ => iI 0)))]) := by
  refine c_start (cc := cX5_init) (nL := 1) (own := RX5) (by decide) rfl rfl rfl (Nat.le_of_ble_eq_true rfl) ?_
  intro pp ee ss mm bw mt cd AA ZZ ls G hret hP hD hS hK hA hN hl
  have hx := G.1.1
  have hb := G.1.2.1
  have hml := G.1.2.2.1
  have hown := G.1.2.2.2.1
  have hts := G.1.2.2.2.2.1
  have hin := G.2
  have hl : lv_has ls 1 [(0, .ref b)] := hl
  refine lv_aload_n hx hb dX5_init_0 rfl (lv_at hl 0 rfl) ?_
  refine W.objInit hx hb hown (hts (.methodLink RX5 3 objectInit) (List.mem_of_getElem? (i := 1) rfl)) (hts (.instanceMethod objectInit) (List.mem_of_getElem? (i := 2) rfl)) (hts (.code objectInit ⟨#[0xb1]⟩ 1 none) (List.mem_of_getElem? (i := 3) rfl)) rfl (by rw [hml]; exact hl.1) rfl dX5_init_1 (Nat.le_of_ble_eq_true rfl) (Nat.le_of_ble_eq_true rfl) ?_
  refine W.eq (g2 := F0 mm 4 ls []) rfl ?_
  refine lv_aload_n hx hb dX5_init_4 rfl (lv_at hl 0 rfl) ?_
  refine lv_bipush (v := iI 12) hx hb dX5_init_5 (by decide +kernel) ?_
  refine c_newa (atype := .int) hx hb (hts (.arrayClass .int) (List.mem_of_getElem? (i := 4) rfl)) rfl hK hP hD hS hA 0 rfl (a0 := (12, .inl (fun _ => iI 0))) (fun _ => rfl) (by decide +kernel) (by decide +kernel) (by decide +kernel) (Nat.le_of_ble_eq_true rfl) (Nat.le_of_ble_eq_true rfl) dX5_init_7 (fun q7 H hP hD hS => ?_)
  have hP : va_P D vwCl [(b, .inr (5, [.null, .null, .null, .int 0])), (q7, .inl (cf 0, 12, .inl (fun _ => iI 0)))] H := hP
  have hD : va_D AA [(b, .inr (5, [.null, .null, .null, .int 0])), (q7, .inl (cf 0, 12, .inl (fun _ => iI 0)))] := hD
  have in_X5 : ∀ w ∈ u_ws RX5 TX5 4, w ∈ wsX5_init := by decide +kernel
  refine va_putF (D := D) (ci := 5) (v := .ref q7) (ty := .array .int) (C := RX5) (T := TX5) (N := 4) hx hb hts in_X5 tyX5 tyX5_ok nmX5 hown hK hP hD hS 0 rfl rfl 0 (by decide) (hts (.fieldLink RX5 9 "ShapeFits$PointRow" "position" "[I") (List.mem_of_getElem? (i := 5) rfl)) (fun _ h9 => h9) rfl hin rfl (by decide +kernel) rfl rfl (Nat.le_of_ble_eq_true rfl) dX5_init_9 (fun H locs hP hD hS => ?_)
  have hP : va_P D vwCl [(b, .inr (5, [.ref q7, .null, .null, .int 0])), (q7, .inl (cf 0, 12, .inl (fun _ => iI 0)))] H := hP
  have hD : va_D AA [(b, .inr (5, [.ref q7, .null, .null, .int 0])), (q7, .inl (cf 0, 12, .inl (fun _ => iI 0)))] := hD
  refine lv_aload_n hx hb dX5_init_12 rfl (lv_at hl 0 rfl) ?_
  refine lv_bipush (v := iI 12) hx hb dX5_init_13 (by decide +kernel) ?_
  refine c_newa (atype := .int) hx hb (hts (.arrayClass .int) (List.mem_of_getElem? (i := 4) rfl)) rfl hK hP hD hS hA 0 rfl (a0 := (12, .inl (fun _ => iI 0))) (fun _ => rfl) (by decide +kernel) (by decide +kernel) (by decide +kernel) (Nat.le_of_ble_eq_true rfl) (Nat.le_of_ble_eq_true rfl) dX5_init_15 (fun q15 H hP hD hS => ?_)
  have hP : va_P D vwCl [(b, .inr (5, [.ref q7, .null, .null, .int 0])), (q7, .inl (cf 0, 12, .inl (fun _ => iI 0))), (q15, .inl (cf 0, 12, .inl (fun _ => iI 0)))] H := hP
  have hD : va_D AA [(b, .inr (5, [.ref q7, .null, .null, .int 0])), (q7, .inl (cf 0, 12, .inl (fun _ => iI 0))), (q15, .inl (cf 0, 12, .inl (fun _ => iI 0)))] := hD
  refine va_putF (D := D) (ci := 5) (v := .ref q15) (ty := .array .int) (C := RX5) (T := TX5) (N := 4) hx hb hts in_X5 tyX5 tyX5_ok nmX5 hown hK hP hD hS 0 rfl rfl 1 (by decide) (hts (.fieldLink RX5 15 "ShapeFits$PointRow" "value" "[I") (List.mem_of_getElem? (i := 6) rfl)) (fun _ h9 => h9) rfl hin rfl (by decide +kernel) rfl rfl (Nat.le_of_ble_eq_true rfl) dX5_init_17 (fun H locs hP hD hS => ?_)
  have hP : va_P D vwCl [(b, .inr (5, [.ref q7, .ref q15, .null, .int 0])), (q7, .inl (cf 0, 12, .inl (fun _ => iI 0))), (q15, .inl (cf 0, 12, .inl (fun _ => iI 0)))] H := hP
  have hD : va_D AA [(b, .inr (5, [.ref q7, .ref q15, .null, .int 0])), (q7, .inl (cf 0, 12, .inl (fun _ => iI 0))), (q15, .inl (cf 0, 12, .inl (fun _ => iI 0)))] := hD
  refine lv_aload_n hx hb dX5_init_20 rfl (lv_at hl 0 rfl) ?_
  refine lv_bipush (v := iI 12) hx hb dX5_init_21 (by decide +kernel) ?_
  refine c_newa (atype := .int) hx hb (hts (.arrayClass .int) (List.mem_of_getElem? (i := 4) rfl)) rfl hK hP hD hS hA 0 rfl (a0 := (12, .inl (fun _ => iI 0))) (fun _ => rfl) (by decide +kernel) (by decide +kernel) (by decide +kernel) (Nat.le_of_ble_eq_true rfl) (Nat.le_of_ble_eq_true rfl) dX5_init_23 (fun q23 H hP hD hS => ?_)
  have hP : va_P D vwCl [(b, .inr (5, [.ref q7, .ref q15, .null, .int 0])), (q7, .inl (cf 0, 12, .inl (fun _ => iI 0))), (q15, .inl (cf 0, 12, .inl (fun _ => iI 0))), (q23, .inl (cf 0, 12, .inl (fun _ => iI 0)))] H := hP
  have hD : va_D AA [(b, .inr (5, [.ref q7, .ref q15, .null, .int 0])), (q7, .inl (cf 0, 12, .inl (fun _ => iI 0))), (q15, .inl (cf 0, 12, .inl (fun _ => iI 0))), (q23, .inl (cf 0, 12, .inl (fun _ => iI 0)))] := hD
  refine va_putF (D := D) (ci := 5) (v := .ref q23) (ty := .array .int) (C := RX5) (T := TX5) (N := 4) hx hb hts in_X5 tyX5 tyX5_ok nmX5 hown hK hP hD hS 0 rfl rfl 2 (by decide) (hts (.fieldLink RX5 18 "ShapeFits$PointRow" "weight" "[I") (List.mem_of_getElem? (i := 7) rfl)) (fun _ h9 => h9) rfl hin rfl (by decide +kernel) rfl rfl (Nat.le_of_ble_eq_true rfl) dX5_init_25 (fun H locs hP hD hS => ?_)
  have hP : va_P D vwCl [(b, .inr (5, [.ref q7, .ref q15, .ref q23, .int 0])), (q7, .inl (cf 0, 12, .inl (fun _ => iI 0))), (q15, .inl (cf 0, 12, .inl (fun _ => iI 0))), (q23, .inl (cf 0, 12, .inl (fun _ => iI 0)))] H := hP
  have hD : va_D AA [(b, .inr (5, [.ref q7, .ref q15, .ref q23, .int 0])), (q7, .inl (cf 0, 12, .inl (fun _ => iI 0))), (q15, .inl (cf 0, 12, .inl (fun _ => iI 0))), (q23, .inl (cf 0, 12, .inl (fun _ => iI 0)))] := hD
  exact hret (fun k => [b, q7, q15, q23].getD k 0) _ _ _ _ rfl hP hD hS hK dX5_init_28

set_option maxHeartbeats 4000000 in
set_option maxRecDepth 100000 in
theorem t_X1_init (l : Launch) (b : Nat) (D : va_G) (cf : Nat → ClassId) : MCt l yX1_init wsX1_init { frames := 1, cells := 4, slots := 50, locals := 12 } b [] 1 [.null, .null, .null, .null, .int 0, .int 0] (fun _ => True) D cf 4 50 (fun q => [(q 0, .inr (1, [.ref (q 1), .ref (q 2), .ref (q 3), .ref (q 4), .int 0, .int 0])), (q 1, .inl (cf 0, 12, .inl (fun _ => iI 0))), (q 2, .inl (cf 0, 12, .inl (fun _ => iI 0))), (q 3, .inl (cf 0, 13, .inl (fun _ => iI 0))), (q 4, .inl (cf 0, 13, .inl (fun _ => iI 0)))]) := by
  refine c_start (cc := cX1_init) (nL := 1) (own := RX1) (by decide) rfl rfl rfl (Nat.le_of_ble_eq_true rfl) ?_
  intro pp ee ss mm bw mt cd AA ZZ ls G hret hP hD hS hK hA hN hl
  have hx := G.1.1
  have hb := G.1.2.1
  have hml := G.1.2.2.1
  have hown := G.1.2.2.2.1
  have hts := G.1.2.2.2.2.1
  have hin := G.2
  have hl : lv_has ls 1 [(0, .ref b)] := hl
  refine lv_aload_n hx hb dX1_init_0 rfl (lv_at hl 0 rfl) ?_
  refine W.objInit hx hb hown (hts (.methodLink RX1 3 objectInit) (List.mem_of_getElem? (i := 1) rfl)) (hts (.instanceMethod objectInit) (List.mem_of_getElem? (i := 2) rfl)) (hts (.code objectInit ⟨#[0xb1]⟩ 1 none) (List.mem_of_getElem? (i := 3) rfl)) rfl (by rw [hml]; exact hl.1) rfl dX1_init_1 (Nat.le_of_ble_eq_true rfl) (Nat.le_of_ble_eq_true rfl) ?_
  refine W.eq (g2 := F0 mm 4 ls []) rfl ?_
  refine lv_aload_n hx hb dX1_init_4 rfl (lv_at hl 0 rfl) ?_
  refine lv_bipush (v := iI 12) hx hb dX1_init_5 (by decide +kernel) ?_
  refine c_newa (atype := .int) hx hb (hts (.arrayClass .int) (List.mem_of_getElem? (i := 4) rfl)) rfl hK hP hD hS hA 0 rfl (a0 := (12, .inl (fun _ => iI 0))) (fun _ => rfl) (by decide +kernel) (by decide +kernel) (by decide +kernel) (Nat.le_of_ble_eq_true rfl) (Nat.le_of_ble_eq_true rfl) dX1_init_7 (fun q7 H hP hD hS => ?_)
  have hP : va_P D vwCl [(b, .inr (1, [.null, .null, .null, .null, .int 0, .int 0])), (q7, .inl (cf 0, 12, .inl (fun _ => iI 0)))] H := hP
  have hD : va_D AA [(b, .inr (1, [.null, .null, .null, .null, .int 0, .int 0])), (q7, .inl (cf 0, 12, .inl (fun _ => iI 0)))] := hD
  have in_X1 : ∀ w ∈ u_ws RX1 TX1 6, w ∈ wsX1_init := by decide +kernel
  refine va_putF (D := D) (ci := 1) (v := .ref q7) (ty := .array .int) (C := RX1) (T := TX1) (N := 6) hx hb hts in_X1 tyX1 tyX1_ok nmX1 hown hK hP hD hS 0 rfl rfl 0 (by decide) (hts (.fieldLink RX1 9 "ShapeFits$GroupTable" "position" "[I") (List.mem_of_getElem? (i := 5) rfl)) (fun _ h9 => h9) rfl hin rfl (by decide +kernel) rfl rfl (Nat.le_of_ble_eq_true rfl) dX1_init_9 (fun H locs hP hD hS => ?_)
  have hP : va_P D vwCl [(b, .inr (1, [.ref q7, .null, .null, .null, .int 0, .int 0])), (q7, .inl (cf 0, 12, .inl (fun _ => iI 0)))] H := hP
  have hD : va_D AA [(b, .inr (1, [.ref q7, .null, .null, .null, .int 0, .int 0])), (q7, .inl (cf 0, 12, .inl (fun _ => iI 0)))] := hD
  refine lv_aload_n hx hb dX1_init_12 rfl (lv_at hl 0 rfl) ?_
  refine lv_bipush (v := iI 12) hx hb dX1_init_13 (by decide +kernel) ?_
  refine c_newa (atype := .int) hx hb (hts (.arrayClass .int) (List.mem_of_getElem? (i := 4) rfl)) rfl hK hP hD hS hA 0 rfl (a0 := (12, .inl (fun _ => iI 0))) (fun _ => rfl) (by decide +kernel) (by decide +kernel) (by decide +kernel) (Nat.le_of_ble_eq_true rfl) (Nat.le_of_ble_eq_true rfl) dX1_init_15 (fun q15 H hP hD hS => ?_)
  have hP : va_P D vwCl [(b, .inr (1, [.ref q7, .null, .null, .null, .int 0, .int 0])), (q7, .inl (cf 0, 12, .inl (fun _ => iI 0))), (q15, .inl (cf 0, 12, .inl (fun _ => iI 0)))] H := hP
  have hD : va_D AA [(b, .inr (1, [.ref q7, .null, .null, .null, .int 0, .int 0])), (q7, .inl (cf 0, 12, .inl (fun _ => iI 0))), (q15, .inl (cf 0, 12, .inl (fun _ => iI 0)))] := hD
  refine va_putF (D := D) (ci := 1) (v := .ref q15) (ty := .array .int) (C := RX1) (T := TX1) (N := 6) hx hb hts in_X1 tyX1 tyX1_ok nmX1 hown hK hP hD hS 0 rfl rfl 1 (by decide) (hts (.fieldLink RX1 15 "ShapeFits$GroupTable" "members" "[I") (List.mem_of_getElem? (i := 6) rfl)) (fun _ h9 => h9) rfl hin rfl (by decide +kernel) rfl rfl (Nat.le_of_ble_eq_true rfl) dX1_init_17 (fun H locs hP hD hS => ?_)
  have hP : va_P D vwCl [(b, .inr (1, [.ref q7, .ref q15, .null, .null, .int 0, .int 0])), (q7, .inl (cf 0, 12, .inl (fun _ => iI 0))), (q15, .inl (cf 0, 12, .inl (fun _ => iI 0)))] H := hP
  have hD : va_D AA [(b, .inr (1, [.ref q7, .ref q15, .null, .null, .int 0, .int 0])), (q7, .inl (cf 0, 12, .inl (fun _ => iI 0))), (q15, .inl (cf 0, 12, .inl (fun _ => iI 0)))] := hD
  refine lv_aload_n hx hb dX1_init_20 rfl (lv_at hl 0 rfl) ?_
  refine lv_bipush (v := iI 13) hx hb dX1_init_21 (by decide +kernel) ?_
  refine c_newa (atype := .int) hx hb (hts (.arrayClass .int) (List.mem_of_getElem? (i := 4) rfl)) rfl hK hP hD hS hA 0 rfl (a0 := (13, .inl (fun _ => iI 0))) (fun _ => rfl) (by decide +kernel) (by decide +kernel) (by decide +kernel) (Nat.le_of_ble_eq_true rfl) (Nat.le_of_ble_eq_true rfl) dX1_init_23 (fun q23 H hP hD hS => ?_)
  have hP : va_P D vwCl [(b, .inr (1, [.ref q7, .ref q15, .null, .null, .int 0, .int 0])), (q7, .inl (cf 0, 12, .inl (fun _ => iI 0))), (q15, .inl (cf 0, 12, .inl (fun _ => iI 0))), (q23, .inl (cf 0, 13, .inl (fun _ => iI 0)))] H := hP
  have hD : va_D AA [(b, .inr (1, [.ref q7, .ref q15, .null, .null, .int 0, .int 0])), (q7, .inl (cf 0, 12, .inl (fun _ => iI 0))), (q15, .inl (cf 0, 12, .inl (fun _ => iI 0))), (q23, .inl (cf 0, 13, .inl (fun _ => iI 0)))] := hD
  refine va_putF (D := D) (ci := 1) (v := .ref q23) (ty := .array .int) (C := RX1) (T := TX1) (N := 6) hx hb hts in_X1 tyX1 tyX1_ok nmX1 hown hK hP hD hS 0 rfl rfl 2 (by decide) (hts (.fieldLink RX1 18 "ShapeFits$GroupTable" "weightBefore" "[I") (List.mem_of_getElem? (i := 7) rfl)) (fun _ h9 => h9) rfl hin rfl (by decide +kernel) rfl rfl (Nat.le_of_ble_eq_true rfl) dX1_init_25 (fun H locs hP hD hS => ?_)
  have hP : va_P D vwCl [(b, .inr (1, [.ref q7, .ref q15, .ref q23, .null, .int 0, .int 0])), (q7, .inl (cf 0, 12, .inl (fun _ => iI 0))), (q15, .inl (cf 0, 12, .inl (fun _ => iI 0))), (q23, .inl (cf 0, 13, .inl (fun _ => iI 0)))] H := hP
  have hD : va_D AA [(b, .inr (1, [.ref q7, .ref q15, .ref q23, .null, .int 0, .int 0])), (q7, .inl (cf 0, 12, .inl (fun _ => iI 0))), (q15, .inl (cf 0, 12, .inl (fun _ => iI 0))), (q23, .inl (cf 0, 13, .inl (fun _ => iI 0)))] := hD
  refine lv_aload_n hx hb dX1_init_28 rfl (lv_at hl 0 rfl) ?_
  refine lv_bipush (v := iI 13) hx hb dX1_init_29 (by decide +kernel) ?_
  refine c_newa (atype := .int) hx hb (hts (.arrayClass .int) (List.mem_of_getElem? (i := 4) rfl)) rfl hK hP hD hS hA 0 rfl (a0 := (13, .inl (fun _ => iI 0))) (fun _ => rfl) (by decide +kernel) (by decide +kernel) (by decide +kernel) (Nat.le_of_ble_eq_true rfl) (Nat.le_of_ble_eq_true rfl) dX1_init_31 (fun q31 H hP hD hS => ?_)
  have hP : va_P D vwCl [(b, .inr (1, [.ref q7, .ref q15, .ref q23, .null, .int 0, .int 0])), (q7, .inl (cf 0, 12, .inl (fun _ => iI 0))), (q15, .inl (cf 0, 12, .inl (fun _ => iI 0))), (q23, .inl (cf 0, 13, .inl (fun _ => iI 0))), (q31, .inl (cf 0, 13, .inl (fun _ => iI 0)))] H := hP
  have hD : va_D AA [(b, .inr (1, [.ref q7, .ref q15, .ref q23, .null, .int 0, .int 0])), (q7, .inl (cf 0, 12, .inl (fun _ => iI 0))), (q15, .inl (cf 0, 12, .inl (fun _ => iI 0))), (q23, .inl (cf 0, 13, .inl (fun _ => iI 0))), (q31, .inl (cf 0, 13, .inl (fun _ => iI 0)))] := hD
  refine va_putF (D := D) (ci := 1) (v := .ref q31) (ty := .array .int) (C := RX1) (T := TX1) (N := 6) hx hb hts in_X1 tyX1 tyX1_ok nmX1 hown hK hP hD hS 0 rfl rfl 3 (by decide) (hts (.fieldLink RX1 21 "ShapeFits$GroupTable" "momentBefore" "[I") (List.mem_of_getElem? (i := 8) rfl)) (fun _ h9 => h9) rfl hin rfl (by decide +kernel) rfl rfl (Nat.le_of_ble_eq_true rfl) dX1_init_33 (fun H locs hP hD hS => ?_)
  have hP : va_P D vwCl [(b, .inr (1, [.ref q7, .ref q15, .ref q23, .ref q31, .int 0, .int 0])), (q7, .inl (cf 0, 12, .inl (fun _ => iI 0))), (q15, .inl (cf 0, 12, .inl (fun _ => iI 0))), (q23, .inl (cf 0, 13, .inl (fun _ => iI 0))), (q31, .inl (cf 0, 13, .inl (fun _ => iI 0)))] H := hP
  have hD : va_D AA [(b, .inr (1, [.ref q7, .ref q15, .ref q23, .ref q31, .int 0, .int 0])), (q7, .inl (cf 0, 12, .inl (fun _ => iI 0))), (q15, .inl (cf 0, 12, .inl (fun _ => iI 0))), (q23, .inl (cf 0, 13, .inl (fun _ => iI 0))), (q31, .inl (cf 0, 13, .inl (fun _ => iI 0)))] := hD
  exact hret (fun k => [b, q7, q15, q23, q31].getD k 0) _ _ _ _ rfl hP hD hS hK dX1_init_36

set_option maxHeartbeats 4000000 in
set_option maxRecDepth 100000 in
theorem t_X0_init (l : Launch) (b : Nat) (tb : Nat) (D : va_G) (cf : Nat → ClassId) : MCt l yX0_init wsX0_init { frames := 1, cells := 1, slots := 12, locals := 12 } b [.ref tb] 0 [.null, .null, .int 0, .int 0, .int 0] (fun _ => True) D cf 1 12 (fun q => [(q 0, .inr (0, [.ref tb, .ref (q 1), .int 0, .int 0, .int 0])), (q 1, .inl (cf 0, 12, .inl (fun _ => iI 0)))]) := by
  refine c_start (cc := cX0_init) (nL := 2) (own := RX0) (by decide) rfl rfl rfl (Nat.le_of_ble_eq_true rfl) ?_
  intro pp ee ss mm bw mt cd AA ZZ ls G hret hP hD hS hK hA hN hl
  have hx := G.1.1
  have hb := G.1.2.1
  have hml := G.1.2.2.1
  have hown := G.1.2.2.2.1
  have hts := G.1.2.2.2.2.1
  have hin := G.2
  have hl : lv_has ls 2 [(0, .ref b), (1, .ref tb)] := hl
  refine lv_aload_n hx hb dX0_init_0 rfl (lv_at hl 0 rfl) ?_
  refine W.objInit hx hb hown (hts (.methodLink RX0 3 objectInit) (List.mem_of_getElem? (i := 1) rfl)) (hts (.instanceMethod objectInit) (List.mem_of_getElem? (i := 2) rfl)) (hts (.code objectInit ⟨#[0xb1]⟩ 1 none) (List.mem_of_getElem? (i := 3) rfl)) rfl (by rw [hml]; exact hl.1) rfl dX0_init_1 (Nat.le_of_ble_eq_true rfl) (Nat.le_of_ble_eq_true rfl) ?_
  refine W.eq (g2 := F0 mm 4 ls []) rfl ?_
  refine lv_aload_n hx hb dX0_init_4 rfl (lv_at hl 0 rfl) ?_
  refine lv_bipush (v := iI 12) hx hb dX0_init_5 (by decide +kernel) ?_
  refine c_newa (atype := .int) hx hb (hts (.arrayClass .int) (List.mem_of_getElem? (i := 4) rfl)) rfl hK hP hD hS hA 0 rfl (a0 := (12, .inl (fun _ => iI 0))) (fun _ => rfl) (by decide +kernel) (by decide +kernel) (by decide +kernel) (Nat.le_of_ble_eq_true rfl) (Nat.le_of_ble_eq_true rfl) dX0_init_7 (fun q7 H hP hD hS => ?_)
  have hP : va_P D vwCl [(b, .inr (0, [.null, .null, .int 0, .int 0, .int 0])), (q7, .inl (cf 0, 12, .inl (fun _ => iI 0)))] H := hP
  have hD : va_D AA [(b, .inr (0, [.null, .null, .int 0, .int 0, .int 0])), (q7, .inl (cf 0, 12, .inl (fun _ => iI 0)))] := hD
  have in_X0 : ∀ w ∈ u_ws RX0 TX0 5, w ∈ wsX0_init := by decide +kernel
  refine va_putF (D := D) (ci := 0) (v := .ref q7) (ty := .array .int) (C := RX0) (T := TX0) (N := 5) hx hb hts in_X0 tyX0 tyX0_ok nmX0 hown hK hP hD hS 0 rfl rfl 1 (by decide) (hts (.fieldLink RX0 9 "ShapeFits$BlockFit" "begin" "[I") (List.mem_of_getElem? (i := 5) rfl)) (fun _ h9 => h9) rfl hin rfl (by decide +kernel) rfl rfl (Nat.le_of_ble_eq_true rfl) dX0_init_9 (fun H locs hP hD hS => ?_)
  have hP : va_P D vwCl [(b, .inr (0, [.null, .ref q7, .int 0, .int 0, .int 0])), (q7, .inl (cf 0, 12, .inl (fun _ => iI 0)))] H := hP
  have hD : va_D AA [(b, .inr (0, [.null, .ref q7, .int 0, .int 0, .int 0])), (q7, .inl (cf 0, 12, .inl (fun _ => iI 0)))] := hD
  refine lv_aload_n hx hb dX0_init_12 rfl (lv_at hl 0 rfl) ?_
  refine lv_aload_n hx hb dX0_init_13 rfl (lv_at hl 1 rfl) ?_
  refine va_putF (D := D) (ci := 0) (v := .ref tb) (ty := .object "ShapeFits$GroupTable") (C := RX0) (T := TX0) (N := 5) hx hb hts in_X0 tyX0 tyX0_ok nmX0 hown hK hP hD hS 0 rfl rfl 0 (by decide) (hts (.fieldLink RX0 15 "ShapeFits$BlockFit" "table" "LShapeFits$GroupTable;") (List.mem_of_getElem? (i := 6) rfl)) (fun _ h9 => h9) rfl hin rfl (by decide +kernel) rfl rfl (Nat.le_of_ble_eq_true rfl) dX0_init_14 (fun H locs hP hD hS => ?_)
  have hP : va_P D vwCl [(b, .inr (0, [.ref tb, .ref q7, .int 0, .int 0, .int 0])), (q7, .inl (cf 0, 12, .inl (fun _ => iI 0)))] H := hP
  have hD : va_D AA [(b, .inr (0, [.ref tb, .ref q7, .int 0, .int 0, .int 0])), (q7, .inl (cf 0, 12, .inl (fun _ => iI 0)))] := hD
  exact hret (fun k => [b, q7].getD k 0) _ _ _ _ rfl hP hD hS hK dX0_init_17

set_option maxHeartbeats 4000000 in
set_option maxRecDepth 100000 in
theorem t_X3_init (l : Launch) (b : Nat) (tb : Nat) (sd : Int32) (D : va_G) (cf : Nat → ClassId) : MCt l yX3_init wsX3_init { frames := 1, cells := 1, slots := 12, locals := 12 } b [.ref tb, .int sd] 3 [.null, .int 0, .null, .int 0] (fun _ => True) D cf 1 12 (fun q => [(q 0, .inr (3, [.ref tb, .int sd, .ref (q 1), .int 0])), (q 1, .inl (cf 0, 12, .inl (fun _ => iI 0)))]) := by
  refine c_start (cc := cX3_init) (nL := 3) (own := RX3) (by decide) rfl rfl rfl (Nat.le_of_ble_eq_true rfl) ?_
  intro pp ee ss mm bw mt cd AA ZZ ls G hret hP hD hS hK hA hN hl
  have hx := G.1.1
  have hb := G.1.2.1
  have hml := G.1.2.2.1
  have hown := G.1.2.2.2.1
  have hts := G.1.2.2.2.2.1
  have hin := G.2
  have hl : lv_has ls 3 [(0, .ref b), (1, .ref tb), (2, .int sd)] := hl
  refine lv_aload_n hx hb dX3_init_0 rfl (lv_at hl 0 rfl) ?_
  refine W.objInit hx hb hown (hts (.methodLink RX3 3 objectInit) (List.mem_of_getElem? (i := 1) rfl)) (hts (.instanceMethod objectInit) (List.mem_of_getElem? (i := 2) rfl)) (hts (.code objectInit ⟨#[0xb1]⟩ 1 none) (List.mem_of_getElem? (i := 3) rfl)) rfl (by rw [hml]; exact hl.1) rfl dX3_init_1 (Nat.le_of_ble_eq_true rfl) (Nat.le_of_ble_eq_true rfl) ?_
  refine W.eq (g2 := F0 mm 4 ls []) rfl ?_
  refine lv_aload_n hx hb dX3_init_4 rfl (lv_at hl 0 rfl) ?_
  refine lv_bipush (v := iI 12) hx hb dX3_init_5 (by decide +kernel) ?_
  refine c_newa (atype := .int) hx hb (hts (.arrayClass .int) (List.mem_of_getElem? (i := 4) rfl)) rfl hK hP hD hS hA 0 rfl (a0 := (12, .inl (fun _ => iI 0))) (fun _ => rfl) (by decide +kernel) (by decide +kernel) (by decide +kernel) (Nat.le_of_ble_eq_true rfl) (Nat.le_of_ble_eq_true rfl) dX3_init_7 (fun q7 H hP hD hS => ?_)
  have hP : va_P D vwCl [(b, .inr (3, [.null, .int 0, .null, .int 0])), (q7, .inl (cf 0, 12, .inl (fun _ => iI 0)))] H := hP
  have hD : va_D AA [(b, .inr (3, [.null, .int 0, .null, .int 0])), (q7, .inl (cf 0, 12, .inl (fun _ => iI 0)))] := hD
  have in_X3 : ∀ w ∈ u_ws RX3 TX3 4, w ∈ wsX3_init := by decide +kernel
  refine va_putF (D := D) (ci := 3) (v := .ref q7) (ty := .array .int) (C := RX3) (T := TX3) (N := 4) hx hb hts in_X3 tyX3 tyX3_ok nmX3 hown hK hP hD hS 0 rfl rfl 2 (by decide) (hts (.fieldLink RX3 9 "ShapeFits$Hull" "corner" "[I") (List.mem_of_getElem? (i := 5) rfl)) (fun _ h9 => h9) rfl hin rfl (by decide +kernel) rfl rfl (Nat.le_of_ble_eq_true rfl) dX3_init_9 (fun H locs hP hD hS => ?_)
  have hP : va_P D vwCl [(b, .inr (3, [.null, .int 0, .ref q7, .int 0])), (q7, .inl (cf 0, 12, .inl (fun _ => iI 0)))] H := hP
  have hD : va_D AA [(b, .inr (3, [.null, .int 0, .ref q7, .int 0])), (q7, .inl (cf 0, 12, .inl (fun _ => iI 0)))] := hD
  refine lv_aload_n hx hb dX3_init_12 rfl (lv_at hl 0 rfl) ?_
  refine lv_aload_n hx hb dX3_init_13 rfl (lv_at hl 1 rfl) ?_
  refine va_putF (D := D) (ci := 3) (v := .ref tb) (ty := .object "ShapeFits$GroupTable") (C := RX3) (T := TX3) (N := 4) hx hb hts in_X3 tyX3 tyX3_ok nmX3 hown hK hP hD hS 0 rfl rfl 0 (by decide) (hts (.fieldLink RX3 15 "ShapeFits$Hull" "table" "LShapeFits$GroupTable;") (List.mem_of_getElem? (i := 6) rfl)) (fun _ h9 => h9) rfl hin rfl (by decide +kernel) rfl rfl (Nat.le_of_ble_eq_true rfl) dX3_init_14 (fun H locs hP hD hS => ?_)
  have hP : va_P D vwCl [(b, .inr (3, [.ref tb, .int 0, .ref q7, .int 0])), (q7, .inl (cf 0, 12, .inl (fun _ => iI 0)))] H := hP
  have hD : va_D AA [(b, .inr (3, [.ref tb, .int 0, .ref q7, .int 0])), (q7, .inl (cf 0, 12, .inl (fun _ => iI 0)))] := hD
  refine lv_aload_n hx hb dX3_init_17 rfl (lv_at hl 0 rfl) ?_
  refine lv_iload_n hx hb dX3_init_18 rfl (lv_at hl 2 rfl) ?_
  refine va_putF (D := D) (ci := 3) (v := .int sd) (ty := .int) (C := RX3) (T := TX3) (N := 4) hx hb hts in_X3 tyX3 tyX3_ok nmX3 hown hK hP hD hS 0 rfl rfl 1 (by decide) (hts (.fieldLink RX3 19 "ShapeFits$Hull" "side" "I") (List.mem_of_getElem? (i := 7) rfl)) (fun _ h9 => h9) rfl hin rfl (by decide +kernel) rfl rfl (Nat.le_of_ble_eq_true rfl) dX3_init_19 (fun H locs hP hD hS => ?_)
  have hP : va_P D vwCl [(b, .inr (3, [.ref tb, .int sd, .ref q7, .int 0])), (q7, .inl (cf 0, 12, .inl (fun _ => iI 0)))] H := hP
  have hD : va_D AA [(b, .inr (3, [.ref tb, .int sd, .ref q7, .int 0])), (q7, .inl (cf 0, 12, .inl (fun _ => iI 0)))] := hD
  exact hret (fun k => [b, q7].getD k 0) _ _ _ _ rfl hP hD hS hK dX3_init_22

