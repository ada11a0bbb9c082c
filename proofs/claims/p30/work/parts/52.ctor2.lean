set_option maxHeartbeats 4000000 in
set_option maxRecDepth 100000 in
theorem t_X6_init (l : Launch) (b : Nat) (D : va_G) (cf : Nat → ClassId) : MCt l yX6_init wsX6_init { frames := 2, cells := 6, slots := 133, locals := 32 } b [] 6 [.null, .null, .null, .int 0, .int 0, .int 0] (NestN [(RX6, 17, yX5_init, "ShapeFits")]) D cf 6 133 (fun q => [(q 0, .inr (6, [.ref (q 1), .ref (q 2), .ref (q 6), .int 0, .int 0, .int 0])), (q 1, .inl (cf 2, 90, .inl (fun _ => iI 0))), (q 2, .inr (5, [.ref (q 3), .ref (q 4), .ref (q 5), .int 0])), (q 3, .inl (cf 0, 12, .inl (fun _ => iI 0))), (q 4, .inl (cf 0, 12, .inl (fun _ => iI 0))), (q 5, .inl (cf 0, 12, .inl (fun _ => iI 0))), (q 6, .inl (cf 0, 3, .inl (fun _ => iI 0)))]) := by
  refine c_start (cc := cX6_init) (nL := 1) (own := RX6) (by decide) rfl rfl rfl (Nat.le_of_ble_eq_true rfl) ?_
  intro pp ee ss mm bw mt cd AA ZZ ls G hret hP hD hS hK hA hN hl
  have hx := G.1.1
  have hb := G.1.2.1
  have hml := G.1.2.2.1
  have hown := G.1.2.2.2.1
  have hts := G.1.2.2.2.2.1
  have hin := G.2
  have hl : lv_has ls 1 [(0, .ref b)] := hl
  refine lv_aload_n hx hb dX6_init_0 rfl (lv_at hl 0 rfl) ?_
  refine W.objInit hx hb hown (hts (.methodLink RX6 3 objectInit) (List.mem_of_getElem? (i := 1) rfl)) (hts (.instanceMethod objectInit) (List.mem_of_getElem? (i := 2) rfl)) (hts (.code objectInit ⟨#[0xb1]⟩ 1 none) (List.mem_of_getElem? (i := 3) rfl)) rfl (by rw [hml]; exact hl.1) rfl dX6_init_1 (Nat.le_of_ble_eq_true rfl) (Nat.le_of_ble_eq_true rfl) ?_
  refine W.eq (g2 := F0 mm 4 ls []) rfl ?_
  refine lv_aload_n hx hb dX6_init_4 rfl (lv_at hl 0 rfl) ?_
  refine lv_bipush (v := iI 90) hx hb dX6_init_5 (by decide +kernel) ?_
  refine c_newa (atype := .char) hx hb (hts (.arrayClass .char) (List.mem_of_getElem? (i := 4) rfl)) rfl hK hP hD hS hA 2 rfl (a0 := (90, .inl (fun _ => iI 0))) (fun _ => rfl) (by decide +kernel) (by decide +kernel) (by decide +kernel) (Nat.le_of_ble_eq_true rfl) (Nat.le_of_ble_eq_true rfl) dX6_init_7 (fun q7 H hP hD hS => ?_)
  have hP : va_P D vwCl [(b, .inr (6, [.null, .null, .null, .int 0, .int 0, .int 0])), (q7, .inl (cf 2, 90, .inl (fun _ => iI 0)))] H := hP
  have hD : va_D AA [(b, .inr (6, [.null, .null, .null, .int 0, .int 0, .int 0])), (q7, .inl (cf 2, 90, .inl (fun _ => iI 0)))] := hD
  have in_X6 : ∀ w ∈ u_ws RX6 TX6 6, w ∈ wsX6_init := by decide +kernel
  refine va_putF (D := D) (ci := 6) (v := .ref q7) (ty := .array .char) (C := RX6) (T := TX6) (N := 6) hx hb hts in_X6 tyX6 tyX6_ok nmX6 hown hK hP hD hS 0 rfl rfl 0 (by decide) (hts (.fieldLink RX6 9 "ShapeFits$PointText" "signs" "[C") (List.mem_of_getElem? (i := 5) rfl)) (fun _ h9 => h9) rfl hin rfl (by decide +kernel) rfl rfl (Nat.le_of_ble_eq_true rfl) dX6_init_9 (fun H locs hP hD hS => ?_)
  have hP : va_P D vwCl [(b, .inr (6, [.ref q7, .null, .null, .int 0, .int 0, .int 0])), (q7, .inl (cf 2, 90, .inl (fun _ => iI 0)))] H := hP
  have hD : va_D AA [(b, .inr (6, [.ref q7, .null, .null, .int 0, .int 0, .int 0])), (q7, .inl (cf 2, 90, .inl (fun _ => iI 0)))] := hD
  refine lv_aload_n hx hb dX6_init_12 rfl (lv_at hl 0 rfl) ?_
  have in_X5 : ∀ w ∈ u_ws RX5 TX5 4, w ∈ wsX6_init := by decide +kernel
  refine va_new (ci := 5) (fs := [.null, .null, .null, .int 0]) (C := RX5) (T := TX5) (N := 4) hx hb hts in_X5 tyX5 tyX5_ok hown (hts (.classLink RX6 15 RX5) (List.mem_of_getElem? (i := 6) rfl)) (hts (.instantiable RX5 4) (List.mem_of_getElem? (i := 7) rfl)) (hts (.initialized RX5) (List.mem_of_getElem? (i := 8) rfl)) hK hP hD hS hA rfl (fun j hj => by rcases (show j = 0 ∨ j = 1 ∨ j = 2 ∨ j = 3 by omega) with rfl | rfl | rfl | rfl <;> rfl) (Nat.le_of_ble_eq_true rfl) (Nat.le_of_ble_eq_true rfl) dX6_init_13 (fun q13_0 H hP hD hS => ?_)
  have hP : va_P D vwCl [(b, .inr (6, [.ref q7, .null, .null, .int 0, .int 0, .int 0])), (q7, .inl (cf 2, 90, .inl (fun _ => iI 0))), (q13_0, .inr (5, [.null, .null, .null, .int 0]))] H := hP
  have hD : va_D AA [(b, .inr (6, [.ref q7, .null, .null, .int 0, .int 0, .int 0])), (q7, .inl (cf 2, 90, .inl (fun _ => iI 0))), (q13_0, .inr (5, [.null, .null, .null, .int 0]))] := hD
  refine lv_dup hx hb dX6_init_16 rfl ?_
  refine c_call (k := 2) (wr := [(b, .inr (6, [.ref q7, .null, .null, .int 0, .int 0, .int 0])), (q7, .inl (cf 2, 90, .inl (fun _ => iI 0)))]) hP hD hS hA (va_runIN (As := []) (rest := [.ref q13_0, .ref b]) ⟨hx, hb, hml, hown, hts⟩ (t_X5_init l q13_0 D cf H.size) ⟨va_cnB 0 hts gX6_init_X5_init_n17 rfl rfl rfl (hN _ (List.mem_of_getElem? (i := 0) rfl)) (hts (.initialized RX5) (List.mem_of_getElem? (i := 8) rfl)) ⟨by decide, by decide, by decide +kernel⟩ ⟨Nat.le_of_ble_eq_true rfl, Nat.le_of_ble_eq_true rfl⟩, rfl, (hts (.instanceMethod yX5_init) (List.mem_of_getElem? (i := 12) rfl))⟩ (c_pre (hP.sub (ws' := [(q13_0, .inr (5, [.null, .null, .null, .int 0]))]) [2] rfl) hK (hD.sub (ws' := [(q13_0, .inr (5, [.null, .null, .null, .int 0]))]) [2] (by decide) rfl) (fun _ _ _ _ h => h) (fun _ _ => trivial)) rfl rfl hl.1 rfl (lv_room (Nat.le_of_ble_eq_true rfl)) dX6_init_17 ⟨Nat.le_of_ble_eq_true rfl, Nat.le_of_ble_eq_true rfl⟩) rfl [0, 1] rfl (by decide) (by decide) (fun f17_2 H locs hq hP7 hD7 hS7 => ?_)
  subst hq
  have hP := hP7
  have hD := hD7
  have hS := hS7
  have hP : va_P D vwCl [(b, .inr (6, [.ref q7, .null, .null, .int 0, .int 0, .int 0])), (q7, .inl (cf 2, 90, .inl (fun _ => iI 0))), ((f17_2 0), .inr (5, [.ref (f17_2 1), .ref (f17_2 2), .ref (f17_2 3), .int 0])), ((f17_2 1), .inl (cf 0, 12, .inl (fun _ => iI 0))), ((f17_2 2), .inl (cf 0, 12, .inl (fun _ => iI 0))), ((f17_2 3), .inl (cf 0, 12, .inl (fun _ => iI 0)))] H := hP
  have hD : va_D AA [(b, .inr (6, [.ref q7, .null, .null, .int 0, .int 0, .int 0])), (q7, .inl (cf 2, 90, .inl (fun _ => iI 0))), ((f17_2 0), .inr (5, [.ref (f17_2 1), .ref (f17_2 2), .ref (f17_2 3), .int 0])), ((f17_2 1), .inl (cf 0, 12, .inl (fun _ => iI 0))), ((f17_2 2), .inl (cf 0, 12, .inl (fun _ => iI 0))), ((f17_2 3), .inl (cf 0, 12, .inl (fun _ => iI 0)))] := hD
  refine va_putF (D := D) (ci := 6) (v := .ref (f17_2 0)) (ty := .object "ShapeFits$PointRow") (C := RX6) (T := TX6) (N := 6) hx hb hts in_X6 tyX6 tyX6_ok nmX6 hown hK hP hD hS 0 rfl rfl 1 (by decide) (hts (.fieldLink RX6 18 "ShapeFits$PointText" "found" "LShapeFits$PointRow;") (List.mem_of_getElem? (i := 9) rfl)) (fun _ h9 => h9) rfl hin rfl (by decide +kernel) rfl rfl (Nat.le_of_ble_eq_true rfl) dX6_init_20 (fun H locs hP hD hS => ?_)
  have hP : va_P D vwCl [(b, .inr (6, [.ref q7, .ref (f17_2 0), .null, .int 0, .int 0, .int 0])), (q7, .inl (cf 2, 90, .inl (fun _ => iI 0))), ((f17_2 0), .inr (5, [.ref (f17_2 1), .ref (f17_2 2), .ref (f17_2 3), .int 0])), ((f17_2 1), .inl (cf 0, 12, .inl (fun _ => iI 0))), ((f17_2 2), .inl (cf 0, 12, .inl (fun _ => iI 0))), ((f17_2 3), .inl (cf 0, 12, .inl (fun _ => iI 0)))] H := hP
  have hD : va_D AA [(b, .inr (6, [.ref q7, .ref (f17_2 0), .null, .int 0, .int 0, .int 0])), (q7, .inl (cf 2, 90, .inl (fun _ => iI 0))), ((f17_2 0), .inr (5, [.ref (f17_2 1), .ref (f17_2 2), .ref (f17_2 3), .int 0])), ((f17_2 1), .inl (cf 0, 12, .inl (fun _ => iI 0))), ((f17_2 2), .inl (cf 0, 12, .inl (fun _ => iI 0))), ((f17_2 3), .inl (cf 0, 12, .inl (fun _ => iI 0)))] := hD
  refine lv_aload_n hx hb dX6_init_23 rfl (lv_at hl 0 rfl) ?_
  refine lv_iconst (v := iI 3) hx hb dX6_init_24 rfl ?_
  refine c_newa (atype := .int) hx hb (hts (.arrayClass .int) (List.mem_of_getElem? (i := 10) rfl)) rfl hK hP hD hS hA 0 rfl (a0 := (3, .inl (fun _ => iI 0))) (fun _ => rfl) (by decide +kernel) (by decide +kernel) (by decide +kernel) (Nat.le_of_ble_eq_true rfl) (Nat.le_of_ble_eq_true rfl) dX6_init_25 (fun q25 H hP hD hS => ?_)
  have hP : va_P D vwCl [(b, .inr (6, [.ref q7, .ref (f17_2 0), .null, .int 0, .int 0, .int 0])), (q7, .inl (cf 2, 90, .inl (fun _ => iI 0))), ((f17_2 0), .inr (5, [.ref (f17_2 1), .ref (f17_2 2), .ref (f17_2 3), .int 0])), ((f17_2 1), .inl (cf 0, 12, .inl (fun _ => iI 0))), ((f17_2 2), .inl (cf 0, 12, .inl (fun _ => iI 0))), ((f17_2 3), .inl (cf 0, 12, .inl (fun _ => iI 0))), (q25, .inl (cf 0, 3, .inl (fun _ => iI 0)))] H := hP
  have hD : va_D AA [(b, .inr (6, [.ref q7, .ref (f17_2 0), .null, .int 0, .int 0, .int 0])), (q7, .inl (cf 2, 90, .inl (fun _ => iI 0))), ((f17_2 0), .inr (5, [.ref (f17_2 1), .ref (f17_2 2), .ref (f17_2 3), .int 0])), ((f17_2 1), .inl (cf 0, 12, .inl (fun _ => iI 0))), ((f17_2 2), .inl (cf 0, 12, .inl (fun _ => iI 0))), ((f17_2 3), .inl (cf 0, 12, .inl (fun _ => iI 0))), (q25, .inl (cf 0, 3, .inl (fun _ => iI 0)))] := hD
  refine va_putF (D := D) (ci := 6) (v := .ref q25) (ty := .array .int) (C := RX6) (T := TX6) (N := 6) hx hb hts in_X6 tyX6 tyX6_ok nmX6 hown hK hP hD hS 0 rfl rfl 2 (by decide) (hts (.fieldLink RX6 22 "ShapeFits$PointText" "chain" "[I") (List.mem_of_getElem? (i := 11) rfl)) (fun _ h9 => h9) rfl hin rfl (by decide +kernel) rfl rfl (Nat.le_of_ble_eq_true rfl) dX6_init_27 (fun H locs hP hD hS => ?_)
  have hP : va_P D vwCl [(b, .inr (6, [.ref q7, .ref (f17_2 0), .ref q25, .int 0, .int 0, .int 0])), (q7, .inl (cf 2, 90, .inl (fun _ => iI 0))), ((f17_2 0), .inr (5, [.ref (f17_2 1), .ref (f17_2 2), .ref (f17_2 3), .int 0])), ((f17_2 1), .inl (cf 0, 12, .inl (fun _ => iI 0))), ((f17_2 2), .inl (cf 0, 12, .inl (fun _ => iI 0))), ((f17_2 3), .inl (cf 0, 12, .inl (fun _ => iI 0))), (q25, .inl (cf 0, 3, .inl (fun _ => iI 0)))] H := hP
  have hD : va_D AA [(b, .inr (6, [.ref q7, .ref (f17_2 0), .ref q25, .int 0, .int 0, .int 0])), (q7, .inl (cf 2, 90, .inl (fun _ => iI 0))), ((f17_2 0), .inr (5, [.ref (f17_2 1), .ref (f17_2 2), .ref (f17_2 3), .int 0])), ((f17_2 1), .inl (cf 0, 12, .inl (fun _ => iI 0))), ((f17_2 2), .inl (cf 0, 12, .inl (fun _ => iI 0))), ((f17_2 3), .inl (cf 0, 12, .inl (fun _ => iI 0))), (q25, .inl (cf 0, 3, .inl (fun _ => iI 0)))] := hD
  exact hret (fun k => [b, q7, (f17_2 0), (f17_2 1), (f17_2 2), (f17_2 3), q25].getD k 0) _ _ _ _ rfl hP hD hS hK dX6_init_30

