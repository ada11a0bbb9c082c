set_option maxHeartbeats 8000000 in
set_option maxRecDepth 100000 in
theorem law_body (l : Launch) (Y : Yt) (σ : Mem) (P : List Pt) (hs : List (List Pt)) (tx ch : List Int) (hI : XInv σ P hs tx ch) (hP0 : P = []) {pp : Program} {ee : Env} {ss : State} {mm : MethodId} {bw : List Frame} {mt : Method} {cd : Code} {AA : Nat → Prop} {ZZ : State → Prop} (bb sn : Nat) (xs : Nat → Int32) (hsn : sn ≤ 260) (hXs : va_X bb sn xs ss ss.heap) (hbl : bb < ss.heap.size) (hbA : ¬ AA bb) (G : gx pp ss mm ([.ref bb] : List Value).toArray mt cd cL_law 8 RL lw_tbl ret) (hret : ∀ (u : Mem) (H : Heap) (locs : List Loc) (ls : Array Slot), wx LX Y u ss AA H locs → W pp l ee room_1 ss mm ([.ref bb] : List Value).toArray bw mt cd H locs 600000 7302250 ZZ (F0 mm 521 ls [.int (iI 1)])) (H : Heap) (locs : List Loc) (ls : Array Slot) (X : wx LX Y σ ss AA H locs) (hl : lv_has ls 8 [(0, .ref bb), (1, .ref (Y.2.1 (0)))]) : W pp l ee room_1 ss mm ([.ref bb] : List Value).toArray bw mt cd H locs 100 1000 ZZ (F0 mm 8 ls []) := by
  have hx := G.1
  have hb := G.2.1
  have hts := G.2.2.2.2.1
  have l_long : (Cond.arrayClass .long).before ([.ref bb] : List Value).toArray ss = true := hts (.arrayClass .long) tw_84.1
  have l_c71 := hts (.constant RL 71 (-1000002)) (in_3 (List.mem_of_getElem? (i := 64) (by decide +kernel)))
  have l_k72 := hts (.constantLong RL 72 (-1000002)) (in_3 (List.mem_of_getElem? (i := 65) (by decide +kernel)))
  have l_k97 := hts (.constantLong RL 97 (1000003)) (in_3 (List.mem_of_getElem? (i := 66) (by decide +kernel)))
  have l_k99 := hts (.constantLong RL 99 (7)) (in_3 (List.mem_of_getElem? (i := 67) (by decide +kernel)))
  have l_c107 := hts (.constant RL 107 (-1000001)) (in_3 (List.mem_of_getElem? (i := 68) (by decide +kernel)))
  have l_k108 := hts (.constantLong RL 108 (-1000001)) (in_3 (List.mem_of_getElem? (i := 69) (by decide +kernel)))
  obtain ⟨ha1, ha2, ha3, ha4⟩ := nil_ans
  rw [← hP0] at ha1 ha2 ha3 ha4
  refine lv_aload_n hx hb dL_law_8 rfl (lv_at hl 1 rfl) ?_
  refine lv_iconst (v := iI 2) hx hb dL_law_9 rfl ?_
  refine g_callVi G X (rest := []) (As := [.int (iI (2))]) (t_X7_turn l Y (σ) P hs tx ch (2) (by first | assumption | omega) (by first | assumption | omega)) (cwV 1 hts tv_X7_turn rfl rfl rfl (by decide +kernel) ⟨Nat.le_of_ble_eq_true rfl, Nat.le_of_ble_eq_true rfl⟩) (k := 0) (Nat.le_of_ble_eq_true rfl) rfl rfl rfl rfl hl.1 rfl (Nat.le_of_ble_eq_true rfl) dL_law_10 ⟨(show 100 ≤ 600000 by omega), (show 1000 ≤ 7302250 by omega)⟩ (fun z10 u10 H locs hq10 X => ?_)
  refine g_topi (z' := turnA P 2) hq10.1 ?_
  have hI10 := hq10.2
  refine g_ldc G (z := (-1000002)) l_c71 (by decide +kernel) dL_law_13 ?_
  refine g_icmp_ne (tgt := 50) G dL_law_15 (by decide) (by omega) (by omega) (fun h15 => ?_) (fun h15 => ?_)
  ·
    exact absurd h15 (by omega)
  ·
    refine lv_aload_n hx hb dL_law_18 rfl (lv_at hl 1 rfl) ?_
    refine lv_iconst (v := iI 0) hx hb dL_law_19 rfl ?_
    refine g_callVl G X (rest := []) (As := [.int (iI (0))]) (t_X7_gap l Y (u10) P hs tx ch (0) (by first | assumption | omega) (by first | assumption | omega)) (cwV 1 hts tv_X7_gap rfl rfl rfl (by decide +kernel) ⟨Nat.le_of_ble_eq_true rfl, Nat.le_of_ble_eq_true rfl⟩) (k := 0) (Nat.le_of_ble_eq_true rfl) rfl rfl rfl rfl hl.1 rfl (Nat.le_of_ble_eq_true rfl) dL_law_20 ⟨(show 100 ≤ 600000 by omega), (show 1000 ≤ 7302250 by omega)⟩ (fun z20 u20 H locs hq20 X => ?_)
    refine g_topl (z' := gapA P 0) hq20.1 ?_
    have hI20 := hq20.2
    refine g_ldc2 G (z := (-1000002)) l_k72 (by decide +kernel) dL_law_23 ?_
    refine g_lif_ne (tgt := 50) G dL_law_26 dL_law_27 (by decide) (by omega) (by omega) (fun h26 => ?_) (fun h26 => ?_)
    ·
      exact absurd h26 (by omega)
    ·
      refine lv_aload_n hx hb dL_law_30 rfl (lv_at hl 1 rfl) ?_
      refine lv_iconst (v := iI 4) hx hb dL_law_31 rfl ?_
      refine g_callVi G X (rest := []) (As := [.int (iI (4))]) (t_X7_kinks l Y (u20) P hs tx ch (4) (by first | assumption | omega) (by first | assumption | omega)) (cwV 1 hts tv_X7_kinks rfl rfl rfl (by decide +kernel) ⟨Nat.le_of_ble_eq_true rfl, Nat.le_of_ble_eq_true rfl⟩) (k := 0) (Nat.le_of_ble_eq_true rfl) rfl rfl rfl rfl hl.1 rfl (Nat.le_of_ble_eq_true rfl) dL_law_32 ⟨(show 100 ≤ 600000 by omega), (show 1000 ≤ 7302250 by omega)⟩ (fun z32 u32 H locs hq32 X => ?_)
      refine g_topi (z' := kinksA P 4) hq32.1 ?_
      have hI32 := hq32.2
      refine g_if_ne (tgt := 50) G dL_law_35 (by decide) (by omega) (fun h35 => ?_) (fun h35 => ?_)
      ·
        exact absurd h35 (by omega)
      ·
        refine lv_aload_n hx hb dL_law_38 rfl (lv_at hl 1 rfl) ?_
        refine lv_iconst (v := iI 2) hx hb dL_law_39 rfl ?_
        refine g_callVi G X (rest := []) (As := [.int (iI (2))]) (t_X7_blocks l Y (u32) P hs tx ch (2) (by first | assumption | omega) (by first | assumption | omega)) (cwV 1 hts tv_X7_blocks rfl rfl rfl (by decide +kernel) ⟨Nat.le_of_ble_eq_true rfl, Nat.le_of_ble_eq_true rfl⟩) (k := 0) (Nat.le_of_ble_eq_true rfl) rfl rfl rfl rfl hl.1 rfl (Nat.le_of_ble_eq_true rfl) dL_law_40 ⟨(show 100 ≤ 600000 by omega), (show 1000 ≤ 7302250 by omega)⟩ (fun z40 u40 H locs hq40 X => ?_)
        refine g_topi (z' := blocksA P 2) hq40.1 ?_
        have hI40 := hq40.2
        refine g_if_ne (tgt := 50) G dL_law_43 (by decide) (by omega) (fun h43 => ?_) (fun h43 => ?_)
        ·
          exact absurd h43 (by omega)
        ·
          refine lv_iconst (v := iI 1) hx hb dL_law_46 rfl ?_
          refine lv_goto (tgt := 51) hx hb dL_law_47 (by decide) ?_
          refine lv_istore_n (lv' := [(2, .int (iI (1))), (0, .ref bb), (1, .ref (Y.2.1 (0)))]) hx hb dL_law_51 rfl hl (by decide) rfl (fun ls hl => ?_)
          refine lv_iconst (v := iI 0) hx hb dL_law_52 rfl ?_
          refine lv_istore_n (lv' := [(3, .int (iI (0))), (2, .int (iI (1))), (0, .ref bb), (1, .ref (Y.2.1 (0)))]) hx hb dL_law_53 rfl hl (by decide) rfl (fun ls hl => ?_)
          have lp_54 : ∀ (nn : Nat) (rd : Int) (kc : Nat) (τ : Mem) (P : List Pt) (hs : List (List Pt)), ∀ hr : 0 ≤ rd ∧ rd ≤ 4, ∀ hkc : rd = (kc : Int), ∀ hJ : XInv τ P hs tx ch, ∀ hdec : (4 - rd) < (nn : Int), ∀ (H : Heap) (locs : List Loc) (ls : Array Slot), wx LX Y τ ss AA H locs → lv_has ls 8 [(0, .ref bb), (1, .ref (Y.2.1 (0))), (2, .int (iI (1))), (3, .int (iI (rd)))] → W pp l ee room_1 ss mm ([.ref bb] : List Value).toArray bw mt cd H locs (100 + kc) (1000 + 12 * kc) ZZ (F0 mm 54 ls []) := by
            intro nn
            induction nn with
            | zero =>
              intro rd kc τ P hs hr hkc hJ hdec
              exact absurd hdec (by omega)
            | succ nn ih_54 =>
              intro rd kc τ P hs hr hkc hJ hdec H locs ls X hl
              refine lv_iload_n hx hb dL_law_54 rfl (lv_at hl 3 rfl) ?_
              refine lv_iconst (v := iI 4) hx hb dL_law_55 rfl ?_
              refine g_icmp_ge (tgt := 455) G dL_law_56 (by decide) (by omega) (by omega) (fun h56 => ?_) (fun h56 => ?_)
              ·
                obtain ⟨hb1, hb2, hb3, hb4, hb5⟩ := bad_ans P
                refine lv_iload_n hx hb dL_law_455 rfl (lv_at hl 2 rfl) ?_
                refine g_if_eq (tgt := 520) G dL_law_456 (by decide) (by omega) (fun h456 => ?_) (fun h456 => ?_)
                ·
                  exact False.elim (by omega)
                ·
                  refine lv_aload_n hx hb dL_law_459 rfl (lv_at hl 1 rfl) ?_
                  refine lv_iconst (v := iI 4) hx hb dL_law_460 rfl ?_
                  refine g_callVi G X (rest := []) (As := [.int (iI (4))]) (t_X7_turn l Y (τ) P hs tx ch (4) (by first | assumption | omega) (by first | assumption | omega)) (cwV 1 hts tv_X7_turn rfl rfl rfl (by decide +kernel) ⟨Nat.le_of_ble_eq_true rfl, Nat.le_of_ble_eq_true rfl⟩) (k := 0) (Nat.le_of_ble_eq_true rfl) rfl rfl rfl rfl hl.1 rfl (Nat.le_of_ble_eq_true rfl) dL_law_461 ⟨(show (100 + kc) ≤ 600000 by omega), (show (1000 + 12 * kc) ≤ 7302250 by omega)⟩ (fun z461 u461 H locs hq461 X => ?_)
                  refine g_topi (z' := turnA P 4) hq461.1 ?_
                  have hI461 := hq461.2
                  refine g_ldc G (z := (-1000001)) l_c107 (by decide +kernel) dL_law_464 ?_
                  refine g_icmp_ne (tgt := 520) G dL_law_466 (by decide) (by omega) (by omega) (fun h466 => ?_) (fun h466 => ?_)
                  ·
                    exact absurd h466 (by omega)
                  ·
                    refine lv_aload_n hx hb dL_law_469 rfl (lv_at hl 1 rfl) ?_
                    refine lv_iconst (v := iI 3) hx hb dL_law_470 rfl ?_
                    refine g_callVi G X (rest := []) (As := [.int (iI (3))]) (t_X7_kinks l Y (u461) P hs tx ch (3) (by first | assumption | omega) (by first | assumption | omega)) (cwV 1 hts tv_X7_kinks rfl rfl rfl (by decide +kernel) ⟨Nat.le_of_ble_eq_true rfl, Nat.le_of_ble_eq_true rfl⟩) (k := 0) (Nat.le_of_ble_eq_true rfl) rfl rfl rfl rfl hl.1 rfl (Nat.le_of_ble_eq_true rfl) dL_law_471 ⟨(show (100 + kc) ≤ 600000 by omega), (show (1000 + 12 * kc) ≤ 7302250 by omega)⟩ (fun z471 u471 H locs hq471 X => ?_)
                    refine g_topi (z' := kinksA P 3) hq471.1 ?_
                    have hI471 := hq471.2
                    refine g_ldc G (z := (-1000001)) l_c107 (by decide +kernel) dL_law_474 ?_
                    refine g_icmp_ne (tgt := 520) G dL_law_476 (by decide) (by omega) (by omega) (fun h476 => ?_) (fun h476 => ?_)
                    ·
                      exact absurd h476 (by omega)
                    ·
                      refine lv_aload_n hx hb dL_law_479 rfl (lv_at hl 1 rfl) ?_
                      refine lv_iconst (v := iI 4) hx hb dL_law_480 rfl ?_
                      refine lv_iconst (v := iI (-1)) hx hb dL_law_481 rfl ?_
                      refine g_callVi G X (rest := []) (As := [.int (iI (4)), .int (iI ((-1)))]) (t_X7_kinkAt l Y (u471) P hs tx ch (4) ((-1)) (by first | assumption | omega) (by first | assumption | omega) (by first | assumption | omega)) (cwV 2 hts tv_X7_kinkAt rfl rfl rfl (by decide +kernel) ⟨Nat.le_of_ble_eq_true rfl, Nat.le_of_ble_eq_true rfl⟩) (k := 0) (Nat.le_of_ble_eq_true rfl) rfl rfl rfl rfl hl.1 rfl (Nat.le_of_ble_eq_true rfl) dL_law_482 ⟨(show (100 + kc) ≤ 600000 by omega), (show (1000 + 12 * kc) ≤ 7302250 by omega)⟩ (fun z482 u482 H locs hq482 X => ?_)
                      refine g_topi (z' := kinkAtA P 4 (-1)) hq482.1 ?_
                      have hI482 := hq482.2
                      refine g_ldc G (z := (-1000001)) l_c107 (by decide +kernel) dL_law_485 ?_
                      refine g_icmp_ne (tgt := 520) G dL_law_487 (by decide) (by omega) (by omega) (fun h487 => ?_) (fun h487 => ?_)
                      ·
                        exact absurd h487 (by omega)
                      ·
                        refine lv_aload_n hx hb dL_law_490 rfl (lv_at hl 1 rfl) ?_
                        refine lv_iconst (v := iI 3) hx hb dL_law_491 rfl ?_
                        refine g_callVl G X (rest := []) (As := [.int (iI (3))]) (t_X7_gap l Y (u482) P hs tx ch (3) (by first | assumption | omega) (by first | assumption | omega)) (cwV 1 hts tv_X7_gap rfl rfl rfl (by decide +kernel) ⟨Nat.le_of_ble_eq_true rfl, Nat.le_of_ble_eq_true rfl⟩) (k := 0) (Nat.le_of_ble_eq_true rfl) rfl rfl rfl rfl hl.1 rfl (Nat.le_of_ble_eq_true rfl) dL_law_492 ⟨(show (100 + kc) ≤ 600000 by omega), (show (1000 + 12 * kc) ≤ 7302250 by omega)⟩ (fun z492 u492 H locs hq492 X => ?_)
                        refine g_topl (z' := gapA P 3) hq492.1 ?_
                        have hI492 := hq492.2
                        refine g_ldc2 G (z := (-1000001)) l_k108 (by decide +kernel) dL_law_495 ?_
                        refine g_lif_ne (tgt := 520) G dL_law_498 dL_law_499 (by decide) (by omega) (by omega) (fun h498 => ?_) (fun h498 => ?_)
                        ·
                          exact absurd h498 (by omega)
                        ·
                          refine lv_aload_n hx hb dL_law_502 rfl (lv_at hl 1 rfl) ?_
                          refine lv_iconst (v := iI 4) hx hb dL_law_503 rfl ?_
                          refine lv_iconst (v := iI 0) hx hb dL_law_504 rfl ?_
                          refine lv_iconst (v := iI 2) hx hb dL_law_505 rfl ?_
                          refine g_callVl G X (rest := []) (As := [.int (iI (4)), .int (iI (0)), .int (iI (2))]) (t_X7_fit l Y (u492) P hs tx ch (4) (0) (2) (by first | assumption | omega) (by first | assumption | omega) (by first | assumption | omega) (by first | assumption | omega)) (cwV 3 hts tv_X7_fit rfl rfl rfl (by decide +kernel) ⟨Nat.le_of_ble_eq_true rfl, Nat.le_of_ble_eq_true rfl⟩) (k := 0) (Nat.le_of_ble_eq_true rfl) rfl rfl rfl rfl hl.1 rfl (Nat.le_of_ble_eq_true rfl) dL_law_506 ⟨(show (100 + kc) ≤ 600000 by omega), (show (1000 + 12 * kc) ≤ 7302250 by omega)⟩ (fun z506 u506 H locs hq506 X => ?_)
                          refine g_topl (z' := fitA P 4 0 2) hq506.1 ?_
                          have hI506 := hq506.2
                          refine g_ldc2 G (z := (-1000001)) l_k108 (by decide +kernel) dL_law_509 ?_
                          refine g_lif_ne (tgt := 520) G dL_law_512 dL_law_513 (by decide) (by omega) (by omega) (fun h512 => ?_) (fun h512 => ?_)
                          ·
                            exact absurd h512 (by omega)
                          ·
                            refine lv_iconst (v := iI 1) hx hb dL_law_516 rfl ?_
                            refine lv_goto (tgt := 521) hx hb dL_law_517 (by decide) ?_
                            refine W.widen (k := 600000) (n := 7302250) (by omega) (by omega) ?_
                            exact hret _ _ _ _ X
              ·
                refine lv_iload_n hx hb dL_law_59 rfl (lv_at hl 2 rfl) ?_
                refine g_if_eq (tgt := 455) G dL_law_60 (by decide) (by omega) (fun h60 => ?_) (fun h60 => ?_)
                ·
                  exact False.elim (by omega)
                ·
                  have lp_63 : ∀ (nn : Nat) (τ : Mem) (P : List Pt) (hs : List (List Pt)), ∀ hJ : XInv τ P hs tx ch, ∀ hdec : (P.length : Int) < (nn : Int), ∀ (H : Heap) (locs : List Loc) (ls : Array Slot), wx LX Y τ ss AA H locs → lv_has ls 8 [(0, .ref bb), (1, .ref (Y.2.1 (0))), (2, .int (iI (1))), (3, .int (iI (rd)))] → W pp l ee room_1 ss mm ([.ref bb] : List Value).toArray bw mt cd H locs (100 + kc) (1000 + 12 * kc) ZZ (F0 mm 63 ls []) := by
                    intro nn
                    induction nn with
                    | zero =>
                      intro τ P hs hJ hdec
                      exact absurd hdec (by omega)
                    | succ nn ih_63 =>
                      intro τ P hs hJ hdec H locs ls X hl
                      have hl9 : P.length ≤ 12 := hJ.1.1.2.1
                      refine lv_aload_n hx hb dL_law_63 rfl (lv_at hl 1 rfl) ?_
                      refine g_callVi G X (rest := []) (As := []) (t_X7_points l Y (τ) P hs tx ch (by first | assumption | omega)) (cwV 0 hts tv_X7_points rfl rfl rfl (by decide +kernel) ⟨Nat.le_of_ble_eq_true rfl, Nat.le_of_ble_eq_true rfl⟩) (k := 0) (Nat.le_of_ble_eq_true rfl) rfl rfl rfl rfl hl.1 rfl (Nat.le_of_ble_eq_true rfl) dL_law_64 ⟨(show (100 + kc) ≤ 600000 by omega), (show (1000 + 12 * kc) ≤ 7302250 by omega)⟩ (fun z64 u64 H locs hq64 X => ?_)
                      rw [hq64.1] at X
                      have hq64 := hq64.2
                      try dsimp only at hq64
                      refine g_topi (z' := (P.length : Int)) hq64 ?_
                      refine g_if_le (tgt := 79) G dL_law_67 (by decide) (by omega) (fun h67 => ?_) (fun h67 => ?_)
                      ·
                        have hP0 : P.length = 0 := by omega
                        have hnr : near P := fun i h0 h1 => by omega
                        refine lv_aload_n hx hb dL_law_79 rfl (lv_at hl 1 rfl) ?_
                        refine lv_aload_n hx hb dL_law_80 rfl (lv_at hl 0 rfl) ?_
                        refine lv_bipush (v := iI 12) hx hb dL_law_81 (by decide +kernel) ?_
                        refine lv_iload_n hx hb dL_law_83 rfl (lv_at hl 3 rfl) ?_
                        refine g_imul G dL_law_84 ?_
                        refine lv_iconst (v := iI 2) hx hb dL_law_85 rfl ?_
                        refine lv_aload_n hx hb dL_law_86 rfl (lv_at hl 0 rfl) ?_
                        refine lv_bipush (v := iI 48) hx hb dL_law_87 (by decide +kernel) ?_
                        refine lv_iload_n hx hb dL_law_89 rfl (lv_at hl 3 rfl) ?_
                        refine g_iadd G dL_law_90 ?_
                        refine g_callSiS G X hXs hbl hbA (rest := [.int (iI (2)), .int (iI ((12 * rd))), .ref bb, .ref (Y.2.1 (0))]) (As := [.ref bb, .int (iI ((48 + rd)))]) (t_L_cell l Y (τ) (bb) sn xs ((48 + rd)) (by first | assumption | omega) (by first | assumption | omega)) (va_cwS 2 hts tv_L_cell rfl rfl rfl (by decide +kernel) ⟨Nat.le_of_ble_eq_true rfl, Nat.le_of_ble_eq_true rfl⟩) rfl hl.1 rfl (Nat.le_of_ble_eq_true rfl) dL_law_91 ⟨(show (100 + kc) ≤ 600000 by omega), (show (1000 + 12 * kc) ≤ 7302250 by omega)⟩ (fun z91 u91 H locs hq91 X => ?_)
                        rw [hq91.1] at X
                        have hq91 := hq91.2
                        try dsimp only at hq91
                        refine lv_bipush (v := iI 11) hx hb dL_law_94 (by decide +kernel) ?_
                        refine g_irem G (by omega) (by omega) dL_law_96 ?_
                        refine g_iadd G dL_law_97 ?_
                        refine g_callSvS G X hXs hbl hbA (rest := []) (As := [.ref (Y.2.1 (0)), .ref bb, .int (iI ((12 * rd))), .int (iI ((2 + (z91 % 11))))]) (t_L_adds l Y (τ) (bb) sn xs P hs tx ch ((12 * rd)) ((2 + (z91 % 11))) (by first | assumption | omega) (by first | assumption | omega) (by first | assumption | omega) (by first | assumption | omega) (by first | assumption | omega)) (va_cwS 4 hts tv_L_adds rfl rfl rfl (by decide +kernel) ⟨Nat.le_of_ble_eq_true rfl, Nat.le_of_ble_eq_true rfl⟩) rfl hl.1 rfl (Nat.le_of_ble_eq_true rfl) dL_law_98 ⟨(show (100 + kc) ≤ 600000 by omega), (show (1000 + 12 * kc) ≤ 7302250 by omega)⟩ (fun u98 H locs hq98 X => ?_)
                        obtain ⟨Q, hv, hI98, hQl, hQn⟩ := hq98
                        have hok : ptsOk Q := hI98.1.2
                        have hl12 : Q.length ≤ 12 := hI98.1.1.2.1
                        have hn : 0 < ng Q := ng_pos hok (by omega)
                        have hn12 : 0 ≤ ng Q ∧ ng Q ≤ 12 := ⟨(prof_of hok hl12).1.1, (prof_of hok hl12).1.2.1⟩
                        have htr := turnA_rg (P := Q) (kind := 2) hn (by omega)
                        have htm := turn_mir (P := Q)
                        have hmv : ((mirV Q).length : Int) = Q.length := by rw [mirV_len]
                        have hmp : ((mirP (mirV Q)).length : Int) = (mirV Q).length := by rw [mirP_len]
                        have hng1 : ng (mirV Q) = ng Q := mirV_ng Q
                        have hng2 : ng (mirP (mirV Q)) = ng (mirV Q) := mirP_ng _
                        refine lv_aload_n hx hb dL_law_101 rfl (lv_at hl 1 rfl) ?_
                        refine lv_iconst (v := iI 2) hx hb dL_law_102 rfl ?_
                        refine g_callSi G X (rest := []) (As := [.ref (Y.2.1 (0)), .int (iI (2))]) (t_L_turned l Y (u98) (Q) (hv) tx ch (2) (by first | assumption | omega) (by first | assumption | omega) (by first | assumption | omega)) (va_cwS 2 hts tv_L_turned rfl rfl rfl (by decide +kernel) ⟨Nat.le_of_ble_eq_true rfl, Nat.le_of_ble_eq_true rfl⟩) rfl hl.1 rfl (Nat.le_of_ble_eq_true rfl) dL_law_103 ⟨(show (100 + kc) ≤ 600000 by omega), (show (1000 + 12 * kc) ≤ 7302250 by omega)⟩ (fun z103 u103 H locs hq103 X => ?_)
                        refine g_topi (z' := 1) hq103.1 ?_
                        have hI103 := hq103.2
                        refine g_if_eq (tgt := 144) G dL_law_106 (by decide) (by omega) (fun h106 => ?_) (fun h106 => ?_)
                        ·
                          exact False.elim (by omega)
                        ·
                          refine lv_aload_n hx hb dL_law_109 rfl (lv_at hl 1 rfl) ?_
                          refine lv_iconst (v := iI 3) hx hb dL_law_110 rfl ?_
                          refine g_callSi G X (rest := []) (As := [.ref (Y.2.1 (0)), .int (iI (3))]) (t_L_turned l Y (u103) (Q) (hv) tx ch (3) (by first | assumption | omega) (by first | assumption | omega) (by first | assumption | omega)) (va_cwS 2 hts tv_L_turned rfl rfl rfl (by decide +kernel) ⟨Nat.le_of_ble_eq_true rfl, Nat.le_of_ble_eq_true rfl⟩) rfl hl.1 rfl (Nat.le_of_ble_eq_true rfl) dL_law_111 ⟨(show (100 + kc) ≤ 600000 by omega), (show (1000 + 12 * kc) ≤ 7302250 by omega)⟩ (fun z111 u111 H locs hq111 X => ?_)
                          refine g_topi (z' := 1) hq111.1 ?_
                          have hI111 := hq111.2
                          refine g_if_eq (tgt := 144) G dL_law_114 (by decide) (by omega) (fun h114 => ?_) (fun h114 => ?_)
                          ·
                            exact False.elim (by omega)
                          ·
                            refine lv_aload_n hx hb dL_law_117 rfl (lv_at hl 1 rfl) ?_
                            refine lv_iconst (v := iI 4) hx hb dL_law_118 rfl ?_
                            refine g_callSi G X (rest := []) (As := [.ref (Y.2.1 (0)), .int (iI (4))]) (t_L_bent l Y (u111) (Q) (hv) tx ch (4) (by first | assumption | omega) (by first | assumption | omega) (by first | assumption | omega)) (va_cwS 2 hts tv_L_bent rfl rfl rfl (by decide +kernel) ⟨Nat.le_of_ble_eq_true rfl, Nat.le_of_ble_eq_true rfl⟩) rfl hl.1 rfl (Nat.le_of_ble_eq_true rfl) dL_law_119 ⟨(show (100 + kc) ≤ 600000 by omega), (show (1000 + 12 * kc) ≤ 7302250 by omega)⟩ (fun z119 u119 H locs hq119 X => ?_)
                            refine g_topi (z' := 1) hq119.1 ?_
                            have hI119 := hq119.2
                            refine g_if_eq (tgt := 144) G dL_law_122 (by decide) (by omega) (fun h122 => ?_) (fun h122 => ?_)
                            ·
                              exact False.elim (by omega)
                            ·
                              refine lv_aload_n hx hb dL_law_125 rfl (lv_at hl 1 rfl) ?_
                              refine lv_iconst (v := iI 5) hx hb dL_law_126 rfl ?_
                              refine g_callSi G X (rest := []) (As := [.ref (Y.2.1 (0)), .int (iI (5))]) (t_L_bent l Y (u119) (Q) (hv) tx ch (5) (by first | assumption | omega) (by first | assumption | omega) (by first | assumption | omega)) (va_cwS 2 hts tv_L_bent rfl rfl rfl (by decide +kernel) ⟨Nat.le_of_ble_eq_true rfl, Nat.le_of_ble_eq_true rfl⟩) rfl hl.1 rfl (Nat.le_of_ble_eq_true rfl) dL_law_127 ⟨(show (100 + kc) ≤ 600000 by omega), (show (1000 + 12 * kc) ≤ 7302250 by omega)⟩ (fun z127 u127 H locs hq127 X => ?_)
                              refine g_topi (z' := 1) hq127.1 ?_
                              have hI127 := hq127.2
                              refine g_if_eq (tgt := 144) G dL_law_130 (by decide) (by omega) (fun h130 => ?_) (fun h130 => ?_)
                              ·
                                exact False.elim (by omega)
                              ·
                                refine lv_aload_n hx hb dL_law_133 rfl (lv_at hl 1 rfl) ?_
                                refine g_callSi G X (rest := []) (As := [.ref (Y.2.1 (0))]) (t_L_gap l Y (u127) (Q) (hv) tx ch (by first | assumption | omega) (by first | assumption | omega)) (va_cwS 1 hts tv_L_gap rfl rfl rfl (by decide +kernel) ⟨Nat.le_of_ble_eq_true rfl, Nat.le_of_ble_eq_true rfl⟩) rfl hl.1 rfl (Nat.le_of_ble_eq_true rfl) dL_law_134 ⟨(show (100 + kc) ≤ 600000 by omega), (show (1000 + 12 * kc) ≤ 7302250 by omega)⟩ (fun z134 u134 H locs hq134 X => ?_)
                                refine g_topi (z' := 1) hq134.1 ?_
                                have hI134 := hq134.2
                                refine g_if_eq (tgt := 144) G dL_law_137 (by decide) (by omega) (fun h137 => ?_) (fun h137 => ?_)
                                ·
                                  exact False.elim (by omega)
                                ·
                                  refine lv_iconst (v := iI 1) hx hb dL_law_140 rfl ?_
                                  refine lv_goto (tgt := 145) hx hb dL_law_141 (by decide) ?_
                                  refine lv_istore_n (lv' := [(2, .int (iI (1))), (0, .ref bb), (1, .ref (Y.2.1 (0))), (3, .int (iI (rd)))]) hx hb dL_law_145 rfl hl (by decide) rfl (fun ls hl => ?_)
                                  refine lv_aload_n hx hb dL_law_146 rfl (lv_at hl 2 rfl) ?_
                                  refine g_callVi G X (rest := []) (As := []) (t_X7_groups l Y (u134) (Q) (hv) tx ch (by first | assumption | omega)) (cwV 0 hts tv_X7_groups rfl rfl rfl (by decide +kernel) ⟨Nat.le_of_ble_eq_true rfl, Nat.le_of_ble_eq_true rfl⟩) (k := 0) (Nat.le_of_ble_eq_true rfl) rfl rfl rfl rfl hl.1 rfl (Nat.le_of_ble_eq_true rfl) dL_law_147 ⟨(show (100 + kc) ≤ 600000 by omega), (show (1000 + 12 * kc) ≤ 7302250 by omega)⟩ (fun z147 u147 H locs hq147 X => ?_)
                                  rw [hq147.1] at X
                                  have hq147 := hq147.2
                                  try dsimp only at hq147
                                  refine g_topi (z' := ng Q) hq147 ?_
                                  refine lv_istore (lv' := [(4, .int (iI ((ng Q)))), (2, .int (iI (1))), (0, .ref bb), (1, .ref (Y.2.1 (0))), (3, .int (iI (rd)))]) hx hb dL_law_150 hl (by decide) rfl (fun ls hl => ?_)
                                  refine lv_bipush (v := iI 12) hx hb dL_law_152 (by decide +kernel) ?_
                                  refine t_new G X l_long (show (100 + kc) + 1 ≤ 600000 by omega) (show (1000 + 12 * kc) + 12 ≤ 7302250 by omega) dL_law_154 (fun qt H hap X X2 => ?_)
                                  refine lv_astore (lv' := [(5, .ref qt), (4, .int (iI ((ng Q)))), (2, .int (iI (1))), (0, .ref bb), (1, .ref (Y.2.1 (0))), (3, .int (iI (rd)))]) hx hb dL_law_156 hl (by decide) rfl (fun ls hl => ?_)
                                  refine lv_iconst (v := iI 0) hx hb dL_law_158 rfl ?_
                                  refine lv_istore (lv' := [(6, .int (iI (0))), (5, .ref qt), (4, .int (iI ((ng Q)))), (2, .int (iI (1))), (0, .ref bb), (1, .ref (Y.2.1 (0))), (3, .int (iI (rd)))]) hx hb dL_law_159 hl (by decide) rfl (fun ls hl => ?_)
                                  have lp_161 : ∀ (nn : Nat) (i1 : Int) (τ τ2 : Mem), ∀ hg : 0 ≤ i1 ∧ i1 ≤ ng Q, ∀ hJ : XInv τ Q hv tx ch, ∀ hT : ∀ j : Int, 0 ≤ j → j < i1 → τ2 0 j = toldA Q j, ∀ hdec : (ng Q - i1) < (nn : Int), ∀ (H : Heap) (locs : List Loc) (ls : Array Slot), wx LX Y τ ss AA H locs → wx LT (yT Y qt) τ2 ss AA H locs → lv_has ls 8 [(0, .ref bb), (1, .ref (Y.2.1 (0))), (2, .int (iI (1))), (3, .int (iI (rd))), (4, .int (iI (ng Q))), (5, .ref qt), (6, .int (iI (i1)))] → W pp l ee room_1 ss mm ([.ref bb] : List Value).toArray bw mt cd H locs (100 + kc + 1) (1000 + 12 * kc + 12) ZZ (F0 mm 161 ls []) := by
                                    intro nn
                                    induction nn with
                                    | zero =>
                                      intro i1 τ τ2 hg hJ hT hdec
                                      exact absurd hdec (by omega)
                                    | succ nn ih_161 =>
                                      intro i1 τ τ2 hg hJ hT hdec H locs ls X X2 hl
                                      refine lv_iload hx hb dL_law_161 (lv_at hl 6 rfl) ?_
                                      refine lv_iload hx hb dL_law_163 (lv_at hl 4 rfl) ?_
                                      refine g_icmp_ge (tgt := 213) G dL_law_165 (by decide) (by omega) (by omega) (fun h165 => ?_) (fun h165 => ?_)
                                      ·
                                        have hTT : ∀ j : Int, 0 ≤ j → j < ng Q → τ2 0 j = toldA Q j := fun j a b => hT j a (by omega)
                                        refine lv_aload_n hx hb dL_law_213 rfl (lv_at hl 1 rfl) ?_
                                        refine lv_iconst (v := iI 2) hx hb dL_law_214 rfl ?_
                                        refine h_callVi G X X2 hap (rest := []) (As := [.int (iI (2))]) (t_X7_turn l Y (τ) (Q) (hv) tx ch (2) (by first | assumption | omega) (by first | assumption | omega)) (cwV 1 hts tv_X7_turn rfl rfl rfl (by decide +kernel) ⟨Nat.le_of_ble_eq_true rfl, Nat.le_of_ble_eq_true rfl⟩) (k := 0) (Nat.le_of_ble_eq_true rfl) rfl rfl rfl rfl hl.1 rfl (Nat.le_of_ble_eq_true rfl) dL_law_215 ⟨(show (100 + kc + 1) ≤ 600000 by omega), (show (1000 + 12 * kc + 12) ≤ 7302250 by omega)⟩ (fun z215 u215 H locs hq215 X X2 => ?_)
                                        refine g_topi (z' := turnA Q 2) hq215.1 ?_
                                        have hI215 := hq215.2
                                        refine lv_istore (lv' := [(6, .int (iI ((turnA Q 2)))), (0, .ref bb), (1, .ref (Y.2.1 (0))), (2, .int (iI (1))), (3, .int (iI (rd))), (4, .int (iI (ng Q))), (5, .ref qt)]) hx hb dL_law_218 hl (by decide) rfl (fun ls hl => ?_)
                                        refine lv_iload_n hx hb dL_law_220 rfl (lv_at hl 3 rfl) ?_
                                        refine g_if_eq (tgt := 250) G dL_law_221 (by decide) (by omega) (fun h221 => ?_) (fun h221 => ?_)
                                        ·
                                          exact False.elim (by omega)
                                        ·
                                          refine lv_aload_n hx hb dL_law_224 rfl (lv_at hl 2 rfl) ?_
                                          refine lv_iconst (v := iI 1) hx hb dL_law_225 rfl ?_
                                          refine h_callVi G X X2 hap (rest := []) (As := [.int (iI (1))]) (t_X7_mirror l Y (u215) (Q) (hv) tx ch (1) (by first | assumption | omega) (by first | assumption | omega)) (cwV 1 hts tv_X7_mirror rfl rfl rfl (by decide +kernel) ⟨Nat.le_of_ble_eq_true rfl, Nat.le_of_ble_eq_true rfl⟩) (k := 0) (Nat.le_of_ble_eq_true rfl) rfl rfl rfl rfl hl.1 rfl (Nat.le_of_ble_eq_true rfl) dL_law_226 ⟨(show (100 + kc + 1) ≤ 600000 by omega), (show (1000 + 12 * kc + 12) ≤ 7302250 by omega)⟩ (fun z226 u226 H locs hq226 X X2 => ?_)
                                          have hI226 : XInv u226 (mirV Q) (recd hv Q) tx ch := by { have r := hq226.2; rw [stMir_1] at r; exact r }
                                          refine g_topi (z' := (Q.length : Int)) (hq226.1.trans (by rw [stMir_1])) ?_
                                          refine lv_aload_n hx hb dL_law_229 rfl (lv_at hl 2 rfl) ?_
                                          refine h_callVi G X X2 hap (rest := [.int (iI ((Q.length : Int)))]) (As := []) (t_X7_points l Y (u226) ((mirV Q)) ((recd hv Q)) tx ch (by first | assumption | omega)) (cwV 0 hts tv_X7_points rfl rfl rfl (by decide +kernel) ⟨Nat.le_of_ble_eq_true rfl, Nat.le_of_ble_eq_true rfl⟩) (k := 0) (Nat.le_of_ble_eq_true rfl) rfl rfl rfl rfl hl.1 rfl (Nat.le_of_ble_eq_true rfl) dL_law_230 ⟨(show (100 + kc + 1) ≤ 600000 by omega), (show (1000 + 12 * kc + 12) ≤ 7302250 by omega)⟩ (fun z230 u230 H locs hq230 X X2 => ?_)
                                          rw [hq230.1] at X
                                          have hq230 := hq230.2
                                          try dsimp only at hq230
                                          refine g_topi (z' := ((mirV Q).length : Int)) hq230 ?_
                                          refine g_icmp_ne (tgt := 250) G dL_law_233 (by decide) (by omega) (by omega) (fun h233 => ?_) (fun h233 => ?_)
                                          ·
                                            exact absurd h233 (by omega)
                                          ·
                                            refine lv_aload_n hx hb dL_law_236 rfl (lv_at hl 2 rfl) ?_
                                            refine lv_iconst (v := iI 3) hx hb dL_law_237 rfl ?_
                                            refine h_callVi G X X2 hap (rest := []) (As := [.int (iI (3))]) (t_X7_turn l Y (u226) ((mirV Q)) ((recd hv Q)) tx ch (3) (by first | assumption | omega) (by first | assumption | omega)) (cwV 1 hts tv_X7_turn rfl rfl rfl (by decide +kernel) ⟨Nat.le_of_ble_eq_true rfl, Nat.le_of_ble_eq_true rfl⟩) (k := 0) (Nat.le_of_ble_eq_true rfl) rfl rfl rfl rfl hl.1 rfl (Nat.le_of_ble_eq_true rfl) dL_law_238 ⟨(show (100 + kc + 1) ≤ 600000 by omega), (show (1000 + 12 * kc + 12) ≤ 7302250 by omega)⟩ (fun z238 u238 H locs hq238 X X2 => ?_)
                                            refine g_topi (z' := turnA (mirV Q) 3) hq238.1 ?_
                                            have hI238 := hq238.2
                                            refine lv_iload hx hb dL_law_241 (lv_at hl 0 rfl) ?_
                                            refine g_icmp_ne (tgt := 250) G dL_law_243 (by decide) (by omega) (by omega) (fun h243 => ?_) (fun h243 => ?_)
                                            ·
                                              exact absurd h243 (by omega)
                                            ·
                                              refine lv_iconst (v := iI 1) hx hb dL_law_246 rfl ?_
                                              refine lv_goto (tgt := 251) hx hb dL_law_247 (by decide) ?_
                                              refine lv_istore_n (lv' := [(2, .int (iI (1))), (6, .int (iI ((turnA Q 2)))), (0, .ref bb), (1, .ref (Y.2.1 (0))), (3, .int (iI (rd))), (4, .int (iI (ng Q))), (5, .ref qt)]) hx hb dL_law_251 rfl hl (by decide) rfl (fun ls hl => ?_)
                                              refine lv_iconst (v := iI 0) hx hb dL_law_252 rfl ?_
                                              refine lv_istore (lv' := [(7, .int (iI (0))), (2, .int (iI (1))), (6, .int (iI ((turnA Q 2)))), (0, .ref bb), (1, .ref (Y.2.1 (0))), (3, .int (iI (rd))), (4, .int (iI (ng Q))), (5, .ref qt)]) hx hb dL_law_253 hl (by decide) rfl (fun ls hl => ?_)
                                              have lp_255 : ∀ (nn : Nat) (i2 : Int) (τ : Mem), ∀ hg2 : 0 ≤ i2 ∧ i2 ≤ ng Q, ∀ hJ : XInv τ (mirV Q) (recd hv Q) tx ch, ∀ hdec : (ng Q - i2) < (nn : Int), ∀ (H : Heap) (locs : List Loc) (ls : Array Slot), wx LX Y τ ss AA H locs → wx LT (yT Y qt) τ2 ss AA H locs → lv_has ls 8 [(0, .ref bb), (1, .ref (Y.2.1 (0))), (2, .int (iI (1))), (3, .int (iI (rd))), (4, .int (iI (ng Q))), (5, .ref qt), (6, .int (iI (turnA Q 2))), (7, .int (iI (i2)))] → W pp l ee room_1 ss mm ([.ref bb] : List Value).toArray bw mt cd H locs (100 + kc + 1) (1000 + 12 * kc + 12) ZZ (F0 mm 255 ls []) := by
                                                intro nn
                                                induction nn with
                                                | zero =>
                                                  intro i2 τ hg2 hJ hdec
                                                  exact absurd hdec (by omega)
                                                | succ nn ih_255 =>
                                                  intro i2 τ hg2 hJ hdec H locs ls X X2 hl
                                                  refine lv_iload hx hb dL_law_255 (lv_at hl 7 rfl) ?_
                                                  refine lv_iload hx hb dL_law_257 (lv_at hl 4 rfl) ?_
                                                  refine g_icmp_ge (tgt := 322) G dL_law_259 (by decide) (by omega) (by omega) (fun h259 => ?_) (fun h259 => ?_)
                                                  ·
                                                    refine lv_iload_n hx hb dL_law_322 rfl (lv_at hl 2 rfl) ?_
                                                    refine g_if_eq (tgt := 351) G dL_law_323 (by decide) (by omega) (fun h323 => ?_) (fun h323 => ?_)
                                                    ·
                                                      exact False.elim (by omega)
                                                    ·
                                                      refine lv_aload_n hx hb dL_law_326 rfl (lv_at hl 1 rfl) ?_
                                                      refine lv_iconst (v := iI 0) hx hb dL_law_327 rfl ?_
                                                      refine h_callVi G X X2 hap (rest := []) (As := [.int (iI (0))]) (t_X7_mirror l Y (τ) ((mirV Q)) ((recd hv Q)) tx ch (0) (by first | assumption | omega) (by first | assumption | omega)) (cwV 1 hts tv_X7_mirror rfl rfl rfl (by decide +kernel) ⟨Nat.le_of_ble_eq_true rfl, Nat.le_of_ble_eq_true rfl⟩) (k := 0) (Nat.le_of_ble_eq_true rfl) rfl rfl rfl rfl hl.1 rfl (Nat.le_of_ble_eq_true rfl) dL_law_328 ⟨(show (100 + kc + 1) ≤ 600000 by omega), (show (1000 + 12 * kc + 12) ≤ 7302250 by omega)⟩ (fun z328 u328 H locs hq328 X X2 => ?_)
                                                      have hI328 : XInv u328 (mirP (mirV Q)) (recd (recd hv Q) (mirV Q)) tx ch := by { have r := hq328.2; rw [stMir_0] at r; exact r }
                                                      refine g_topi (z' := ((mirV Q).length : Int)) (hq328.1.trans (by rw [stMir_0])) ?_
                                                      refine lv_aload_n hx hb dL_law_331 rfl (lv_at hl 1 rfl) ?_
                                                      refine h_callVi G X X2 hap (rest := [.int (iI (((mirV Q).length : Int)))]) (As := []) (t_X7_points l Y (u328) ((mirP (mirV Q))) ((recd (recd hv Q) (mirV Q))) tx ch (by first | assumption | omega)) (cwV 0 hts tv_X7_points rfl rfl rfl (by decide +kernel) ⟨Nat.le_of_ble_eq_true rfl, Nat.le_of_ble_eq_true rfl⟩) (k := 0) (Nat.le_of_ble_eq_true rfl) rfl rfl rfl rfl hl.1 rfl (Nat.le_of_ble_eq_true rfl) dL_law_332 ⟨(show (100 + kc + 1) ≤ 600000 by omega), (show (1000 + 12 * kc + 12) ≤ 7302250 by omega)⟩ (fun z332 u332 H locs hq332 X X2 => ?_)
                                                      rw [hq332.1] at X
                                                      have hq332 := hq332.2
                                                      try dsimp only at hq332
                                                      refine g_topi (z' := ((mirP (mirV Q)).length : Int)) hq332 ?_
                                                      refine g_icmp_ne (tgt := 351) G dL_law_335 (by decide) (by omega) (by omega) (fun h335 => ?_) (fun h335 => ?_)
                                                      ·
                                                        exact absurd h335 (by omega)
                                                      ·
                                                        refine lv_aload_n hx hb dL_law_338 rfl (lv_at hl 1 rfl) ?_
                                                        refine h_callVi G X X2 hap (rest := []) (As := []) (t_X7_groups l Y (u328) ((mirP (mirV Q))) ((recd (recd hv Q) (mirV Q))) tx ch (by first | assumption | omega)) (cwV 0 hts tv_X7_groups rfl rfl rfl (by decide +kernel) ⟨Nat.le_of_ble_eq_true rfl, Nat.le_of_ble_eq_true rfl⟩) (k := 0) (Nat.le_of_ble_eq_true rfl) rfl rfl rfl rfl hl.1 rfl (Nat.le_of_ble_eq_true rfl) dL_law_339 ⟨(show (100 + kc + 1) ≤ 600000 by omega), (show (1000 + 12 * kc + 12) ≤ 7302250 by omega)⟩ (fun z339 u339 H locs hq339 X X2 => ?_)
                                                        rw [hq339.1] at X
                                                        have hq339 := hq339.2
                                                        try dsimp only at hq339
                                                        refine g_topi (z' := ng (mirP (mirV Q))) hq339 ?_
                                                        refine lv_iload hx hb dL_law_342 (lv_at hl 4 rfl) ?_
                                                        refine g_icmp_ne (tgt := 351) G dL_law_344 (by decide) (by omega) (by omega) (fun h344 => ?_) (fun h344 => ?_)
                                                        ·
                                                          exact absurd h344 (by omega)
                                                        ·
                                                          refine lv_iconst (v := iI 1) hx hb dL_law_347 rfl ?_
                                                          refine lv_goto (tgt := 352) hx hb dL_law_348 (by decide) ?_
                                                          refine lv_istore_n (lv' := [(2, .int (iI (1))), (0, .ref bb), (1, .ref (Y.2.1 (0))), (3, .int (iI (rd))), (4, .int (iI (ng Q))), (5, .ref qt), (6, .int (iI (turnA Q 2))), (7, .int (iI (i2)))]) hx hb dL_law_352 rfl hl (by decide) rfl (fun ls hl => ?_)
                                                          refine lv_iconst (v := iI 0) hx hb dL_law_353 rfl ?_
                                                          refine lv_istore (lv' := [(7, .int (iI (0))), (2, .int (iI (1))), (0, .ref bb), (1, .ref (Y.2.1 (0))), (3, .int (iI (rd))), (4, .int (iI (ng Q))), (5, .ref qt), (6, .int (iI (turnA Q 2)))]) hx hb dL_law_354 hl (by decide) rfl (fun ls hl => ?_)
                                                          have lp_356 : ∀ (nn : Nat) (i3 : Int) (τ : Mem), ∀ hg3 : 0 ≤ i3 ∧ i3 ≤ ng Q, ∀ hJ : XInv τ (mirP (mirV Q)) (recd (recd hv Q) (mirV Q)) tx ch, ∀ hdec : (ng Q - i3) < (nn : Int), ∀ (H : Heap) (locs : List Loc) (ls : Array Slot), wx LX Y τ ss AA H locs → wx LT (yT Y qt) τ2 ss AA H locs → lv_has ls 8 [(0, .ref bb), (1, .ref (Y.2.1 (0))), (2, .int (iI (1))), (3, .int (iI (rd))), (4, .int (iI (ng Q))), (5, .ref qt), (6, .int (iI (turnA Q 2))), (7, .int (iI (i3)))] → W pp l ee room_1 ss mm ([.ref bb] : List Value).toArray bw mt cd H locs (100 + kc + 1) (1000 + 12 * kc + 12) ZZ (F0 mm 356 ls []) := by
                                                            intro nn
                                                            induction nn with
                                                            | zero =>
                                                              intro i3 τ hg3 hJ hdec
                                                              exact absurd hdec (by omega)
                                                            | succ nn ih_356 =>
                                                              intro i3 τ hg3 hJ hdec H locs ls X X2 hl
                                                              refine lv_iload hx hb dL_law_356 (lv_at hl 7 rfl) ?_
                                                              refine lv_iload hx hb dL_law_358 (lv_at hl 4 rfl) ?_
                                                              refine g_icmp_ge (tgt := 415) G dL_law_360 (by decide) (by omega) (by omega) (fun h360 => ?_) (fun h360 => ?_)
                                                              ·
                                                                obtain ⟨ts, hts9⟩ := recd_two hv Q (mirV Q)
                                                                have hJ9 : XInv τ (mirP (mirV Q)) ((ts ++ [Q]) ++ [mirV Q]) tx ch := by rw [← hts9]; exact hJ
                                                                have hh6 : ((ts ++ [Q]) ++ [mirV Q]).length ≤ 6 := hJ9.2.2.1.1.2.1
                                                                rw [List.length_append, List.length_singleton] at hh6
                                                                have hh5 := hh6
                                                                rw [List.length_append, List.length_singleton] at hh5
                                                                refine lv_iload_n hx hb dL_law_415 rfl (lv_at hl 2 rfl) ?_
                                                                refine g_if_eq (tgt := 447) G dL_law_416 (by decide) (by omega) (fun h416 => ?_) (fun h416 => ?_)
                                                                ·
                                                                  exact False.elim (by omega)
                                                                ·
                                                                  refine lv_aload_n hx hb dL_law_419 rfl (lv_at hl 1 rfl) ?_
                                                                  refine h_callVi G X X2 hap (rest := []) (As := []) (t_X7_undo l Y (τ) ((mirP (mirV Q))) (((ts ++ [Q]) ++ [mirV Q])) tx ch (by first | assumption | omega)) (cwV 0 hts tv_X7_undo rfl rfl rfl (by decide +kernel) ⟨Nat.le_of_ble_eq_true rfl, Nat.le_of_ble_eq_true rfl⟩) (k := 0) (Nat.le_of_ble_eq_true rfl) rfl rfl rfl rfl hl.1 rfl (Nat.le_of_ble_eq_true rfl) dL_law_420 ⟨(show (100 + kc + 1) ≤ 600000 by omega), (show (1000 + 12 * kc + 12) ≤ 7302250 by omega)⟩ (fun z420 u420 H locs hq420 X X2 => ?_)
                                                                  have hI420 : XInv u420 (mirV Q) (ts ++ [Q]) tx ch := by { have r := hq420.2; rw [undo_snoc] at r; exact r }
                                                                  refine g_topi (z' := ((ts ++ [Q]).length : Int)) (hq420.1.trans (by rw [undo_snoc])) ?_
                                                                  refine g_if_lt (tgt := 447) G dL_law_423 (by decide) (by omega) (fun h423 => ?_) (fun h423 => ?_)
                                                                  ·
                                                                    exact absurd h423 (by omega)
                                                                  ·
                                                                    refine lv_aload_n hx hb dL_law_426 rfl (lv_at hl 1 rfl) ?_
                                                                    refine h_callVi G X X2 hap (rest := []) (As := []) (t_X7_undo l Y (u420) ((mirV Q)) ((ts ++ [Q])) tx ch (by first | assumption | omega)) (cwV 0 hts tv_X7_undo rfl rfl rfl (by decide +kernel) ⟨Nat.le_of_ble_eq_true rfl, Nat.le_of_ble_eq_true rfl⟩) (k := 0) (Nat.le_of_ble_eq_true rfl) rfl rfl rfl rfl hl.1 rfl (Nat.le_of_ble_eq_true rfl) dL_law_427 ⟨(show (100 + kc + 1) ≤ 600000 by omega), (show (1000 + 12 * kc + 12) ≤ 7302250 by omega)⟩ (fun z427 u427 H locs hq427 X X2 => ?_)
                                                                    have hI427 : XInv u427 Q ts tx ch := by { have r := hq427.2; rw [undo_snoc] at r; exact r }
                                                                    refine g_topi (z' := (ts.length : Int)) (hq427.1.trans (by rw [undo_snoc])) ?_
                                                                    refine g_if_lt (tgt := 447) G dL_law_430 (by decide) (by omega) (fun h430 => ?_) (fun h430 => ?_)
                                                                    ·
                                                                      exact absurd h430 (by omega)
                                                                    ·
                                                                      refine lv_aload_n hx hb dL_law_433 rfl (lv_at hl 1 rfl) ?_
                                                                      refine lv_iconst (v := iI 2) hx hb dL_law_434 rfl ?_
                                                                      refine h_callVi G X X2 hap (rest := []) (As := [.int (iI (2))]) (t_X7_turn l Y (u427) (Q) (ts) tx ch (2) (by first | assumption | omega) (by first | assumption | omega)) (cwV 1 hts tv_X7_turn rfl rfl rfl (by decide +kernel) ⟨Nat.le_of_ble_eq_true rfl, Nat.le_of_ble_eq_true rfl⟩) (k := 0) (Nat.le_of_ble_eq_true rfl) rfl rfl rfl rfl hl.1 rfl (Nat.le_of_ble_eq_true rfl) dL_law_435 ⟨(show (100 + kc + 1) ≤ 600000 by omega), (show (1000 + 12 * kc + 12) ≤ 7302250 by omega)⟩ (fun z435 u435 H locs hq435 X X2 => ?_)
                                                                      refine g_topi (z' := turnA Q 2) hq435.1 ?_
                                                                      have hI435 := hq435.2
                                                                      refine lv_iload hx hb dL_law_438 (lv_at hl 6 rfl) ?_
                                                                      refine g_icmp_ne (tgt := 447) G dL_law_440 (by decide) (by omega) (by omega) (fun h440 => ?_) (fun h440 => ?_)
                                                                      ·
                                                                        exact absurd rfl h440
                                                                      ·
                                                                        refine lv_iconst (v := iI 1) hx hb dL_law_443 rfl ?_
                                                                        refine lv_goto (tgt := 448) hx hb dL_law_444 (by decide) ?_
                                                                        refine lv_istore_n (lv' := [(2, .int (iI (1))), (0, .ref bb), (1, .ref (Y.2.1 (0))), (3, .int (iI (rd))), (4, .int (iI (ng Q))), (5, .ref qt), (6, .int (iI (turnA Q 2))), (7, .int (iI (i3)))]) hx hb dL_law_448 rfl hl (by decide) rfl (fun ls hl => ?_)
                                                                        refine lv_iinc (v := iI (rd + 1)) (lv' := [(3, .int (iI ((rd + 1)))), (2, .int (iI (1))), (0, .ref bb), (1, .ref (Y.2.1 (0))), (4, .int (iI (ng Q))), (5, .ref qt), (6, .int (iI (turnA Q 2))), (7, .int (iI (i3)))]) hx hb dL_law_449 hl (k := 3) rfl (iI_add _ _) (by decide) rfl (fun ls hl => ?_)
                                                                        refine lv_goto (tgt := 54) hx hb dL_law_452 (by decide) ?_
                                                                        rw [show 100 + kc + 1 = 100 + (kc + 1) by omega, show 1000 + 12 * kc + 12 = 1000 + 12 * (kc + 1) by omega]
                                                                        exact ih_54 ((rd + 1)) (kc + 1) (u435) (Q) (ts) (by omega) (by omega) (by assumption) (by omega) _ _ _ X (lv_sub hl [2, 3, 1, 0] rfl)
                                                              ·
                                                                refine lv_iload_n hx hb dL_law_363 rfl (lv_at hl 2 rfl) ?_
                                                                refine g_if_eq (tgt := 415) G dL_law_364 (by decide) (by omega) (fun h364 => ?_) (fun h364 => ?_)
                                                                ·
                                                                  exact False.elim (by omega)
                                                                ·
                                                                  refine lv_aload_n hx hb dL_law_367 rfl (lv_at hl 1 rfl) ?_
                                                                  refine lv_iload hx hb dL_law_368 (lv_at hl 7 rfl) ?_
                                                                  refine lv_iconst (v := iI 0) hx hb dL_law_370 rfl ?_
                                                                  refine h_callVi G X X2 hap (rest := []) (As := [.int (iI (i3)), .int (iI (0))]) (t_X7_groupInfo l Y (τ) ((mirP (mirV Q))) ((recd (recd hv Q) (mirV Q))) tx ch (i3) (0) (by first | assumption | omega) (by first | assumption | omega) (by first | assumption | omega)) (cwV 2 hts tv_X7_groupInfo rfl rfl rfl (by decide +kernel) ⟨Nat.le_of_ble_eq_true rfl, Nat.le_of_ble_eq_true rfl⟩) (k := 0) (Nat.le_of_ble_eq_true rfl) rfl rfl rfl rfl hl.1 rfl (Nat.le_of_ble_eq_true rfl) dL_law_371 ⟨(show (100 + kc + 1) ≤ 600000 by omega), (show (1000 + 12 * kc + 12) ≤ 7302250 by omega)⟩ (fun z371 u371 H locs hq371 X X2 => ?_)
                                                                  rw [hq371.1] at X
                                                                  have hq371 := hq371.2
                                                                  try dsimp only at hq371
                                                                  refine g_topi (z' := ginA (mirP (mirV Q)) i3 0) hq371 ?_
                                                                  have hfr := far_ans hQn (g := i3) (by omega) (by omega)
                                                                  refine lv_bipush (v := iI 15) hx hb dL_law_374 (by decide +kernel) ?_
                                                                  refine g_icmp_le (tgt := 407) G dL_law_376 (by decide) (by omega) (by omega) (fun h376 => ?_) (fun h376 => ?_)
                                                                  ·
                                                                    exact absurd h376 (by omega)
                                                                  ·
                                                                    refine lv_iload hx hb dL_law_379 (lv_at hl 7 rfl) ?_
                                                                    refine g_if_eq (tgt := 403) G dL_law_381 (by decide) (by omega) (fun h381 => ?_) (fun h381 => ?_)
                                                                    ·
                                                                      refine lv_iconst (v := iI 1) hx hb dL_law_403 rfl ?_
                                                                      refine lv_goto (tgt := 408) hx hb dL_law_404 (by decide) ?_
                                                                      refine lv_istore_n (lv' := [(2, .int (iI (1))), (0, .ref bb), (1, .ref (Y.2.1 (0))), (3, .int (iI (rd))), (4, .int (iI (ng Q))), (5, .ref qt), (6, .int (iI (turnA Q 2))), (7, .int (iI (i3)))]) hx hb dL_law_408 rfl hl (by decide) rfl (fun ls hl => ?_)
                                                                      refine lv_iinc (v := iI (i3 + 1)) (lv' := [(7, .int (iI ((i3 + 1)))), (2, .int (iI (1))), (0, .ref bb), (1, .ref (Y.2.1 (0))), (3, .int (iI (rd))), (4, .int (iI (ng Q))), (5, .ref qt), (6, .int (iI (turnA Q 2)))]) hx hb dL_law_409 hl (k := 7) rfl (iI_add _ _) (by decide) rfl (fun ls hl => ?_)
                                                                      refine lv_goto (tgt := 356) hx hb dL_law_412 (by decide) ?_
                                                                      exact ih_356 ((i3 + 1)) (τ) (by omega) (by assumption) (by omega) _ _ _ X X2 (lv_sub hl [2, 3, 1, 4, 5, 6, 7, 0] rfl)
                                                                    ·
                                                                      refine lv_aload_n hx hb dL_law_384 rfl (lv_at hl 1 rfl) ?_
                                                                      refine lv_iload hx hb dL_law_385 (lv_at hl 7 rfl) ?_
                                                                      refine lv_iconst (v := iI 0) hx hb dL_law_387 rfl ?_
                                                                      refine h_callVi G X X2 hap (rest := []) (As := [.int (iI (i3)), .int (iI (0))]) (t_X7_groupInfo l Y (τ) ((mirP (mirV Q))) ((recd (recd hv Q) (mirV Q))) tx ch (i3) (0) (by first | assumption | omega) (by first | assumption | omega) (by first | assumption | omega)) (cwV 2 hts tv_X7_groupInfo rfl rfl rfl (by decide +kernel) ⟨Nat.le_of_ble_eq_true rfl, Nat.le_of_ble_eq_true rfl⟩) (k := 0) (Nat.le_of_ble_eq_true rfl) rfl rfl rfl rfl hl.1 rfl (Nat.le_of_ble_eq_true rfl) dL_law_388 ⟨(show (100 + kc + 1) ≤ 600000 by omega), (show (1000 + 12 * kc + 12) ≤ 7302250 by omega)⟩ (fun z388 u388 H locs hq388 X X2 => ?_)
                                                                      rw [hq388.1] at X
                                                                      have hq388 := hq388.2
                                                                      try dsimp only at hq388
                                                                      refine g_topi (z' := ginA (mirP (mirV Q)) i3 0) hq388 ?_
                                                                      refine lv_aload_n hx hb dL_law_391 rfl (lv_at hl 1 rfl) ?_
                                                                      refine lv_iload hx hb dL_law_392 (lv_at hl 7 rfl) ?_
                                                                      refine lv_iconst (v := iI 1) hx hb dL_law_394 rfl ?_
                                                                      refine g_isub G dL_law_395 ?_
                                                                      refine lv_iconst (v := iI 0) hx hb dL_law_396 rfl ?_
                                                                      refine h_callVi G X X2 hap (rest := [.int (iI ((ginA (mirP (mirV Q)) i3 0)))]) (As := [.int (iI ((i3 - 1))), .int (iI (0))]) (t_X7_groupInfo l Y (τ) ((mirP (mirV Q))) ((recd (recd hv Q) (mirV Q))) tx ch ((i3 - 1)) (0) (by first | assumption | omega) (by first | assumption | omega) (by first | assumption | omega)) (cwV 2 hts tv_X7_groupInfo rfl rfl rfl (by decide +kernel) ⟨Nat.le_of_ble_eq_true rfl, Nat.le_of_ble_eq_true rfl⟩) (k := 0) (Nat.le_of_ble_eq_true rfl) rfl rfl rfl rfl hl.1 rfl (Nat.le_of_ble_eq_true rfl) dL_law_397 ⟨(show (100 + kc + 1) ≤ 600000 by omega), (show (1000 + 12 * kc + 12) ≤ 7302250 by omega)⟩ (fun z397 u397 H locs hq397 X X2 => ?_)
                                                                      rw [hq397.1] at X
                                                                      have hq397 := hq397.2
                                                                      try dsimp only at hq397
                                                                      refine g_topi (z' := ginA (mirP (mirV Q)) (i3 - 1) 0) hq397 ?_
                                                                      have hfr2 := far_ans hQn (g := i3 - 1) (by omega) (by omega)
                                                                      refine g_icmp_le (tgt := 407) G dL_law_400 (by decide) (by omega) (by omega) (fun h400 => ?_) (fun h400 => ?_)
                                                                      ·
                                                                        exact absurd h400 (by omega)
                                                                      ·
                                                                        refine lv_iconst (v := iI 1) hx hb dL_law_403 rfl ?_
                                                                        refine lv_goto (tgt := 408) hx hb dL_law_404 (by decide) ?_
                                                                        refine lv_istore_n (lv' := [(2, .int (iI (1))), (0, .ref bb), (1, .ref (Y.2.1 (0))), (3, .int (iI (rd))), (4, .int (iI (ng Q))), (5, .ref qt), (6, .int (iI (turnA Q 2))), (7, .int (iI (i3)))]) hx hb dL_law_408 rfl hl (by decide) rfl (fun ls hl => ?_)
                                                                        refine lv_iinc (v := iI (i3 + 1)) (lv' := [(7, .int (iI ((i3 + 1)))), (2, .int (iI (1))), (0, .ref bb), (1, .ref (Y.2.1 (0))), (3, .int (iI (rd))), (4, .int (iI (ng Q))), (5, .ref qt), (6, .int (iI (turnA Q 2)))]) hx hb dL_law_409 hl (k := 7) rfl (iI_add _ _) (by decide) rfl (fun ls hl => ?_)
                                                                        refine lv_goto (tgt := 356) hx hb dL_law_412 (by decide) ?_
                                                                        exact ih_356 ((i3 + 1)) (τ) (by omega) (by assumption) (by omega) _ _ _ X X2 (lv_sub hl [2, 3, 1, 4, 5, 6, 7, 0] rfl)
                                                          exact lp_356 ((((ng Q - (0)) : Int).toNat + 1)) (0) (u328) (by omega) (by assumption) (by omega) _ _ _ X X2 (lv_sub hl [2, 3, 1, 4, 5, 6, 7, 0] rfl)
                                                  ·
                                                    refine lv_iload_n hx hb dL_law_262 rfl (lv_at hl 2 rfl) ?_
                                                    refine g_if_eq (tgt := 322) G dL_law_263 (by decide) (by omega) (fun h263 => ?_) (fun h263 => ?_)
                                                    ·
                                                      exact False.elim (by omega)
                                                    ·
                                                      refine lv_aload hx hb dL_law_266 (lv_at hl 5 rfl) ?_
                                                      refine lv_iload hx hb dL_law_268 (lv_at hl 7 rfl) ?_
                                                      refine t_lald G X2 (z := i2) (by omega) dL_law_270 ?_
                                                      refine g_topl (z' := toldA Q i2) (hTT i2 (by omega) (by omega)) ?_
                                                      refine lv_aload_n hx hb dL_law_271 rfl (lv_at hl 1 rfl) ?_
                                                      refine lv_iconst (v := iI 3) hx hb dL_law_272 rfl ?_
                                                      refine lv_iload hx hb dL_law_273 (lv_at hl 7 rfl) ?_
                                                      refine lv_iconst (v := iI 0) hx hb dL_law_275 rfl ?_
                                                      refine h_callVl G X X2 hap (rest := [.long (lI ((toldA Q i2)))]) (As := [.int (iI (3)), .int (iI (i2)), .int (iI (0))]) (t_X7_fit l Y (τ) ((mirV Q)) ((recd hv Q)) tx ch (3) (i2) (0) (by first | assumption | omega) (by first | assumption | omega) (by first | assumption | omega) (by first | assumption | omega)) (cwV 3 hts tv_X7_fit rfl rfl rfl (by decide +kernel) ⟨Nat.le_of_ble_eq_true rfl, Nat.le_of_ble_eq_true rfl⟩) (k := 0) (Nat.le_of_ble_eq_true rfl) rfl rfl rfl rfl hl.1 rfl (Nat.le_of_ble_eq_true rfl) dL_law_276 ⟨(show (100 + kc + 1) ≤ 600000 by omega), (show (1000 + 12 * kc + 12) ≤ 7302250 by omega)⟩ (fun z276 u276 H locs hq276 X X2 => ?_)
                                                      refine g_topl (z' := fitA (mirV Q) 3 i2 0) hq276.1 ?_
                                                      have hI276 := hq276.2
                                                      refine g_ldc2 G (z := 1000003) l_k97 (by decide +kernel) dL_law_279 ?_
                                                      refine lv_aload_n hx hb dL_law_282 rfl (lv_at hl 1 rfl) ?_
                                                      refine lv_iconst (v := iI 5) hx hb dL_law_283 rfl ?_
                                                      refine lv_iload hx hb dL_law_284 (lv_at hl 7 rfl) ?_
                                                      refine lv_iconst (v := iI 0) hx hb dL_law_286 rfl ?_
                                                      refine h_callVl G X X2 hap (rest := [.long (lI (1000003)), .long (lI ((fitA (mirV Q) 3 i2 0))), .long (lI ((toldA Q i2)))]) (As := [.int (iI (5)), .int (iI (i2)), .int (iI (0))]) (t_X7_fit l Y (u276) ((mirV Q)) ((recd hv Q)) tx ch (5) (i2) (0) (by first | assumption | omega) (by first | assumption | omega) (by first | assumption | omega) (by first | assumption | omega)) (cwV 3 hts tv_X7_fit rfl rfl rfl (by decide +kernel) ⟨Nat.le_of_ble_eq_true rfl, Nat.le_of_ble_eq_true rfl⟩) (k := 0) (Nat.le_of_ble_eq_true rfl) rfl rfl rfl rfl hl.1 rfl (Nat.le_of_ble_eq_true rfl) dL_law_287 ⟨(show (100 + kc + 1) ≤ 600000 by omega), (show (1000 + 12 * kc + 12) ≤ 7302250 by omega)⟩ (fun z287 u287 H locs hq287 X X2 => ?_)
                                                      refine g_topl (z' := fitA (mirV Q) 5 i2 0) hq287.1 ?_
                                                      have hI287 := hq287.2
                                                      refine g_lmul G dL_law_290 ?_
                                                      refine g_ladd G dL_law_291 ?_
                                                      refine g_ldc2 G (z := 7) l_k99 (by decide +kernel) dL_law_292 ?_
                                                      refine lv_aload_n hx hb dL_law_295 rfl (lv_at hl 1 rfl) ?_
                                                      refine lv_iconst (v := iI 1) hx hb dL_law_296 rfl ?_
                                                      refine lv_iload hx hb dL_law_297 (lv_at hl 7 rfl) ?_
                                                      refine lv_iconst (v := iI 0) hx hb dL_law_299 rfl ?_
                                                      refine h_callVl G X X2 hap (rest := [.long (lI (7)), .long (lI (((fitA (mirV Q) 3 i2 0) + (1000003 * (fitA (mirV Q) 5 i2 0))))), .long (lI ((toldA Q i2)))]) (As := [.int (iI (1)), .int (iI (i2)), .int (iI (0))]) (t_X7_fit l Y (u287) ((mirV Q)) ((recd hv Q)) tx ch (1) (i2) (0) (by first | assumption | omega) (by first | assumption | omega) (by first | assumption | omega) (by first | assumption | omega)) (cwV 3 hts tv_X7_fit rfl rfl rfl (by decide +kernel) ⟨Nat.le_of_ble_eq_true rfl, Nat.le_of_ble_eq_true rfl⟩) (k := 0) (Nat.le_of_ble_eq_true rfl) rfl rfl rfl rfl hl.1 rfl (Nat.le_of_ble_eq_true rfl) dL_law_300 ⟨(show (100 + kc + 1) ≤ 600000 by omega), (show (1000 + 12 * kc + 12) ≤ 7302250 by omega)⟩ (fun z300 u300 H locs hq300 X X2 => ?_)
                                                      refine g_topl (z' := fitA (mirV Q) 1 i2 0) hq300.1 ?_
                                                      have hI300 := hq300.2
                                                      refine g_lmul G dL_law_303 ?_
                                                      refine g_ladd G dL_law_304 ?_
                                                      refine g_lneg G dL_law_305 ?_
                                                      have hfa := fit_ans hok hl12 (g := i2) (by omega)
                                                      have htd := toldA_eq Q i2
                                                      refine g_lif_ne (tgt := 314) G dL_law_306 dL_law_307 (by decide) (by omega) (by omega) (fun h306 => ?_) (fun h306 => ?_)
                                                      ·
                                                        exact absurd h306 (by omega)
                                                      ·
                                                        refine lv_iconst (v := iI 1) hx hb dL_law_310 rfl ?_
                                                        refine lv_goto (tgt := 315) hx hb dL_law_311 (by decide) ?_
                                                        refine lv_istore_n (lv' := [(2, .int (iI (1))), (0, .ref bb), (1, .ref (Y.2.1 (0))), (3, .int (iI (rd))), (4, .int (iI (ng Q))), (5, .ref qt), (6, .int (iI (turnA Q 2))), (7, .int (iI (i2)))]) hx hb dL_law_315 rfl hl (by decide) rfl (fun ls hl => ?_)
                                                        refine lv_iinc (v := iI (i2 + 1)) (lv' := [(7, .int (iI ((i2 + 1)))), (2, .int (iI (1))), (0, .ref bb), (1, .ref (Y.2.1 (0))), (3, .int (iI (rd))), (4, .int (iI (ng Q))), (5, .ref qt), (6, .int (iI (turnA Q 2)))]) hx hb dL_law_316 hl (k := 7) rfl (iI_add _ _) (by decide) rfl (fun ls hl => ?_)
                                                        refine lv_goto (tgt := 255) hx hb dL_law_319 (by decide) ?_
                                                        exact ih_255 ((i2 + 1)) (u300) (by omega) (by assumption) (by omega) _ _ _ X X2 (lv_sub hl [2, 3, 1, 4, 5, 6, 7, 0] rfl)
                                              exact lp_255 ((((ng Q - (0)) : Int).toNat + 1)) (0) (u238) (by omega) (by assumption) (by omega) _ _ _ X X2 (lv_sub hl [3, 4, 1, 5, 6, 7, 2, 0] rfl)
                                      ·
                                        refine lv_aload hx hb dL_law_168 (lv_at hl 5 rfl) ?_
                                        refine lv_iload hx hb dL_law_170 (lv_at hl 6 rfl) ?_
                                        refine lv_aload_n hx hb dL_law_172 rfl (lv_at hl 1 rfl) ?_
                                        refine lv_iconst (v := iI 2) hx hb dL_law_173 rfl ?_
                                        refine lv_iload hx hb dL_law_174 (lv_at hl 6 rfl) ?_
                                        refine lv_iconst (v := iI 0) hx hb dL_law_176 rfl ?_
                                        refine h_callVl G X X2 hap (rest := [.int (iI (i1)), .ref qt]) (As := [.int (iI (2)), .int (iI (i1)), .int (iI (0))]) (t_X7_fit l Y (τ) (Q) (hv) tx ch (2) (i1) (0) (by first | assumption | omega) (by first | assumption | omega) (by first | assumption | omega) (by first | assumption | omega)) (cwV 3 hts tv_X7_fit rfl rfl rfl (by decide +kernel) ⟨Nat.le_of_ble_eq_true rfl, Nat.le_of_ble_eq_true rfl⟩) (k := 0) (Nat.le_of_ble_eq_true rfl) rfl rfl rfl rfl hl.1 rfl (Nat.le_of_ble_eq_true rfl) dL_law_177 ⟨(show (100 + kc + 1) ≤ 600000 by omega), (show (1000 + 12 * kc + 12) ≤ 7302250 by omega)⟩ (fun z177 u177 H locs hq177 X X2 => ?_)
                                        refine g_topl (z' := fitA Q 2 i1 0) hq177.1 ?_
                                        have hI177 := hq177.2
                                        refine g_ldc2 G (z := 1000003) l_k97 (by decide +kernel) dL_law_180 ?_
                                        refine lv_aload_n hx hb dL_law_183 rfl (lv_at hl 1 rfl) ?_
                                        refine lv_iconst (v := iI 4) hx hb dL_law_184 rfl ?_
                                        refine lv_iload hx hb dL_law_185 (lv_at hl 6 rfl) ?_
                                        refine lv_iconst (v := iI 0) hx hb dL_law_187 rfl ?_
                                        refine h_callVl G X X2 hap (rest := [.long (lI (1000003)), .long (lI ((fitA Q 2 i1 0))), .int (iI (i1)), .ref qt]) (As := [.int (iI (4)), .int (iI (i1)), .int (iI (0))]) (t_X7_fit l Y (u177) (Q) (hv) tx ch (4) (i1) (0) (by first | assumption | omega) (by first | assumption | omega) (by first | assumption | omega) (by first | assumption | omega)) (cwV 3 hts tv_X7_fit rfl rfl rfl (by decide +kernel) ⟨Nat.le_of_ble_eq_true rfl, Nat.le_of_ble_eq_true rfl⟩) (k := 0) (Nat.le_of_ble_eq_true rfl) rfl rfl rfl rfl hl.1 rfl (Nat.le_of_ble_eq_true rfl) dL_law_188 ⟨(show (100 + kc + 1) ≤ 600000 by omega), (show (1000 + 12 * kc + 12) ≤ 7302250 by omega)⟩ (fun z188 u188 H locs hq188 X X2 => ?_)
                                        refine g_topl (z' := fitA Q 4 i1 0) hq188.1 ?_
                                        have hI188 := hq188.2
                                        refine g_lmul G dL_law_191 ?_
                                        refine g_ladd G dL_law_192 ?_
                                        refine g_ldc2 G (z := 7) l_k99 (by decide +kernel) dL_law_193 ?_
                                        refine lv_aload_n hx hb dL_law_196 rfl (lv_at hl 1 rfl) ?_
                                        refine lv_iconst (v := iI 0) hx hb dL_law_197 rfl ?_
                                        refine lv_iload hx hb dL_law_198 (lv_at hl 6 rfl) ?_
                                        refine lv_iconst (v := iI 0) hx hb dL_law_200 rfl ?_
                                        refine h_callVl G X X2 hap (rest := [.long (lI (7)), .long (lI (((fitA Q 2 i1 0) + (1000003 * (fitA Q 4 i1 0))))), .int (iI (i1)), .ref qt]) (As := [.int (iI (0)), .int (iI (i1)), .int (iI (0))]) (t_X7_fit l Y (u188) (Q) (hv) tx ch (0) (i1) (0) (by first | assumption | omega) (by first | assumption | omega) (by first | assumption | omega) (by first | assumption | omega)) (cwV 3 hts tv_X7_fit rfl rfl rfl (by decide +kernel) ⟨Nat.le_of_ble_eq_true rfl, Nat.le_of_ble_eq_true rfl⟩) (k := 0) (Nat.le_of_ble_eq_true rfl) rfl rfl rfl rfl hl.1 rfl (Nat.le_of_ble_eq_true rfl) dL_law_201 ⟨(show (100 + kc + 1) ≤ 600000 by omega), (show (1000 + 12 * kc + 12) ≤ 7302250 by omega)⟩ (fun z201 u201 H locs hq201 X X2 => ?_)
                                        refine g_topl (z' := fitA Q 0 i1 0) hq201.1 ?_
                                        have hI201 := hq201.2
                                        refine g_lmul G dL_law_204 ?_
                                        refine g_ladd G dL_law_205 ?_
                                        refine g_topl (z' := toldA Q i1) rfl ?_
                                        refine t_last G X X2 hap (z := i1) (v := (toldA Q i1)) (by omega) dL_law_206 (fun H locs X X2 => ?_)
                                        refine lv_iinc (v := iI (i1 + 1)) (lv' := [(6, .int (iI ((i1 + 1)))), (0, .ref bb), (1, .ref (Y.2.1 (0))), (2, .int (iI (1))), (3, .int (iI (rd))), (4, .int (iI (ng Q))), (5, .ref qt)]) hx hb dL_law_207 hl (k := 6) rfl (iI_add _ _) (by decide) rfl (fun ls hl => ?_)
                                        refine lv_goto (tgt := 161) hx hb dL_law_210 (by decide) ?_
                                        exact ih_161 ((i1 + 1)) (u201) _ (by omega) (by assumption) (told_s hT) (by omega) _ _ _ X X2 (lv_sub hl [1, 2, 3, 4, 5, 6, 0] rfl)
                                  exact lp_161 ((((ng Q - (0)) : Int).toNat + 1)) (0) (u134) _ (by omega) (by assumption) (fun j a b => by omega) (by omega) _ _ _ X X2 (lv_sub hl [4, 5, 3, 6, 2, 1, 0] rfl)
                      ·
                        refine lv_aload_n hx hb dL_law_70 rfl (lv_at hl 1 rfl) ?_
                        refine lv_iconst (v := iI 0) hx hb dL_law_71 rfl ?_
                        refine g_callVi G X (rest := []) (As := [.int (iI (0))]) (t_X7_remove l Y (τ) P hs tx ch (0) (by first | assumption | omega) (by first | assumption | omega)) (cwV 1 hts tv_X7_remove rfl rfl rfl (by decide +kernel) ⟨Nat.le_of_ble_eq_true rfl, Nat.le_of_ble_eq_true rfl⟩) (k := 0) (Nat.le_of_ble_eq_true rfl) rfl rfl rfl rfl hl.1 rfl (Nat.le_of_ble_eq_true rfl) dL_law_72 ⟨(show (100 + kc) ≤ 600000 by omega), (show (1000 + 12 * kc) ≤ 7302250 by omega)⟩ (fun z72 u72 H locs hq72 X => ?_)
                        have hst := stRem_ok (P := P) (hs := hs) (by omega)
                        obtain ⟨P2, hv2, hJ2, hl2⟩ : ∃ P2 hv2, XInv u72 P2 hv2 tx ch ∧ (P2.length : Int) + 1 = P.length := ⟨P.eraseIdx 0, recd hs P, by { have r := hq72.2; rw [hst] at r; exact r }, by { rw [List.length_eraseIdx_of_lt (by omega)]; omega }⟩
                        refine lv_pop hx hb dL_law_75 rfl ?_
                        refine lv_goto (tgt := 63) hx hb dL_law_76 (by decide) ?_
                        exact ih_63 (u72) (P2) (hv2) (by assumption) (by omega) _ _ _ X (lv_sub hl [0, 1, 2, 3] rfl)
                  exact lp_63 (((((P).length : Int) : Int).toNat + 1)) (τ) (P) (hs) (by assumption) (by omega) _ _ _ X (lv_sub hl [0, 1, 2, 3] rfl)
          exact lp_54 ((((4 - (0)) : Int).toNat + 1)) (0) (0) (u40) (P) (hs) (by omega) (by omega) (by assumption) (by omega) _ _ _ X (lv_sub hl [2, 3, 1, 0] rfl)
