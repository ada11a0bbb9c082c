/-! the law's calls, one by one -/
section LawC
variable {p : Program} {l : Launch} {e : Env} {s : State} {m : MethodId} {args : Array Value} {below : List Frame} {meth : Method} {c : Code} {H : Heap} {locs : List Loc} {Z : State → Prop} {rt : Option FieldType}
variable {Y Y2 : Yt} {σ τ : Mem} {A : Nat → Prop} {b L : Nat} {xs : Nat → Int32} {i : Int} {ls : Array Slot} {P : List Pt} {hs : List (List Pt)} {tx ch : List Int}
theorem lc_14 (F : LF p s m args meth c Y Y2 A b L xs) (hi : 0 ≤ i ∧ i + 4 ≤ L) (K : LK p l e s m args below meth c Y Y2 A b i Z) (J : LJ Y Y2 s A b i P hs tx ch σ τ H locs ls) : W p l e room_1 s m args below meth c H locs 600000 7302249 Z (F0 m 551 ls []) := by
  obtain ⟨hI, hM, X, X2, hl⟩ := J
  have G := F.1
  have hx := G.1
  have hb := G.2.1
  have hap := F.2.2.2.2.1
  refine lv_aload_n hx hb dL_law_551 rfl (lv_at hl 1 rfl) ?_
  refine g_scr F X.2.2.1 hl 1 ⟨hi, by omega⟩ dL_law_552 dL_law_553 dL_law_554 dL_law_555 dL_law_556 ?_
  refine h_callVi G X X2 hap (rest := []) (As := [.int (iI (sc xs i 1))]) (t_X7_blocks l Y σ P hs tx ch (sc xs i 1) hI (sc_rg xs i 1)) (cwV 1 F.1.2.2.2.2.1 tv_X7_blocks rfl rfl rfl (by decide +kernel) ⟨Nat.le_of_ble_eq_true rfl, Nat.le_of_ble_eq_true rfl⟩) (k := 0) (Nat.le_of_ble_eq_true rfl) rfl rfl rfl rfl hl.1 rfl (Nat.le_of_ble_eq_true rfl) dL_law_557 ⟨Nat.le_refl _, Nat.le_refl _⟩ (fun z1 u1 H locs h1 X X2 => ?_)
  refine lv_aload_n hx hb dL_law_560 rfl (lv_at hl 2 rfl) ?_
  refine g_scr F X.2.2.1 hl 1 ⟨hi, by omega⟩ dL_law_561 dL_law_562 dL_law_563 dL_law_564 dL_law_565 ?_
  refine h_callVi G X2 X hap.sym (rest := [.int (iI z1)]) (As := [.int (iI (sc xs i 1))]) (t_X8_blocks l Y2 τ P hs tx ch (sc xs i 1) hM (sc_rg xs i 1)) (cwV 1 F.1.2.2.2.2.1 tv_X8_blocks rfl rfl rfl (by decide +kernel) ⟨Nat.le_of_ble_eq_true rfl, Nat.le_of_ble_eq_true rfl⟩) (k := 0) (Nat.le_of_ble_eq_true rfl) rfl rfl rfl rfl hl.1 rfl (Nat.le_of_ble_eq_true rfl) dL_law_566 ⟨Nat.le_refl _, Nat.le_refl _⟩ (fun z2 u2 H locs h2 X2 X => ?_)
  have hz : z1 = z2 := h1.1.trans h2.1.1.symm
  refine lv_icmp_eq (tgt := 903) hx hb dL_law_569 (by decide) (fun _ => ?_) (fun q => absurd (congrArg iI hz) q)
  exact K P hs tx ch u1 u2 _ _ _ ⟨h1.2, h2.1.2, X, X2, hl⟩
theorem lc_15 (F : LF p s m args meth c Y Y2 A b L xs) (hi : 0 ≤ i ∧ i + 4 ≤ L) (K : LK p l e s m args below meth c Y Y2 A b i Z) (J : LJ Y Y2 s A b i P hs tx ch σ τ H locs ls) : W p l e room_1 s m args below meth c H locs 600000 7302249 Z (F0 m 574 ls []) := by
  obtain ⟨hI, hM, X, X2, hl⟩ := J
  have G := F.1
  have hx := G.1
  have hb := G.2.1
  have hap := F.2.2.2.2.1
  refine lv_aload_n hx hb dL_law_574 rfl (lv_at hl 1 rfl) ?_
  refine g_scr F X.2.2.1 hl 1 ⟨hi, by omega⟩ dL_law_575 dL_law_576 dL_law_577 dL_law_578 dL_law_579 ?_
  refine g_scr F X.2.2.1 hl 2 ⟨hi, by omega⟩ dL_law_580 dL_law_581 dL_law_582 dL_law_583 dL_law_584 ?_
  refine g_scr F X.2.2.1 hl 3 ⟨hi, by omega⟩ dL_law_585 dL_law_586 dL_law_587 dL_law_588 dL_law_589 ?_
  refine h_callVi G X X2 hap (rest := []) (As := [.int (iI (sc xs i 1)), .int (iI (sc xs i 2)), .int (iI (sc xs i 3))]) (t_X7_blockInfo l Y σ P hs tx ch (sc xs i 1) (sc xs i 2) (sc xs i 3) hI (sc_rg xs i 1) (sc_rg xs i 2) (sc_rg xs i 3)) (cwV 3 F.1.2.2.2.2.1 tv_X7_blockInfo rfl rfl rfl (by decide +kernel) ⟨Nat.le_of_ble_eq_true rfl, Nat.le_of_ble_eq_true rfl⟩) (k := 0) (Nat.le_of_ble_eq_true rfl) rfl rfl rfl rfl hl.1 rfl (Nat.le_of_ble_eq_true rfl) dL_law_590 ⟨Nat.le_refl _, Nat.le_refl _⟩ (fun z1 u1 H locs h1 X X2 => ?_)
  refine lv_aload_n hx hb dL_law_593 rfl (lv_at hl 2 rfl) ?_
  refine g_scr F X.2.2.1 hl 1 ⟨hi, by omega⟩ dL_law_594 dL_law_595 dL_law_596 dL_law_597 dL_law_598 ?_
  refine g_scr F X.2.2.1 hl 2 ⟨hi, by omega⟩ dL_law_599 dL_law_600 dL_law_601 dL_law_602 dL_law_603 ?_
  refine g_scr F X.2.2.1 hl 3 ⟨hi, by omega⟩ dL_law_604 dL_law_605 dL_law_606 dL_law_607 dL_law_608 ?_
  refine h_callVi G X2 X hap.sym (rest := [.int (iI z1)]) (As := [.int (iI (sc xs i 1)), .int (iI (sc xs i 2)), .int (iI (sc xs i 3))]) (t_X8_blockInfo l Y2 τ P hs tx ch (sc xs i 1) (sc xs i 2) (sc xs i 3) hM (sc_rg xs i 1) (sc_rg xs i 2) (sc_rg xs i 3)) (cwV 3 F.1.2.2.2.2.1 tv_X8_blockInfo rfl rfl rfl (by decide +kernel) ⟨Nat.le_of_ble_eq_true rfl, Nat.le_of_ble_eq_true rfl⟩) (k := 0) (Nat.le_of_ble_eq_true rfl) rfl rfl rfl rfl hl.1 rfl (Nat.le_of_ble_eq_true rfl) dL_law_609 ⟨Nat.le_refl _, Nat.le_refl _⟩ (fun z2 u2 H locs h2 X2 X => ?_)
  have hz : z1 = z2 := h1.1.trans h2.1.symm
  refine lv_icmp_eq (tgt := 903) hx hb dL_law_612 (by decide) (fun _ => ?_) (fun q => absurd (congrArg iI hz) q)
  exact K P hs tx ch u1 u2 _ _ _ ⟨h1.2, h2.2, X, X2, hl⟩
theorem lc_16 (F : LF p s m args meth c Y Y2 A b L xs) (hi : 0 ≤ i ∧ i + 4 ≤ L) (K : LK p l e s m args below meth c Y Y2 A b i Z) (J : LJ Y Y2 s A b i P hs tx ch σ τ H locs ls) : W p l e room_1 s m args below meth c H locs 600000 7302249 Z (F0 m 617 ls []) := by
  obtain ⟨hI, hM, X, X2, hl⟩ := J
  have G := F.1
  have hx := G.1
  have hb := G.2.1
  have hap := F.2.2.2.2.1
  refine lv_aload_n hx hb dL_law_617 rfl (lv_at hl 1 rfl) ?_
  refine g_scr F X.2.2.1 hl 1 ⟨hi, by omega⟩ dL_law_618 dL_law_619 dL_law_620 dL_law_621 dL_law_622 ?_
  refine h_callVi G X X2 hap (rest := []) (As := [.int (iI (sc xs i 1))]) (t_X7_kinks l Y σ P hs tx ch (sc xs i 1) hI (sc_rg xs i 1)) (cwV 1 F.1.2.2.2.2.1 tv_X7_kinks rfl rfl rfl (by decide +kernel) ⟨Nat.le_of_ble_eq_true rfl, Nat.le_of_ble_eq_true rfl⟩) (k := 0) (Nat.le_of_ble_eq_true rfl) rfl rfl rfl rfl hl.1 rfl (Nat.le_of_ble_eq_true rfl) dL_law_623 ⟨Nat.le_refl _, Nat.le_refl _⟩ (fun z1 u1 H locs h1 X X2 => ?_)
  refine lv_aload_n hx hb dL_law_626 rfl (lv_at hl 2 rfl) ?_
  refine g_scr F X.2.2.1 hl 1 ⟨hi, by omega⟩ dL_law_627 dL_law_628 dL_law_629 dL_law_630 dL_law_631 ?_
  refine h_callVi G X2 X hap.sym (rest := [.int (iI z1)]) (As := [.int (iI (sc xs i 1))]) (t_X8_kinks l Y2 τ P hs tx ch (sc xs i 1) hM (sc_rg xs i 1)) (cwV 1 F.1.2.2.2.2.1 tv_X8_kinks rfl rfl rfl (by decide +kernel) ⟨Nat.le_of_ble_eq_true rfl, Nat.le_of_ble_eq_true rfl⟩) (k := 0) (Nat.le_of_ble_eq_true rfl) rfl rfl rfl rfl hl.1 rfl (Nat.le_of_ble_eq_true rfl) dL_law_632 ⟨Nat.le_refl _, Nat.le_refl _⟩ (fun z2 u2 H locs h2 X2 X => ?_)
  have hz : z1 = z2 := h1.1.trans h2.1.1.symm
  refine lv_icmp_eq (tgt := 903) hx hb dL_law_635 (by decide) (fun _ => ?_) (fun q => absurd (congrArg iI hz) q)
  exact K P hs tx ch u1 u2 _ _ _ ⟨h1.2, h2.1.2, X, X2, hl⟩
theorem lc_17 (F : LF p s m args meth c Y Y2 A b L xs) (hi : 0 ≤ i ∧ i + 4 ≤ L) (K : LK p l e s m args below meth c Y Y2 A b i Z) (J : LJ Y Y2 s A b i P hs tx ch σ τ H locs ls) : W p l e room_1 s m args below meth c H locs 600000 7302249 Z (F0 m 640 ls []) := by
  obtain ⟨hI, hM, X, X2, hl⟩ := J
  have G := F.1
  have hx := G.1
  have hb := G.2.1
  have hap := F.2.2.2.2.1
  refine lv_aload_n hx hb dL_law_640 rfl (lv_at hl 1 rfl) ?_
  refine g_scr F X.2.2.1 hl 1 ⟨hi, by omega⟩ dL_law_641 dL_law_642 dL_law_643 dL_law_644 dL_law_645 ?_
  refine g_scr F X.2.2.1 hl 2 ⟨hi, by omega⟩ dL_law_646 dL_law_647 dL_law_648 dL_law_649 dL_law_650 ?_
  refine h_callVi G X X2 hap (rest := []) (As := [.int (iI (sc xs i 1)), .int (iI (sc xs i 2))]) (t_X7_kinkAt l Y σ P hs tx ch (sc xs i 1) (sc xs i 2) hI (sc_rg xs i 1) (sc_rg xs i 2)) (cwV 2 F.1.2.2.2.2.1 tv_X7_kinkAt rfl rfl rfl (by decide +kernel) ⟨Nat.le_of_ble_eq_true rfl, Nat.le_of_ble_eq_true rfl⟩) (k := 0) (Nat.le_of_ble_eq_true rfl) rfl rfl rfl rfl hl.1 rfl (Nat.le_of_ble_eq_true rfl) dL_law_651 ⟨Nat.le_refl _, Nat.le_refl _⟩ (fun z1 u1 H locs h1 X X2 => ?_)
  refine lv_aload_n hx hb dL_law_654 rfl (lv_at hl 2 rfl) ?_
  refine g_scr F X.2.2.1 hl 1 ⟨hi, by omega⟩ dL_law_655 dL_law_656 dL_law_657 dL_law_658 dL_law_659 ?_
  refine g_scr F X.2.2.1 hl 2 ⟨hi, by omega⟩ dL_law_660 dL_law_661 dL_law_662 dL_law_663 dL_law_664 ?_
  refine h_callVi G X2 X hap.sym (rest := [.int (iI z1)]) (As := [.int (iI (sc xs i 1)), .int (iI (sc xs i 2))]) (t_X8_kinkAt l Y2 τ P hs tx ch (sc xs i 1) (sc xs i 2) hM (sc_rg xs i 1) (sc_rg xs i 2)) (cwV 2 F.1.2.2.2.2.1 tv_X8_kinkAt rfl rfl rfl (by decide +kernel) ⟨Nat.le_of_ble_eq_true rfl, Nat.le_of_ble_eq_true rfl⟩) (k := 0) (Nat.le_of_ble_eq_true rfl) rfl rfl rfl rfl hl.1 rfl (Nat.le_of_ble_eq_true rfl) dL_law_665 ⟨Nat.le_refl _, Nat.le_refl _⟩ (fun z2 u2 H locs h2 X2 X => ?_)
  have hz : z1 = z2 := h1.1.trans h2.1.symm
  refine lv_icmp_eq (tgt := 903) hx hb dL_law_668 (by decide) (fun _ => ?_) (fun q => absurd (congrArg iI hz) q)
  exact K P hs tx ch u1 u2 _ _ _ ⟨h1.2, h2.2, X, X2, hl⟩
theorem lc_18 (F : LF p s m args meth c Y Y2 A b L xs) (hi : 0 ≤ i ∧ i + 4 ≤ L) (K : LK p l e s m args below meth c Y Y2 A b i Z) (J : LJ Y Y2 s A b i P hs tx ch σ τ H locs ls) : W p l e room_1 s m args below meth c H locs 600000 7302249 Z (F0 m 673 ls []) := by
  obtain ⟨hI, hM, X, X2, hl⟩ := J
  have G := F.1
  have hx := G.1
  have hb := G.2.1
  have hap := F.2.2.2.2.1
  refine lv_aload_n hx hb dL_law_673 rfl (lv_at hl 1 rfl) ?_
  refine g_scr F X.2.2.1 hl 1 ⟨hi, by omega⟩ dL_law_674 dL_law_675 dL_law_676 dL_law_677 dL_law_678 ?_
  refine h_callVl G X X2 hap (rest := []) (As := [.int (iI (sc xs i 1))]) (t_X7_gap l Y σ P hs tx ch (sc xs i 1) hI (sc_rg xs i 1)) (cwV 1 F.1.2.2.2.2.1 tv_X7_gap rfl rfl rfl (by decide +kernel) ⟨Nat.le_of_ble_eq_true rfl, Nat.le_of_ble_eq_true rfl⟩) (k := 0) (Nat.le_of_ble_eq_true rfl) rfl rfl rfl rfl hl.1 rfl (Nat.le_of_ble_eq_true rfl) dL_law_679 ⟨Nat.le_refl _, Nat.le_refl _⟩ (fun z1 u1 H locs h1 X X2 => ?_)
  refine lv_aload_n hx hb dL_law_682 rfl (lv_at hl 2 rfl) ?_
  refine g_scr F X.2.2.1 hl 1 ⟨hi, by omega⟩ dL_law_683 dL_law_684 dL_law_685 dL_law_686 dL_law_687 ?_
  refine h_callVl G X2 X hap.sym (rest := [.long (lI z1)]) (As := [.int (iI (sc xs i 1))]) (t_X8_gap l Y2 τ P hs tx ch (sc xs i 1) hM (sc_rg xs i 1)) (cwV 1 F.1.2.2.2.2.1 tv_X8_gap rfl rfl rfl (by decide +kernel) ⟨Nat.le_of_ble_eq_true rfl, Nat.le_of_ble_eq_true rfl⟩) (k := 0) (Nat.le_of_ble_eq_true rfl) rfl rfl rfl rfl hl.1 rfl (Nat.le_of_ble_eq_true rfl) dL_law_688 ⟨Nat.le_refl _, Nat.le_refl _⟩ (fun z2 u2 H locs h2 X2 X => ?_)
  have hz : z1 = z2 := h1.1.trans h2.1.symm
  refine W.lcmp hx hb dL_law_691 ?_
  rw [hz, lg_cmp0]
  refine lv_if_eq (tgt := 903) hx hb dL_law_692 (by decide) (fun _ => ?_) (fun q => absurd rfl q)
  exact K P hs tx ch u1 u2 _ _ _ ⟨h1.2, h2.2, X, X2, hl⟩
theorem lc_19 (F : LF p s m args meth c Y Y2 A b L xs) (hi : 0 ≤ i ∧ i + 4 ≤ L) (K : LK p l e s m args below meth c Y Y2 A b i Z) (J : LJ Y Y2 s A b i P hs tx ch σ τ H locs ls) : W p l e room_1 s m args below meth c H locs 600000 7302249 Z (F0 m 697 ls []) := by
  obtain ⟨hI, hM, X, X2, hl⟩ := J
  have G := F.1
  have hx := G.1
  have hb := G.2.1
  have hap := F.2.2.2.2.1
  refine lv_aload_n hx hb dL_law_697 rfl (lv_at hl 1 rfl) ?_
  refine g_scr F X.2.2.1 hl 1 ⟨hi, by omega⟩ dL_law_698 dL_law_699 dL_law_700 dL_law_701 dL_law_702 ?_
  refine g_scr F X.2.2.1 hl 2 ⟨hi, by omega⟩ dL_law_703 dL_law_704 dL_law_705 dL_law_706 dL_law_707 ?_
  refine h_callVl G X X2 hap (rest := []) (As := [.int (iI (sc xs i 1)), .int (iI (sc xs i 2))]) (t_X7_levelError l Y σ P hs tx ch (sc xs i 1) (sc xs i 2) hI (sc_rg xs i 1) (sc_rg xs i 2)) (cwV 2 F.1.2.2.2.2.1 tv_X7_levelError rfl rfl rfl (by decide +kernel) ⟨Nat.le_of_ble_eq_true rfl, Nat.le_of_ble_eq_true rfl⟩) (k := 0) (Nat.le_of_ble_eq_true rfl) rfl rfl rfl rfl hl.1 rfl (Nat.le_of_ble_eq_true rfl) dL_law_708 ⟨Nat.le_refl _, Nat.le_refl _⟩ (fun z1 u1 H locs h1 X X2 => ?_)
  refine lv_aload_n hx hb dL_law_711 rfl (lv_at hl 2 rfl) ?_
  refine g_scr F X.2.2.1 hl 1 ⟨hi, by omega⟩ dL_law_712 dL_law_713 dL_law_714 dL_law_715 dL_law_716 ?_
  refine g_scr F X.2.2.1 hl 2 ⟨hi, by omega⟩ dL_law_717 dL_law_718 dL_law_719 dL_law_720 dL_law_721 ?_
  refine h_callVl G X2 X hap.sym (rest := [.long (lI z1)]) (As := [.int (iI (sc xs i 1)), .int (iI (sc xs i 2))]) (t_X8_levelError l Y2 τ P hs tx ch (sc xs i 1) (sc xs i 2) hM (sc_rg xs i 1) (sc_rg xs i 2)) (cwV 2 F.1.2.2.2.2.1 tv_X8_levelError rfl rfl rfl (by decide +kernel) ⟨Nat.le_of_ble_eq_true rfl, Nat.le_of_ble_eq_true rfl⟩) (k := 0) (Nat.le_of_ble_eq_true rfl) rfl rfl rfl rfl hl.1 rfl (Nat.le_of_ble_eq_true rfl) dL_law_722 ⟨Nat.le_refl _, Nat.le_refl _⟩ (fun z2 u2 H locs h2 X2 X => ?_)
  have hz : z1 = z2 := h1.1.trans h2.1.symm
  refine W.lcmp hx hb dL_law_725 ?_
  rw [hz, lg_cmp0]
  refine lv_if_eq (tgt := 903) hx hb dL_law_726 (by decide) (fun _ => ?_) (fun q => absurd rfl q)
  exact K P hs tx ch u1 u2 _ _ _ ⟨h1.2, h2.2, X, X2, hl⟩
theorem lc_20 (F : LF p s m args meth c Y Y2 A b L xs) (hi : 0 ≤ i ∧ i + 4 ≤ L) (K : LK p l e s m args below meth c Y Y2 A b i Z) (J : LJ Y Y2 s A b i P hs tx ch σ τ H locs ls) : W p l e room_1 s m args below meth c H locs 600000 7302249 Z (F0 m 731 ls []) := by
  obtain ⟨hI, hM, X, X2, hl⟩ := J
  have G := F.1
  have hx := G.1
  have hb := G.2.1
  have hap := F.2.2.2.2.1
  refine lv_aload_n hx hb dL_law_731 rfl (lv_at hl 1 rfl) ?_
  refine g_scr F X.2.2.1 hl 1 ⟨hi, by omega⟩ dL_law_732 dL_law_733 dL_law_734 dL_law_735 dL_law_736 ?_
  refine g_scr F X.2.2.1 hl 2 ⟨hi, by omega⟩ dL_law_737 dL_law_738 dL_law_739 dL_law_740 dL_law_741 ?_
  refine h_callVi G X X2 hap (rest := []) (As := [.int (iI (sc xs i 1)), .int (iI (sc xs i 2))]) (t_X7_levelBegin l Y σ P hs tx ch (sc xs i 1) (sc xs i 2) hI (sc_rg xs i 1) (sc_rg xs i 2)) (cwV 2 F.1.2.2.2.2.1 tv_X7_levelBegin rfl rfl rfl (by decide +kernel) ⟨Nat.le_of_ble_eq_true rfl, Nat.le_of_ble_eq_true rfl⟩) (k := 0) (Nat.le_of_ble_eq_true rfl) rfl rfl rfl rfl hl.1 rfl (Nat.le_of_ble_eq_true rfl) dL_law_742 ⟨Nat.le_refl _, Nat.le_refl _⟩ (fun z1 u1 H locs h1 X X2 => ?_)
  refine lv_aload_n hx hb dL_law_745 rfl (lv_at hl 2 rfl) ?_
  refine g_scr F X.2.2.1 hl 1 ⟨hi, by omega⟩ dL_law_746 dL_law_747 dL_law_748 dL_law_749 dL_law_750 ?_
  refine g_scr F X.2.2.1 hl 2 ⟨hi, by omega⟩ dL_law_751 dL_law_752 dL_law_753 dL_law_754 dL_law_755 ?_
  refine h_callVi G X2 X hap.sym (rest := [.int (iI z1)]) (As := [.int (iI (sc xs i 1)), .int (iI (sc xs i 2))]) (t_X8_levelBegin l Y2 τ P hs tx ch (sc xs i 1) (sc xs i 2) hM (sc_rg xs i 1) (sc_rg xs i 2)) (cwV 2 F.1.2.2.2.2.1 tv_X8_levelBegin rfl rfl rfl (by decide +kernel) ⟨Nat.le_of_ble_eq_true rfl, Nat.le_of_ble_eq_true rfl⟩) (k := 0) (Nat.le_of_ble_eq_true rfl) rfl rfl rfl rfl hl.1 rfl (Nat.le_of_ble_eq_true rfl) dL_law_756 ⟨Nat.le_refl _, Nat.le_refl _⟩ (fun z2 u2 H locs h2 X2 X => ?_)
  have hz : z1 = z2 := h1.1.trans h2.1.symm
  refine lv_icmp_eq (tgt := 903) hx hb dL_law_759 (by decide) (fun _ => ?_) (fun q => absurd (congrArg iI hz) q)
  exact K P hs tx ch u1 u2 _ _ _ ⟨h1.2, h2.2, X, X2, hl⟩
theorem lc_21 (F : LF p s m args meth c Y Y2 A b L xs) (hi : 0 ≤ i ∧ i + 4 ≤ L) (K : LK p l e s m args below meth c Y Y2 A b i Z) (J : LJ Y Y2 s A b i P hs tx ch σ τ H locs ls) : W p l e room_1 s m args below meth c H locs 600000 7302249 Z (F0 m 764 ls []) := by
  obtain ⟨hI, hM, X, X2, hl⟩ := J
  have G := F.1
  have hx := G.1
  have hb := G.2.1
  have hap := F.2.2.2.2.1
  refine lv_aload_n hx hb dL_law_764 rfl (lv_at hl 1 rfl) ?_
  refine g_scr F X.2.2.1 hl 1 ⟨hi, by omega⟩ dL_law_765 dL_law_766 dL_law_767 dL_law_768 dL_law_769 ?_
  refine g_scr F X.2.2.1 hl 2 ⟨hi, by omega⟩ dL_law_770 dL_law_771 dL_law_772 dL_law_773 dL_law_774 ?_
  refine h_callVi G X X2 hap (rest := []) (As := [.int (iI (sc xs i 1)), .int (iI (sc xs i 2))]) (t_X7_levels l Y σ P hs tx ch (sc xs i 1) (sc xs i 2) hI (sc_rg xs i 1) (sc_rg xs i 2)) (cwV 2 F.1.2.2.2.2.1 tv_X7_levels rfl rfl rfl (by decide +kernel) ⟨Nat.le_of_ble_eq_true rfl, Nat.le_of_ble_eq_true rfl⟩) (k := 0) (Nat.le_of_ble_eq_true rfl) rfl rfl rfl rfl hl.1 rfl (Nat.le_of_ble_eq_true rfl) dL_law_775 ⟨Nat.le_refl _, Nat.le_refl _⟩ (fun z1 u1 H locs h1 X X2 => ?_)
  refine lv_aload_n hx hb dL_law_778 rfl (lv_at hl 2 rfl) ?_
  refine g_scr F X.2.2.1 hl 1 ⟨hi, by omega⟩ dL_law_779 dL_law_780 dL_law_781 dL_law_782 dL_law_783 ?_
  refine g_scr F X.2.2.1 hl 2 ⟨hi, by omega⟩ dL_law_784 dL_law_785 dL_law_786 dL_law_787 dL_law_788 ?_
  refine h_callVi G X2 X hap.sym (rest := [.int (iI z1)]) (As := [.int (iI (sc xs i 1)), .int (iI (sc xs i 2))]) (t_X8_levels l Y2 τ P hs tx ch (sc xs i 1) (sc xs i 2) hM (sc_rg xs i 1) (sc_rg xs i 2)) (cwV 2 F.1.2.2.2.2.1 tv_X8_levels rfl rfl rfl (by decide +kernel) ⟨Nat.le_of_ble_eq_true rfl, Nat.le_of_ble_eq_true rfl⟩) (k := 0) (Nat.le_of_ble_eq_true rfl) rfl rfl rfl rfl hl.1 rfl (Nat.le_of_ble_eq_true rfl) dL_law_789 ⟨Nat.le_refl _, Nat.le_refl _⟩ (fun z2 u2 H locs h2 X2 X => ?_)
  have hz : z1 = z2 := h1.1.trans h2.1.symm
  refine lv_icmp_eq (tgt := 903) hx hb dL_law_792 (by decide) (fun _ => ?_) (fun q => absurd (congrArg iI hz) q)
  exact K P hs tx ch u1 u2 _ _ _ ⟨h1.2, h2.2, X, X2, hl⟩
theorem lc_22 (F : LF p s m args meth c Y Y2 A b L xs) (hi : 0 ≤ i ∧ i + 4 ≤ L) (K : LK p l e s m args below meth c Y Y2 A b i Z) (J : LJ Y Y2 s A b i P hs tx ch σ τ H locs ls) : W p l e room_1 s m args below meth c H locs 600000 7302249 Z (F0 m 797 ls []) := by
  obtain ⟨hI, hM, X, X2, hl⟩ := J
  have G := F.1
  have hx := G.1
  have hb := G.2.1
  have hap := F.2.2.2.2.1
  refine lv_aload_n hx hb dL_law_797 rfl (lv_at hl 1 rfl) ?_
  refine g_scr F X.2.2.1 hl 1 ⟨hi, by omega⟩ dL_law_798 dL_law_799 dL_law_800 dL_law_801 dL_law_802 ?_
  refine g_scr F X.2.2.1 hl 2 ⟨hi, by omega⟩ dL_law_803 dL_law_804 dL_law_805 dL_law_806 dL_law_807 ?_
  refine h_callVl G X X2 hap (rest := []) (As := [.int (iI (sc xs i 1)), .int (iI (sc xs i 2))]) (t_X7_penaltyFor l Y σ P hs tx ch (sc xs i 1) (sc xs i 2) hI (sc_rg xs i 1) (sc_rg xs i 2)) (cwV 2 F.1.2.2.2.2.1 tv_X7_penaltyFor rfl rfl rfl (by decide +kernel) ⟨Nat.le_of_ble_eq_true rfl, Nat.le_of_ble_eq_true rfl⟩) (k := 0) (Nat.le_of_ble_eq_true rfl) rfl rfl rfl rfl hl.1 rfl (Nat.le_of_ble_eq_true rfl) dL_law_808 ⟨Nat.le_refl _, Nat.le_refl _⟩ (fun z1 u1 H locs h1 X X2 => ?_)
  refine lv_aload_n hx hb dL_law_811 rfl (lv_at hl 2 rfl) ?_
  refine g_scr F X.2.2.1 hl 1 ⟨hi, by omega⟩ dL_law_812 dL_law_813 dL_law_814 dL_law_815 dL_law_816 ?_
  refine g_scr F X.2.2.1 hl 2 ⟨hi, by omega⟩ dL_law_817 dL_law_818 dL_law_819 dL_law_820 dL_law_821 ?_
  refine h_callVl G X2 X hap.sym (rest := [.long (lI z1)]) (As := [.int (iI (sc xs i 1)), .int (iI (sc xs i 2))]) (t_X8_penaltyFor l Y2 τ P hs tx ch (sc xs i 1) (sc xs i 2) hM (sc_rg xs i 1) (sc_rg xs i 2)) (cwV 2 F.1.2.2.2.2.1 tv_X8_penaltyFor rfl rfl rfl (by decide +kernel) ⟨Nat.le_of_ble_eq_true rfl, Nat.le_of_ble_eq_true rfl⟩) (k := 0) (Nat.le_of_ble_eq_true rfl) rfl rfl rfl rfl hl.1 rfl (Nat.le_of_ble_eq_true rfl) dL_law_822 ⟨Nat.le_refl _, Nat.le_refl _⟩ (fun z2 u2 H locs h2 X2 X => ?_)
  have hz : z1 = z2 := h1.1.trans h2.1.symm
  refine W.lcmp hx hb dL_law_825 ?_
  rw [hz, lg_cmp0]
  refine lv_if_eq (tgt := 903) hx hb dL_law_826 (by decide) (fun _ => ?_) (fun q => absurd rfl q)
  exact K P hs tx ch u1 u2 _ _ _ ⟨h1.2, h2.2, X, X2, hl⟩
theorem lc_23 (F : LF p s m args meth c Y Y2 A b L xs) (hi : 0 ≤ i ∧ i + 4 ≤ L) (K : LK p l e s m args below meth c Y Y2 A b i Z) (J : LJ Y Y2 s A b i P hs tx ch σ τ H locs ls) : W p l e room_1 s m args below meth c H locs 600000 7302249 Z (F0 m 831 ls []) := by
  obtain ⟨hI, hM, X, X2, hl⟩ := J
  have G := F.1
  have hx := G.1
  have hb := G.2.1
  have hap := F.2.2.2.2.1
  refine lv_aload_n hx hb dL_law_831 rfl (lv_at hl 1 rfl) ?_
  refine g_scr F X.2.2.1 hl 1 ⟨hi, by omega⟩ dL_law_832 dL_law_833 dL_law_834 dL_law_835 dL_law_836 ?_
  refine h_callVi G X X2 hap (rest := []) (As := [.int (iI (sc xs i 1))]) (t_X7_type l Y σ P hs tx ch (sc xs i 1) hI (sc_rg xs i 1)) (cwV 1 F.1.2.2.2.2.1 tv_X7_type rfl rfl rfl (by decide +kernel) ⟨Nat.le_of_ble_eq_true rfl, Nat.le_of_ble_eq_true rfl⟩) (k := 0) (Nat.le_of_ble_eq_true rfl) rfl rfl rfl rfl hl.1 rfl (Nat.le_of_ble_eq_true rfl) dL_law_837 ⟨Nat.le_refl _, Nat.le_refl _⟩ (fun z1 u1 H locs h1 X X2 => ?_)
  refine lv_aload_n hx hb dL_law_840 rfl (lv_at hl 2 rfl) ?_
  refine g_scr F X.2.2.1 hl 1 ⟨hi, by omega⟩ dL_law_841 dL_law_842 dL_law_843 dL_law_844 dL_law_845 ?_
  refine h_callVi G X2 X hap.sym (rest := [.int (iI z1)]) (As := [.int (iI (sc xs i 1))]) (t_X8_type l Y2 τ P hs tx ch (sc xs i 1) hM (sc_rg xs i 1)) (cwV 1 F.1.2.2.2.2.1 tv_X8_type rfl rfl rfl (by decide +kernel) ⟨Nat.le_of_ble_eq_true rfl, Nat.le_of_ble_eq_true rfl⟩) (k := 0) (Nat.le_of_ble_eq_true rfl) rfl rfl rfl rfl hl.1 rfl (Nat.le_of_ble_eq_true rfl) dL_law_846 ⟨Nat.le_refl _, Nat.le_refl _⟩ (fun z2 u2 H locs h2 X2 X => ?_)
  have hz : z1 = z2 := h1.1.trans h2.1.symm
  refine lv_icmp_eq (tgt := 903) hx hb dL_law_849 (by decide) (fun _ => ?_) (fun q => absurd (congrArg iI hz) q)
  exact K P hs _ ch u1 u2 _ _ _ ⟨h1.2, h2.2, X, X2, hl⟩
theorem lc_24 (F : LF p s m args meth c Y Y2 A b L xs) (hi : 0 ≤ i ∧ i + 4 ≤ L) (K : LK p l e s m args below meth c Y Y2 A b i Z) (J : LJ Y Y2 s A b i P hs tx ch σ τ H locs ls) : W p l e room_1 s m args below meth c H locs 600000 7302249 Z (F0 m 854 ls []) := by
  obtain ⟨hI, hM, X, X2, hl⟩ := J
  have G := F.1
  have hx := G.1
  have hb := G.2.1
  have hap := F.2.2.2.2.1
  refine lv_aload_n hx hb dL_law_854 rfl (lv_at hl 1 rfl) ?_
  refine h_callVi G X X2 hap (rest := []) (As := []) (t_X7_clearText l Y σ P hs tx ch  hI ) (cwV 0 F.1.2.2.2.2.1 tv_X7_clearText rfl rfl rfl (by decide +kernel) ⟨Nat.le_of_ble_eq_true rfl, Nat.le_of_ble_eq_true rfl⟩) (k := 0) (Nat.le_of_ble_eq_true rfl) rfl rfl rfl rfl hl.1 rfl (Nat.le_of_ble_eq_true rfl) dL_law_855 ⟨Nat.le_refl _, Nat.le_refl _⟩ (fun z1 u1 H locs h1 X X2 => ?_)
  refine lv_aload_n hx hb dL_law_858 rfl (lv_at hl 2 rfl) ?_
  refine h_callVi G X2 X hap.sym (rest := [.int (iI z1)]) (As := []) (t_X8_clearText l Y2 τ P hs tx ch  hM ) (cwV 0 F.1.2.2.2.2.1 tv_X8_clearText rfl rfl rfl (by decide +kernel) ⟨Nat.le_of_ble_eq_true rfl, Nat.le_of_ble_eq_true rfl⟩) (k := 0) (Nat.le_of_ble_eq_true rfl) rfl rfl rfl rfl hl.1 rfl (Nat.le_of_ble_eq_true rfl) dL_law_859 ⟨Nat.le_refl _, Nat.le_refl _⟩ (fun z2 u2 H locs h2 X2 X => ?_)
  have hz : z1 = z2 := h1.1.trans h2.1.symm
  refine lv_icmp_eq (tgt := 903) hx hb dL_law_862 (by decide) (fun _ => ?_) (fun q => absurd (congrArg iI hz) q)
  exact K P hs _ ch u1 u2 _ _ _ ⟨h1.2, h2.2, X, X2, hl⟩
theorem lc_25 (F : LF p s m args meth c Y Y2 A b L xs) (hi : 0 ≤ i ∧ i + 4 ≤ L) (K : LK p l e s m args below meth c Y Y2 A b i Z) (J : LJ Y Y2 s A b i P hs tx ch σ τ H locs ls) : W p l e room_1 s m args below meth c H locs 600000 7302249 Z (F0 m 867 ls []) := by
  obtain ⟨hI, hM, X, X2, hl⟩ := J
  have G := F.1
  have hx := G.1
  have hb := G.2.1
  have hap := F.2.2.2.2.1
  refine lv_aload_n hx hb dL_law_867 rfl (lv_at hl 1 rfl) ?_
  refine h_callVi G X X2 hap (rest := []) (As := []) (t_X7_fault l Y σ P hs tx ch  hI ) (cwV 0 F.1.2.2.2.2.1 tv_X7_fault rfl rfl rfl (by decide +kernel) ⟨Nat.le_of_ble_eq_true rfl, Nat.le_of_ble_eq_true rfl⟩) (k := 0) (Nat.le_of_ble_eq_true rfl) rfl rfl rfl rfl hl.1 rfl (Nat.le_of_ble_eq_true rfl) dL_law_868 ⟨Nat.le_refl _, Nat.le_refl _⟩ (fun z1 u1 H locs h1 X X2 => ?_)
  refine lv_aload_n hx hb dL_law_871 rfl (lv_at hl 2 rfl) ?_
  refine h_callVi G X2 X hap.sym (rest := [.int (iI z1)]) (As := []) (t_X8_fault l Y2 τ P hs tx ch  hM ) (cwV 0 F.1.2.2.2.2.1 tv_X8_fault rfl rfl rfl (by decide +kernel) ⟨Nat.le_of_ble_eq_true rfl, Nat.le_of_ble_eq_true rfl⟩) (k := 0) (Nat.le_of_ble_eq_true rfl) rfl rfl rfl rfl hl.1 rfl (Nat.le_of_ble_eq_true rfl) dL_law_872 ⟨Nat.le_refl _, Nat.le_refl _⟩ (fun z2 u2 H locs h2 X2 X => ?_)
  have hz : z1 = z2 := h1.1.trans h2.1.1.symm
  refine lv_icmp_eq (tgt := 903) hx hb dL_law_875 (by decide) (fun _ => ?_) (fun q => absurd (congrArg iI hz) q)
  exact K P hs tx _ u1 u2 _ _ _ ⟨h1.2, h2.1.2, X, X2, hl⟩
theorem lc_26 (F : LF p s m args meth c Y Y2 A b L xs) (hi : 0 ≤ i ∧ i + 4 ≤ L) (K : LK p l e s m args below meth c Y Y2 A b i Z) (J : LJ Y Y2 s A b i P hs tx ch σ τ H locs ls) : W p l e room_1 s m args below meth c H locs 600000 7302249 Z (F0 m 880 ls []) := by
  obtain ⟨hI, hM, X, X2, hl⟩ := J
  have G := F.1
  have hx := G.1
  have hb := G.2.1
  have hap := F.2.2.2.2.1
  refine lv_aload_n hx hb dL_law_880 rfl (lv_at hl 1 rfl) ?_
  refine g_scr F X.2.2.1 hl 1 ⟨hi, by omega⟩ dL_law_881 dL_law_882 dL_law_883 dL_law_884 dL_law_885 ?_
  refine h_callVi G X X2 hap (rest := []) (As := [.int (iI (sc xs i 1))]) (t_X7_reason l Y σ P hs tx ch (sc xs i 1) hI (sc_rg xs i 1)) (cwV 1 F.1.2.2.2.2.1 tv_X7_reason rfl rfl rfl (by decide +kernel) ⟨Nat.le_of_ble_eq_true rfl, Nat.le_of_ble_eq_true rfl⟩) (k := 0) (Nat.le_of_ble_eq_true rfl) rfl rfl rfl rfl hl.1 rfl (Nat.le_of_ble_eq_true rfl) dL_law_886 ⟨Nat.le_refl _, Nat.le_refl _⟩ (fun z1 u1 H locs h1 X X2 => ?_)
  refine lv_aload_n hx hb dL_law_889 rfl (lv_at hl 2 rfl) ?_
  refine g_scr F X.2.2.1 hl 1 ⟨hi, by omega⟩ dL_law_890 dL_law_891 dL_law_892 dL_law_893 dL_law_894 ?_
  refine h_callVi G X2 X hap.sym (rest := [.int (iI z1)]) (As := [.int (iI (sc xs i 1))]) (t_X8_reason l Y2 τ P hs tx ch (sc xs i 1) hM (sc_rg xs i 1)) (cwV 1 F.1.2.2.2.2.1 tv_X8_reason rfl rfl rfl (by decide +kernel) ⟨Nat.le_of_ble_eq_true rfl, Nat.le_of_ble_eq_true rfl⟩) (k := 0) (Nat.le_of_ble_eq_true rfl) rfl rfl rfl rfl hl.1 rfl (Nat.le_of_ble_eq_true rfl) dL_law_895 ⟨Nat.le_refl _, Nat.le_refl _⟩ (fun z2 u2 H locs h2 X2 X => ?_)
  have hz : z1 = z2 := h1.2.trans h2.2.symm
  refine lv_icmp_eq (tgt := 903) hx hb dL_law_898 (by decide) (fun _ => ?_) (fun q => absurd (congrArg iI hz) q)
  exact K P hs tx ch u1 u2 _ _ _ ⟨(by rw [h1.1]; exact hI), (by rw [h2.1]; exact hM), X, X2, hl⟩
end LawC
