set_option maxHeartbeats 4000000 in
set_option maxRecDepth 100000 in
theorem t_L_adds (l : Launch) (Y : Yt) (σ : Mem) (bb : Nat) (sn : Nat) (xs : Nat → Int32) (P : List Pt) (hs : List (List Pt)) (tx : List Int) (ch : List Int) (fr : Int) (mn : Int) (hI : XInv σ P hs tx ch) (hnn : sn ≤ 260) (hf : 0 ≤ fr ∧ fr ≤ 1000) (hm : 0 ≤ mn ∧ (P.length : Int) + mn ≤ 12) (hnr : near P) : MSv l LX Y yL_adds wsL_adds { frames := 5, cells := 0, slots := 0, locals := 115 } [.ref (Y.2.1 (0)), .ref bb, .int (iI (fr)), .int (iI (mn))] σ bb sn xs (fun u => ∃ Q hv, XInv u Q hv tx ch ∧ (Q.length : Int) = P.length + mn ∧ near Q) := by
  refine g_startvS (cc := cL_adds) (nL := 6) (own := RL) (by decide) rfl rfl (Nat.le_of_ble_eq_true rfl) ?_
  intro pp ee ss mm bw mt cd AA ZZ ls hs3 G hret X hl
  obtain ⟨hXs, hbl, hbA⟩ := hs3
  have hl : lv_has ls 6 [(0, .ref (Y.2.1 (0))), (1, .ref bb), (2, .int (iI (fr))), (3, .int (iI (mn)))] := hl
  have hx := G.1
  have hb := G.2.1
  have hts := G.2.2.2.2.1
  refine lv_iconst (v := iI 0) hx hb dL_adds_0 rfl ?_
  refine lv_istore (lv' := [(4, .int (iI (0))), (0, .ref (Y.2.1 (0))), (1, .ref bb), (2, .int (iI (fr))), (3, .int (iI (mn)))]) hx hb dL_adds_1 hl (by decide) rfl (fun ls hl => ?_)
  have lp_3 : ∀ (nn : Nat) (k : Int) (τ : Mem) (Q : List Pt) (hv : List (List Pt)), ∀ hk : 0 ≤ k ∧ k ≤ mn, ∀ hJ : XInv τ Q hv tx ch, ∀ hQ : (Q.length : Int) = P.length + k, ∀ hnQ : near Q, ∀ hdec : (mn - k) < (nn : Int), ∀ (H : Heap) (locs : List Loc) (ls : Array Slot), wx LX Y τ ss AA H locs → lv_has ls 6 [(0, .ref (Y.2.1 (0))), (1, .ref bb), (2, .int (iI (fr))), (3, .int (iI (mn))), (4, .int (iI (k)))] → W pp l ee { frames := 5, cells := 0, slots := 0, locals := 115 } ss mm ([.ref (Y.2.1 (0)), .ref bb, .int (iI (fr)), .int (iI (mn))] : List Value).toArray bw mt cd H locs 0 0 ZZ (F0 mm 3 ls []) := by
    intro nn
    induction nn with
    | zero =>
      intro k τ Q hv hk hJ hQ hnQ hdec
      exact absurd hdec (by omega)
    | succ nn ih_3 =>
      intro k τ Q hv hk hJ hQ hnQ hdec H locs ls X hl
      refine lv_iload hx hb dL_adds_3 (lv_at hl 4 rfl) ?_
      refine lv_iload_n hx hb dL_adds_5 rfl (lv_at hl 3 rfl) ?_
      refine g_icmp_ge (tgt := 54) G dL_adds_6 (by decide) (by omega) (by omega) (fun h6 => ?_) (fun h6 => ?_)
      ·
        exact hret _ _ _ _ _ (⟨Q, hv, hJ, by omega, hnQ⟩) X dL_adds_54
      ·
        refine lv_aload_n hx hb dL_adds_9 rfl (lv_at hl 1 rfl) ?_
        refine lv_iload_n hx hb dL_adds_10 rfl (lv_at hl 2 rfl) ?_
        refine lv_iload hx hb dL_adds_11 (lv_at hl 4 rfl) ?_
        refine g_iadd G dL_adds_13 ?_
        refine g_callSiS G X hXs hbl hbA (rest := []) (As := [.ref bb, .int (iI ((fr + k)))]) (t_L_cell l Y (τ) (bb) sn xs ((fr + k)) (by first | assumption | omega) (by first | assumption | omega)) (va_cwS 2 hts gL_adds_L_cell rfl rfl rfl (by decide +kernel) ⟨Nat.le_of_ble_eq_true rfl, Nat.le_of_ble_eq_true rfl⟩) rfl hl.1 rfl (Nat.le_of_ble_eq_true rfl) dL_adds_14 ⟨Nat.le_refl _, Nat.le_refl _⟩ (fun z14 u14 H locs hq14 X => ?_)
        rw [hq14.1] at X
        have hq14 := hq14.2
        try dsimp only at hq14
        obtain ⟨y, hy⟩ : ∃ y, y = z14 := ⟨_, rfl⟩
        refine g_topi (z' := y) hy.symm ?_
        rw [← hy] at hq14
        refine lv_istore (lv' := [(5, .int (iI (y))), (0, .ref (Y.2.1 (0))), (1, .ref bb), (2, .int (iI (fr))), (3, .int (iI (mn))), (4, .int (iI (k)))]) hx hb dL_adds_17 hl (by decide) rfl (fun ls hl => ?_)
        refine lv_aload_n hx hb dL_adds_19 rfl (lv_at hl 1 rfl) ?_
        refine lv_iload hx hb dL_adds_20 (lv_at hl 0 rfl) ?_
        refine lv_bipush (v := iI 25) hx hb dL_adds_22 (by decide +kernel) ?_
        refine g_irem G (by omega) (by omega) dL_adds_24 ?_
        refine lv_iload hx hb dL_adds_25 (lv_at hl 0 rfl) ?_
        refine lv_iconst (v := iI 5) hx hb dL_adds_27 rfl ?_
        refine g_ishr G (k := 5) (w := 32) (by decide +kernel) rfl (by omega) dL_adds_28 ?_
        refine lv_bipush (v := iI 41) hx hb dL_adds_29 (by decide +kernel) ?_
        refine g_irem G (by omega) (by omega) dL_adds_31 ?_
        refine lv_bipush (v := iI 20) hx hb dL_adds_32 (by decide +kernel) ?_
        refine g_isub G dL_adds_34 ?_
        refine lv_iconst (v := iI 1) hx hb dL_adds_35 rfl ?_
        refine lv_iload hx hb dL_adds_36 (lv_at hl 0 rfl) ?_
        refine lv_bipush (v := iI 11) hx hb dL_adds_38 (by decide +kernel) ?_
        refine g_ishr G (k := 11) (w := 2048) (by decide +kernel) rfl (by omega) dL_adds_40 ?_
        refine lv_iconst (v := iI 2) hx hb dL_adds_41 rfl ?_
        refine g_irem G (by omega) (by omega) dL_adds_42 ?_
        refine g_iadd G dL_adds_43 ?_
        refine g_callVi G X (rest := []) (As := [.int (iI ((y % 25))), .int (iI ((((y / 32) % 41) - 20))), .int (iI ((1 + ((y / 2048) % 2))))]) (t_X7_add l Y (τ) (Q) (hv) tx ch ((y % 25)) ((((y / 32) % 41) - 20)) ((1 + ((y / 2048) % 2))) (by first | assumption | omega) (by first | assumption | omega) (by first | assumption | omega) (by first | assumption | omega)) (cwV 3 hts gL_adds_X7_add rfl rfl rfl (by decide +kernel) ⟨Nat.le_of_ble_eq_true rfl, Nat.le_of_ble_eq_true rfl⟩) (k := 0) (Nat.le_of_ble_eq_true rfl) rfl rfl rfl rfl hl.1 rfl (Nat.le_of_ble_eq_true rfl) dL_adds_44 ⟨Nat.le_refl _, Nat.le_refl _⟩ (fun z44 u44 H locs hq44 X => ?_)
        have hst := stAdd_ok (P := Q) (hs := hv) (x := y % 25) (v := y / 32 % 41 - 20) (w := 1 + y / 2048 % 2) (by omega) (by omega) (by omega) (by omega)
        have hJ2 := hq44.2
        rw [hst] at hJ2
        obtain ⟨pt, hpt, hp24⟩ : ∃ pt : Pt, pt = (y % 25, y / 32 % 41 - 20, 1 + y / 2048 % 2) ∧ pt.1 ≤ 24 := ⟨_, rfl, (show y % 25 ≤ 24 by omega)⟩
        have hJ3 : XInv u44 (Q ++ [pt]) (recd hv Q) tx ch := by { rw [hpt]; exact hJ2 }
        have hQ2 : ((Q ++ [pt]).length : Int) = P.length + (k + 1) := by { rw [List.length_append, List.length_singleton]; omega }
        have hnQ2 := near_app hnQ hp24
        refine lv_pop hx hb dL_adds_47 rfl ?_
        refine lv_iinc (v := iI (k + 1)) (lv' := [(4, .int (iI ((k + 1)))), (5, .int (iI (y))), (0, .ref (Y.2.1 (0))), (1, .ref bb), (2, .int (iI (fr))), (3, .int (iI (mn)))]) hx hb dL_adds_48 hl (k := 5) rfl (iI_add _ _) (by decide) rfl (fun ls hl => ?_)
        refine lv_goto (tgt := 3) hx hb dL_adds_51 (by decide) ?_
        exact ih_3 ((k + 1)) (u44) (Q ++ [pt]) (recd hv Q) (by omega) (by assumption) hQ2 hnQ2 (by omega) _ _ _ X (lv_sub hl [2, 3, 4, 5, 0] rfl)
  exact lp_3 ((((mn - (0)) : Int).toNat + 1)) (0) (σ) (P) (hs) (by omega) (by assumption) (by omega) hnr (by omega) _ _ _ X (lv_sub hl [1, 2, 3, 4, 0] rfl)

