/-! the script -/
set_option maxRecDepth 100000 in
theorem t_L_cell (l : Launch) (Y : Yt) (σ : Mem) (bb : Nat) (nn : Nat) (xs : Nat → Int32) (k : Int) (hk : 0 ≤ k ∧ k ≤ 2147483647) (hnn : nn ≤ 260) : MSi l LX Y yL_cell wsL_cell { frames := 0, cells := 0, slots := 0, locals := 0 } [.ref bb, .int (iI (k))] σ bb nn xs (fun z u => u = σ ∧ (0 ≤ z ∧ z ≤ 2147483647)) := by
  refine g_startiS (rty := .int) (fun _ _ _ => rfl) (cc := cL_cell) (nL := 2) (own := RL) (by decide) rfl rfl (Nat.le_of_ble_eq_true rfl) ?_
  intro pp ee ss mm bw mt cd AA ZZ ls hs3 G hret X hl
  obtain ⟨hXs, hbl, hbA⟩ := hs3
  have hl : lv_has ls 2 [(0, .ref bb), (1, .int (iI k))] := hl
  have hx := G.1
  have hb := G.2.1
  have hts := G.2.2.2.2.1
  have l_c7 := hts (.constant RL 7 (15485959)) (List.mem_of_getElem? (i := 1) rfl)
  have l_c8 := hts (.constant RL 8 (2147483647)) (List.mem_of_getElem? (i := 2) rfl)
  have jo : ∀ v : Int32, W pp l ee { frames := 0, cells := 0, slots := 0, locals := 0 } ss mm ([.ref bb, .int (iI k)] : List Value).toArray bw mt cd ss.heap [] 0 0 ZZ (F0 mm 19 ls [.int v]) := by
    intro v
    refine g_ldc G (z := 2147483647) l_c8 (by decide +kernel) dL_cell_19 ?_
    refine lv_iand hx hb dL_cell_21 ?_
    obtain ⟨j, hj, e⟩ := pk_andE v (m := iI 2147483647) 31 (by decide +kernel)
    rw [e, ← iI_nI]
    exact hret _ _ _ _ _ _ ⟨rfl, by omega, by omega⟩ X dL_cell_22
  refine lv_iload_n hx hb dL_cell_0 rfl (lv_at hl 1 rfl) ?_
  refine lv_aload_n hx hb dL_cell_1 rfl (lv_at hl 0 rfl) ?_
  refine va_slen hx hb hXs hbl hbA X.2.2.1 dL_cell_2 ?_
  rw [show Int32.ofNat nn = iI (nn : Int) from (iI_nI nn).symm]
  refine g_icmp_ge (tgt := 12) G dL_cell_3 (by decide) (by omega) (by omega) (fun h3 => ?_) (fun h3 => ?_)
  · refine g_ldc G (z := 15485959) l_c7 (by decide +kernel) dL_cell_12 ?_
    refine lv_iload_n hx hb dL_cell_14 rfl (lv_at hl 1 rfl) ?_
    refine g_imul G dL_cell_15 ?_
    refine lv_bipush (v := iI 109) hx hb dL_cell_16 (by decide +kernel) ?_
    refine g_iadd G dL_cell_18 ?_
    exact jo _
  · refine lv_aload_n hx hb dL_cell_6 rfl (lv_at hl 0 rfl) ?_
    refine lv_iload_n hx hb dL_cell_7 rfl (lv_at hl 1 rfl) ?_
    refine va_sld hx hb hXs hbl hbA X.2.2.1 (iI_in (z := k) (n := nn) (by omega) (by omega)) dL_cell_8 ?_
    refine lv_goto (tgt := 19) hx hb dL_cell_9 (by decide) ?_
    exact jo _
/-- no position above 24 -/
def near (P : List Pt) : Prop := ∀ i : Int, 0 ≤ i → i < P.length → px P i ≤ 24
theorem near_nil : near [] := fun i h0 h1 => by simp at h1; omega
theorem near_app {P : List Pt} {q : Pt} (h : near P) (hq : q.1 ≤ 24) : near (P ++ [q]) := fun i h0 h1 => by
  rw [List.length_append, List.length_singleton] at h1
  obtain ⟨a, b⟩ := px_app (P := P) (q := q) h0
  by_cases z : i < P.length
  · rw [(a z).1]; exact h i h0 z
  · rw [(b (by omega)).1]; exact hq
theorem stAdd_ok {P : List Pt} {hs : List (List Pt)} {x v w : Int} (hx : 0 ≤ x ∧ x ≤ 40) (hv : -99 ≤ v ∧ v ≤ 99) (hw : 1 ≤ w ∧ w ≤ 2) (hl : (P.length : Int) < 12) : stAdd P hs x v w = ((P.length : Int), P ++ [(x, v, w)], recd hs P) := by
  unfold stAdd
  rw [if_neg (by omega), if_neg (by omega)]
