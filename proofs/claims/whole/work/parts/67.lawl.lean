/-! the law's loop -/
section LawL
variable {p : Program} {l : Launch} {e : Env} {s : State} {m : MethodId} {args : Array Value} {below : List Frame} {meth : Method} {c : Code} {H : Heap} {locs : List Loc} {Z : State → Prop} {rt : Option FieldType}
variable {Y Y2 : Yt} {σ τ : Mem} {A : Nat → Prop} {b L : Nat} {xs : Nat → Int32} {i : Int} {ls : Array Slot} {P : List Pt} {hs : List (List Pt)} {tx ch : List Int}
set_option maxHeartbeats 1000000 in
theorem law_loop (F : LF p s m args meth c Y Y2 A b L xs) (kend : ∀ (H : Heap) (locs : List Loc) (ls : Array Slot), va_S A s.heap H locs → W p l e room_1 s m args below meth c H locs 600000 7302249 Z (F0 m 909 ls [])) : ∀ (nn : Nat) (i : Int) (P : List Pt) (hs : List (List Pt)) (tx ch : List Int) (σ τ : Mem) (H : Heap) (locs : List Loc) (ls : Array Slot), 0 ≤ i → i ≤ L + 4 → (L : Int) + 8 - i < nn → LJ Y Y2 s A b i P hs tx ch σ τ H locs ls → W p l e room_1 s m args below meth c H locs 600000 7302249 Z (F0 m 18 ls []) := by
  intro nn
  induction nn with
  | zero => intro i P hs tx ch σ τ H locs ls h0 h1 h2; omega
  | succ nn ih =>
    intro i P hs tx ch σ τ H locs ls h0 h1 h2 J
    obtain ⟨G, hX, hbl, hbA, hap, hL⟩ := id F
    have hx := G.1
    have hb := G.2.1
    have hS := J.2.2.1.2.2.1
    have hl := J.2.2.2.2
    have hK0 : i + 4 ≤ L → LK p l e s m args below meth c Y Y2 A b i Z := fun hi4 P hs tx ch σ τ H locs ls J => by
      obtain ⟨hI, hM, X, X2, hl⟩ := J
      refine lv_iinc (k := 3) (v := iI (i + 4)) (lv' := [(3, .int (iI (i + 4))), (0, .ref b), (1, .ref (Y.2.1 0)), (2, .ref (Y2.2.1 0))]) hx hb dL_law_903 hl rfl (iI_add i 4) (by decide) rfl (fun ls hl => ?_)
      refine lv_goto (tgt := 18) hx hb dL_law_906 (by decide) ?_
      exact ih (i + 4) P hs tx ch σ τ H locs ls (by omega) (by omega) (by omega) ⟨hI, hM, X, X2, lv_sub hl [1, 2, 3, 0] rfl⟩
    refine lv_iload_n hx hb dL_law_18 rfl (lv_at hl 3 rfl) ?_
    refine lv_aload_n hx hb dL_law_19 rfl (lv_at hl 0 rfl) ?_
    refine va_slen hx hb hX hbl hbA hS dL_law_20 ?_
    rw [show Int32.ofNat L = iI (L : Int) from (iI_nI L).symm]
    refine lv_iconst (v := iI 4) hx hb dL_law_21 rfl ?_
    refine g_isub G dL_law_22 ?_
    refine g_icmp_gt (tgt := 909) G dL_law_23 (by decide) (by omega) (by omega) (fun _ => kend _ _ _ hS) (fun c9 => ?_)
    have hi : 0 ≤ i ∧ i + 4 ≤ L := ⟨h0, by omega⟩
    have K := hK0 hi.2
    refine lv_aload_n hx hb dL_law_26 rfl (lv_at hl 0 rfl) ?_
    refine lv_iload_n hx hb dL_law_27 rfl (lv_at hl 3 rfl) ?_
    refine va_sld hx hb hX hbl hbA hS (iI_in (by omega) (by omega)) dL_law_28 ?_
    refine lv_bipush (v := 31) hx hb dL_law_29 (by decide) ?_
    refine lv_iand hx hb dL_law_31 ?_
    refine lv_topi (fun x _ => ?_)
    by_cases hr : x.toInt < 0 ∨ 26 < x.toInt
    · refine lv_tableOut (tgt := 903) hx hb dL_law_32 hr (by decide) ?_
      exact K P hs tx ch σ τ H locs ls J
    · rcases (show x.toInt = 0 ∨ x.toInt = 1 ∨ x.toInt = 2 ∨ x.toInt = 3 ∨ x.toInt = 4 ∨ x.toInt = 5 ∨ x.toInt = 6 ∨ x.toInt = 7 ∨ x.toInt = 8 ∨ x.toInt = 9 ∨ x.toInt = 10 ∨ x.toInt = 11 ∨ x.toInt = 12 ∨ x.toInt = 13 ∨ x.toInt = 14 ∨ x.toInt = 15 ∨ x.toInt = 16 ∨ x.toInt = 17 ∨ x.toInt = 18 ∨ x.toInt = 19 ∨ x.toInt = 20 ∨ x.toInt = 21 ∨ x.toInt = 22 ∨ x.toInt = 23 ∨ x.toInt = 24 ∨ x.toInt = 25 ∨ x.toInt = 26 by omega) with h | h | h | h | h | h | h | h | h | h | h | h | h | h | h | h | h | h | h | h | h | h | h | h | h | h | h
      · exact lv_tableIn (off := 124) (tgt := 156) hx hb dL_law_32 (by omega) (by omega) (by rw [h]; rfl) (by decide) (lc_0 F hi K J)
      · exact lv_tableIn (off := 167) (tgt := 199) hx hb dL_law_32 (by omega) (by omega) (by rw [h]; rfl) (by decide) (lc_1 F hi K J)
      · exact lv_tableIn (off := 190) (tgt := 222) hx hb dL_law_32 (by omega) (by omega) (by rw [h]; rfl) (by decide) (lc_2 F hi K J)
      · exact lv_tableIn (off := 233) (tgt := 265) hx hb dL_law_32 (by omega) (by omega) (by rw [h]; rfl) (by decide) (lc_3 F hi K J)
      · exact lv_tableIn (off := 256) (tgt := 288) hx hb dL_law_32 (by omega) (by omega) (by rw [h]; rfl) (by decide) (lc_4 F hi K J)
      · exact lv_tableIn (off := 269) (tgt := 301) hx hb dL_law_32 (by omega) (by omega) (by rw [h]; rfl) (by decide) (lc_5 F hi K J)
      · exact lv_tableIn (off := 282) (tgt := 314) hx hb dL_law_32 (by omega) (by omega) (by rw [h]; rfl) (by decide) (lc_6 F hi K J)
      · exact lv_tableIn (off := 295) (tgt := 327) hx hb dL_law_32 (by omega) (by omega) (by rw [h]; rfl) (by decide) (lc_7 F hi K J)
      · exact lv_tableIn (off := 328) (tgt := 360) hx hb dL_law_32 (by omega) (by omega) (by rw [h]; rfl) (by decide) (lc_8 F hi K J)
      · exact lv_tableIn (off := 341) (tgt := 373) hx hb dL_law_32 (by omega) (by omega) (by rw [h]; rfl) (by decide) (lc_9 F hi K J)
      · exact lv_tableIn (off := 374) (tgt := 406) hx hb dL_law_32 (by omega) (by omega) (by rw [h]; rfl) (by decide) (lc_10 F hi K J)
      · exact lv_tableIn (off := 418) (tgt := 450) hx hb dL_law_32 (by omega) (by omega) (by rw [h]; rfl) (by decide) (lc_11 F hi K J)
      · exact lv_tableIn (off := 452) (tgt := 484) hx hb dL_law_32 (by omega) (by omega) (by rw [h]; rfl) (by decide) (lc_12 F hi K J)
      · exact lv_tableIn (off := 475) (tgt := 507) hx hb dL_law_32 (by omega) (by omega) (by rw [h]; rfl) (by decide) (lc_13 F hi K J)
      · exact lv_tableIn (off := 519) (tgt := 551) hx hb dL_law_32 (by omega) (by omega) (by rw [h]; rfl) (by decide) (lc_14 F hi K J)
      · exact lv_tableIn (off := 542) (tgt := 574) hx hb dL_law_32 (by omega) (by omega) (by rw [h]; rfl) (by decide) (lc_15 F hi K J)
      · exact lv_tableIn (off := 585) (tgt := 617) hx hb dL_law_32 (by omega) (by omega) (by rw [h]; rfl) (by decide) (lc_16 F hi K J)
      · exact lv_tableIn (off := 608) (tgt := 640) hx hb dL_law_32 (by omega) (by omega) (by rw [h]; rfl) (by decide) (lc_17 F hi K J)
      · exact lv_tableIn (off := 641) (tgt := 673) hx hb dL_law_32 (by omega) (by omega) (by rw [h]; rfl) (by decide) (lc_18 F hi K J)
      · exact lv_tableIn (off := 665) (tgt := 697) hx hb dL_law_32 (by omega) (by omega) (by rw [h]; rfl) (by decide) (lc_19 F hi K J)
      · exact lv_tableIn (off := 699) (tgt := 731) hx hb dL_law_32 (by omega) (by omega) (by rw [h]; rfl) (by decide) (lc_20 F hi K J)
      · exact lv_tableIn (off := 732) (tgt := 764) hx hb dL_law_32 (by omega) (by omega) (by rw [h]; rfl) (by decide) (lc_21 F hi K J)
      · exact lv_tableIn (off := 765) (tgt := 797) hx hb dL_law_32 (by omega) (by omega) (by rw [h]; rfl) (by decide) (lc_22 F hi K J)
      · exact lv_tableIn (off := 799) (tgt := 831) hx hb dL_law_32 (by omega) (by omega) (by rw [h]; rfl) (by decide) (lc_23 F hi K J)
      · exact lv_tableIn (off := 822) (tgt := 854) hx hb dL_law_32 (by omega) (by omega) (by rw [h]; rfl) (by decide) (lc_24 F hi K J)
      · exact lv_tableIn (off := 835) (tgt := 867) hx hb dL_law_32 (by omega) (by omega) (by rw [h]; rfl) (by decide) (lc_25 F hi K J)
      · exact lv_tableIn (off := 848) (tgt := 880) hx hb dL_law_32 (by omega) (by omega) (by rw [h]; rfl) (by decide) (lc_26 F hi K J)
end LawL
