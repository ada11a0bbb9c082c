/-! the classes and arrays that the law's words know -/
theorem arr_word {s : State} {aa : Array Value} {ty : FieldType} (h : (Cond.arrayClass ty).before aa s = true) (hno : ∀ C, ty ≠ .object C) : ∃ cA : ClassId, ArrOfT s cA ty ∧ va_RA s cA ty := by
  obtain ⟨cA, kA, comp, h1, h2, h3⟩ := Cond.arrayClass_spec h
  refine ⟨cA, fun n z => ⟨fun k h => (by cases h), kA, h2, comp, h3⟩, ?_⟩
  cases ty with
  | object C => exact absurd rfl (hno C)
  | _ => exact h1
theorem arr_overo {s : State} {aa : Array Value} {C : String} (h : (Cond.arrayOver (.object C)).before aa s = true) : ∃ cA : ClassId, ArrOfT s cA (.object C) ∧ va_RA s cA (.object C) := by
  obtain ⟨comp, cA, kA, h1, h2, h3, h4, h5⟩ := Cond.arrayOver_spec h
  exact ⟨cA, fun n z => ⟨fun k h => (by cases h), kA, h3, comp, h4⟩, kA, comp, h3, h4, h1, h5⟩
theorem arr_overa {s : State} {aa : Array Value} {t : FieldType} (h : (Cond.arrayOver (.array t)).before aa s = true) : ∃ cA : ClassId, ArrOfT s cA (.array t) ∧ va_RA s cA (.array t) := by
  obtain ⟨comp, cA, kA, h1, h2, h3, h4, h5⟩ := arrayOverA_spec h
  exact ⟨cA, fun n z => ⟨fun k h => (by cases h), kA, h3, comp, h4⟩, h5⟩
section LawK
variable {s : State} {aa : Array Value}
theorem law_K (hts : ∀ w ∈ lw_tbl, w.before aa s = true) : ∃ (D : va_G) (cf : Nat → ClassId), va_K D vwCl (tyD cf) s := by
  obtain ⟨c0, i0, h0⟩ := u_known (C := RX0) (T := TX0) (N := 5) (n := 5) hts (fun w h => (tu_X0 w h).1) (hts (.instantiable RX0 5) tw_23.1)
  obtain ⟨c1, i1, h1⟩ := u_known (C := RX1) (T := TX1) (N := 6) (n := 6) hts (fun w h => (tu_X1 w h).1) (hts (.instantiable RX1 6) tw_19.1)
  obtain ⟨c2, i2, h2⟩ := u_known (C := RX2) (T := TX2) (N := 2) (n := 2) hts (fun w h => (tu_X2 w h).1) (hts (.instantiable RX2 2) tw_15.1)
  obtain ⟨c3, i3, h3⟩ := u_known (C := RX3) (T := TX3) (N := 4) (n := 4) hts (fun w h => (tu_X3 w h).1) (hts (.instantiable RX3 4) tw_28.1)
  obtain ⟨c4, i4, h4⟩ := u_known (C := RX4) (T := TX4) (N := 3) (n := 3) hts (fun w h => (tu_X4 w h).1) (hts (.instantiable RX4 3) tw_33.1)
  obtain ⟨c5, i5, h5⟩ := u_known (C := RX5) (T := TX5) (N := 4) (n := 4) hts (fun w h => (tu_X5 w h).1) (hts (.instantiable RX5 4) tw_7.1)
  obtain ⟨c6, i6, h6⟩ := u_known (C := RX6) (T := TX6) (N := 6) (n := 6) hts (fun w h => (tu_X6 w h).1) (hts (.instantiable RX6 6) tw_11.1)
  obtain ⟨c7, i7, h7⟩ := u_known (C := RX7) (T := TX7) (N := 8) (n := 8) hts (fun w h => (tu_X7 w h).1) (hts (.instantiable RX7 8) (in_1 (List.mem_of_getElem? (i := 11) (by decide +kernel))))
  obtain ⟨a0, e0⟩ := arr_word (hts (.arrayClass .int) tw_39.1) (fun C h => by cases h)
  obtain ⟨a1, e1⟩ := arr_word (hts (.arrayClass .long) tw_84.1) (fun C h => by cases h)
  obtain ⟨a2, e2⟩ := arr_word (hts (.arrayClass .char) tw_46.1) (fun C h => by cases h)
  obtain ⟨a3, e3⟩ := arr_overo (hts (.arrayOver (.object "ShapeFits$PointRow")) (in_1 (List.mem_of_getElem? (i := 70) (by decide +kernel))))
  obtain ⟨a4, e4⟩ := arr_overa (hts (.arrayOver (.array .long)) (in_1 (List.mem_of_getElem? (i := 152) (by decide +kernel))))
  obtain ⟨a5, e5⟩ := arr_overa (hts (.arrayOver (.array .int)) (in_1 (List.mem_of_getElem? (i := 154) (by decide +kernel))))
  refine ⟨(fun k => match k with | 0 => c0 | 1 => c1 | 2 => c2 | 3 => c3 | 4 => c4 | 5 => c5 | 6 => c6 | _ => c7, fun k => match k with | 0 => i0 | 1 => i1 | 2 => i2 | 3 => i3 | 4 => i4 | 5 => i5 | 6 => i6 | _ => i7), fun k => match k with | 0 => a0 | 1 => a1 | 2 => a2 | 3 => a3 | 4 => a4 | _ => a5, fun k q hq => ?_, fun k q hq => ?_⟩
  · match k, hq with
    | 0, hq => cases hq; exact h0
    | 1, hq => cases hq; exact h1
    | 2, hq => cases hq; exact h2
    | 3, hq => cases hq; exact h3
    | 4, hq => cases hq; exact h4
    | 5, hq => cases hq; exact h5
    | 6, hq => cases hq; exact h6
    | 7, hq => cases hq; exact h7
    | k + 8, hq => exact absurd hq (by simp [vwCl])
  · match k, hq with
    | 0, hq => cases hq; exact e0
    | 1, hq => cases hq; exact e1
    | 2, hq => cases hq; exact e2
    | 3, hq => cases hq; exact e3
    | 4, hq => cases hq; exact e4
    | 5, hq => cases hq; exact e5
    | k + 6, hq => exact absurd hq (by simp [tyD])
theorem law_nest (hts : ∀ w ∈ lw_tbl, w.before aa s = true) : N7 s := by
  have n0 : va_Nw (.methodLinkNest RX7 9 yX5_init "ShapeFits") s := va_Nw.of rfl (hts (.methodLinkNest RX7 9 yX5_init "ShapeFits") (in_1 (List.mem_of_getElem? (i := 20) (by decide +kernel))))
  have n1 : va_Nw (.methodLinkNest RX7 18 yX6_init "ShapeFits") s := va_Nw.of rfl (hts (.methodLinkNest RX7 18 yX6_init "ShapeFits") (in_1 (List.mem_of_getElem? (i := 40) (by decide +kernel))))
  have n2 : va_Nw (.methodLinkNest RX7 32 yX1_init "ShapeFits") s := va_Nw.of rfl (hts (.methodLinkNest RX7 32 yX1_init "ShapeFits") (in_1 (List.mem_of_getElem? (i := 81) (by decide +kernel))))
  have n3 : va_Nw (.methodLinkNest RX6 17 yX5_init "ShapeFits") s := va_Nw.of rfl (hts (.methodLinkNest RX6 17 yX5_init "ShapeFits") (in_1 (List.mem_of_getElem? (i := 45) (by decide +kernel))))
  have n4 : va_Nw (.methodLinkNest RX2 17 yX5_init "ShapeFits") s := va_Nw.of rfl (hts (.methodLinkNest RX2 17 yX5_init "ShapeFits") (in_1 (List.mem_of_getElem? (i := 71) (by decide +kernel))))
  refine ⟨fun x hx => ?_, fun x hx => ?_, ⟨fun x hx => ?_, va_AO.of (hts (.arrayOver (.object "ShapeFits$PointRow")) (in_1 (List.mem_of_getElem? (i := 70) (by decide +kernel))))⟩, hts (.arrayOver (.array .long)) (in_1 (List.mem_of_getElem? (i := 152) (by decide +kernel))), hts (.arrayOver (.array .int)) (in_1 (List.mem_of_getElem? (i := 154) (by decide +kernel)))⟩
  · rcases List.mem_cons.mp hx with rfl | hx
    · exact n0
    rcases List.mem_cons.mp hx with rfl | hx
    · exact n1
    rw [List.mem_singleton.mp hx]
    exact n2
  · rw [List.mem_singleton.mp hx]
    exact n3
  · rw [List.mem_singleton.mp hx]
    exact n4
end LawK
