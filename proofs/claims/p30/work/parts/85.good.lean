/-! each call's words stand among the law's, by their places -/
def GW (w : Cond) : Prop := w ∈ lw_tbl ∧ goodWord w = true
theorem in_0 {w : Cond} (h : w ∈ k2_sels lw_privs) : w ∈ lw_tbl := List.mem_append_left _ h
theorem in_1 {w : Cond} (h : w ∈ tables_1_1) : w ∈ lw_tbl := List.mem_append_right _ (List.mem_append_left _ h)
theorem in_2 {w : Cond} (h : w ∈ tables_1_2) : w ∈ lw_tbl := List.mem_append_right _ (List.mem_append_right _ (List.mem_append_left _ h))
theorem in_3 {w : Cond} (h : w ∈ tables_1_3) : w ∈ lw_tbl := List.mem_append_right _ (List.mem_append_right _ (List.mem_append_right _ (h)))
theorem gi_n {big : List Cond} : GoodIn big [] := fun w h => absurd h List.not_mem_nil
theorem gi_c {w : Cond} {ws : List Cond} (h : GW w) (hs : GoodIn lw_tbl ws) : GoodIn lw_tbl (w :: ws) := fun v hv => (List.mem_cons.mp hv).elim (fun e => by rw [e]; exact ⟨h.1, good_of_word h.2⟩) (hs v)
theorem gi_u {C : String} {T : u_T} {n : Nat} (h : ∀ k : Nat, k < n → GW (u_lay C T k)) : GoodIn lw_tbl (u_ws C T n) := fun w hw => by
  obtain ⟨k, hk, rfl⟩ := List.mem_map.mp hw
  have := h k (List.mem_range.mp hk)
  exact ⟨this.1, good_of_word this.2⟩
theorem gi_v {own C : String} {i : Nat} {y : MethodName} {ws : List Cond} (h1 : GW (.initialized C)) (h2 : GW (.methodLink own i y)) (h3 : GW (.instanceMethod y)) (h4 : GW (.selects C y y)) (hs : GoodIn lw_tbl ws) : GoodIn lw_tbl (wsV own i C y ws) := goodIn_app (gi_c h2 (gi_c h3 (gi_c h4 (gi_c h1 gi_n)))) hs
theorem tw_1 : GW (.code yX7_init cX7_init 1 none) := ⟨in_1 (List.mem_of_getElem? (i := 14) rfl), rfl⟩
theorem tw_3 : GW (.methodLink RX7 1 objectInit) := ⟨in_1 (List.mem_of_getElem? (i := 15) (by decide +kernel)), rfl⟩
theorem tw_4 : GW (.instanceMethod objectInit) := ⟨in_1 (List.mem_of_getElem? (i := 16) (by decide +kernel)), rfl⟩
theorem tw_5 : GW (.code objectInit ⟨#[0xb1]⟩ 1 none) := ⟨in_1 (List.mem_of_getElem? (i := 17) rfl), rfl⟩
theorem tw_6 : GW (.classLink RX7 7 RX5) := ⟨in_1 (List.mem_of_getElem? (i := 18) (by decide +kernel)), rfl⟩
theorem tw_7 : GW (.instantiable RX5 4) := ⟨in_1 (List.mem_of_getElem? (i := 19) (by decide +kernel)), rfl⟩
theorem tw_8 : GW (.initialized RX5) := ⟨in_1 (List.mem_of_getElem? (i := 2) (by decide +kernel)), rfl⟩
theorem tw_9 : GW (.fieldLink RX7 10 "ShapeFits" "row" "LShapeFits$PointRow;") := ⟨in_1 (List.mem_of_getElem? (i := 166) (by decide +kernel)), rfl⟩
theorem tw_10 : GW (.classLink RX7 16 RX6) := ⟨in_1 (List.mem_of_getElem? (i := 38) (by decide +kernel)), rfl⟩
theorem tw_11 : GW (.instantiable RX6 6) := ⟨in_1 (List.mem_of_getElem? (i := 39) (by decide +kernel)), rfl⟩
theorem tw_12 : GW (.initialized RX6) := ⟨in_1 (List.mem_of_getElem? (i := 3) (by decide +kernel)), rfl⟩
theorem tw_13 : GW (.fieldLink RX7 19 "ShapeFits" "text" "LShapeFits$PointText;") := ⟨in_1 (List.mem_of_getElem? (i := 167) (by decide +kernel)), rfl⟩
theorem tw_14 : GW (.classLink RX7 23 RX2) := ⟨in_1 (List.mem_of_getElem? (i := 63) (by decide +kernel)), rfl⟩
theorem tw_15 : GW (.instantiable RX2 2) := ⟨in_1 (List.mem_of_getElem? (i := 64) (by decide +kernel)), rfl⟩
theorem tw_16 : GW (.initialized RX2) := ⟨in_1 (List.mem_of_getElem? (i := 4) (by decide +kernel)), rfl⟩
theorem tw_17 : GW (.fieldLink RX7 26 "ShapeFits" "history" "LShapeFits$History;") := ⟨in_1 (List.mem_of_getElem? (i := 168) (by decide +kernel)), rfl⟩
theorem tw_18 : GW (.classLink RX7 30 RX1) := ⟨in_1 (List.mem_of_getElem? (i := 79) (by decide +kernel)), rfl⟩
theorem tw_19 : GW (.instantiable RX1 6) := ⟨in_1 (List.mem_of_getElem? (i := 80) (by decide +kernel)), rfl⟩
theorem tw_20 : GW (.initialized RX1) := ⟨in_1 (List.mem_of_getElem? (i := 5) (by decide +kernel)), rfl⟩
theorem tw_21 : GW (.fieldLink RX7 33 "ShapeFits" "table" "LShapeFits$GroupTable;") := ⟨in_1 (List.mem_of_getElem? (i := 169) (by decide +kernel)), rfl⟩
theorem tw_22 : GW (.classLink RX7 37 RX0) := ⟨in_1 (List.mem_of_getElem? (i := 104) (by decide +kernel)), rfl⟩
theorem tw_23 : GW (.instantiable RX0 5) := ⟨in_1 (List.mem_of_getElem? (i := 105) (by decide +kernel)), rfl⟩
theorem tw_24 : GW (.initialized RX0) := ⟨in_1 (List.mem_of_getElem? (i := 6) (by decide +kernel)), rfl⟩
theorem tw_25 : GW (.fieldLink RX7 42 "ShapeFits" "blockFit" "LShapeFits$BlockFit;") := ⟨in_1 (List.mem_of_getElem? (i := 170) (by decide +kernel)), rfl⟩
theorem tw_26 : GW (.classLink RX7 46 RX3) := ⟨in_1 (List.mem_of_getElem? (i := 126) (by decide +kernel)), rfl⟩
theorem tl_wsX7_init_r1 : GoodIn lw_tbl wsX7_init_r1 := (gi_c tw_3 (gi_c tw_4 (gi_c tw_5 (gi_c tw_6 (gi_c tw_7 (gi_c tw_8 (gi_c tw_9 (gi_c tw_10 (gi_c tw_11 (gi_c tw_12 (gi_c tw_13 (gi_c tw_14 (gi_c tw_15 (gi_c tw_16 (gi_c tw_17 (gi_c tw_18 (gi_c tw_19 (gi_c tw_20 (gi_c tw_21 (gi_c tw_22 (gi_c tw_23 (gi_c tw_24 (gi_c tw_25 (gi_c tw_26 gi_n))))))))))))))))))))))))
theorem tw_28 : GW (.instantiable RX3 4) := ⟨in_1 (List.mem_of_getElem? (i := 127) (by decide +kernel)), rfl⟩
theorem tw_29 : GW (.initialized RX3) := ⟨in_1 (List.mem_of_getElem? (i := 7) (by decide +kernel)), rfl⟩
theorem tw_30 : GW (.fieldLink RX7 51 "ShapeFits" "minorant" "LShapeFits$Hull;") := ⟨in_1 (List.mem_of_getElem? (i := 171) (by decide +kernel)), rfl⟩
theorem tw_31 : GW (.fieldLink RX7 55 "ShapeFits" "majorant" "LShapeFits$Hull;") := ⟨in_1 (List.mem_of_getElem? (i := 172) (by decide +kernel)), rfl⟩
theorem tw_32 : GW (.classLink RX7 58 RX4) := ⟨in_1 (List.mem_of_getElem? (i := 145) (by decide +kernel)), rfl⟩
theorem tw_33 : GW (.instantiable RX4 3) := ⟨in_1 (List.mem_of_getElem? (i := 146) (by decide +kernel)), rfl⟩
theorem tw_34 : GW (.initialized RX4) := ⟨in_1 (List.mem_of_getElem? (i := 8) (by decide +kernel)), rfl⟩
theorem tw_35 : GW (.fieldLink RX7 61 "ShapeFits" "levelTable" "LShapeFits$LevelTable;") := ⟨in_1 (List.mem_of_getElem? (i := 173) (by decide +kernel)), rfl⟩
theorem tw_36 : GW (.instanceMethod yX5_init) := ⟨in_1 (List.mem_of_getElem? (i := 21) (by decide +kernel)), rfl⟩
theorem tw_37 : GW (.code yX5_init cX5_init 1 none) := ⟨in_1 (List.mem_of_getElem? (i := 22) rfl), rfl⟩
theorem tw_38 : GW (.methodLink RX5 3 objectInit) := ⟨in_1 (List.mem_of_getElem? (i := 23) (by decide +kernel)), rfl⟩
theorem tw_39 : GW (.arrayClass .int) := ⟨in_1 (List.mem_of_getElem? (i := 37) (by decide +kernel)), rfl⟩
theorem tw_40 : GW (.fieldLink RX5 9 "ShapeFits$PointRow" "position" "[I") := ⟨in_1 (List.mem_of_getElem? (i := 24) (by decide +kernel)), rfl⟩
theorem tw_41 : GW (.fieldLink RX5 15 "ShapeFits$PointRow" "value" "[I") := ⟨in_1 (List.mem_of_getElem? (i := 25) (by decide +kernel)), rfl⟩
theorem tw_42 : GW (.fieldLink RX5 18 "ShapeFits$PointRow" "weight" "[I") := ⟨in_1 (List.mem_of_getElem? (i := 26) (by decide +kernel)), rfl⟩
theorem tw_43 : GW (.instanceMethod yX6_init) := ⟨in_1 (List.mem_of_getElem? (i := 41) (by decide +kernel)), rfl⟩
theorem tw_44 : GW (.code yX6_init cX6_init 1 none) := ⟨in_1 (List.mem_of_getElem? (i := 42) rfl), rfl⟩
theorem tw_45 : GW (.methodLink RX6 3 objectInit) := ⟨in_1 (List.mem_of_getElem? (i := 43) (by decide +kernel)), rfl⟩
theorem tw_46 : GW (.arrayClass .char) := ⟨in_1 (List.mem_of_getElem? (i := 62) (by decide +kernel)), rfl⟩
theorem tw_47 : GW (.fieldLink RX6 9 "ShapeFits$PointText" "signs" "[C") := ⟨in_1 (List.mem_of_getElem? (i := 46) (by decide +kernel)), rfl⟩
theorem tw_48 : GW (.classLink RX6 15 RX5) := ⟨in_1 (List.mem_of_getElem? (i := 44) (by decide +kernel)), rfl⟩
theorem tw_49 : GW (.fieldLink RX6 18 "ShapeFits$PointText" "found" "LShapeFits$PointRow;") := ⟨in_1 (List.mem_of_getElem? (i := 47) (by decide +kernel)), rfl⟩
theorem tw_50 : GW (.fieldLink RX6 22 "ShapeFits$PointText" "chain" "[I") := ⟨in_1 (List.mem_of_getElem? (i := 48) (by decide +kernel)), rfl⟩
theorem tw_51 : GW (.methodLink RX7 25 yX2_init) := ⟨in_1 (List.mem_of_getElem? (i := 65) (by decide +kernel)), rfl⟩
theorem tl_wsX7_init_r2 : GoodIn lw_tbl wsX7_init_r2 := (gi_c tw_28 (gi_c tw_29 (gi_c tw_30 (gi_c tw_31 (gi_c tw_32 (gi_c tw_33 (gi_c tw_34 (gi_c tw_35 (gi_c tw_36 (gi_c tw_37 (gi_c tw_38 (gi_c tw_39 (gi_c tw_40 (gi_c tw_41 (gi_c tw_42 (gi_c tw_43 (gi_c tw_44 (gi_c tw_45 (gi_c tw_46 (gi_c tw_47 (gi_c tw_48 (gi_c tw_49 (gi_c tw_50 (gi_c tw_51 gi_n))))))))))))))))))))))))
theorem tw_53 : GW (.instanceMethod yX2_init) := ⟨in_1 (List.mem_of_getElem? (i := 66) (by decide +kernel)), rfl⟩
theorem tw_54 : GW (.code yX2_init cX2_init 2 none) := ⟨in_1 (List.mem_of_getElem? (i := 67) rfl), rfl⟩
theorem tw_55 : GW (.methodLink RX2 3 objectInit) := ⟨in_1 (List.mem_of_getElem? (i := 68) (by decide +kernel)), rfl⟩
theorem tw_56 : GW (.classLink RX2 9 RX5) := ⟨in_1 (List.mem_of_getElem? (i := 69) (by decide +kernel)), rfl⟩
theorem tw_57 : GW (.fieldLink RX2 11 "ShapeFits$History" "states" "[LShapeFits$PointRow;") := ⟨in_1 (List.mem_of_getElem? (i := 72) (by decide +kernel)), rfl⟩
theorem tw_58 : GW (.instanceMethod yX1_init) := ⟨in_1 (List.mem_of_getElem? (i := 82) (by decide +kernel)), rfl⟩
theorem tw_59 : GW (.code yX1_init cX1_init 1 none) := ⟨in_1 (List.mem_of_getElem? (i := 83) rfl), rfl⟩
theorem tw_60 : GW (.methodLink RX1 3 objectInit) := ⟨in_1 (List.mem_of_getElem? (i := 84) (by decide +kernel)), rfl⟩
theorem tw_61 : GW (.fieldLink RX1 9 "ShapeFits$GroupTable" "position" "[I") := ⟨in_1 (List.mem_of_getElem? (i := 85) (by decide +kernel)), rfl⟩
theorem tw_62 : GW (.fieldLink RX1 15 "ShapeFits$GroupTable" "members" "[I") := ⟨in_1 (List.mem_of_getElem? (i := 86) (by decide +kernel)), rfl⟩
theorem tw_63 : GW (.fieldLink RX1 18 "ShapeFits$GroupTable" "weightBefore" "[I") := ⟨in_1 (List.mem_of_getElem? (i := 87) (by decide +kernel)), rfl⟩
theorem tw_64 : GW (.fieldLink RX1 21 "ShapeFits$GroupTable" "momentBefore" "[I") := ⟨in_1 (List.mem_of_getElem? (i := 88) (by decide +kernel)), rfl⟩
theorem tw_65 : GW (.methodLink RX7 39 yX0_init) := ⟨in_1 (List.mem_of_getElem? (i := 106) (by decide +kernel)), rfl⟩
theorem tw_66 : GW (.instanceMethod yX0_init) := ⟨in_1 (List.mem_of_getElem? (i := 107) (by decide +kernel)), rfl⟩
theorem tw_67 : GW (.code yX0_init cX0_init 2 none) := ⟨in_1 (List.mem_of_getElem? (i := 108) rfl), rfl⟩
theorem tw_68 : GW (.methodLink RX0 3 objectInit) := ⟨in_1 (List.mem_of_getElem? (i := 109) (by decide +kernel)), rfl⟩
theorem tw_69 : GW (.fieldLink RX0 9 "ShapeFits$BlockFit" "begin" "[I") := ⟨in_1 (List.mem_of_getElem? (i := 111) (by decide +kernel)), rfl⟩
theorem tw_70 : GW (.fieldLink RX0 15 "ShapeFits$BlockFit" "table" "LShapeFits$GroupTable;") := ⟨in_1 (List.mem_of_getElem? (i := 110) (by decide +kernel)), rfl⟩
theorem tw_71 : GW (.methodLink RX7 48 yX3_init) := ⟨in_1 (List.mem_of_getElem? (i := 128) (by decide +kernel)), rfl⟩
theorem tw_72 : GW (.instanceMethod yX3_init) := ⟨in_1 (List.mem_of_getElem? (i := 129) (by decide +kernel)), rfl⟩
theorem tw_73 : GW (.code yX3_init cX3_init 3 none) := ⟨in_1 (List.mem_of_getElem? (i := 130) rfl), rfl⟩
theorem tw_74 : GW (.methodLink RX3 3 objectInit) := ⟨in_1 (List.mem_of_getElem? (i := 131) (by decide +kernel)), rfl⟩
theorem tw_75 : GW (.fieldLink RX3 9 "ShapeFits$Hull" "corner" "[I") := ⟨in_1 (List.mem_of_getElem? (i := 134) (by decide +kernel)), rfl⟩
theorem tw_76 : GW (.fieldLink RX3 15 "ShapeFits$Hull" "table" "LShapeFits$GroupTable;") := ⟨in_1 (List.mem_of_getElem? (i := 132) (by decide +kernel)), rfl⟩
theorem tl_wsX7_init_r3 : GoodIn lw_tbl wsX7_init_r3 := (gi_c tw_53 (gi_c tw_54 (gi_c tw_55 (gi_c tw_56 (gi_c tw_57 (gi_c tw_58 (gi_c tw_59 (gi_c tw_60 (gi_c tw_61 (gi_c tw_62 (gi_c tw_63 (gi_c tw_64 (gi_c tw_65 (gi_c tw_66 (gi_c tw_67 (gi_c tw_68 (gi_c tw_69 (gi_c tw_70 (gi_c tw_71 (gi_c tw_72 (gi_c tw_73 (gi_c tw_74 (gi_c tw_75 (gi_c tw_76 gi_n))))))))))))))))))))))))
theorem tw_78 : GW (.fieldLink RX3 19 "ShapeFits$Hull" "side" "I") := ⟨in_1 (List.mem_of_getElem? (i := 133) (by decide +kernel)), rfl⟩
theorem tw_79 : GW (.methodLink RX7 60 yX4_init) := ⟨in_1 (List.mem_of_getElem? (i := 147) (by decide +kernel)), rfl⟩
theorem tw_80 : GW (.instanceMethod yX4_init) := ⟨in_1 (List.mem_of_getElem? (i := 148) (by decide +kernel)), rfl⟩
theorem tw_81 : GW (.code yX4_init cX4_init 2 none) := ⟨in_1 (List.mem_of_getElem? (i := 149) rfl), rfl⟩
theorem tw_82 : GW (.methodLink RX4 3 objectInit) := ⟨in_1 (List.mem_of_getElem? (i := 150) (by decide +kernel)), rfl⟩
theorem tw_83 : GW (.classLink RX4 9 "[[J") := ⟨in_1 (List.mem_of_getElem? (i := 151) (by decide +kernel)), rfl⟩
theorem tw_84 : GW (.arrayClass .long) := ⟨in_1 (List.mem_of_getElem? (i := 165) (by decide +kernel)), rfl⟩
theorem tw_85 : GW (.fieldLink RX4 11 "ShapeFits$LevelTable" "gain" "[[J") := ⟨in_1 (List.mem_of_getElem? (i := 156) (by decide +kernel)), rfl⟩
theorem tw_86 : GW (.classLink RX4 16 "[[I") := ⟨in_1 (List.mem_of_getElem? (i := 153) (by decide +kernel)), rfl⟩
theorem tw_87 : GW (.fieldLink RX4 18 "ShapeFits$LevelTable" "next" "[[I") := ⟨in_1 (List.mem_of_getElem? (i := 157) (by decide +kernel)), rfl⟩
theorem tw_88 : GW (.fieldLink RX4 21 "ShapeFits$LevelTable" "table" "LShapeFits$GroupTable;") := ⟨in_1 (List.mem_of_getElem? (i := 155) (by decide +kernel)), rfl⟩
theorem tl_wsX7_init_r4 : GoodIn lw_tbl wsX7_init_r4 := (gi_c tw_78 (gi_c tw_79 (gi_c tw_80 (gi_c tw_81 (gi_c tw_82 (gi_c tw_83 (gi_c tw_84 (gi_c tw_85 (gi_c tw_86 (gi_c tw_87 (gi_c tw_88 gi_n)))))))))))
theorem tu_X5 : GoodIn lw_tbl (u_ws RX5 TX5 4) := gi_u (fun k hk => by
  rcases (show k = 0 ∨ k = 1 ∨ k = 2 ∨ k = 3 by omega) with rfl | rfl | rfl | rfl
  · exact ⟨in_1 (List.mem_of_getElem? (i := 28) (by decide +kernel)), rfl⟩
  · exact ⟨in_1 (List.mem_of_getElem? (i := 30) (by decide +kernel)), rfl⟩
  · exact ⟨in_1 (List.mem_of_getElem? (i := 32) (by decide +kernel)), rfl⟩
  · exact ⟨in_1 (List.mem_of_getElem? (i := 34) (by decide +kernel)), rfl⟩)
theorem tu_X7 : GoodIn lw_tbl (u_ws RX7 TX7 8) := gi_u (fun k hk => by
  rcases (show k = 0 ∨ k = 1 ∨ k = 2 ∨ k = 3 ∨ k = 4 ∨ k = 5 ∨ k = 6 ∨ k = 7 by omega) with rfl | rfl | rfl | rfl | rfl | rfl | rfl | rfl
  · exact ⟨in_1 (List.mem_of_getElem? (i := 174) (by decide +kernel)), rfl⟩
  · exact ⟨in_1 (List.mem_of_getElem? (i := 176) (by decide +kernel)), rfl⟩
  · exact ⟨in_1 (List.mem_of_getElem? (i := 178) (by decide +kernel)), rfl⟩
  · exact ⟨in_1 (List.mem_of_getElem? (i := 180) (by decide +kernel)), rfl⟩
  · exact ⟨in_1 (List.mem_of_getElem? (i := 182) (by decide +kernel)), rfl⟩
  · exact ⟨in_1 (List.mem_of_getElem? (i := 184) (by decide +kernel)), rfl⟩
  · exact ⟨in_1 (List.mem_of_getElem? (i := 186) (by decide +kernel)), rfl⟩
  · exact ⟨in_1 (List.mem_of_getElem? (i := 188) (by decide +kernel)), rfl⟩)
theorem tu_X6 : GoodIn lw_tbl (u_ws RX6 TX6 6) := gi_u (fun k hk => by
  rcases (show k = 0 ∨ k = 1 ∨ k = 2 ∨ k = 3 ∨ k = 4 ∨ k = 5 by omega) with rfl | rfl | rfl | rfl | rfl | rfl
  · exact ⟨in_1 (List.mem_of_getElem? (i := 49) (by decide +kernel)), rfl⟩
  · exact ⟨in_1 (List.mem_of_getElem? (i := 51) (by decide +kernel)), rfl⟩
  · exact ⟨in_1 (List.mem_of_getElem? (i := 53) (by decide +kernel)), rfl⟩
  · exact ⟨in_1 (List.mem_of_getElem? (i := 55) (by decide +kernel)), rfl⟩
  · exact ⟨in_1 (List.mem_of_getElem? (i := 57) (by decide +kernel)), rfl⟩
  · exact ⟨in_1 (List.mem_of_getElem? (i := 59) (by decide +kernel)), rfl⟩)
theorem tu_X2 : GoodIn lw_tbl (u_ws RX2 TX2 2) := gi_u (fun k hk => by
  rcases (show k = 0 ∨ k = 1 by omega) with rfl | rfl
  · exact ⟨in_1 (List.mem_of_getElem? (i := 74) (by decide +kernel)), rfl⟩
  · exact ⟨in_1 (List.mem_of_getElem? (i := 76) (by decide +kernel)), rfl⟩)
theorem tu_X1 : GoodIn lw_tbl (u_ws RX1 TX1 6) := gi_u (fun k hk => by
  rcases (show k = 0 ∨ k = 1 ∨ k = 2 ∨ k = 3 ∨ k = 4 ∨ k = 5 by omega) with rfl | rfl | rfl | rfl | rfl | rfl
  · exact ⟨in_1 (List.mem_of_getElem? (i := 91) (by decide +kernel)), rfl⟩
  · exact ⟨in_1 (List.mem_of_getElem? (i := 93) (by decide +kernel)), rfl⟩
  · exact ⟨in_1 (List.mem_of_getElem? (i := 95) (by decide +kernel)), rfl⟩
  · exact ⟨in_1 (List.mem_of_getElem? (i := 97) (by decide +kernel)), rfl⟩
  · exact ⟨in_1 (List.mem_of_getElem? (i := 99) (by decide +kernel)), rfl⟩
  · exact ⟨in_1 (List.mem_of_getElem? (i := 101) (by decide +kernel)), rfl⟩)
theorem tu_X0 : GoodIn lw_tbl (u_ws RX0 TX0 5) := gi_u (fun k hk => by
  rcases (show k = 0 ∨ k = 1 ∨ k = 2 ∨ k = 3 ∨ k = 4 by omega) with rfl | rfl | rfl | rfl | rfl
  · exact ⟨in_1 (List.mem_of_getElem? (i := 115) (by decide +kernel)), rfl⟩
  · exact ⟨in_1 (List.mem_of_getElem? (i := 117) (by decide +kernel)), rfl⟩
  · exact ⟨in_1 (List.mem_of_getElem? (i := 119) (by decide +kernel)), rfl⟩
  · exact ⟨in_1 (List.mem_of_getElem? (i := 121) (by decide +kernel)), rfl⟩
  · exact ⟨in_1 (List.mem_of_getElem? (i := 123) (by decide +kernel)), rfl⟩)
theorem tu_X3 : GoodIn lw_tbl (u_ws RX3 TX3 4) := gi_u (fun k hk => by
  rcases (show k = 0 ∨ k = 1 ∨ k = 2 ∨ k = 3 by omega) with rfl | rfl | rfl | rfl
  · exact ⟨in_1 (List.mem_of_getElem? (i := 136) (by decide +kernel)), rfl⟩
  · exact ⟨in_1 (List.mem_of_getElem? (i := 138) (by decide +kernel)), rfl⟩
  · exact ⟨in_1 (List.mem_of_getElem? (i := 140) (by decide +kernel)), rfl⟩
  · exact ⟨in_1 (List.mem_of_getElem? (i := 142) (by decide +kernel)), rfl⟩)
theorem tu_X4 : GoodIn lw_tbl (u_ws RX4 TX4 3) := gi_u (fun k hk => by
  rcases (show k = 0 ∨ k = 1 ∨ k = 2 by omega) with rfl | rfl | rfl
  · exact ⟨in_1 (List.mem_of_getElem? (i := 158) (by decide +kernel)), rfl⟩
  · exact ⟨in_1 (List.mem_of_getElem? (i := 160) (by decide +kernel)), rfl⟩
  · exact ⟨in_1 (List.mem_of_getElem? (i := 162) (by decide +kernel)), rfl⟩)
theorem tl_wsX7_init : GoodIn lw_tbl wsX7_init := (gi_c tw_1 (goodIn_app (goodIn_app (goodIn_app (goodIn_app (goodIn_app (goodIn_app (goodIn_app (goodIn_app (goodIn_app tl_wsX7_init_r1 (goodIn_app tl_wsX7_init_r2 (goodIn_app tl_wsX7_init_r3 tl_wsX7_init_r4))) tu_X5) tu_X7) tu_X6) tu_X2) tu_X1) tu_X0) tu_X3) tu_X4))
theorem tw_98 : GW (.code yX7_turn cX7_turn 2 (some .int)) := ⟨in_2 (List.mem_of_getElem? (i := 206) rfl), rfl⟩
theorem tw_100 : GW (.constant RX7 73 (-1000001)) := ⟨in_1 (List.mem_of_getElem? (i := 199) (by decide +kernel)), rfl⟩
theorem tw_101 : GW (.constant RX7 117 (-1000002)) := ⟨in_2 (List.mem_of_getElem? (i := 37) (by decide +kernel)), rfl⟩
theorem tw_102 : GW (.methodLink RX7 65 yX7_outside) := ⟨in_2 (List.mem_of_getElem? (i := 18) (by decide +kernel)), rfl⟩
theorem tw_103 : GW (.static yX7_outside) := ⟨in_2 (List.mem_of_getElem? (i := 19) (by decide +kernel)), rfl⟩
theorem tw_104 : GW (.initialized RX7) := ⟨in_1 (List.mem_of_getElem? (i := 1) (by decide +kernel)), rfl⟩
theorem tw_105 : GW (.code yX7_outside cX7_outside 3 (some .boolean)) := ⟨in_2 (List.mem_of_getElem? (i := 20) rfl), rfl⟩
theorem tw_106 : GW (.methodLink RX7 131 yX1_size) := ⟨in_2 (List.mem_of_getElem? (i := 50) (by decide +kernel)), rfl⟩
theorem tw_107 : GW (.instanceMethod yX1_size) := ⟨in_2 (List.mem_of_getElem? (i := 51) (by decide +kernel)), rfl⟩
theorem tw_108 : GW (.selects RX1 yX1_size yX1_size) := ⟨in_2 (List.mem_of_getElem? (i := 52) (by decide +kernel)), rfl⟩
theorem tw_109 : GW (.code yX1_size cX1_size 1 (some .int)) := ⟨in_2 (List.mem_of_getElem? (i := 53) rfl), rfl⟩
theorem tw_110 : GW (.fieldLink RX1 24 "ShapeFits$GroupTable" "count" "I") := ⟨in_1 (List.mem_of_getElem? (i := 89) (by decide +kernel)), rfl⟩
theorem tw_111 : GW (.methodLink RX7 186 yX0_bestTurn) := ⟨in_2 (List.mem_of_getElem? (i := 207) (by decide +kernel)), rfl⟩
theorem tw_112 : GW (.instanceMethod yX0_bestTurn) := ⟨in_2 (List.mem_of_getElem? (i := 156) (by decide +kernel)), rfl⟩
theorem tw_113 : GW (.selects RX0 yX0_bestTurn yX0_bestTurn) := ⟨in_2 (List.mem_of_getElem? (i := 157) (by decide +kernel)), rfl⟩
theorem tw_114 : GW (.code yX0_bestTurn cX0_bestTurn 8 (some .int)) := ⟨in_2 (List.mem_of_getElem? (i := 158) rfl), rfl⟩
theorem tw_115 : GW (.methodLink RX0 23 yX1_size) := ⟨in_2 (List.mem_of_getElem? (i := 154) (by decide +kernel)), rfl⟩
theorem tw_116 : GW (.methodLink RX0 47 yX0_shapeWithTurn) := ⟨in_2 (List.mem_of_getElem? (i := 159) (by decide +kernel)), rfl⟩
theorem tw_117 : GW (.instanceMethod yX0_shapeWithTurn) := ⟨in_2 (List.mem_of_getElem? (i := 160) (by decide +kernel)), rfl⟩
theorem tw_118 : GW (.selects RX0 yX0_shapeWithTurn yX0_shapeWithTurn) := ⟨in_2 (List.mem_of_getElem? (i := 161) (by decide +kernel)), rfl⟩
theorem tl_wsX7_turn_r1 : GoodIn lw_tbl wsX7_turn_r1 := (gi_c tw_100 (gi_c tw_21 (gi_c tw_101 (gi_c tw_25 (gi_c tw_102 (gi_c tw_103 (gi_c tw_104 (gi_c tw_105 (gi_c tw_106 (gi_c tw_107 (gi_c tw_108 (gi_c tw_20 (gi_c tw_109 (gi_c tw_110 (gi_c tw_111 (gi_c tw_112 (gi_c tw_113 (gi_c tw_24 (gi_c tw_114 (gi_c tw_70 (gi_c tw_115 (gi_c tw_116 (gi_c tw_117 (gi_c tw_118 gi_n))))))))))))))))))))))))
theorem tw_120 : GW (.code yX0_shapeWithTurn cX0_shapeWithTurn 4 none) := ⟨in_2 (List.mem_of_getElem? (i := 162) rfl), rfl⟩
theorem tw_121 : GW (.fieldLink RX0 19 "ShapeFits$BlockFit" "count" "I") := ⟨in_1 (List.mem_of_getElem? (i := 112) (by decide +kernel)), rfl⟩
theorem tw_122 : GW (.fieldLink RX0 61 "ShapeFits$BlockFit" "topFirst" "I") := ⟨in_1 (List.mem_of_getElem? (i := 113) (by decide +kernel)), rfl⟩
theorem tw_123 : GW (.fieldLink RX0 68 "ShapeFits$BlockFit" "topLast" "I") := ⟨in_1 (List.mem_of_getElem? (i := 114) (by decide +kernel)), rfl⟩
theorem tw_124 : GW (.methodLink RX0 58 yX0_findTop) := ⟨in_2 (List.mem_of_getElem? (i := 163) (by decide +kernel)), rfl⟩
theorem tw_125 : GW (.instanceMethod yX0_findTop) := ⟨in_2 (List.mem_of_getElem? (i := 165) (by decide +kernel)), rfl⟩
theorem tw_126 : GW (.selects RX0 yX0_findTop yX0_findTop) := ⟨in_0 (List.mem_of_getElem? (i := 10) rfl), rfl⟩
theorem tw_127 : GW (.code yX0_findTop cX0_findTop 5 none) := ⟨in_2 (List.mem_of_getElem? (i := 166) rfl), rfl⟩
theorem tw_128 : GW (.methodLink RX0 71 yX1_compareMeans) := ⟨in_2 (List.mem_of_getElem? (i := 167) (by decide +kernel)), rfl⟩
theorem tw_129 : GW (.instanceMethod yX1_compareMeans) := ⟨in_2 (List.mem_of_getElem? (i := 105) (by decide +kernel)), rfl⟩
theorem tw_130 : GW (.selects RX1 yX1_compareMeans yX1_compareMeans) := ⟨in_2 (List.mem_of_getElem? (i := 106) (by decide +kernel)), rfl⟩
theorem tw_131 : GW (.code yX1_compareMeans cX1_compareMeans 5 (some .int)) := ⟨in_2 (List.mem_of_getElem? (i := 107) rfl), rfl⟩
theorem tw_132 : GW (.methodLink RX1 58 yX1_momentOf) := ⟨in_2 (List.mem_of_getElem? (i := 108) (by decide +kernel)), rfl⟩
theorem tw_133 : GW (.instanceMethod yX1_momentOf) := ⟨in_2 (List.mem_of_getElem? (i := 72) (by decide +kernel)), rfl⟩
theorem tw_134 : GW (.selects RX1 yX1_momentOf yX1_momentOf) := ⟨in_2 (List.mem_of_getElem? (i := 73) (by decide +kernel)), rfl⟩
theorem tw_135 : GW (.code yX1_momentOf cX1_momentOf 3 (some .int)) := ⟨in_2 (List.mem_of_getElem? (i := 74) rfl), rfl⟩
theorem tw_136 : GW (.methodLink RX1 62 yX1_weightOf) := ⟨in_2 (List.mem_of_getElem? (i := 109) (by decide +kernel)), rfl⟩
theorem tw_137 : GW (.instanceMethod yX1_weightOf) := ⟨in_2 (List.mem_of_getElem? (i := 68) (by decide +kernel)), rfl⟩
theorem tw_138 : GW (.selects RX1 yX1_weightOf yX1_weightOf) := ⟨in_2 (List.mem_of_getElem? (i := 69) (by decide +kernel)), rfl⟩
theorem tw_139 : GW (.code yX1_weightOf cX1_weightOf 3 (some .int)) := ⟨in_2 (List.mem_of_getElem? (i := 70) rfl), rfl⟩
theorem tw_140 : GW (.methodLink RX0 51 yX0_pool) := ⟨in_2 (List.mem_of_getElem? (i := 168) (by decide +kernel)), rfl⟩
theorem tw_141 : GW (.instanceMethod yX0_pool) := ⟨in_2 (List.mem_of_getElem? (i := 170) (by decide +kernel)), rfl⟩
theorem tl_wsX7_turn_r2 : GoodIn lw_tbl wsX7_turn_r2 := (gi_c tw_120 (gi_c tw_121 (gi_c tw_122 (gi_c tw_123 (gi_c tw_124 (gi_c tw_125 (gi_c tw_126 (gi_c tw_127 (gi_c tw_128 (gi_c tw_129 (gi_c tw_130 (gi_c tw_131 (gi_c tw_132 (gi_c tw_133 (gi_c tw_134 (gi_c tw_135 (gi_c tw_64 (gi_c tw_136 (gi_c tw_137 (gi_c tw_138 (gi_c tw_139 (gi_c tw_63 (gi_c tw_140 (gi_c tw_141 gi_n))))))))))))))))))))))))
theorem tw_143 : GW (.selects RX0 yX0_pool yX0_pool) := ⟨in_0 (List.mem_of_getElem? (i := 11) rfl), rfl⟩
theorem tw_144 : GW (.code yX0_pool cX0_pool 8 none) := ⟨in_2 (List.mem_of_getElem? (i := 171) rfl), rfl⟩
theorem tw_145 : GW (.methodLink RX0 64 yX0_open) := ⟨in_2 (List.mem_of_getElem? (i := 172) (by decide +kernel)), rfl⟩
theorem tw_146 : GW (.instanceMethod yX0_open) := ⟨in_2 (List.mem_of_getElem? (i := 174) (by decide +kernel)), rfl⟩
theorem tw_147 : GW (.selects RX0 yX0_open yX0_open) := ⟨in_0 (List.mem_of_getElem? (i := 12) rfl), rfl⟩
theorem tw_148 : GW (.code yX0_open cX0_open 2 none) := ⟨in_2 (List.mem_of_getElem? (i := 175) rfl), rfl⟩
theorem tw_149 : GW (.methodLink RX0 55 yX0_commonError) := ⟨in_2 (List.mem_of_getElem? (i := 176) (by decide +kernel)), rfl⟩
theorem tw_150 : GW (.instanceMethod yX0_commonError) := ⟨in_2 (List.mem_of_getElem? (i := 177) (by decide +kernel)), rfl⟩
theorem tw_151 : GW (.selects RX0 yX0_commonError yX0_commonError) := ⟨in_2 (List.mem_of_getElem? (i := 178) (by decide +kernel)), rfl⟩
theorem tw_152 : GW (.code yX0_commonError cX0_commonError 4 (some .long)) := ⟨in_2 (List.mem_of_getElem? (i := 179) rfl), rfl⟩
theorem tw_153 : GW (.methodLink RX0 29 yX1_errorOfZero) := ⟨in_2 (List.mem_of_getElem? (i := 180) (by decide +kernel)), rfl⟩
theorem tw_154 : GW (.instanceMethod yX1_errorOfZero) := ⟨in_2 (List.mem_of_getElem? (i := 181) (by decide +kernel)), rfl⟩
theorem tw_155 : GW (.selects RX1 yX1_errorOfZero yX1_errorOfZero) := ⟨in_2 (List.mem_of_getElem? (i := 182) (by decide +kernel)), rfl⟩
theorem tw_156 : GW (.code yX1_errorOfZero cX1_errorOfZero 1 (some .long)) := ⟨in_2 (List.mem_of_getElem? (i := 183) rfl), rfl⟩
theorem tw_157 : GW (.constantLong RX1 64 (5354228880)) := ⟨in_2 (List.mem_of_getElem? (i := 184) (by decide +kernel)), rfl⟩
theorem tw_158 : GW (.fieldLink RX1 28 "ShapeFits$GroupTable" "squares" "I") := ⟨in_1 (List.mem_of_getElem? (i := 90) (by decide +kernel)), rfl⟩
theorem tw_159 : GW (.methodLink RX0 33 yX0_firstOf) := ⟨in_2 (List.mem_of_getElem? (i := 185) (by decide +kernel)), rfl⟩
theorem tw_160 : GW (.instanceMethod yX0_firstOf) := ⟨in_2 (List.mem_of_getElem? (i := 186) (by decide +kernel)), rfl⟩
theorem tw_161 : GW (.selects RX0 yX0_firstOf yX0_firstOf) := ⟨in_2 (List.mem_of_getElem? (i := 187) (by decide +kernel)), rfl⟩
theorem tw_162 : GW (.code yX0_firstOf cX0_firstOf 2 (some .int)) := ⟨in_2 (List.mem_of_getElem? (i := 188) rfl), rfl⟩
theorem tw_163 : GW (.methodLink RX0 37 yX0_lastOf) := ⟨in_2 (List.mem_of_getElem? (i := 189) (by decide +kernel)), rfl⟩
theorem tw_164 : GW (.instanceMethod yX0_lastOf) := ⟨in_2 (List.mem_of_getElem? (i := 190) (by decide +kernel)), rfl⟩
theorem tw_165 : GW (.selects RX0 yX0_lastOf yX0_lastOf) := ⟨in_2 (List.mem_of_getElem? (i := 191) (by decide +kernel)), rfl⟩
theorem tl_wsX7_turn_r3 : GoodIn lw_tbl wsX7_turn_r3 := (gi_c tw_143 (gi_c tw_144 (gi_c tw_69 (gi_c tw_145 (gi_c tw_146 (gi_c tw_147 (gi_c tw_148 (gi_c tw_149 (gi_c tw_150 (gi_c tw_151 (gi_c tw_152 (gi_c tw_153 (gi_c tw_154 (gi_c tw_155 (gi_c tw_156 (gi_c tw_157 (gi_c tw_158 (gi_c tw_159 (gi_c tw_160 (gi_c tw_161 (gi_c tw_162 (gi_c tw_163 (gi_c tw_164 (gi_c tw_165 gi_n))))))))))))))))))))))))
theorem tw_167 : GW (.code yX0_lastOf cX0_lastOf 2 (some .int)) := ⟨in_2 (List.mem_of_getElem? (i := 192) rfl), rfl⟩
theorem tw_168 : GW (.methodLink RX0 40 yX1_gainOf) := ⟨in_2 (List.mem_of_getElem? (i := 193) (by decide +kernel)), rfl⟩
theorem tw_169 : GW (.instanceMethod yX1_gainOf) := ⟨in_2 (List.mem_of_getElem? (i := 194) (by decide +kernel)), rfl⟩
theorem tw_170 : GW (.selects RX1 yX1_gainOf yX1_gainOf) := ⟨in_2 (List.mem_of_getElem? (i := 195) (by decide +kernel)), rfl⟩
theorem tw_171 : GW (.code yX1_gainOf cX1_gainOf 7 (some .long)) := ⟨in_2 (List.mem_of_getElem? (i := 196) rfl), rfl⟩
theorem tl_wsX7_turn_r4 : GoodIn lw_tbl wsX7_turn_r4 := (gi_c tw_167 (gi_c tw_168 (gi_c tw_169 (gi_c tw_170 (gi_c tw_171 gi_n)))))
theorem tl_wsX7_turn : GoodIn lw_tbl wsX7_turn := (gi_c tw_98 (goodIn_app (goodIn_app (goodIn_app (goodIn_app tl_wsX7_turn_r1 (goodIn_app tl_wsX7_turn_r2 (goodIn_app tl_wsX7_turn_r3 tl_wsX7_turn_r4))) tu_X7) tu_X1) tu_X0))
theorem tw_172 : GW (.methodLink RL 33 yX7_turn) := ⟨in_2 (List.mem_of_getElem? (i := 203) (by decide +kernel)), rfl⟩
theorem tw_173 : GW (.instanceMethod yX7_turn) := ⟨in_2 (List.mem_of_getElem? (i := 204) (by decide +kernel)), rfl⟩
theorem tw_174 : GW (.selects RX7 yX7_turn yX7_turn) := ⟨in_2 (List.mem_of_getElem? (i := 205) (by decide +kernel)), rfl⟩
theorem tv_X7_turn : GoodIn lw_tbl (wsV RL 33 RX7 yX7_turn wsX7_turn) := gi_v tw_104 tw_172 tw_173 tw_174 tl_wsX7_turn
theorem tw_176 : GW (.code yX7_gap cX7_gap 3 (some .long)) := ⟨in_3 (List.mem_of_getElem? (i := 0) rfl), rfl⟩
theorem tw_178 : GW (.constantLong RX7 146 (-1000001)) := ⟨in_2 (List.mem_of_getElem? (i := 86) (by decide +kernel)), rfl⟩
theorem tw_179 : GW (.constantLong RX7 178 (-1000002)) := ⟨in_3 (List.mem_of_getElem? (i := 1) (by decide +kernel)), rfl⟩
theorem tw_180 : GW (.methodLink RX7 152 yX3_draw) := ⟨in_2 (List.mem_of_getElem? (i := 91) (by decide +kernel)), rfl⟩
theorem tw_181 : GW (.instanceMethod yX3_draw) := ⟨in_2 (List.mem_of_getElem? (i := 92) (by decide +kernel)), rfl⟩
theorem tw_182 : GW (.selects RX3 yX3_draw yX3_draw) := ⟨in_2 (List.mem_of_getElem? (i := 93) (by decide +kernel)), rfl⟩
theorem tw_183 : GW (.code yX3_draw cX3_draw 3 none) := ⟨in_2 (List.mem_of_getElem? (i := 94) rfl), rfl⟩
theorem tw_184 : GW (.fieldLink RX3 23 "ShapeFits$Hull" "count" "I") := ⟨in_1 (List.mem_of_getElem? (i := 135) (by decide +kernel)), rfl⟩
theorem tw_185 : GW (.methodLink RX3 26 yX1_size) := ⟨in_2 (List.mem_of_getElem? (i := 95) (by decide +kernel)), rfl⟩
theorem tl_wsX7_gap_r1 : GoodIn lw_tbl wsX7_gap_r1 := (gi_c tw_178 (gi_c tw_21 (gi_c tw_179 (gi_c tw_30 (gi_c tw_31 (gi_c tw_102 (gi_c tw_103 (gi_c tw_104 (gi_c tw_105 (gi_c tw_106 (gi_c tw_107 (gi_c tw_108 (gi_c tw_20 (gi_c tw_109 (gi_c tw_110 (gi_c tw_180 (gi_c tw_181 (gi_c tw_182 (gi_c tw_29 (gi_c tw_183 (gi_c tw_184 (gi_c tw_76 (gi_c tw_75 (gi_c tw_185 gi_n))))))))))))))))))))))))
theorem tw_187 : GW (.methodLink RX3 32 yX3_bends) := ⟨in_2 (List.mem_of_getElem? (i := 96) (by decide +kernel)), rfl⟩
theorem tw_188 : GW (.instanceMethod yX3_bends) := ⟨in_2 (List.mem_of_getElem? (i := 98) (by decide +kernel)), rfl⟩
theorem tw_189 : GW (.selects RX3 yX3_bends yX3_bends) := ⟨in_0 (List.mem_of_getElem? (i := 3) rfl), rfl⟩
theorem tw_190 : GW (.code yX3_bends cX3_bends 8 (some .boolean)) := ⟨in_2 (List.mem_of_getElem? (i := 99) rfl), rfl⟩
theorem tw_191 : GW (.methodLink RX3 45 yX3_rise) := ⟨in_2 (List.mem_of_getElem? (i := 100) (by decide +kernel)), rfl⟩
theorem tw_192 : GW (.instanceMethod yX3_rise) := ⟨in_2 (List.mem_of_getElem? (i := 102) (by decide +kernel)), rfl⟩
theorem tw_193 : GW (.selects RX3 yX3_rise yX3_rise) := ⟨in_0 (List.mem_of_getElem? (i := 4) rfl), rfl⟩
theorem tw_194 : GW (.code yX3_rise cX3_rise 3 (some .long)) := ⟨in_2 (List.mem_of_getElem? (i := 103) rfl), rfl⟩
theorem tw_195 : GW (.methodLink RX3 56 yX1_compareMeans) := ⟨in_2 (List.mem_of_getElem? (i := 104) (by decide +kernel)), rfl⟩
theorem tw_196 : GW (.methodLink RX3 49 yX3_weight) := ⟨in_2 (List.mem_of_getElem? (i := 110) (by decide +kernel)), rfl⟩
theorem tl_wsX7_gap_r2 : GoodIn lw_tbl wsX7_gap_r2 := (gi_c tw_187 (gi_c tw_188 (gi_c tw_189 (gi_c tw_190 (gi_c tw_78 (gi_c tw_191 (gi_c tw_192 (gi_c tw_193 (gi_c tw_194 (gi_c tw_195 (gi_c tw_129 (gi_c tw_130 (gi_c tw_131 (gi_c tw_132 (gi_c tw_133 (gi_c tw_134 (gi_c tw_135 (gi_c tw_64 (gi_c tw_136 (gi_c tw_137 (gi_c tw_138 (gi_c tw_139 (gi_c tw_63 (gi_c tw_196 gi_n))))))))))))))))))))))))
theorem tw_198 : GW (.instanceMethod yX3_weight) := ⟨in_2 (List.mem_of_getElem? (i := 112) (by decide +kernel)), rfl⟩
theorem tw_199 : GW (.selects RX3 yX3_weight yX3_weight) := ⟨in_0 (List.mem_of_getElem? (i := 5) rfl), rfl⟩
theorem tw_200 : GW (.code yX3_weight cX3_weight 2 (some .long)) := ⟨in_2 (List.mem_of_getElem? (i := 113) rfl), rfl⟩
theorem tw_201 : GW (.methodLink RX3 60 yX1_weightOf) := ⟨in_2 (List.mem_of_getElem? (i := 114) (by decide +kernel)), rfl⟩
theorem tw_202 : GW (.methodLink RX3 53 yX3_distance) := ⟨in_2 (List.mem_of_getElem? (i := 115) (by decide +kernel)), rfl⟩
theorem tw_203 : GW (.instanceMethod yX3_distance) := ⟨in_2 (List.mem_of_getElem? (i := 117) (by decide +kernel)), rfl⟩
theorem tw_204 : GW (.selects RX3 yX3_distance yX3_distance) := ⟨in_0 (List.mem_of_getElem? (i := 6) rfl), rfl⟩
theorem tw_205 : GW (.code yX3_distance cX3_distance 3 (some .long)) := ⟨in_2 (List.mem_of_getElem? (i := 118) rfl), rfl⟩
theorem tw_206 : GW (.methodLink RX3 66 yX1_positionOf) := ⟨in_2 (List.mem_of_getElem? (i := 119) (by decide +kernel)), rfl⟩
theorem tw_207 : GW (.instanceMethod yX1_positionOf) := ⟨in_2 (List.mem_of_getElem? (i := 63) (by decide +kernel)), rfl⟩
theorem tw_208 : GW (.selects RX1 yX1_positionOf yX1_positionOf) := ⟨in_2 (List.mem_of_getElem? (i := 64) (by decide +kernel)), rfl⟩
theorem tw_209 : GW (.code yX1_positionOf cX1_positionOf 2 (some .int)) := ⟨in_2 (List.mem_of_getElem? (i := 65) rfl), rfl⟩
theorem tw_210 : GW (.methodLink RX1 54 yX1_has) := ⟨in_2 (List.mem_of_getElem? (i := 66) (by decide +kernel)), rfl⟩
theorem tw_211 : GW (.instanceMethod yX1_has) := ⟨in_2 (List.mem_of_getElem? (i := 59) (by decide +kernel)), rfl⟩
theorem tw_212 : GW (.selects RX1 yX1_has yX1_has) := ⟨in_2 (List.mem_of_getElem? (i := 60) (by decide +kernel)), rfl⟩
theorem tw_213 : GW (.code yX1_has cX1_has 2 (some .boolean)) := ⟨in_2 (List.mem_of_getElem? (i := 61) rfl), rfl⟩
theorem tw_214 : GW (.methodLink RX7 201 yX7_widestGap) := ⟨in_3 (List.mem_of_getElem? (i := 2) (by decide +kernel)), rfl⟩
theorem tw_215 : GW (.instanceMethod yX7_widestGap) := ⟨in_3 (List.mem_of_getElem? (i := 4) (by decide +kernel)), rfl⟩
theorem tw_216 : GW (.selects RX7 yX7_widestGap yX7_widestGap) := ⟨in_0 (List.mem_of_getElem? (i := 13) rfl), rfl⟩
theorem tw_217 : GW (.code yX7_widestGap cX7_widestGap 7 (some .int)) := ⟨in_3 (List.mem_of_getElem? (i := 5) rfl), rfl⟩
theorem tw_218 : GW (.methodLink RX7 204 yX7_gapNumerator) := ⟨in_3 (List.mem_of_getElem? (i := 6) (by decide +kernel)), rfl⟩
theorem tw_219 : GW (.instanceMethod yX7_gapNumerator) := ⟨in_3 (List.mem_of_getElem? (i := 8) (by decide +kernel)), rfl⟩
theorem tw_220 : GW (.selects RX7 yX7_gapNumerator yX7_gapNumerator) := ⟨in_0 (List.mem_of_getElem? (i := 14) rfl), rfl⟩
theorem tl_wsX7_gap_r3 : GoodIn lw_tbl wsX7_gap_r3 := (gi_c tw_198 (gi_c tw_199 (gi_c tw_200 (gi_c tw_201 (gi_c tw_202 (gi_c tw_203 (gi_c tw_204 (gi_c tw_205 (gi_c tw_206 (gi_c tw_207 (gi_c tw_208 (gi_c tw_209 (gi_c tw_61 (gi_c tw_210 (gi_c tw_211 (gi_c tw_212 (gi_c tw_213 (gi_c tw_214 (gi_c tw_215 (gi_c tw_216 (gi_c tw_217 (gi_c tw_218 (gi_c tw_219 (gi_c tw_220 gi_n))))))))))))))))))))))))
theorem tw_222 : GW (.code yX7_gapNumerator cX7_gapNumerator 2 (some .long)) := ⟨in_3 (List.mem_of_getElem? (i := 9) rfl), rfl⟩
theorem tw_223 : GW (.methodLink RX7 155 yX3_numeratorAt) := ⟨in_2 (List.mem_of_getElem? (i := 120) (by decide +kernel)), rfl⟩
theorem tw_224 : GW (.instanceMethod yX3_numeratorAt) := ⟨in_2 (List.mem_of_getElem? (i := 121) (by decide +kernel)), rfl⟩
theorem tw_225 : GW (.selects RX3 yX3_numeratorAt yX3_numeratorAt) := ⟨in_2 (List.mem_of_getElem? (i := 122) (by decide +kernel)), rfl⟩
theorem tw_226 : GW (.code yX3_numeratorAt cX3_numeratorAt 4 (some .long)) := ⟨in_2 (List.mem_of_getElem? (i := 123) rfl), rfl⟩
theorem tw_227 : GW (.methodLink RX3 70 yX3_cornerUpTo) := ⟨in_2 (List.mem_of_getElem? (i := 124) (by decide +kernel)), rfl⟩
theorem tw_228 : GW (.instanceMethod yX3_cornerUpTo) := ⟨in_2 (List.mem_of_getElem? (i := 126) (by decide +kernel)), rfl⟩
theorem tw_229 : GW (.selects RX3 yX3_cornerUpTo yX3_cornerUpTo) := ⟨in_0 (List.mem_of_getElem? (i := 7) rfl), rfl⟩
theorem tw_230 : GW (.code yX3_cornerUpTo cX3_cornerUpTo 4 (some .int)) := ⟨in_2 (List.mem_of_getElem? (i := 127) rfl), rfl⟩
theorem tw_231 : GW (.methodLink RX3 73 yX3_cornerFrom) := ⟨in_2 (List.mem_of_getElem? (i := 128) (by decide +kernel)), rfl⟩
theorem tw_232 : GW (.instanceMethod yX3_cornerFrom) := ⟨in_2 (List.mem_of_getElem? (i := 130) (by decide +kernel)), rfl⟩
theorem tw_233 : GW (.selects RX3 yX3_cornerFrom yX3_cornerFrom) := ⟨in_0 (List.mem_of_getElem? (i := 8) rfl), rfl⟩
theorem tw_234 : GW (.code yX3_cornerFrom cX3_cornerFrom 4 (some .int)) := ⟨in_2 (List.mem_of_getElem? (i := 131) rfl), rfl⟩
theorem tw_235 : GW (.methodLink RX3 76 yX3_moment) := ⟨in_2 (List.mem_of_getElem? (i := 132) (by decide +kernel)), rfl⟩
theorem tw_236 : GW (.instanceMethod yX3_moment) := ⟨in_2 (List.mem_of_getElem? (i := 134) (by decide +kernel)), rfl⟩
theorem tw_237 : GW (.selects RX3 yX3_moment yX3_moment) := ⟨in_0 (List.mem_of_getElem? (i := 9) rfl), rfl⟩
theorem tw_238 : GW (.code yX3_moment cX3_moment 2 (some .long)) := ⟨in_2 (List.mem_of_getElem? (i := 135) rfl), rfl⟩
theorem tw_239 : GW (.methodLink RX3 63 yX1_momentOf) := ⟨in_2 (List.mem_of_getElem? (i := 136) (by decide +kernel)), rfl⟩
theorem tw_240 : GW (.methodLink RX7 159 yX3_denominatorAt) := ⟨in_2 (List.mem_of_getElem? (i := 137) (by decide +kernel)), rfl⟩
theorem tw_241 : GW (.instanceMethod yX3_denominatorAt) := ⟨in_2 (List.mem_of_getElem? (i := 138) (by decide +kernel)), rfl⟩
theorem tw_242 : GW (.selects RX3 yX3_denominatorAt yX3_denominatorAt) := ⟨in_2 (List.mem_of_getElem? (i := 139) (by decide +kernel)), rfl⟩
theorem tw_243 : GW (.code yX3_denominatorAt cX3_denominatorAt 4 (some .long)) := ⟨in_2 (List.mem_of_getElem? (i := 140) rfl), rfl⟩
theorem tw_244 : GW (.methodLink RX7 207 yX7_gapDenominator) := ⟨in_3 (List.mem_of_getElem? (i := 10) (by decide +kernel)), rfl⟩
theorem tw_245 : GW (.instanceMethod yX7_gapDenominator) := ⟨in_3 (List.mem_of_getElem? (i := 12) (by decide +kernel)), rfl⟩
theorem tl_wsX7_gap_r4 : GoodIn lw_tbl wsX7_gap_r4 := (gi_c tw_222 (gi_c tw_223 (gi_c tw_224 (gi_c tw_225 (gi_c tw_226 (gi_c tw_227 (gi_c tw_228 (gi_c tw_229 (gi_c tw_230 (gi_c tw_231 (gi_c tw_232 (gi_c tw_233 (gi_c tw_234 (gi_c tw_235 (gi_c tw_236 (gi_c tw_237 (gi_c tw_238 (gi_c tw_239 (gi_c tw_240 (gi_c tw_241 (gi_c tw_242 (gi_c tw_243 (gi_c tw_244 (gi_c tw_245 gi_n))))))))))))))))))))))))
theorem tw_247 : GW (.selects RX7 yX7_gapDenominator yX7_gapDenominator) := ⟨in_0 (List.mem_of_getElem? (i := 15) rfl), rfl⟩
theorem tw_248 : GW (.code yX7_gapDenominator cX7_gapDenominator 2 (some .long)) := ⟨in_3 (List.mem_of_getElem? (i := 13) rfl), rfl⟩
theorem tw_249 : GW (.methodLink RX7 162 yX7_lowest) := ⟨in_2 (List.mem_of_getElem? (i := 141) (by decide +kernel)), rfl⟩
theorem tw_250 : GW (.static yX7_lowest) := ⟨in_2 (List.mem_of_getElem? (i := 142) (by decide +kernel)), rfl⟩
theorem tw_251 : GW (.code yX7_lowest cX7_lowest 9 (some .long)) := ⟨in_2 (List.mem_of_getElem? (i := 143) rfl), rfl⟩
theorem tw_252 : GW (.methodLink RX7 247 Lib.MathLoose.abs_long.x) := ⟨in_2 (List.mem_of_getElem? (i := 144) (by decide +kernel)), rfl⟩
theorem tw_253 : GW (.static Lib.MathLoose.abs_long.x) := ⟨in_2 (List.mem_of_getElem? (i := 145) (by decide +kernel)), rfl⟩
theorem tw_254 : GW (.initialized "java/lang/Math") := ⟨in_1 (List.mem_of_getElem? (i := 9) (by decide +kernel)), rfl⟩
theorem tw_255 : GW (.code Lib.MathLoose.abs_long.x Lib.MathLoose.abs_long.code 2 (some .long)) := ⟨in_2 (List.mem_of_getElem? (i := 146) rfl), rfl⟩
theorem tw_256 : GW (.methodLink RX7 253 yX7_greatestDivisor) := ⟨in_2 (List.mem_of_getElem? (i := 147) (by decide +kernel)), rfl⟩
theorem tw_257 : GW (.static yX7_greatestDivisor) := ⟨in_2 (List.mem_of_getElem? (i := 148) (by decide +kernel)), rfl⟩
theorem tw_258 : GW (.code yX7_greatestDivisor cX7_greatestDivisor 11 (some .long)) := ⟨in_2 (List.mem_of_getElem? (i := 149) rfl), rfl⟩
theorem tl_wsX7_gap_r5 : GoodIn lw_tbl wsX7_gap_r5 := (gi_c tw_247 (gi_c tw_248 (gi_c tw_249 (gi_c tw_250 (gi_c tw_251 (gi_c tw_252 (gi_c tw_253 (gi_c tw_254 (gi_c tw_255 (gi_c tw_256 (gi_c tw_257 (gi_c tw_258 gi_n))))))))))))
theorem tl_wsX7_gap : GoodIn lw_tbl wsX7_gap := (gi_c tw_176 (goodIn_app (goodIn_app (goodIn_app (goodIn_app tl_wsX7_gap_r1 (goodIn_app tl_wsX7_gap_r2 (goodIn_app tl_wsX7_gap_r3 (goodIn_app tl_wsX7_gap_r4 tl_wsX7_gap_r5)))) tu_X7) tu_X1) tu_X3))
theorem tw_259 : GW (.methodLink RL 66 yX7_gap) := ⟨in_2 (List.mem_of_getElem? (i := 237) (by decide +kernel)), rfl⟩
theorem tw_260 : GW (.instanceMethod yX7_gap) := ⟨in_2 (List.mem_of_getElem? (i := 238) (by decide +kernel)), rfl⟩
theorem tw_261 : GW (.selects RX7 yX7_gap yX7_gap) := ⟨in_2 (List.mem_of_getElem? (i := 239) (by decide +kernel)), rfl⟩
theorem tv_X7_gap : GoodIn lw_tbl (wsV RL 66 RX7 yX7_gap wsX7_gap) := gi_v tw_104 tw_259 tw_260 tw_261 tl_wsX7_gap
theorem tw_263 : GW (.code yX7_kinks cX7_kinks 3 (some .int)) := ⟨in_2 (List.mem_of_getElem? (i := 219) rfl), rfl⟩
theorem tw_265 : GW (.methodLink RX7 148 yX7_hullOf) := ⟨in_2 (List.mem_of_getElem? (i := 87) (by decide +kernel)), rfl⟩
theorem tw_266 : GW (.instanceMethod yX7_hullOf) := ⟨in_2 (List.mem_of_getElem? (i := 89) (by decide +kernel)), rfl⟩
theorem tw_267 : GW (.selects RX7 yX7_hullOf yX7_hullOf) := ⟨in_0 (List.mem_of_getElem? (i := 2) rfl), rfl⟩
theorem tw_268 : GW (.code yX7_hullOf cX7_hullOf 2 (some (.object "ShapeFits$Hull"))) := ⟨in_2 (List.mem_of_getElem? (i := 90) rfl), rfl⟩
theorem tl_wsX7_kinks_r1 : GoodIn lw_tbl wsX7_kinks_r1 := (gi_c tw_100 (gi_c tw_102 (gi_c tw_103 (gi_c tw_104 (gi_c tw_105 (gi_c tw_265 (gi_c tw_266 (gi_c tw_267 (gi_c tw_268 (gi_c tw_30 (gi_c tw_31 (gi_c tw_180 (gi_c tw_181 (gi_c tw_182 (gi_c tw_29 (gi_c tw_183 (gi_c tw_184 (gi_c tw_76 (gi_c tw_75 (gi_c tw_185 (gi_c tw_107 (gi_c tw_108 (gi_c tw_20 (gi_c tw_109 gi_n))))))))))))))))))))))))
theorem tl_wsX7_kinks_r2 : GoodIn lw_tbl wsX7_kinks_r2 := (gi_c tw_110 (gi_c tw_187 (gi_c tw_188 (gi_c tw_189 (gi_c tw_190 (gi_c tw_78 (gi_c tw_191 (gi_c tw_192 (gi_c tw_193 (gi_c tw_194 (gi_c tw_195 (gi_c tw_129 (gi_c tw_130 (gi_c tw_131 (gi_c tw_132 (gi_c tw_133 (gi_c tw_134 (gi_c tw_135 (gi_c tw_64 (gi_c tw_136 (gi_c tw_137 (gi_c tw_138 (gi_c tw_139 (gi_c tw_63 gi_n))))))))))))))))))))))))
theorem tw_271 : GW (.methodLink RX7 195 yX3_innerCorners) := ⟨in_2 (List.mem_of_getElem? (i := 220) (by decide +kernel)), rfl⟩
theorem tw_272 : GW (.instanceMethod yX3_innerCorners) := ⟨in_2 (List.mem_of_getElem? (i := 221) (by decide +kernel)), rfl⟩
theorem tw_273 : GW (.selects RX3 yX3_innerCorners yX3_innerCorners) := ⟨in_2 (List.mem_of_getElem? (i := 222) (by decide +kernel)), rfl⟩
theorem tw_274 : GW (.code yX3_innerCorners cX3_innerCorners 1 (some .int)) := ⟨in_2 (List.mem_of_getElem? (i := 223) rfl), rfl⟩
theorem tw_275 : GW (.methodLink RX3 36 Lib.Math.max.name) := ⟨in_2 (List.mem_of_getElem? (i := 224) (by decide +kernel)), rfl⟩
theorem tw_276 : GW (.static Lib.Math.max.name) := ⟨in_2 (List.mem_of_getElem? (i := 225) (by decide +kernel)), rfl⟩
theorem tl_wsX7_kinks_r3 : GoodIn lw_tbl wsX7_kinks_r3 := (gi_c tw_196 (gi_c tw_198 (gi_c tw_199 (gi_c tw_200 (gi_c tw_201 (gi_c tw_202 (gi_c tw_203 (gi_c tw_204 (gi_c tw_205 (gi_c tw_206 (gi_c tw_207 (gi_c tw_208 (gi_c tw_209 (gi_c tw_61 (gi_c tw_210 (gi_c tw_211 (gi_c tw_212 (gi_c tw_213 (gi_c tw_271 (gi_c tw_272 (gi_c tw_273 (gi_c tw_274 (gi_c tw_275 (gi_c tw_276 gi_n))))))))))))))))))))))))
theorem tw_278 : GW (.code Lib.Math.max.name Lib.Math.max.code 2 (some .int)) := ⟨in_2 (List.mem_of_getElem? (i := 226) rfl), rfl⟩
theorem tl_wsX7_kinks_r4 : GoodIn lw_tbl wsX7_kinks_r4 := (gi_c tw_254 (gi_c tw_278 gi_n))
theorem tl_wsX7_kinks : GoodIn lw_tbl wsX7_kinks := (gi_c tw_263 (goodIn_app (goodIn_app (goodIn_app (goodIn_app tl_wsX7_kinks_r1 (goodIn_app tl_wsX7_kinks_r2 (goodIn_app tl_wsX7_kinks_r3 tl_wsX7_kinks_r4))) tu_X7) tu_X3) tu_X1))
theorem tw_279 : GW (.methodLink RL 56 yX7_kinks) := ⟨in_2 (List.mem_of_getElem? (i := 216) (by decide +kernel)), rfl⟩
theorem tw_280 : GW (.instanceMethod yX7_kinks) := ⟨in_2 (List.mem_of_getElem? (i := 217) (by decide +kernel)), rfl⟩
theorem tw_281 : GW (.selects RX7 yX7_kinks yX7_kinks) := ⟨in_2 (List.mem_of_getElem? (i := 218) (by decide +kernel)), rfl⟩
theorem tv_X7_kinks : GoodIn lw_tbl (wsV RL 56 RX7 yX7_kinks wsX7_kinks) := gi_v tw_104 tw_279 tw_280 tw_281 tl_wsX7_kinks
theorem tw_283 : GW (.code yX7_blocks cX7_blocks 2 (some .int)) := ⟨in_2 (List.mem_of_getElem? (i := 211) rfl), rfl⟩
theorem tw_285 : GW (.methodLink RX7 166 yX0_shape) := ⟨in_2 (List.mem_of_getElem? (i := 150) (by decide +kernel)), rfl⟩
theorem tw_286 : GW (.instanceMethod yX0_shape) := ⟨in_2 (List.mem_of_getElem? (i := 151) (by decide +kernel)), rfl⟩
theorem tw_287 : GW (.selects RX0 yX0_shape yX0_shape) := ⟨in_2 (List.mem_of_getElem? (i := 152) (by decide +kernel)), rfl⟩
theorem tw_288 : GW (.code yX0_shape cX0_shape 2 none) := ⟨in_2 (List.mem_of_getElem? (i := 153) rfl), rfl⟩
theorem tw_289 : GW (.methodLink RX0 44 yX0_bestTurn) := ⟨in_2 (List.mem_of_getElem? (i := 155) (by decide +kernel)), rfl⟩
theorem tl_wsX7_blocks_r1 : GoodIn lw_tbl wsX7_blocks_r1 := (gi_c tw_100 (gi_c tw_25 (gi_c tw_102 (gi_c tw_103 (gi_c tw_104 (gi_c tw_105 (gi_c tw_285 (gi_c tw_286 (gi_c tw_287 (gi_c tw_24 (gi_c tw_288 (gi_c tw_70 (gi_c tw_121 (gi_c tw_115 (gi_c tw_107 (gi_c tw_108 (gi_c tw_20 (gi_c tw_109 (gi_c tw_110 (gi_c tw_289 (gi_c tw_112 (gi_c tw_113 (gi_c tw_114 (gi_c tw_116 gi_n))))))))))))))))))))))))
theorem tl_wsX7_blocks_r2 : GoodIn lw_tbl wsX7_blocks_r2 := (gi_c tw_117 (gi_c tw_118 (gi_c tw_120 (gi_c tw_122 (gi_c tw_123 (gi_c tw_124 (gi_c tw_125 (gi_c tw_126 (gi_c tw_127 (gi_c tw_128 (gi_c tw_129 (gi_c tw_130 (gi_c tw_131 (gi_c tw_132 (gi_c tw_133 (gi_c tw_134 (gi_c tw_135 (gi_c tw_64 (gi_c tw_136 (gi_c tw_137 (gi_c tw_138 (gi_c tw_139 (gi_c tw_63 (gi_c tw_140 gi_n))))))))))))))))))))))))
theorem tl_wsX7_blocks_r3 : GoodIn lw_tbl wsX7_blocks_r3 := (gi_c tw_141 (gi_c tw_143 (gi_c tw_144 (gi_c tw_69 (gi_c tw_145 (gi_c tw_146 (gi_c tw_147 (gi_c tw_148 (gi_c tw_149 (gi_c tw_150 (gi_c tw_151 (gi_c tw_152 (gi_c tw_153 (gi_c tw_154 (gi_c tw_155 (gi_c tw_156 (gi_c tw_157 (gi_c tw_158 (gi_c tw_159 (gi_c tw_160 (gi_c tw_161 (gi_c tw_162 (gi_c tw_163 (gi_c tw_164 gi_n))))))))))))))))))))))))
theorem tw_293 : GW (.methodLink RX7 193 yX0_size) := ⟨in_2 (List.mem_of_getElem? (i := 212) (by decide +kernel)), rfl⟩
theorem tw_294 : GW (.instanceMethod yX0_size) := ⟨in_2 (List.mem_of_getElem? (i := 213) (by decide +kernel)), rfl⟩
theorem tw_295 : GW (.selects RX0 yX0_size yX0_size) := ⟨in_2 (List.mem_of_getElem? (i := 214) (by decide +kernel)), rfl⟩
theorem tw_296 : GW (.code yX0_size cX0_size 1 (some .int)) := ⟨in_2 (List.mem_of_getElem? (i := 215) rfl), rfl⟩
theorem tl_wsX7_blocks_r4 : GoodIn lw_tbl wsX7_blocks_r4 := (gi_c tw_165 (gi_c tw_167 (gi_c tw_168 (gi_c tw_169 (gi_c tw_170 (gi_c tw_171 (gi_c tw_293 (gi_c tw_294 (gi_c tw_295 (gi_c tw_296 gi_n))))))))))
theorem tl_wsX7_blocks : GoodIn lw_tbl wsX7_blocks := (gi_c tw_283 (goodIn_app (goodIn_app (goodIn_app (goodIn_app tl_wsX7_blocks_r1 (goodIn_app tl_wsX7_blocks_r2 (goodIn_app tl_wsX7_blocks_r3 tl_wsX7_blocks_r4))) tu_X7) tu_X0) tu_X1))
theorem tw_297 : GW (.methodLink RL 74 yX7_blocks) := ⟨in_2 (List.mem_of_getElem? (i := 208) (by decide +kernel)), rfl⟩
theorem tw_298 : GW (.instanceMethod yX7_blocks) := ⟨in_2 (List.mem_of_getElem? (i := 209) (by decide +kernel)), rfl⟩
theorem tw_299 : GW (.selects RX7 yX7_blocks yX7_blocks) := ⟨in_2 (List.mem_of_getElem? (i := 210) (by decide +kernel)), rfl⟩
theorem tv_X7_blocks : GoodIn lw_tbl (wsV RL 74 RX7 yX7_blocks wsX7_blocks) := gi_v tw_104 tw_297 tw_298 tw_299 tl_wsX7_blocks
theorem tw_301 : GW (.code yX7_points cX7_points 1 (some .int)) := ⟨in_2 (List.mem_of_getElem? (i := 45) rfl), rfl⟩
theorem tw_302 : GW (.methodLink RX7 74 yX5_size) := ⟨in_2 (List.mem_of_getElem? (i := 13) (by decide +kernel)), rfl⟩
theorem tw_303 : GW (.instanceMethod yX5_size) := ⟨in_1 (List.mem_of_getElem? (i := 238) (by decide +kernel)), rfl⟩
theorem tw_304 : GW (.selects RX5 yX5_size yX5_size) := ⟨in_1 (List.mem_of_getElem? (i := 239) (by decide +kernel)), rfl⟩
theorem tw_305 : GW (.code yX5_size cX5_size 1 (some .int)) := ⟨in_2 (List.mem_of_getElem? (i := 0) rfl), rfl⟩
theorem tw_306 : GW (.fieldLink RX5 21 "ShapeFits$PointRow" "count" "I") := ⟨in_1 (List.mem_of_getElem? (i := 27) (by decide +kernel)), rfl⟩
theorem tl_wsX7_points : GoodIn lw_tbl wsX7_points := (gi_c tw_301 (goodIn_app (goodIn_app (gi_c tw_9 (gi_c tw_302 (gi_c tw_303 (gi_c tw_304 (gi_c tw_8 (gi_c tw_305 (gi_c tw_306 gi_n))))))) tu_X7) tu_X5))
theorem tw_307 : GW (.methodLink RL 77 yX7_points) := ⟨in_2 (List.mem_of_getElem? (i := 42) (by decide +kernel)), rfl⟩
theorem tw_308 : GW (.instanceMethod yX7_points) := ⟨in_2 (List.mem_of_getElem? (i := 43) (by decide +kernel)), rfl⟩
theorem tw_309 : GW (.selects RX7 yX7_points yX7_points) := ⟨in_2 (List.mem_of_getElem? (i := 44) (by decide +kernel)), rfl⟩
theorem tv_X7_points : GoodIn lw_tbl (wsV RL 77 RX7 yX7_points wsX7_points) := gi_v tw_104 tw_307 tw_308 tw_309 tl_wsX7_points
theorem tw_311 : GW (.code yX7_remove cX7_remove 2 (some .int)) := ⟨in_1 (List.mem_of_getElem? (i := 194) rfl), rfl⟩
theorem tw_313 : GW (.methodLink RX7 90 yX5_has) := ⟨in_1 (List.mem_of_getElem? (i := 195) (by decide +kernel)), rfl⟩
theorem tw_314 : GW (.instanceMethod yX5_has) := ⟨in_1 (List.mem_of_getElem? (i := 196) (by decide +kernel)), rfl⟩
theorem tw_315 : GW (.selects RX5 yX5_has yX5_has) := ⟨in_1 (List.mem_of_getElem? (i := 197) (by decide +kernel)), rfl⟩
theorem tw_316 : GW (.code yX5_has cX5_has 2 (some .boolean)) := ⟨in_1 (List.mem_of_getElem? (i := 198) rfl), rfl⟩
theorem tw_317 : GW (.methodLink RX7 79 yX2_record) := ⟨in_1 (List.mem_of_getElem? (i := 200) (by decide +kernel)), rfl⟩
theorem tw_318 : GW (.instanceMethod yX2_record) := ⟨in_1 (List.mem_of_getElem? (i := 201) (by decide +kernel)), rfl⟩
theorem tw_319 : GW (.selects RX2 yX2_record yX2_record) := ⟨in_1 (List.mem_of_getElem? (i := 202) (by decide +kernel)), rfl⟩
theorem tw_320 : GW (.code yX2_record cX2_record 2 none) := ⟨in_1 (List.mem_of_getElem? (i := 203) rfl), rfl⟩
theorem tw_321 : GW (.fieldLink RX2 18 "ShapeFits$History" "count" "I") := ⟨in_1 (List.mem_of_getElem? (i := 73) (by decide +kernel)), rfl⟩
theorem tw_322 : GW (.methodLink RX2 22 yX2_forgetOldest) := ⟨in_1 (List.mem_of_getElem? (i := 204) (by decide +kernel)), rfl⟩
theorem tw_323 : GW (.instanceMethod yX2_forgetOldest) := ⟨in_1 (List.mem_of_getElem? (i := 206) (by decide +kernel)), rfl⟩
theorem tw_324 : GW (.selects RX2 yX2_forgetOldest yX2_forgetOldest) := ⟨in_0 (List.mem_of_getElem? (i := 0) rfl), rfl⟩
theorem tw_325 : GW (.code yX2_forgetOldest cX2_forgetOldest 3 none) := ⟨in_1 (List.mem_of_getElem? (i := 207) rfl), rfl⟩
theorem tw_326 : GW (.methodLink RX2 25 yX5_copyTo) := ⟨in_1 (List.mem_of_getElem? (i := 208) (by decide +kernel)), rfl⟩
theorem tw_327 : GW (.instanceMethod yX5_copyTo) := ⟨in_1 (List.mem_of_getElem? (i := 209) (by decide +kernel)), rfl⟩
theorem tw_328 : GW (.selects RX5 yX5_copyTo yX5_copyTo) := ⟨in_1 (List.mem_of_getElem? (i := 210) (by decide +kernel)), rfl⟩
theorem tl_wsX7_remove_r1 : GoodIn lw_tbl wsX7_remove_r1 := (gi_c tw_9 (gi_c tw_100 (gi_c tw_17 (gi_c tw_21 (gi_c tw_313 (gi_c tw_314 (gi_c tw_315 (gi_c tw_8 (gi_c tw_316 (gi_c tw_306 (gi_c tw_317 (gi_c tw_318 (gi_c tw_319 (gi_c tw_16 (gi_c tw_320 (gi_c tw_321 (gi_c tw_57 (gi_c tw_322 (gi_c tw_323 (gi_c tw_324 (gi_c tw_325 (gi_c tw_326 (gi_c tw_327 (gi_c tw_328 gi_n))))))))))))))))))))))))
theorem tw_330 : GW (.code yX5_copyTo cX5_copyTo 3 none) := ⟨in_1 (List.mem_of_getElem? (i := 211) rfl), rfl⟩
theorem tw_331 : GW (.methodLink RX5 29 yX5_empty) := ⟨in_1 (List.mem_of_getElem? (i := 212) (by decide +kernel)), rfl⟩
theorem tw_332 : GW (.instanceMethod yX5_empty) := ⟨in_1 (List.mem_of_getElem? (i := 213) (by decide +kernel)), rfl⟩
theorem tw_333 : GW (.selects RX5 yX5_empty yX5_empty) := ⟨in_1 (List.mem_of_getElem? (i := 214) (by decide +kernel)), rfl⟩
theorem tw_334 : GW (.code yX5_empty cX5_empty 1 none) := ⟨in_1 (List.mem_of_getElem? (i := 215) rfl), rfl⟩
theorem tw_335 : GW (.methodLink RX5 32 yX5_append) := ⟨in_1 (List.mem_of_getElem? (i := 216) (by decide +kernel)), rfl⟩
theorem tw_336 : GW (.instanceMethod yX5_append) := ⟨in_1 (List.mem_of_getElem? (i := 217) (by decide +kernel)), rfl⟩
theorem tw_337 : GW (.selects RX5 yX5_append yX5_append) := ⟨in_1 (List.mem_of_getElem? (i := 218) (by decide +kernel)), rfl⟩
theorem tw_338 : GW (.code yX5_append cX5_append 4 none) := ⟨in_1 (List.mem_of_getElem? (i := 219) rfl), rfl⟩
theorem tw_339 : GW (.methodLink RX7 94 yX5_drop) := ⟨in_1 (List.mem_of_getElem? (i := 220) (by decide +kernel)), rfl⟩
theorem tw_340 : GW (.instanceMethod yX5_drop) := ⟨in_1 (List.mem_of_getElem? (i := 221) (by decide +kernel)), rfl⟩
theorem tw_341 : GW (.selects RX5 yX5_drop yX5_drop) := ⟨in_1 (List.mem_of_getElem? (i := 222) (by decide +kernel)), rfl⟩
theorem tw_342 : GW (.code yX5_drop cX5_drop 3 none) := ⟨in_1 (List.mem_of_getElem? (i := 223) rfl), rfl⟩
theorem tw_343 : GW (.methodLink RX5 25 yX5_has) := ⟨in_1 (List.mem_of_getElem? (i := 224) (by decide +kernel)), rfl⟩
theorem tw_344 : GW (.methodLink RX7 87 yX1_gather) := ⟨in_1 (List.mem_of_getElem? (i := 225) (by decide +kernel)), rfl⟩
theorem tw_345 : GW (.instanceMethod yX1_gather) := ⟨in_1 (List.mem_of_getElem? (i := 226) (by decide +kernel)), rfl⟩
theorem tw_346 : GW (.selects RX1 yX1_gather yX1_gather) := ⟨in_1 (List.mem_of_getElem? (i := 227) (by decide +kernel)), rfl⟩
theorem tw_347 : GW (.code yX1_gather cX1_gather 4 none) := ⟨in_1 (List.mem_of_getElem? (i := 228) rfl), rfl⟩
theorem tl_wsX7_remove_r2 : GoodIn lw_tbl wsX7_remove_r2 := (gi_c tw_330 (gi_c tw_40 (gi_c tw_41 (gi_c tw_42 (gi_c tw_331 (gi_c tw_332 (gi_c tw_333 (gi_c tw_334 (gi_c tw_335 (gi_c tw_336 (gi_c tw_337 (gi_c tw_338 (gi_c tw_339 (gi_c tw_340 (gi_c tw_341 (gi_c tw_342 (gi_c tw_343 (gi_c tw_344 (gi_c tw_345 (gi_c tw_346 (gi_c tw_20 (gi_c tw_347 (gi_c tw_110 (gi_c tw_158 gi_n))))))))))))))))))))))))
theorem tw_349 : GW (.methodLink RX1 31 yX5_positionBehind) := ⟨in_1 (List.mem_of_getElem? (i := 229) (by decide +kernel)), rfl⟩
theorem tw_350 : GW (.instanceMethod yX5_positionBehind) := ⟨in_1 (List.mem_of_getElem? (i := 230) (by decide +kernel)), rfl⟩
theorem tw_351 : GW (.selects RX5 yX5_positionBehind yX5_positionBehind) := ⟨in_1 (List.mem_of_getElem? (i := 231) (by decide +kernel)), rfl⟩
theorem tw_352 : GW (.code yX5_positionBehind cX5_positionBehind 5 (some .int)) := ⟨in_1 (List.mem_of_getElem? (i := 232) rfl), rfl⟩
theorem tw_353 : GW (.methodLink RX1 37 yX1_gatherGroup) := ⟨in_1 (List.mem_of_getElem? (i := 233) (by decide +kernel)), rfl⟩
theorem tw_354 : GW (.instanceMethod yX1_gatherGroup) := ⟨in_1 (List.mem_of_getElem? (i := 235) (by decide +kernel)), rfl⟩
theorem tw_355 : GW (.selects RX1 yX1_gatherGroup yX1_gatherGroup) := ⟨in_0 (List.mem_of_getElem? (i := 1) rfl), rfl⟩
theorem tw_356 : GW (.code yX1_gatherGroup cX1_gatherGroup 8 none) := ⟨in_1 (List.mem_of_getElem? (i := 236) rfl), rfl⟩
theorem tw_357 : GW (.methodLink RX1 41 yX5_size) := ⟨in_1 (List.mem_of_getElem? (i := 237) (by decide +kernel)), rfl⟩
theorem tw_358 : GW (.methodLink RX1 45 yX5_positionOf) := ⟨in_2 (List.mem_of_getElem? (i := 1) (by decide +kernel)), rfl⟩
theorem tw_359 : GW (.instanceMethod yX5_positionOf) := ⟨in_2 (List.mem_of_getElem? (i := 2) (by decide +kernel)), rfl⟩
theorem tw_360 : GW (.selects RX5 yX5_positionOf yX5_positionOf) := ⟨in_2 (List.mem_of_getElem? (i := 3) (by decide +kernel)), rfl⟩
theorem tw_361 : GW (.code yX5_positionOf cX5_positionOf 2 (some .int)) := ⟨in_2 (List.mem_of_getElem? (i := 4) rfl), rfl⟩
theorem tw_362 : GW (.methodLink RX1 48 yX5_valueOf) := ⟨in_2 (List.mem_of_getElem? (i := 5) (by decide +kernel)), rfl⟩
theorem tw_363 : GW (.instanceMethod yX5_valueOf) := ⟨in_2 (List.mem_of_getElem? (i := 6) (by decide +kernel)), rfl⟩
theorem tw_364 : GW (.selects RX5 yX5_valueOf yX5_valueOf) := ⟨in_2 (List.mem_of_getElem? (i := 7) (by decide +kernel)), rfl⟩
theorem tw_365 : GW (.code yX5_valueOf cX5_valueOf 2 (some .int)) := ⟨in_2 (List.mem_of_getElem? (i := 8) rfl), rfl⟩
theorem tl_wsX7_remove_r3 : GoodIn lw_tbl wsX7_remove_r3 := (gi_c tw_349 (gi_c tw_350 (gi_c tw_351 (gi_c tw_352 (gi_c tw_353 (gi_c tw_354 (gi_c tw_355 (gi_c tw_356 (gi_c tw_63 (gi_c tw_64 (gi_c tw_61 (gi_c tw_62 (gi_c tw_357 (gi_c tw_303 (gi_c tw_304 (gi_c tw_305 (gi_c tw_358 (gi_c tw_359 (gi_c tw_360 (gi_c tw_361 (gi_c tw_362 (gi_c tw_363 (gi_c tw_364 (gi_c tw_365 gi_n))))))))))))))))))))))))
theorem tw_367 : GW (.methodLink RX1 51 yX5_weightOf) := ⟨in_2 (List.mem_of_getElem? (i := 9) (by decide +kernel)), rfl⟩
theorem tw_368 : GW (.instanceMethod yX5_weightOf) := ⟨in_2 (List.mem_of_getElem? (i := 10) (by decide +kernel)), rfl⟩
theorem tw_369 : GW (.selects RX5 yX5_weightOf yX5_weightOf) := ⟨in_2 (List.mem_of_getElem? (i := 11) (by decide +kernel)), rfl⟩
theorem tw_370 : GW (.code yX5_weightOf cX5_weightOf 2 (some .int)) := ⟨in_2 (List.mem_of_getElem? (i := 12) rfl), rfl⟩
theorem tl_wsX7_remove_r4 : GoodIn lw_tbl wsX7_remove_r4 := (gi_c tw_367 (gi_c tw_368 (gi_c tw_369 (gi_c tw_370 (gi_c tw_302 gi_n)))))
theorem tl_wsX7_remove : GoodIn lw_tbl wsX7_remove := (gi_c tw_311 (goodIn_app (goodIn_app (goodIn_app (goodIn_app (goodIn_app tl_wsX7_remove_r1 (goodIn_app tl_wsX7_remove_r2 (goodIn_app tl_wsX7_remove_r3 tl_wsX7_remove_r4))) tu_X7) tu_X5) tu_X2) tu_X1))
theorem tw_371 : GW (.methodLink RL 80 yX7_remove) := ⟨in_1 (List.mem_of_getElem? (i := 191) (by decide +kernel)), rfl⟩
theorem tw_372 : GW (.instanceMethod yX7_remove) := ⟨in_1 (List.mem_of_getElem? (i := 192) (by decide +kernel)), rfl⟩
theorem tw_373 : GW (.selects RX7 yX7_remove yX7_remove) := ⟨in_1 (List.mem_of_getElem? (i := 193) (by decide +kernel)), rfl⟩
theorem tv_X7_remove : GoodIn lw_tbl (wsV RL 80 RX7 yX7_remove wsX7_remove) := gi_v tw_104 tw_371 tw_372 tw_373 tl_wsX7_remove
theorem tw_375 : GW (.code yL_cell cL_cell 2 (some .int)) := ⟨in_3 (List.mem_of_getElem? (i := 16) rfl), rfl⟩
theorem tw_376 : GW (.constant RL 7 (15485959)) := ⟨in_3 (List.mem_of_getElem? (i := 17) (by decide +kernel)), rfl⟩
theorem tw_377 : GW (.constant RL 8 (2147483647)) := ⟨in_3 (List.mem_of_getElem? (i := 18) (by decide +kernel)), rfl⟩
theorem tl_wsL_cell : GoodIn lw_tbl wsL_cell := (gi_c tw_375 (gi_c tw_376 (gi_c tw_377 gi_n)))
theorem tw_378 : GW (.methodLink RL 9 yL_cell) := ⟨in_3 (List.mem_of_getElem? (i := 14) (by decide +kernel)), rfl⟩
theorem tw_379 : GW (.static yL_cell) := ⟨in_3 (List.mem_of_getElem? (i := 15) (by decide +kernel)), rfl⟩
theorem tw_380 : GW (.initialized RL) := ⟨in_1 (List.mem_of_getElem? (i := 0) (by decide +kernel)), rfl⟩
theorem tv_L_cell : GoodIn lw_tbl (va_wsS RL 9 yL_cell wsL_cell) := goodIn_app (gi_c tw_378 (gi_c tw_379 (gi_c tw_380 gi_n))) tl_wsL_cell
theorem tw_382 : GW (.code yL_adds cL_adds 6 none) := ⟨in_3 (List.mem_of_getElem? (i := 21) rfl), rfl⟩
theorem tw_384 : GW (.methodLink RL 15 yX7_add) := ⟨in_3 (List.mem_of_getElem? (i := 22) (by decide +kernel)), rfl⟩
theorem tw_385 : GW (.instanceMethod yX7_add) := ⟨in_3 (List.mem_of_getElem? (i := 23) (by decide +kernel)), rfl⟩
theorem tw_386 : GW (.selects RX7 yX7_add yX7_add) := ⟨in_3 (List.mem_of_getElem? (i := 24) (by decide +kernel)), rfl⟩
theorem tw_387 : GW (.code yX7_add cX7_add 4 (some .int)) := ⟨in_3 (List.mem_of_getElem? (i := 25) rfl), rfl⟩
theorem tw_388 : GW (.constant RX7 78 (-1000003)) := ⟨in_3 (List.mem_of_getElem? (i := 29) (by decide +kernel)), rfl⟩
theorem tw_389 : GW (.methodLink RX7 69 yX7_wrongValueOrWeight) := ⟨in_3 (List.mem_of_getElem? (i := 26) (by decide +kernel)), rfl⟩
theorem tw_390 : GW (.static yX7_wrongValueOrWeight) := ⟨in_3 (List.mem_of_getElem? (i := 27) (by decide +kernel)), rfl⟩
theorem tw_391 : GW (.code yX7_wrongValueOrWeight cX7_wrongValueOrWeight 2 (some .boolean)) := ⟨in_3 (List.mem_of_getElem? (i := 28) rfl), rfl⟩
theorem tl_wsL_adds_r1 : GoodIn lw_tbl wsL_adds_r1 := (gi_c tw_378 (gi_c tw_379 (gi_c tw_380 (gi_c tw_375 (gi_c tw_376 (gi_c tw_377 (gi_c tw_384 (gi_c tw_385 (gi_c tw_386 (gi_c tw_104 (gi_c tw_387 (gi_c tw_100 (gi_c tw_9 (gi_c tw_388 (gi_c tw_17 (gi_c tw_21 (gi_c tw_102 (gi_c tw_103 (gi_c tw_105 (gi_c tw_389 (gi_c tw_390 (gi_c tw_391 (gi_c tw_302 (gi_c tw_303 gi_n))))))))))))))))))))))))
theorem tl_wsL_adds_r2 : GoodIn lw_tbl wsL_adds_r2 := (gi_c tw_304 (gi_c tw_8 (gi_c tw_305 (gi_c tw_306 (gi_c tw_317 (gi_c tw_318 (gi_c tw_319 (gi_c tw_16 (gi_c tw_320 (gi_c tw_321 (gi_c tw_57 (gi_c tw_322 (gi_c tw_323 (gi_c tw_324 (gi_c tw_325 (gi_c tw_326 (gi_c tw_327 (gi_c tw_328 (gi_c tw_330 (gi_c tw_40 (gi_c tw_41 (gi_c tw_42 (gi_c tw_331 (gi_c tw_332 gi_n))))))))))))))))))))))))
theorem tw_394 : GW (.methodLink RX7 83 yX5_append) := ⟨in_3 (List.mem_of_getElem? (i := 30) (by decide +kernel)), rfl⟩
theorem tl_wsL_adds_r3 : GoodIn lw_tbl wsL_adds_r3 := (gi_c tw_333 (gi_c tw_334 (gi_c tw_335 (gi_c tw_336 (gi_c tw_337 (gi_c tw_338 (gi_c tw_394 (gi_c tw_344 (gi_c tw_345 (gi_c tw_346 (gi_c tw_20 (gi_c tw_347 (gi_c tw_110 (gi_c tw_158 (gi_c tw_349 (gi_c tw_350 (gi_c tw_351 (gi_c tw_352 (gi_c tw_353 (gi_c tw_354 (gi_c tw_355 (gi_c tw_356 (gi_c tw_63 (gi_c tw_64 gi_n))))))))))))))))))))))))
theorem tl_wsL_adds_r4 : GoodIn lw_tbl wsL_adds_r4 := (gi_c tw_61 (gi_c tw_62 (gi_c tw_357 (gi_c tw_358 (gi_c tw_359 (gi_c tw_360 (gi_c tw_361 (gi_c tw_343 (gi_c tw_314 (gi_c tw_315 (gi_c tw_316 (gi_c tw_362 (gi_c tw_363 (gi_c tw_364 (gi_c tw_365 (gi_c tw_367 (gi_c tw_368 (gi_c tw_369 (gi_c tw_370 gi_n)))))))))))))))))))
theorem tl_wsL_adds : GoodIn lw_tbl wsL_adds := (gi_c tw_382 (goodIn_app (goodIn_app (goodIn_app (goodIn_app (goodIn_app tl_wsL_adds_r1 (goodIn_app tl_wsL_adds_r2 (goodIn_app tl_wsL_adds_r3 tl_wsL_adds_r4))) tu_X7) tu_X5) tu_X2) tu_X1))
theorem tw_396 : GW (.methodLink RL 83 yL_adds) := ⟨in_3 (List.mem_of_getElem? (i := 19) (by decide +kernel)), rfl⟩
theorem tw_397 : GW (.static yL_adds) := ⟨in_3 (List.mem_of_getElem? (i := 20) (by decide +kernel)), rfl⟩
theorem tv_L_adds : GoodIn lw_tbl (va_wsS RL 83 yL_adds wsL_adds) := goodIn_app (gi_c tw_396 (gi_c tw_397 (gi_c tw_380 gi_n))) tl_wsL_adds
theorem tw_399 : GW (.code yL_turned cL_turned 10 (some .boolean)) := ⟨in_3 (List.mem_of_getElem? (i := 33) rfl), rfl⟩
theorem tl_wsL_turned_r1 : GoodIn lw_tbl wsL_turned_r1 := (gi_c tw_172 (gi_c tw_173 (gi_c tw_174 (gi_c tw_104 (gi_c tw_98 (gi_c tw_100 (gi_c tw_21 (gi_c tw_101 (gi_c tw_25 (gi_c tw_102 (gi_c tw_103 (gi_c tw_105 (gi_c tw_106 (gi_c tw_107 (gi_c tw_108 (gi_c tw_20 (gi_c tw_109 (gi_c tw_110 (gi_c tw_111 (gi_c tw_112 (gi_c tw_113 (gi_c tw_24 (gi_c tw_114 (gi_c tw_70 gi_n))))))))))))))))))))))))
theorem tl_wsL_turned_r2 : GoodIn lw_tbl wsL_turned_r2 := (gi_c tw_115 (gi_c tw_116 (gi_c tw_117 (gi_c tw_118 (gi_c tw_120 (gi_c tw_121 (gi_c tw_122 (gi_c tw_123 (gi_c tw_124 (gi_c tw_125 (gi_c tw_126 (gi_c tw_127 (gi_c tw_128 (gi_c tw_129 (gi_c tw_130 (gi_c tw_131 (gi_c tw_132 (gi_c tw_133 (gi_c tw_134 (gi_c tw_135 (gi_c tw_64 (gi_c tw_136 (gi_c tw_137 (gi_c tw_138 gi_n))))))))))))))))))))))))
theorem tl_wsL_turned_r3 : GoodIn lw_tbl wsL_turned_r3 := (gi_c tw_139 (gi_c tw_63 (gi_c tw_140 (gi_c tw_141 (gi_c tw_143 (gi_c tw_144 (gi_c tw_69 (gi_c tw_145 (gi_c tw_146 (gi_c tw_147 (gi_c tw_148 (gi_c tw_149 (gi_c tw_150 (gi_c tw_151 (gi_c tw_152 (gi_c tw_153 (gi_c tw_154 (gi_c tw_155 (gi_c tw_156 (gi_c tw_157 (gi_c tw_158 (gi_c tw_159 (gi_c tw_160 (gi_c tw_161 gi_n))))))))))))))))))))))))
theorem tw_404 : GW (.methodLink RL 37 yX7_groups) := ⟨in_2 (List.mem_of_getElem? (i := 46) (by decide +kernel)), rfl⟩
theorem tw_405 : GW (.instanceMethod yX7_groups) := ⟨in_2 (List.mem_of_getElem? (i := 47) (by decide +kernel)), rfl⟩
theorem tw_406 : GW (.selects RX7 yX7_groups yX7_groups) := ⟨in_2 (List.mem_of_getElem? (i := 48) (by decide +kernel)), rfl⟩
theorem tw_407 : GW (.code yX7_groups cX7_groups 1 (some .int)) := ⟨in_2 (List.mem_of_getElem? (i := 49) rfl), rfl⟩
theorem tw_408 : GW (.methodLink RL 41 yL_step) := ⟨in_3 (List.mem_of_getElem? (i := 34) (by decide +kernel)), rfl⟩
theorem tw_409 : GW (.static yL_step) := ⟨in_3 (List.mem_of_getElem? (i := 35) (by decide +kernel)), rfl⟩
theorem tw_410 : GW (.code yL_step cL_step 3 (some .long)) := ⟨in_3 (List.mem_of_getElem? (i := 36) rfl), rfl⟩
theorem tw_411 : GW (.methodLink RL 21 yX7_fit) := ⟨in_2 (List.mem_of_getElem? (i := 79) (by decide +kernel)), rfl⟩
theorem tw_412 : GW (.instanceMethod yX7_fit) := ⟨in_2 (List.mem_of_getElem? (i := 80) (by decide +kernel)), rfl⟩
theorem tw_413 : GW (.selects RX7 yX7_fit yX7_fit) := ⟨in_2 (List.mem_of_getElem? (i := 81) (by decide +kernel)), rfl⟩
theorem tw_414 : GW (.code yX7_fit cX7_fit 7 (some .long)) := ⟨in_2 (List.mem_of_getElem? (i := 82) rfl), rfl⟩
theorem tw_415 : GW (.methodLink RX7 132 yX1_has) := ⟨in_2 (List.mem_of_getElem? (i := 58) (by decide +kernel)), rfl⟩
theorem tl_wsL_turned_r4 : GoodIn lw_tbl wsL_turned_r4 := (gi_c tw_162 (gi_c tw_163 (gi_c tw_164 (gi_c tw_165 (gi_c tw_167 (gi_c tw_168 (gi_c tw_169 (gi_c tw_170 (gi_c tw_171 (gi_c tw_404 (gi_c tw_405 (gi_c tw_406 (gi_c tw_407 (gi_c tw_408 (gi_c tw_409 (gi_c tw_380 (gi_c tw_410 (gi_c tw_411 (gi_c tw_412 (gi_c tw_413 (gi_c tw_414 (gi_c tw_178 (gi_c tw_415 (gi_c tw_211 gi_n))))))))))))))))))))))))
theorem tw_417 : GW (.methodLink RX7 143 yX7_notFractionPart) := ⟨in_2 (List.mem_of_getElem? (i := 83) (by decide +kernel)), rfl⟩
theorem tw_418 : GW (.static yX7_notFractionPart) := ⟨in_2 (List.mem_of_getElem? (i := 84) (by decide +kernel)), rfl⟩
theorem tw_419 : GW (.code yX7_notFractionPart cX7_notFractionPart 1 (some .boolean)) := ⟨in_2 (List.mem_of_getElem? (i := 85) rfl), rfl⟩
theorem tl_wsL_turned_r5 : GoodIn lw_tbl wsL_turned_r5 := (gi_c tw_212 (gi_c tw_213 (gi_c tw_417 (gi_c tw_418 (gi_c tw_419 (gi_c tw_265 (gi_c tw_266 (gi_c tw_267 (gi_c tw_268 (gi_c tw_30 (gi_c tw_31 (gi_c tw_180 (gi_c tw_181 (gi_c tw_182 (gi_c tw_29 (gi_c tw_183 (gi_c tw_184 (gi_c tw_76 (gi_c tw_75 (gi_c tw_185 (gi_c tw_187 (gi_c tw_188 (gi_c tw_189 (gi_c tw_190 gi_n))))))))))))))))))))))))
theorem tl_wsL_turned_r6 : GoodIn lw_tbl wsL_turned_r6 := (gi_c tw_78 (gi_c tw_191 (gi_c tw_192 (gi_c tw_193 (gi_c tw_194 (gi_c tw_195 (gi_c tw_196 (gi_c tw_198 (gi_c tw_199 (gi_c tw_200 (gi_c tw_201 (gi_c tw_202 (gi_c tw_203 (gi_c tw_204 (gi_c tw_205 (gi_c tw_206 (gi_c tw_207 (gi_c tw_208 (gi_c tw_209 (gi_c tw_61 (gi_c tw_210 (gi_c tw_223 (gi_c tw_224 (gi_c tw_225 gi_n))))))))))))))))))))))))
theorem tl_wsL_turned_r7 : GoodIn lw_tbl wsL_turned_r7 := (gi_c tw_226 (gi_c tw_227 (gi_c tw_228 (gi_c tw_229 (gi_c tw_230 (gi_c tw_231 (gi_c tw_232 (gi_c tw_233 (gi_c tw_234 (gi_c tw_235 (gi_c tw_236 (gi_c tw_237 (gi_c tw_238 (gi_c tw_239 (gi_c tw_240 (gi_c tw_241 (gi_c tw_242 (gi_c tw_243 (gi_c tw_249 (gi_c tw_250 (gi_c tw_251 (gi_c tw_252 (gi_c tw_253 (gi_c tw_254 gi_n))))))))))))))))))))))))
theorem tw_423 : GW (.methodLink RX7 169 yX0_blockWith) := ⟨in_2 (List.mem_of_getElem? (i := 197) (by decide +kernel)), rfl⟩
theorem tw_424 : GW (.instanceMethod yX0_blockWith) := ⟨in_2 (List.mem_of_getElem? (i := 198) (by decide +kernel)), rfl⟩
theorem tw_425 : GW (.selects RX0 yX0_blockWith yX0_blockWith) := ⟨in_2 (List.mem_of_getElem? (i := 199) (by decide +kernel)), rfl⟩
theorem tw_426 : GW (.code yX0_blockWith cX0_blockWith 4 (some .int)) := ⟨in_2 (List.mem_of_getElem? (i := 200) rfl), rfl⟩
theorem tw_427 : GW (.methodLink RX7 172 yX0_firstOf) := ⟨in_2 (List.mem_of_getElem? (i := 201) (by decide +kernel)), rfl⟩
theorem tw_428 : GW (.methodLink RX7 175 yX0_lastOf) := ⟨in_2 (List.mem_of_getElem? (i := 202) (by decide +kernel)), rfl⟩
theorem tw_429 : GW (.methodLink RX7 137 yX1_momentOf) := ⟨in_2 (List.mem_of_getElem? (i := 71) (by decide +kernel)), rfl⟩
theorem tw_430 : GW (.methodLink RX7 134 yX1_weightOf) := ⟨in_2 (List.mem_of_getElem? (i := 67) (by decide +kernel)), rfl⟩
theorem tw_431 : GW (.methodLink RL 45 yX7_turnError) := ⟨in_3 (List.mem_of_getElem? (i := 37) (by decide +kernel)), rfl⟩
theorem tw_432 : GW (.instanceMethod yX7_turnError) := ⟨in_3 (List.mem_of_getElem? (i := 38) (by decide +kernel)), rfl⟩
theorem tw_433 : GW (.selects RX7 yX7_turnError yX7_turnError) := ⟨in_3 (List.mem_of_getElem? (i := 39) (by decide +kernel)), rfl⟩
theorem tw_434 : GW (.code yX7_turnError cX7_turnError 4 (some .long)) := ⟨in_3 (List.mem_of_getElem? (i := 40) rfl), rfl⟩
theorem tw_435 : GW (.constantLong RX7 184 (5354228880)) := ⟨in_3 (List.mem_of_getElem? (i := 43) (by decide +kernel)), rfl⟩
theorem tw_436 : GW (.methodLink RX7 189 yX0_shapeWithTurn) := ⟨in_3 (List.mem_of_getElem? (i := 41) (by decide +kernel)), rfl⟩
theorem tw_437 : GW (.methodLink RX7 180 yX0_commonError) := ⟨in_3 (List.mem_of_getElem? (i := 42) (by decide +kernel)), rfl⟩
theorem tl_wsL_turned_r8 : GoodIn lw_tbl wsL_turned_r8 := (gi_c tw_255 (gi_c tw_256 (gi_c tw_257 (gi_c tw_258 (gi_c tw_285 (gi_c tw_286 (gi_c tw_287 (gi_c tw_288 (gi_c tw_289 (gi_c tw_423 (gi_c tw_424 (gi_c tw_425 (gi_c tw_426 (gi_c tw_427 (gi_c tw_428 (gi_c tw_429 (gi_c tw_430 (gi_c tw_431 (gi_c tw_432 (gi_c tw_433 (gi_c tw_434 (gi_c tw_435 (gi_c tw_436 (gi_c tw_437 gi_n))))))))))))))))))))))))
theorem tw_439 : GW (.methodLink RL 48 yX7_error) := ⟨in_3 (List.mem_of_getElem? (i := 44) (by decide +kernel)), rfl⟩
theorem tw_440 : GW (.instanceMethod yX7_error) := ⟨in_3 (List.mem_of_getElem? (i := 45) (by decide +kernel)), rfl⟩
theorem tw_441 : GW (.selects RX7 yX7_error yX7_error) := ⟨in_3 (List.mem_of_getElem? (i := 46) (by decide +kernel)), rfl⟩
theorem tw_442 : GW (.code yX7_error cX7_error 3 (some .long)) := ⟨in_3 (List.mem_of_getElem? (i := 47) rfl), rfl⟩
theorem tw_443 : GW (.methodLink RL 52 yL_isLess) := ⟨in_3 (List.mem_of_getElem? (i := 48) (by decide +kernel)), rfl⟩
theorem tw_444 : GW (.static yL_isLess) := ⟨in_3 (List.mem_of_getElem? (i := 49) (by decide +kernel)), rfl⟩
theorem tw_445 : GW (.code yL_isLess cL_isLess 16 (some .boolean)) := ⟨in_3 (List.mem_of_getElem? (i := 50) rfl), rfl⟩
theorem tw_446 : GW (.methodLink RL 29 yL_floor) := ⟨in_3 (List.mem_of_getElem? (i := 51) (by decide +kernel)), rfl⟩
theorem tw_447 : GW (.static yL_floor) := ⟨in_3 (List.mem_of_getElem? (i := 52) (by decide +kernel)), rfl⟩
theorem tw_448 : GW (.code yL_floor cL_floor 6 (some .long)) := ⟨in_3 (List.mem_of_getElem? (i := 53) rfl), rfl⟩
theorem tl_wsL_turned_r9 : GoodIn lw_tbl wsL_turned_r9 := (gi_c tw_439 (gi_c tw_440 (gi_c tw_441 (gi_c tw_442 (gi_c tw_179 (gi_c tw_443 (gi_c tw_444 (gi_c tw_445 (gi_c tw_446 (gi_c tw_447 (gi_c tw_448 gi_n)))))))))))
theorem tl_wsL_turned : GoodIn lw_tbl wsL_turned := (gi_c tw_399 (goodIn_app (goodIn_app (goodIn_app (goodIn_app (goodIn_app tl_wsL_turned_r1 (goodIn_app tl_wsL_turned_r2 (goodIn_app tl_wsL_turned_r3 (goodIn_app tl_wsL_turned_r4 (goodIn_app tl_wsL_turned_r5 (goodIn_app tl_wsL_turned_r6 (goodIn_app tl_wsL_turned_r7 (goodIn_app tl_wsL_turned_r8 tl_wsL_turned_r9)))))))) tu_X7) tu_X1) tu_X0) tu_X3))
theorem tw_449 : GW (.methodLink RL 87 yL_turned) := ⟨in_3 (List.mem_of_getElem? (i := 31) (by decide +kernel)), rfl⟩
theorem tw_450 : GW (.static yL_turned) := ⟨in_3 (List.mem_of_getElem? (i := 32) (by decide +kernel)), rfl⟩
theorem tv_L_turned : GoodIn lw_tbl (va_wsS RL 87 yL_turned wsL_turned) := goodIn_app (gi_c tw_449 (gi_c tw_450 (gi_c tw_380 gi_n))) tl_wsL_turned
theorem tw_452 : GW (.code yL_bent cL_bent 15 (some .boolean)) := ⟨in_3 (List.mem_of_getElem? (i := 56) rfl), rfl⟩
theorem tw_454 : GW (.constant RL 62 (-1000004)) := ⟨in_3 (List.mem_of_getElem? (i := 57) (by decide +kernel)), rfl⟩
theorem tl_wsL_bent_r1 : GoodIn lw_tbl wsL_bent_r1 := (gi_c tw_454 (gi_c tw_404 (gi_c tw_405 (gi_c tw_406 (gi_c tw_104 (gi_c tw_407 (gi_c tw_21 (gi_c tw_106 (gi_c tw_107 (gi_c tw_108 (gi_c tw_20 (gi_c tw_109 (gi_c tw_110 (gi_c tw_279 (gi_c tw_280 (gi_c tw_281 (gi_c tw_263 (gi_c tw_100 (gi_c tw_102 (gi_c tw_103 (gi_c tw_105 (gi_c tw_265 (gi_c tw_266 (gi_c tw_267 gi_n))))))))))))))))))))))))
theorem tl_wsL_bent_r2 : GoodIn lw_tbl wsL_bent_r2 := (gi_c tw_268 (gi_c tw_30 (gi_c tw_31 (gi_c tw_180 (gi_c tw_181 (gi_c tw_182 (gi_c tw_29 (gi_c tw_183 (gi_c tw_184 (gi_c tw_76 (gi_c tw_75 (gi_c tw_185 (gi_c tw_187 (gi_c tw_188 (gi_c tw_189 (gi_c tw_190 (gi_c tw_78 (gi_c tw_191 (gi_c tw_192 (gi_c tw_193 (gi_c tw_194 (gi_c tw_195 (gi_c tw_129 (gi_c tw_130 gi_n))))))))))))))))))))))))
theorem tl_wsL_bent_r3 : GoodIn lw_tbl wsL_bent_r3 := (gi_c tw_131 (gi_c tw_132 (gi_c tw_133 (gi_c tw_134 (gi_c tw_135 (gi_c tw_64 (gi_c tw_136 (gi_c tw_137 (gi_c tw_138 (gi_c tw_139 (gi_c tw_63 (gi_c tw_196 (gi_c tw_198 (gi_c tw_199 (gi_c tw_200 (gi_c tw_201 (gi_c tw_202 (gi_c tw_203 (gi_c tw_204 (gi_c tw_205 (gi_c tw_206 (gi_c tw_207 (gi_c tw_208 (gi_c tw_209 gi_n))))))))))))))))))))))))
theorem tw_458 : GW (.methodLink RL 59 yX7_kinkAt) := ⟨in_2 (List.mem_of_getElem? (i := 227) (by decide +kernel)), rfl⟩
theorem tw_459 : GW (.instanceMethod yX7_kinkAt) := ⟨in_2 (List.mem_of_getElem? (i := 228) (by decide +kernel)), rfl⟩
theorem tw_460 : GW (.selects RX7 yX7_kinkAt yX7_kinkAt) := ⟨in_2 (List.mem_of_getElem? (i := 229) (by decide +kernel)), rfl⟩
theorem tw_461 : GW (.code yX7_kinkAt cX7_kinkAt 4 (some .int)) := ⟨in_2 (List.mem_of_getElem? (i := 230) rfl), rfl⟩
theorem tw_462 : GW (.constant RX7 194 (-1000004)) := ⟨in_2 (List.mem_of_getElem? (i := 231) (by decide +kernel)), rfl⟩
theorem tw_463 : GW (.methodLink RX7 198 yX3_innerCorner) := ⟨in_2 (List.mem_of_getElem? (i := 232) (by decide +kernel)), rfl⟩
theorem tw_464 : GW (.instanceMethod yX3_innerCorner) := ⟨in_2 (List.mem_of_getElem? (i := 233) (by decide +kernel)), rfl⟩
theorem tw_465 : GW (.selects RX3 yX3_innerCorner yX3_innerCorner) := ⟨in_2 (List.mem_of_getElem? (i := 234) (by decide +kernel)), rfl⟩
theorem tw_466 : GW (.code yX3_innerCorner cX3_innerCorner 2 (some .int)) := ⟨in_2 (List.mem_of_getElem? (i := 235) rfl), rfl⟩
theorem tw_467 : GW (.methodLink RX3 42 yX3_innerCorners) := ⟨in_2 (List.mem_of_getElem? (i := 236) (by decide +kernel)), rfl⟩
theorem tw_468 : GW (.methodLink RL 63 yL_against) := ⟨in_3 (List.mem_of_getElem? (i := 58) (by decide +kernel)), rfl⟩
theorem tl_wsL_bent_r4 : GoodIn lw_tbl wsL_bent_r4 := (gi_c tw_61 (gi_c tw_210 (gi_c tw_211 (gi_c tw_212 (gi_c tw_213 (gi_c tw_271 (gi_c tw_272 (gi_c tw_273 (gi_c tw_274 (gi_c tw_275 (gi_c tw_276 (gi_c tw_254 (gi_c tw_278 (gi_c tw_458 (gi_c tw_459 (gi_c tw_460 (gi_c tw_461 (gi_c tw_462 (gi_c tw_463 (gi_c tw_464 (gi_c tw_465 (gi_c tw_466 (gi_c tw_467 (gi_c tw_468 gi_n))))))))))))))))))))))))
theorem tw_470 : GW (.static yL_against) := ⟨in_3 (List.mem_of_getElem? (i := 59) (by decide +kernel)), rfl⟩
theorem tw_471 : GW (.code yL_against cL_against 3 (some .long)) := ⟨in_3 (List.mem_of_getElem? (i := 60) rfl), rfl⟩
theorem tl_wsL_bent_r5 : GoodIn lw_tbl wsL_bent_r5 := (gi_c tw_470 (gi_c tw_380 (gi_c tw_471 (gi_c tw_411 (gi_c tw_412 (gi_c tw_413 (gi_c tw_414 (gi_c tw_178 (gi_c tw_25 (gi_c tw_415 (gi_c tw_417 (gi_c tw_418 (gi_c tw_419 (gi_c tw_223 (gi_c tw_224 (gi_c tw_225 (gi_c tw_226 (gi_c tw_227 (gi_c tw_228 (gi_c tw_229 (gi_c tw_230 (gi_c tw_231 (gi_c tw_232 (gi_c tw_233 gi_n))))))))))))))))))))))))
theorem tl_wsL_bent_r6 : GoodIn lw_tbl wsL_bent_r6 := (gi_c tw_234 (gi_c tw_235 (gi_c tw_236 (gi_c tw_237 (gi_c tw_238 (gi_c tw_239 (gi_c tw_240 (gi_c tw_241 (gi_c tw_242 (gi_c tw_243 (gi_c tw_249 (gi_c tw_250 (gi_c tw_251 (gi_c tw_252 (gi_c tw_253 (gi_c tw_255 (gi_c tw_256 (gi_c tw_257 (gi_c tw_258 (gi_c tw_285 (gi_c tw_286 (gi_c tw_287 (gi_c tw_24 (gi_c tw_288 gi_n))))))))))))))))))))))))
theorem tl_wsL_bent_r7 : GoodIn lw_tbl wsL_bent_r7 := (gi_c tw_70 (gi_c tw_121 (gi_c tw_115 (gi_c tw_289 (gi_c tw_112 (gi_c tw_113 (gi_c tw_114 (gi_c tw_116 (gi_c tw_117 (gi_c tw_118 (gi_c tw_120 (gi_c tw_122 (gi_c tw_123 (gi_c tw_124 (gi_c tw_125 (gi_c tw_126 (gi_c tw_127 (gi_c tw_128 (gi_c tw_140 (gi_c tw_141 (gi_c tw_143 (gi_c tw_144 (gi_c tw_69 (gi_c tw_145 gi_n))))))))))))))))))))))))
theorem tl_wsL_bent_r8 : GoodIn lw_tbl wsL_bent_r8 := (gi_c tw_146 (gi_c tw_147 (gi_c tw_148 (gi_c tw_149 (gi_c tw_150 (gi_c tw_151 (gi_c tw_152 (gi_c tw_153 (gi_c tw_154 (gi_c tw_155 (gi_c tw_156 (gi_c tw_157 (gi_c tw_158 (gi_c tw_159 (gi_c tw_160 (gi_c tw_161 (gi_c tw_162 (gi_c tw_163 (gi_c tw_164 (gi_c tw_165 (gi_c tw_167 (gi_c tw_168 (gi_c tw_169 (gi_c tw_170 gi_n))))))))))))))))))))))))
theorem tw_476 : GW (.methodLink RL 25 yX7_groupInfo) := ⟨in_2 (List.mem_of_getElem? (i := 54) (by decide +kernel)), rfl⟩
theorem tw_477 : GW (.instanceMethod yX7_groupInfo) := ⟨in_2 (List.mem_of_getElem? (i := 55) (by decide +kernel)), rfl⟩
theorem tw_478 : GW (.selects RX7 yX7_groupInfo yX7_groupInfo) := ⟨in_2 (List.mem_of_getElem? (i := 56) (by decide +kernel)), rfl⟩
theorem tw_479 : GW (.code yX7_groupInfo cX7_groupInfo 3 (some .int)) := ⟨in_2 (List.mem_of_getElem? (i := 57) rfl), rfl⟩
theorem tw_480 : GW (.methodLink RX7 133 yX1_positionOf) := ⟨in_2 (List.mem_of_getElem? (i := 62) (by decide +kernel)), rfl⟩
theorem tw_481 : GW (.methodLink RX7 140 yX1_membersOf) := ⟨in_2 (List.mem_of_getElem? (i := 75) (by decide +kernel)), rfl⟩
theorem tw_482 : GW (.instanceMethod yX1_membersOf) := ⟨in_2 (List.mem_of_getElem? (i := 76) (by decide +kernel)), rfl⟩
theorem tw_483 : GW (.selects RX1 yX1_membersOf yX1_membersOf) := ⟨in_2 (List.mem_of_getElem? (i := 77) (by decide +kernel)), rfl⟩
theorem tw_484 : GW (.code yX1_membersOf cX1_membersOf 2 (some .int)) := ⟨in_2 (List.mem_of_getElem? (i := 78) rfl), rfl⟩
theorem tl_wsL_bent_r9 : GoodIn lw_tbl wsL_bent_r9 := (gi_c tw_171 (gi_c tw_423 (gi_c tw_424 (gi_c tw_425 (gi_c tw_426 (gi_c tw_427 (gi_c tw_428 (gi_c tw_429 (gi_c tw_430 (gi_c tw_476 (gi_c tw_477 (gi_c tw_478 (gi_c tw_479 (gi_c tw_480 (gi_c tw_481 (gi_c tw_482 (gi_c tw_483 (gi_c tw_484 (gi_c tw_62 (gi_c tw_408 (gi_c tw_409 (gi_c tw_410 gi_n))))))))))))))))))))))
theorem tl_wsL_bent : GoodIn lw_tbl wsL_bent := (gi_c tw_452 (goodIn_app (goodIn_app (goodIn_app (goodIn_app (goodIn_app tl_wsL_bent_r1 (goodIn_app tl_wsL_bent_r2 (goodIn_app tl_wsL_bent_r3 (goodIn_app tl_wsL_bent_r4 (goodIn_app tl_wsL_bent_r5 (goodIn_app tl_wsL_bent_r6 (goodIn_app tl_wsL_bent_r7 (goodIn_app tl_wsL_bent_r8 tl_wsL_bent_r9)))))))) tu_X7) tu_X1) tu_X3) tu_X0))
theorem tw_485 : GW (.methodLink RL 91 yL_bent) := ⟨in_3 (List.mem_of_getElem? (i := 54) (by decide +kernel)), rfl⟩
theorem tw_486 : GW (.static yL_bent) := ⟨in_3 (List.mem_of_getElem? (i := 55) (by decide +kernel)), rfl⟩
theorem tv_L_bent : GoodIn lw_tbl (va_wsS RL 91 yL_bent wsL_bent) := goodIn_app (gi_c tw_485 (gi_c tw_486 (gi_c tw_380 gi_n))) tl_wsL_bent
theorem tw_488 : GW (.code yL_gap cL_gap 10 (some .boolean)) := ⟨in_3 (List.mem_of_getElem? (i := 63) rfl), rfl⟩
theorem tl_wsL_gap_r1 : GoodIn lw_tbl wsL_gap_r1 := (gi_c tw_259 (gi_c tw_260 (gi_c tw_261 (gi_c tw_104 (gi_c tw_176 (gi_c tw_178 (gi_c tw_21 (gi_c tw_179 (gi_c tw_30 (gi_c tw_31 (gi_c tw_102 (gi_c tw_103 (gi_c tw_105 (gi_c tw_106 (gi_c tw_107 (gi_c tw_108 (gi_c tw_20 (gi_c tw_109 (gi_c tw_110 (gi_c tw_180 (gi_c tw_181 (gi_c tw_182 (gi_c tw_29 (gi_c tw_183 gi_n))))))))))))))))))))))))
theorem tl_wsL_gap_r2 : GoodIn lw_tbl wsL_gap_r2 := (gi_c tw_184 (gi_c tw_76 (gi_c tw_75 (gi_c tw_185 (gi_c tw_187 (gi_c tw_188 (gi_c tw_189 (gi_c tw_190 (gi_c tw_78 (gi_c tw_191 (gi_c tw_192 (gi_c tw_193 (gi_c tw_194 (gi_c tw_195 (gi_c tw_129 (gi_c tw_130 (gi_c tw_131 (gi_c tw_132 (gi_c tw_133 (gi_c tw_134 (gi_c tw_135 (gi_c tw_64 (gi_c tw_136 (gi_c tw_137 gi_n))))))))))))))))))))))))
theorem tl_wsL_gap_r3 : GoodIn lw_tbl wsL_gap_r3 := (gi_c tw_138 (gi_c tw_139 (gi_c tw_63 (gi_c tw_196 (gi_c tw_198 (gi_c tw_199 (gi_c tw_200 (gi_c tw_201 (gi_c tw_202 (gi_c tw_203 (gi_c tw_204 (gi_c tw_205 (gi_c tw_206 (gi_c tw_207 (gi_c tw_208 (gi_c tw_209 (gi_c tw_61 (gi_c tw_210 (gi_c tw_211 (gi_c tw_212 (gi_c tw_213 (gi_c tw_214 (gi_c tw_215 (gi_c tw_216 gi_n))))))))))))))))))))))))
theorem tl_wsL_gap_r4 : GoodIn lw_tbl wsL_gap_r4 := (gi_c tw_217 (gi_c tw_218 (gi_c tw_219 (gi_c tw_220 (gi_c tw_222 (gi_c tw_223 (gi_c tw_224 (gi_c tw_225 (gi_c tw_226 (gi_c tw_227 (gi_c tw_228 (gi_c tw_229 (gi_c tw_230 (gi_c tw_231 (gi_c tw_232 (gi_c tw_233 (gi_c tw_234 (gi_c tw_235 (gi_c tw_236 (gi_c tw_237 (gi_c tw_238 (gi_c tw_239 (gi_c tw_240 (gi_c tw_241 gi_n))))))))))))))))))))))))
theorem tl_wsL_gap_r5 : GoodIn lw_tbl wsL_gap_r5 := (gi_c tw_242 (gi_c tw_243 (gi_c tw_244 (gi_c tw_245 (gi_c tw_247 (gi_c tw_248 (gi_c tw_249 (gi_c tw_250 (gi_c tw_251 (gi_c tw_252 (gi_c tw_253 (gi_c tw_254 (gi_c tw_255 (gi_c tw_256 (gi_c tw_257 (gi_c tw_258 (gi_c tw_404 (gi_c tw_405 (gi_c tw_406 (gi_c tw_407 (gi_c tw_411 (gi_c tw_412 (gi_c tw_413 (gi_c tw_414 gi_n))))))))))))))))))))))))
theorem tl_wsL_gap_r6 : GoodIn lw_tbl wsL_gap_r6 := (gi_c tw_25 (gi_c tw_415 (gi_c tw_417 (gi_c tw_418 (gi_c tw_419 (gi_c tw_265 (gi_c tw_266 (gi_c tw_267 (gi_c tw_268 (gi_c tw_285 (gi_c tw_286 (gi_c tw_287 (gi_c tw_24 (gi_c tw_288 (gi_c tw_70 (gi_c tw_121 (gi_c tw_115 (gi_c tw_289 (gi_c tw_112 (gi_c tw_113 (gi_c tw_114 (gi_c tw_116 (gi_c tw_117 (gi_c tw_118 gi_n))))))))))))))))))))))))
theorem tl_wsL_gap_r7 : GoodIn lw_tbl wsL_gap_r7 := (gi_c tw_120 (gi_c tw_122 (gi_c tw_123 (gi_c tw_124 (gi_c tw_125 (gi_c tw_126 (gi_c tw_127 (gi_c tw_128 (gi_c tw_140 (gi_c tw_141 (gi_c tw_143 (gi_c tw_144 (gi_c tw_69 (gi_c tw_145 (gi_c tw_146 (gi_c tw_147 (gi_c tw_148 (gi_c tw_149 (gi_c tw_150 (gi_c tw_151 (gi_c tw_152 (gi_c tw_153 (gi_c tw_154 (gi_c tw_155 gi_n))))))))))))))))))))))))
theorem tl_wsL_gap_r8 : GoodIn lw_tbl wsL_gap_r8 := (gi_c tw_156 (gi_c tw_157 (gi_c tw_158 (gi_c tw_159 (gi_c tw_160 (gi_c tw_161 (gi_c tw_162 (gi_c tw_163 (gi_c tw_164 (gi_c tw_165 (gi_c tw_167 (gi_c tw_168 (gi_c tw_169 (gi_c tw_170 (gi_c tw_171 (gi_c tw_423 (gi_c tw_424 (gi_c tw_425 (gi_c tw_426 (gi_c tw_427 (gi_c tw_428 (gi_c tw_429 (gi_c tw_430 (gi_c tw_443 gi_n))))))))))))))))))))))))
theorem tl_wsL_gap_r9 : GoodIn lw_tbl wsL_gap_r9 := (gi_c tw_444 (gi_c tw_380 (gi_c tw_445 (gi_c tw_446 (gi_c tw_447 (gi_c tw_448 gi_n))))))
theorem tl_wsL_gap : GoodIn lw_tbl wsL_gap := (gi_c tw_488 (goodIn_app (goodIn_app (goodIn_app (goodIn_app (goodIn_app tl_wsL_gap_r1 (goodIn_app tl_wsL_gap_r2 (goodIn_app tl_wsL_gap_r3 (goodIn_app tl_wsL_gap_r4 (goodIn_app tl_wsL_gap_r5 (goodIn_app tl_wsL_gap_r6 (goodIn_app tl_wsL_gap_r7 (goodIn_app tl_wsL_gap_r8 tl_wsL_gap_r9)))))))) tu_X7) tu_X1) tu_X3) tu_X0))
theorem tw_498 : GW (.methodLink RL 94 yL_gap) := ⟨in_3 (List.mem_of_getElem? (i := 61) (by decide +kernel)), rfl⟩
theorem tw_499 : GW (.static yL_gap) := ⟨in_3 (List.mem_of_getElem? (i := 62) (by decide +kernel)), rfl⟩
theorem tv_L_gap : GoodIn lw_tbl (va_wsS RL 94 yL_gap wsL_gap) := goodIn_app (gi_c tw_498 (gi_c tw_499 (gi_c tw_380 gi_n))) tl_wsL_gap
theorem tl_wsX7_groups : GoodIn lw_tbl wsX7_groups := (gi_c tw_407 (goodIn_app (goodIn_app (gi_c tw_21 (gi_c tw_106 (gi_c tw_107 (gi_c tw_108 (gi_c tw_20 (gi_c tw_109 (gi_c tw_110 gi_n))))))) tu_X7) tu_X1))
theorem tv_X7_groups : GoodIn lw_tbl (wsV RL 37 RX7 yX7_groups wsX7_groups) := gi_v tw_104 tw_404 tw_405 tw_406 tl_wsX7_groups
theorem tl_wsX7_fit_r1 : GoodIn lw_tbl wsX7_fit_r1 := (gi_c tw_21 (gi_c tw_178 (gi_c tw_25 (gi_c tw_102 (gi_c tw_103 (gi_c tw_104 (gi_c tw_105 (gi_c tw_415 (gi_c tw_211 (gi_c tw_212 (gi_c tw_20 (gi_c tw_213 (gi_c tw_110 (gi_c tw_417 (gi_c tw_418 (gi_c tw_419 (gi_c tw_265 (gi_c tw_266 (gi_c tw_267 (gi_c tw_268 (gi_c tw_30 (gi_c tw_31 (gi_c tw_180 (gi_c tw_181 gi_n))))))))))))))))))))))))
theorem tl_wsX7_fit_r2 : GoodIn lw_tbl wsX7_fit_r2 := (gi_c tw_182 (gi_c tw_29 (gi_c tw_183 (gi_c tw_184 (gi_c tw_76 (gi_c tw_75 (gi_c tw_185 (gi_c tw_107 (gi_c tw_108 (gi_c tw_109 (gi_c tw_187 (gi_c tw_188 (gi_c tw_189 (gi_c tw_190 (gi_c tw_78 (gi_c tw_191 (gi_c tw_192 (gi_c tw_193 (gi_c tw_194 (gi_c tw_195 (gi_c tw_129 (gi_c tw_130 (gi_c tw_131 (gi_c tw_132 gi_n))))))))))))))))))))))))
theorem tl_wsX7_fit_r3 : GoodIn lw_tbl wsX7_fit_r3 := (gi_c tw_133 (gi_c tw_134 (gi_c tw_135 (gi_c tw_64 (gi_c tw_136 (gi_c tw_137 (gi_c tw_138 (gi_c tw_139 (gi_c tw_63 (gi_c tw_196 (gi_c tw_198 (gi_c tw_199 (gi_c tw_200 (gi_c tw_201 (gi_c tw_202 (gi_c tw_203 (gi_c tw_204 (gi_c tw_205 (gi_c tw_206 (gi_c tw_207 (gi_c tw_208 (gi_c tw_209 (gi_c tw_61 (gi_c tw_210 gi_n))))))))))))))))))))))))
theorem tl_wsX7_fit_r4 : GoodIn lw_tbl wsX7_fit_r4 := (gi_c tw_223 (gi_c tw_224 (gi_c tw_225 (gi_c tw_226 (gi_c tw_227 (gi_c tw_228 (gi_c tw_229 (gi_c tw_230 (gi_c tw_231 (gi_c tw_232 (gi_c tw_233 (gi_c tw_234 (gi_c tw_235 (gi_c tw_236 (gi_c tw_237 (gi_c tw_238 (gi_c tw_239 (gi_c tw_240 (gi_c tw_241 (gi_c tw_242 (gi_c tw_243 (gi_c tw_249 (gi_c tw_250 (gi_c tw_251 gi_n))))))))))))))))))))))))
theorem tl_wsX7_fit_r5 : GoodIn lw_tbl wsX7_fit_r5 := (gi_c tw_252 (gi_c tw_253 (gi_c tw_254 (gi_c tw_255 (gi_c tw_256 (gi_c tw_257 (gi_c tw_258 (gi_c tw_285 (gi_c tw_286 (gi_c tw_287 (gi_c tw_24 (gi_c tw_288 (gi_c tw_70 (gi_c tw_121 (gi_c tw_115 (gi_c tw_289 (gi_c tw_112 (gi_c tw_113 (gi_c tw_114 (gi_c tw_116 (gi_c tw_117 (gi_c tw_118 (gi_c tw_120 (gi_c tw_122 gi_n))))))))))))))))))))))))
theorem tl_wsX7_fit_r6 : GoodIn lw_tbl wsX7_fit_r6 := (gi_c tw_123 (gi_c tw_124 (gi_c tw_125 (gi_c tw_126 (gi_c tw_127 (gi_c tw_128 (gi_c tw_140 (gi_c tw_141 (gi_c tw_143 (gi_c tw_144 (gi_c tw_69 (gi_c tw_145 (gi_c tw_146 (gi_c tw_147 (gi_c tw_148 (gi_c tw_149 (gi_c tw_150 (gi_c tw_151 (gi_c tw_152 (gi_c tw_153 (gi_c tw_154 (gi_c tw_155 (gi_c tw_156 (gi_c tw_157 gi_n))))))))))))))))))))))))
theorem tl_wsX7_fit_r7 : GoodIn lw_tbl wsX7_fit_r7 := (gi_c tw_158 (gi_c tw_159 (gi_c tw_160 (gi_c tw_161 (gi_c tw_162 (gi_c tw_163 (gi_c tw_164 (gi_c tw_165 (gi_c tw_167 (gi_c tw_168 (gi_c tw_169 (gi_c tw_170 (gi_c tw_171 (gi_c tw_423 (gi_c tw_424 (gi_c tw_425 (gi_c tw_426 (gi_c tw_427 (gi_c tw_428 (gi_c tw_429 (gi_c tw_430 gi_n)))))))))))))))))))))
theorem tl_wsX7_fit : GoodIn lw_tbl wsX7_fit := (gi_c tw_414 (goodIn_app (goodIn_app (goodIn_app (goodIn_app (goodIn_app tl_wsX7_fit_r1 (goodIn_app tl_wsX7_fit_r2 (goodIn_app tl_wsX7_fit_r3 (goodIn_app tl_wsX7_fit_r4 (goodIn_app tl_wsX7_fit_r5 (goodIn_app tl_wsX7_fit_r6 tl_wsX7_fit_r7)))))) tu_X7) tu_X1) tu_X3) tu_X0))
theorem tv_X7_fit : GoodIn lw_tbl (wsV RL 21 RX7 yX7_fit wsX7_fit) := gi_v tw_104 tw_411 tw_412 tw_413 tl_wsX7_fit
theorem tw_510 : GW (.code yX7_mirror cX7_mirror 2 (some .int)) := ⟨in_2 (List.mem_of_getElem? (i := 17) rfl), rfl⟩
theorem tl_wsX7_mirror_r1 : GoodIn lw_tbl wsX7_mirror_r1 := (gi_c tw_100 (gi_c tw_17 (gi_c tw_9 (gi_c tw_21 (gi_c tw_102 (gi_c tw_103 (gi_c tw_104 (gi_c tw_105 (gi_c tw_317 (gi_c tw_318 (gi_c tw_319 (gi_c tw_16 (gi_c tw_320 (gi_c tw_321 (gi_c tw_57 (gi_c tw_322 (gi_c tw_323 (gi_c tw_324 (gi_c tw_325 (gi_c tw_326 (gi_c tw_327 (gi_c tw_328 (gi_c tw_8 (gi_c tw_330 gi_n))))))))))))))))))))))))
theorem tw_513 : GW (.methodLink RX7 108 yX5_mirrorPositions) := ⟨in_2 (List.mem_of_getElem? (i := 21) (by decide +kernel)), rfl⟩
theorem tw_514 : GW (.instanceMethod yX5_mirrorPositions) := ⟨in_2 (List.mem_of_getElem? (i := 22) (by decide +kernel)), rfl⟩
theorem tw_515 : GW (.selects RX5 yX5_mirrorPositions yX5_mirrorPositions) := ⟨in_2 (List.mem_of_getElem? (i := 23) (by decide +kernel)), rfl⟩
theorem tw_516 : GW (.code yX5_mirrorPositions cX5_mirrorPositions 2 none) := ⟨in_2 (List.mem_of_getElem? (i := 24) rfl), rfl⟩
theorem tw_517 : GW (.methodLink RX7 111 yX5_mirrorValues) := ⟨in_2 (List.mem_of_getElem? (i := 25) (by decide +kernel)), rfl⟩
theorem tw_518 : GW (.instanceMethod yX5_mirrorValues) := ⟨in_2 (List.mem_of_getElem? (i := 26) (by decide +kernel)), rfl⟩
theorem tw_519 : GW (.selects RX5 yX5_mirrorValues yX5_mirrorValues) := ⟨in_2 (List.mem_of_getElem? (i := 27) (by decide +kernel)), rfl⟩
theorem tw_520 : GW (.code yX5_mirrorValues cX5_mirrorValues 2 none) := ⟨in_2 (List.mem_of_getElem? (i := 28) rfl), rfl⟩
theorem tl_wsX7_mirror_r2 : GoodIn lw_tbl wsX7_mirror_r2 := (gi_c tw_306 (gi_c tw_40 (gi_c tw_41 (gi_c tw_42 (gi_c tw_331 (gi_c tw_332 (gi_c tw_333 (gi_c tw_334 (gi_c tw_335 (gi_c tw_336 (gi_c tw_337 (gi_c tw_338 (gi_c tw_513 (gi_c tw_514 (gi_c tw_515 (gi_c tw_516 (gi_c tw_517 (gi_c tw_518 (gi_c tw_519 (gi_c tw_520 (gi_c tw_344 (gi_c tw_345 (gi_c tw_346 (gi_c tw_20 gi_n))))))))))))))))))))))))
theorem tl_wsX7_mirror_r3 : GoodIn lw_tbl wsX7_mirror_r3 := (gi_c tw_347 (gi_c tw_110 (gi_c tw_158 (gi_c tw_349 (gi_c tw_350 (gi_c tw_351 (gi_c tw_352 (gi_c tw_353 (gi_c tw_354 (gi_c tw_355 (gi_c tw_356 (gi_c tw_63 (gi_c tw_64 (gi_c tw_61 (gi_c tw_62 (gi_c tw_357 (gi_c tw_303 (gi_c tw_304 (gi_c tw_305 (gi_c tw_358 (gi_c tw_359 (gi_c tw_360 (gi_c tw_361 (gi_c tw_343 gi_n))))))))))))))))))))))))
theorem tl_wsX7_mirror_r4 : GoodIn lw_tbl wsX7_mirror_r4 := (gi_c tw_314 (gi_c tw_315 (gi_c tw_316 (gi_c tw_362 (gi_c tw_363 (gi_c tw_364 (gi_c tw_365 (gi_c tw_367 (gi_c tw_368 (gi_c tw_369 (gi_c tw_370 (gi_c tw_302 gi_n))))))))))))
theorem tl_wsX7_mirror : GoodIn lw_tbl wsX7_mirror := (gi_c tw_510 (goodIn_app (goodIn_app (goodIn_app (goodIn_app (goodIn_app tl_wsX7_mirror_r1 (goodIn_app tl_wsX7_mirror_r2 (goodIn_app tl_wsX7_mirror_r3 tl_wsX7_mirror_r4))) tu_X7) tu_X2) tu_X5) tu_X1))
theorem tw_523 : GW (.methodLink RL 101 yX7_mirror) := ⟨in_2 (List.mem_of_getElem? (i := 14) (by decide +kernel)), rfl⟩
theorem tw_524 : GW (.instanceMethod yX7_mirror) := ⟨in_2 (List.mem_of_getElem? (i := 15) (by decide +kernel)), rfl⟩
theorem tw_525 : GW (.selects RX7 yX7_mirror yX7_mirror) := ⟨in_2 (List.mem_of_getElem? (i := 16) (by decide +kernel)), rfl⟩
theorem tv_X7_mirror : GoodIn lw_tbl (wsV RL 101 RX7 yX7_mirror wsX7_mirror) := gi_v tw_104 tw_523 tw_524 tw_525 tl_wsX7_mirror
theorem tl_wsX7_groupInfo_r1 : GoodIn lw_tbl wsX7_groupInfo_r1 := (gi_c tw_21 (gi_c tw_100 (gi_c tw_415 (gi_c tw_211 (gi_c tw_212 (gi_c tw_20 (gi_c tw_213 (gi_c tw_110 (gi_c tw_102 (gi_c tw_103 (gi_c tw_104 (gi_c tw_105 (gi_c tw_480 (gi_c tw_207 (gi_c tw_208 (gi_c tw_209 (gi_c tw_61 (gi_c tw_210 (gi_c tw_430 (gi_c tw_137 (gi_c tw_138 (gi_c tw_139 (gi_c tw_63 (gi_c tw_429 gi_n))))))))))))))))))))))))
theorem tl_wsX7_groupInfo_r2 : GoodIn lw_tbl wsX7_groupInfo_r2 := (gi_c tw_133 (gi_c tw_134 (gi_c tw_135 (gi_c tw_64 (gi_c tw_481 (gi_c tw_482 (gi_c tw_483 (gi_c tw_484 (gi_c tw_62 gi_n)))))))))
theorem tl_wsX7_groupInfo : GoodIn lw_tbl wsX7_groupInfo := (gi_c tw_479 (goodIn_app (goodIn_app (goodIn_app tl_wsX7_groupInfo_r1 tl_wsX7_groupInfo_r2) tu_X7) tu_X1))
theorem tv_X7_groupInfo : GoodIn lw_tbl (wsV RL 25 RX7 yX7_groupInfo wsX7_groupInfo) := gi_v tw_104 tw_476 tw_477 tw_478 tl_wsX7_groupInfo
theorem tw_530 : GW (.code yX7_undo cX7_undo 1 (some .int)) := ⟨in_2 (List.mem_of_getElem? (i := 32) rfl), rfl⟩
theorem tw_532 : GW (.methodLink RX7 121 yX2_size) := ⟨in_2 (List.mem_of_getElem? (i := 33) (by decide +kernel)), rfl⟩
theorem tw_533 : GW (.instanceMethod yX2_size) := ⟨in_2 (List.mem_of_getElem? (i := 34) (by decide +kernel)), rfl⟩
theorem tw_534 : GW (.selects RX2 yX2_size yX2_size) := ⟨in_2 (List.mem_of_getElem? (i := 35) (by decide +kernel)), rfl⟩
theorem tw_535 : GW (.code yX2_size cX2_size 1 (some .int)) := ⟨in_2 (List.mem_of_getElem? (i := 36) rfl), rfl⟩
theorem tw_536 : GW (.methodLink RX7 122 yX2_restore) := ⟨in_2 (List.mem_of_getElem? (i := 38) (by decide +kernel)), rfl⟩
theorem tw_537 : GW (.instanceMethod yX2_restore) := ⟨in_2 (List.mem_of_getElem? (i := 39) (by decide +kernel)), rfl⟩
theorem tw_538 : GW (.selects RX2 yX2_restore yX2_restore) := ⟨in_2 (List.mem_of_getElem? (i := 40) (by decide +kernel)), rfl⟩
theorem tw_539 : GW (.code yX2_restore cX2_restore 3 none) := ⟨in_2 (List.mem_of_getElem? (i := 41) rfl), rfl⟩
theorem tl_wsX7_undo_r1 : GoodIn lw_tbl wsX7_undo_r1 := (gi_c tw_17 (gi_c tw_101 (gi_c tw_9 (gi_c tw_21 (gi_c tw_532 (gi_c tw_533 (gi_c tw_534 (gi_c tw_16 (gi_c tw_535 (gi_c tw_321 (gi_c tw_536 (gi_c tw_537 (gi_c tw_538 (gi_c tw_539 (gi_c tw_57 (gi_c tw_326 (gi_c tw_327 (gi_c tw_328 (gi_c tw_8 (gi_c tw_330 (gi_c tw_306 (gi_c tw_40 (gi_c tw_41 (gi_c tw_42 gi_n))))))))))))))))))))))))
theorem tl_wsX7_undo_r2 : GoodIn lw_tbl wsX7_undo_r2 := (gi_c tw_331 (gi_c tw_332 (gi_c tw_333 (gi_c tw_334 (gi_c tw_335 (gi_c tw_336 (gi_c tw_337 (gi_c tw_338 (gi_c tw_344 (gi_c tw_345 (gi_c tw_346 (gi_c tw_20 (gi_c tw_347 (gi_c tw_110 (gi_c tw_158 (gi_c tw_349 (gi_c tw_350 (gi_c tw_351 (gi_c tw_352 (gi_c tw_353 (gi_c tw_354 (gi_c tw_355 (gi_c tw_356 (gi_c tw_63 gi_n))))))))))))))))))))))))
theorem tl_wsX7_undo_r3 : GoodIn lw_tbl wsX7_undo_r3 := (gi_c tw_64 (gi_c tw_61 (gi_c tw_62 (gi_c tw_357 (gi_c tw_303 (gi_c tw_304 (gi_c tw_305 (gi_c tw_358 (gi_c tw_359 (gi_c tw_360 (gi_c tw_361 (gi_c tw_343 (gi_c tw_314 (gi_c tw_315 (gi_c tw_316 (gi_c tw_362 (gi_c tw_363 (gi_c tw_364 (gi_c tw_365 (gi_c tw_367 (gi_c tw_368 (gi_c tw_369 (gi_c tw_370 gi_n)))))))))))))))))))))))
theorem tl_wsX7_undo : GoodIn lw_tbl wsX7_undo := (gi_c tw_530 (goodIn_app (goodIn_app (goodIn_app (goodIn_app (goodIn_app tl_wsX7_undo_r1 (goodIn_app tl_wsX7_undo_r2 tl_wsX7_undo_r3)) tu_X7) tu_X2) tu_X5) tu_X1))
theorem tw_542 : GW (.methodLink RL 104 yX7_undo) := ⟨in_2 (List.mem_of_getElem? (i := 29) (by decide +kernel)), rfl⟩
theorem tw_543 : GW (.instanceMethod yX7_undo) := ⟨in_2 (List.mem_of_getElem? (i := 30) (by decide +kernel)), rfl⟩
theorem tw_544 : GW (.selects RX7 yX7_undo yX7_undo) := ⟨in_2 (List.mem_of_getElem? (i := 31) (by decide +kernel)), rfl⟩
theorem tv_X7_undo : GoodIn lw_tbl (wsV RL 104 RX7 yX7_undo wsX7_undo) := gi_v tw_104 tw_542 tw_543 tw_544 tl_wsX7_undo
theorem tl_wsX7_kinkAt_r1 : GoodIn lw_tbl wsX7_kinkAt_r1 := (gi_c tw_100 (gi_c tw_462 (gi_c tw_102 (gi_c tw_103 (gi_c tw_104 (gi_c tw_105 (gi_c tw_265 (gi_c tw_266 (gi_c tw_267 (gi_c tw_268 (gi_c tw_30 (gi_c tw_31 (gi_c tw_180 (gi_c tw_181 (gi_c tw_182 (gi_c tw_29 (gi_c tw_183 (gi_c tw_184 (gi_c tw_76 (gi_c tw_75 (gi_c tw_185 (gi_c tw_107 (gi_c tw_108 (gi_c tw_20 gi_n))))))))))))))))))))))))
theorem tl_wsX7_kinkAt_r2 : GoodIn lw_tbl wsX7_kinkAt_r2 := (gi_c tw_109 (gi_c tw_110 (gi_c tw_187 (gi_c tw_188 (gi_c tw_189 (gi_c tw_190 (gi_c tw_78 (gi_c tw_191 (gi_c tw_192 (gi_c tw_193 (gi_c tw_194 (gi_c tw_195 (gi_c tw_129 (gi_c tw_130 (gi_c tw_131 (gi_c tw_132 (gi_c tw_133 (gi_c tw_134 (gi_c tw_135 (gi_c tw_64 (gi_c tw_136 (gi_c tw_137 (gi_c tw_138 (gi_c tw_139 gi_n))))))))))))))))))))))))
theorem tl_wsX7_kinkAt_r3 : GoodIn lw_tbl wsX7_kinkAt_r3 := (gi_c tw_63 (gi_c tw_196 (gi_c tw_198 (gi_c tw_199 (gi_c tw_200 (gi_c tw_201 (gi_c tw_202 (gi_c tw_203 (gi_c tw_204 (gi_c tw_205 (gi_c tw_206 (gi_c tw_207 (gi_c tw_208 (gi_c tw_209 (gi_c tw_61 (gi_c tw_210 (gi_c tw_211 (gi_c tw_212 (gi_c tw_213 (gi_c tw_271 (gi_c tw_272 (gi_c tw_273 (gi_c tw_274 (gi_c tw_275 gi_n))))))))))))))))))))))))
theorem tl_wsX7_kinkAt_r4 : GoodIn lw_tbl wsX7_kinkAt_r4 := (gi_c tw_276 (gi_c tw_254 (gi_c tw_278 (gi_c tw_463 (gi_c tw_464 (gi_c tw_465 (gi_c tw_466 (gi_c tw_467 gi_n))))))))
theorem tl_wsX7_kinkAt : GoodIn lw_tbl wsX7_kinkAt := (gi_c tw_461 (goodIn_app (goodIn_app (goodIn_app (goodIn_app tl_wsX7_kinkAt_r1 (goodIn_app tl_wsX7_kinkAt_r2 (goodIn_app tl_wsX7_kinkAt_r3 tl_wsX7_kinkAt_r4))) tu_X7) tu_X3) tu_X1))
theorem tv_X7_kinkAt : GoodIn lw_tbl (wsV RL 59 RX7 yX7_kinkAt wsX7_kinkAt) := gi_v tw_104 tw_458 tw_459 tw_460 tl_wsX7_kinkAt
