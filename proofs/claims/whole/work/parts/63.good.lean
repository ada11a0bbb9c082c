/-! each call's words stand among the law's, by their places -/
def GW (w : Cond) : Prop := w ∈ lw_tbl ∧ goodWord w = true
theorem in_0 {w : Cond} (h : w ∈ k2_sels lw_privs) : w ∈ lw_tbl := List.mem_append_left _ h
theorem in_1 {w : Cond} (h : w ∈ tables_1_1) : w ∈ lw_tbl := List.mem_append_right _ (List.mem_append_left _ h)
theorem in_2 {w : Cond} (h : w ∈ tables_1_2) : w ∈ lw_tbl := List.mem_append_right _ (List.mem_append_right _ (List.mem_append_left _ h))
theorem in_3 {w : Cond} (h : w ∈ tables_1_3) : w ∈ lw_tbl := List.mem_append_right _ (List.mem_append_right _ (List.mem_append_right _ (List.mem_append_left _ h)))
theorem in_4 {w : Cond} (h : w ∈ tables_1_4) : w ∈ lw_tbl := List.mem_append_right _ (List.mem_append_right _ (List.mem_append_right _ (List.mem_append_right _ (List.mem_append_left _ h))))
theorem in_5 {w : Cond} (h : w ∈ tables_1_5) : w ∈ lw_tbl := List.mem_append_right _ (List.mem_append_right _ (List.mem_append_right _ (List.mem_append_right _ (List.mem_append_right _ h))))
theorem gi_n {big : List Cond} : GoodIn big [] := fun w h => absurd h List.not_mem_nil
theorem gi_c {w : Cond} {ws : List Cond} (h : GW w) (hs : GoodIn lw_tbl ws) : GoodIn lw_tbl (w :: ws) := fun v hv => (List.mem_cons.mp hv).elim (fun e => by rw [e]; exact ⟨h.1, good_of_word h.2⟩) (hs v)
theorem gi_u {C : String} {T : u_T} {n : Nat} (h : ∀ k : Nat, k < n → GW (u_lay C T k)) : GoodIn lw_tbl (u_ws C T n) := fun w hw => by
  obtain ⟨k, hk, rfl⟩ := List.mem_map.mp hw
  have := h k (List.mem_range.mp hk)
  exact ⟨this.1, good_of_word this.2⟩
theorem gi_v {own C : String} {i : Nat} {y : MethodName} {ws : List Cond} (h1 : GW (.initialized C)) (h2 : GW (.methodLink own i y)) (h3 : GW (.instanceMethod y)) (h4 : GW (.selects C y y)) (hs : GoodIn lw_tbl ws) : GoodIn lw_tbl (wsV own i C y ws) := goodIn_app (gi_c h2 (gi_c h3 (gi_c h4 (gi_c h1 gi_n)))) hs
theorem tw_1 : GW (.code yX7_init cX7_init 1 none) := ⟨in_1 (List.mem_of_getElem? (i := 16) rfl), rfl⟩
theorem tw_3 : GW (.methodLink RX7 1 objectInit) := ⟨in_1 (List.mem_of_getElem? (i := 17) (by decide +kernel)), rfl⟩
theorem tw_4 : GW (.instanceMethod objectInit) := ⟨in_1 (List.mem_of_getElem? (i := 18) (by decide +kernel)), rfl⟩
theorem tw_5 : GW (.code objectInit ⟨#[0xb1]⟩ 1 none) := ⟨in_1 (List.mem_of_getElem? (i := 19) rfl), rfl⟩
theorem tw_6 : GW (.classLink RX7 7 RX5) := ⟨in_1 (List.mem_of_getElem? (i := 20) (by decide +kernel)), rfl⟩
theorem tw_7 : GW (.instantiable RX5 4) := ⟨in_1 (List.mem_of_getElem? (i := 21) (by decide +kernel)), rfl⟩
theorem tw_8 : GW (.initialized RX5) := ⟨in_1 (List.mem_of_getElem? (i := 2) (by decide +kernel)), rfl⟩
theorem tw_9 : GW (.fieldLink RX7 10 "ShapeFits" "row" "LShapeFits$PointRow;") := ⟨in_1 (List.mem_of_getElem? (i := 171) (by decide +kernel)), rfl⟩
theorem tw_10 : GW (.classLink RX7 16 RX6) := ⟨in_1 (List.mem_of_getElem? (i := 40) (by decide +kernel)), rfl⟩
theorem tw_11 : GW (.instantiable RX6 6) := ⟨in_1 (List.mem_of_getElem? (i := 41) (by decide +kernel)), rfl⟩
theorem tw_12 : GW (.initialized RX6) := ⟨in_1 (List.mem_of_getElem? (i := 3) (by decide +kernel)), rfl⟩
theorem tw_13 : GW (.fieldLink RX7 19 "ShapeFits" "text" "LShapeFits$PointText;") := ⟨in_1 (List.mem_of_getElem? (i := 172) (by decide +kernel)), rfl⟩
theorem tw_14 : GW (.classLink RX7 23 RX2) := ⟨in_1 (List.mem_of_getElem? (i := 68) (by decide +kernel)), rfl⟩
theorem tw_15 : GW (.instantiable RX2 2) := ⟨in_1 (List.mem_of_getElem? (i := 69) (by decide +kernel)), rfl⟩
theorem tw_16 : GW (.initialized RX2) := ⟨in_1 (List.mem_of_getElem? (i := 4) (by decide +kernel)), rfl⟩
theorem tw_17 : GW (.fieldLink RX7 26 "ShapeFits" "history" "LShapeFits$History;") := ⟨in_1 (List.mem_of_getElem? (i := 173) (by decide +kernel)), rfl⟩
theorem tw_18 : GW (.classLink RX7 30 RX1) := ⟨in_1 (List.mem_of_getElem? (i := 84) (by decide +kernel)), rfl⟩
theorem tw_19 : GW (.instantiable RX1 6) := ⟨in_1 (List.mem_of_getElem? (i := 85) (by decide +kernel)), rfl⟩
theorem tw_20 : GW (.initialized RX1) := ⟨in_1 (List.mem_of_getElem? (i := 5) (by decide +kernel)), rfl⟩
theorem tw_21 : GW (.fieldLink RX7 33 "ShapeFits" "table" "LShapeFits$GroupTable;") := ⟨in_1 (List.mem_of_getElem? (i := 174) (by decide +kernel)), rfl⟩
theorem tw_22 : GW (.classLink RX7 37 RX0) := ⟨in_1 (List.mem_of_getElem? (i := 109) (by decide +kernel)), rfl⟩
theorem tw_23 : GW (.instantiable RX0 5) := ⟨in_1 (List.mem_of_getElem? (i := 110) (by decide +kernel)), rfl⟩
theorem tw_24 : GW (.initialized RX0) := ⟨in_1 (List.mem_of_getElem? (i := 6) (by decide +kernel)), rfl⟩
theorem tw_25 : GW (.fieldLink RX7 42 "ShapeFits" "blockFit" "LShapeFits$BlockFit;") := ⟨in_1 (List.mem_of_getElem? (i := 175) (by decide +kernel)), rfl⟩
theorem tw_26 : GW (.classLink RX7 46 RX3) := ⟨in_1 (List.mem_of_getElem? (i := 131) (by decide +kernel)), rfl⟩
theorem tl_wsX7_init_r1 : GoodIn lw_tbl wsX7_init_r1 := (gi_c tw_3 (gi_c tw_4 (gi_c tw_5 (gi_c tw_6 (gi_c tw_7 (gi_c tw_8 (gi_c tw_9 (gi_c tw_10 (gi_c tw_11 (gi_c tw_12 (gi_c tw_13 (gi_c tw_14 (gi_c tw_15 (gi_c tw_16 (gi_c tw_17 (gi_c tw_18 (gi_c tw_19 (gi_c tw_20 (gi_c tw_21 (gi_c tw_22 (gi_c tw_23 (gi_c tw_24 (gi_c tw_25 (gi_c tw_26 gi_n))))))))))))))))))))))))
theorem tw_28 : GW (.instantiable RX3 4) := ⟨in_1 (List.mem_of_getElem? (i := 132) (by decide +kernel)), rfl⟩
theorem tw_29 : GW (.initialized RX3) := ⟨in_1 (List.mem_of_getElem? (i := 7) (by decide +kernel)), rfl⟩
theorem tw_30 : GW (.fieldLink RX7 51 "ShapeFits" "minorant" "LShapeFits$Hull;") := ⟨in_1 (List.mem_of_getElem? (i := 176) (by decide +kernel)), rfl⟩
theorem tw_31 : GW (.fieldLink RX7 55 "ShapeFits" "majorant" "LShapeFits$Hull;") := ⟨in_1 (List.mem_of_getElem? (i := 177) (by decide +kernel)), rfl⟩
theorem tw_32 : GW (.classLink RX7 58 RX4) := ⟨in_1 (List.mem_of_getElem? (i := 150) (by decide +kernel)), rfl⟩
theorem tw_33 : GW (.instantiable RX4 3) := ⟨in_1 (List.mem_of_getElem? (i := 151) (by decide +kernel)), rfl⟩
theorem tw_34 : GW (.initialized RX4) := ⟨in_1 (List.mem_of_getElem? (i := 8) (by decide +kernel)), rfl⟩
theorem tw_35 : GW (.fieldLink RX7 61 "ShapeFits" "levelTable" "LShapeFits$LevelTable;") := ⟨in_1 (List.mem_of_getElem? (i := 178) (by decide +kernel)), rfl⟩
theorem tw_36 : GW (.instanceMethod yX5_init) := ⟨in_1 (List.mem_of_getElem? (i := 23) (by decide +kernel)), rfl⟩
theorem tw_37 : GW (.code yX5_init cX5_init 1 none) := ⟨in_1 (List.mem_of_getElem? (i := 24) rfl), rfl⟩
theorem tw_38 : GW (.methodLink RX5 3 objectInit) := ⟨in_1 (List.mem_of_getElem? (i := 25) (by decide +kernel)), rfl⟩
theorem tw_39 : GW (.arrayClass .int) := ⟨in_1 (List.mem_of_getElem? (i := 39) (by decide +kernel)), rfl⟩
theorem tw_40 : GW (.fieldLink RX5 9 "ShapeFits$PointRow" "position" "[I") := ⟨in_1 (List.mem_of_getElem? (i := 26) (by decide +kernel)), rfl⟩
theorem tw_41 : GW (.fieldLink RX5 15 "ShapeFits$PointRow" "value" "[I") := ⟨in_1 (List.mem_of_getElem? (i := 27) (by decide +kernel)), rfl⟩
theorem tw_42 : GW (.fieldLink RX5 18 "ShapeFits$PointRow" "weight" "[I") := ⟨in_1 (List.mem_of_getElem? (i := 28) (by decide +kernel)), rfl⟩
theorem tw_43 : GW (.instanceMethod yX6_init) := ⟨in_1 (List.mem_of_getElem? (i := 43) (by decide +kernel)), rfl⟩
theorem tw_44 : GW (.code yX6_init cX6_init 1 none) := ⟨in_1 (List.mem_of_getElem? (i := 44) rfl), rfl⟩
theorem tw_45 : GW (.methodLink RX6 3 objectInit) := ⟨in_1 (List.mem_of_getElem? (i := 45) (by decide +kernel)), rfl⟩
theorem tw_46 : GW (.arrayClass .char) := ⟨in_1 (List.mem_of_getElem? (i := 67) (by decide +kernel)), rfl⟩
theorem tw_47 : GW (.fieldLink RX6 9 "ShapeFits$PointText" "signs" "[C") := ⟨in_1 (List.mem_of_getElem? (i := 48) (by decide +kernel)), rfl⟩
theorem tw_48 : GW (.classLink RX6 15 RX5) := ⟨in_1 (List.mem_of_getElem? (i := 46) (by decide +kernel)), rfl⟩
theorem tw_49 : GW (.fieldLink RX6 18 "ShapeFits$PointText" "found" "LShapeFits$PointRow;") := ⟨in_1 (List.mem_of_getElem? (i := 49) (by decide +kernel)), rfl⟩
theorem tw_50 : GW (.fieldLink RX6 22 "ShapeFits$PointText" "chain" "[I") := ⟨in_1 (List.mem_of_getElem? (i := 50) (by decide +kernel)), rfl⟩
theorem tw_51 : GW (.methodLink RX7 25 yX2_init) := ⟨in_1 (List.mem_of_getElem? (i := 70) (by decide +kernel)), rfl⟩
theorem tl_wsX7_init_r2 : GoodIn lw_tbl wsX7_init_r2 := (gi_c tw_28 (gi_c tw_29 (gi_c tw_30 (gi_c tw_31 (gi_c tw_32 (gi_c tw_33 (gi_c tw_34 (gi_c tw_35 (gi_c tw_36 (gi_c tw_37 (gi_c tw_38 (gi_c tw_39 (gi_c tw_40 (gi_c tw_41 (gi_c tw_42 (gi_c tw_43 (gi_c tw_44 (gi_c tw_45 (gi_c tw_46 (gi_c tw_47 (gi_c tw_48 (gi_c tw_49 (gi_c tw_50 (gi_c tw_51 gi_n))))))))))))))))))))))))
theorem tw_53 : GW (.instanceMethod yX2_init) := ⟨in_1 (List.mem_of_getElem? (i := 71) (by decide +kernel)), rfl⟩
theorem tw_54 : GW (.code yX2_init cX2_init 2 none) := ⟨in_1 (List.mem_of_getElem? (i := 72) rfl), rfl⟩
theorem tw_55 : GW (.methodLink RX2 3 objectInit) := ⟨in_1 (List.mem_of_getElem? (i := 73) (by decide +kernel)), rfl⟩
theorem tw_56 : GW (.classLink RX2 9 RX5) := ⟨in_1 (List.mem_of_getElem? (i := 74) (by decide +kernel)), rfl⟩
theorem tw_57 : GW (.fieldLink RX2 11 "ShapeFits$History" "states" "[LShapeFits$PointRow;") := ⟨in_1 (List.mem_of_getElem? (i := 77) (by decide +kernel)), rfl⟩
theorem tw_58 : GW (.instanceMethod yX1_init) := ⟨in_1 (List.mem_of_getElem? (i := 87) (by decide +kernel)), rfl⟩
theorem tw_59 : GW (.code yX1_init cX1_init 1 none) := ⟨in_1 (List.mem_of_getElem? (i := 88) rfl), rfl⟩
theorem tw_60 : GW (.methodLink RX1 3 objectInit) := ⟨in_1 (List.mem_of_getElem? (i := 89) (by decide +kernel)), rfl⟩
theorem tw_61 : GW (.fieldLink RX1 9 "ShapeFits$GroupTable" "position" "[I") := ⟨in_1 (List.mem_of_getElem? (i := 90) (by decide +kernel)), rfl⟩
theorem tw_62 : GW (.fieldLink RX1 15 "ShapeFits$GroupTable" "members" "[I") := ⟨in_1 (List.mem_of_getElem? (i := 91) (by decide +kernel)), rfl⟩
theorem tw_63 : GW (.fieldLink RX1 18 "ShapeFits$GroupTable" "weightBefore" "[I") := ⟨in_1 (List.mem_of_getElem? (i := 92) (by decide +kernel)), rfl⟩
theorem tw_64 : GW (.fieldLink RX1 21 "ShapeFits$GroupTable" "momentBefore" "[I") := ⟨in_1 (List.mem_of_getElem? (i := 93) (by decide +kernel)), rfl⟩
theorem tw_65 : GW (.methodLink RX7 39 yX0_init) := ⟨in_1 (List.mem_of_getElem? (i := 111) (by decide +kernel)), rfl⟩
theorem tw_66 : GW (.instanceMethod yX0_init) := ⟨in_1 (List.mem_of_getElem? (i := 112) (by decide +kernel)), rfl⟩
theorem tw_67 : GW (.code yX0_init cX0_init 2 none) := ⟨in_1 (List.mem_of_getElem? (i := 113) rfl), rfl⟩
theorem tw_68 : GW (.methodLink RX0 3 objectInit) := ⟨in_1 (List.mem_of_getElem? (i := 114) (by decide +kernel)), rfl⟩
theorem tw_69 : GW (.fieldLink RX0 9 "ShapeFits$BlockFit" "begin" "[I") := ⟨in_1 (List.mem_of_getElem? (i := 116) (by decide +kernel)), rfl⟩
theorem tw_70 : GW (.fieldLink RX0 15 "ShapeFits$BlockFit" "table" "LShapeFits$GroupTable;") := ⟨in_1 (List.mem_of_getElem? (i := 115) (by decide +kernel)), rfl⟩
theorem tw_71 : GW (.methodLink RX7 48 yX3_init) := ⟨in_1 (List.mem_of_getElem? (i := 133) (by decide +kernel)), rfl⟩
theorem tw_72 : GW (.instanceMethod yX3_init) := ⟨in_1 (List.mem_of_getElem? (i := 134) (by decide +kernel)), rfl⟩
theorem tw_73 : GW (.code yX3_init cX3_init 3 none) := ⟨in_1 (List.mem_of_getElem? (i := 135) rfl), rfl⟩
theorem tw_74 : GW (.methodLink RX3 3 objectInit) := ⟨in_1 (List.mem_of_getElem? (i := 136) (by decide +kernel)), rfl⟩
theorem tw_75 : GW (.fieldLink RX3 9 "ShapeFits$Hull" "corner" "[I") := ⟨in_1 (List.mem_of_getElem? (i := 139) (by decide +kernel)), rfl⟩
theorem tw_76 : GW (.fieldLink RX3 15 "ShapeFits$Hull" "table" "LShapeFits$GroupTable;") := ⟨in_1 (List.mem_of_getElem? (i := 137) (by decide +kernel)), rfl⟩
theorem tl_wsX7_init_r3 : GoodIn lw_tbl wsX7_init_r3 := (gi_c tw_53 (gi_c tw_54 (gi_c tw_55 (gi_c tw_56 (gi_c tw_57 (gi_c tw_58 (gi_c tw_59 (gi_c tw_60 (gi_c tw_61 (gi_c tw_62 (gi_c tw_63 (gi_c tw_64 (gi_c tw_65 (gi_c tw_66 (gi_c tw_67 (gi_c tw_68 (gi_c tw_69 (gi_c tw_70 (gi_c tw_71 (gi_c tw_72 (gi_c tw_73 (gi_c tw_74 (gi_c tw_75 (gi_c tw_76 gi_n))))))))))))))))))))))))
theorem tw_78 : GW (.fieldLink RX3 19 "ShapeFits$Hull" "side" "I") := ⟨in_1 (List.mem_of_getElem? (i := 138) (by decide +kernel)), rfl⟩
theorem tw_79 : GW (.methodLink RX7 60 yX4_init) := ⟨in_1 (List.mem_of_getElem? (i := 152) (by decide +kernel)), rfl⟩
theorem tw_80 : GW (.instanceMethod yX4_init) := ⟨in_1 (List.mem_of_getElem? (i := 153) (by decide +kernel)), rfl⟩
theorem tw_81 : GW (.code yX4_init cX4_init 2 none) := ⟨in_1 (List.mem_of_getElem? (i := 154) rfl), rfl⟩
theorem tw_82 : GW (.methodLink RX4 3 objectInit) := ⟨in_1 (List.mem_of_getElem? (i := 155) (by decide +kernel)), rfl⟩
theorem tw_83 : GW (.classLink RX4 9 "[[J") := ⟨in_1 (List.mem_of_getElem? (i := 156) (by decide +kernel)), rfl⟩
theorem tw_84 : GW (.arrayClass .long) := ⟨in_1 (List.mem_of_getElem? (i := 170) (by decide +kernel)), rfl⟩
theorem tw_85 : GW (.fieldLink RX4 11 "ShapeFits$LevelTable" "gain" "[[J") := ⟨in_1 (List.mem_of_getElem? (i := 161) (by decide +kernel)), rfl⟩
theorem tw_86 : GW (.classLink RX4 16 "[[I") := ⟨in_1 (List.mem_of_getElem? (i := 158) (by decide +kernel)), rfl⟩
theorem tw_87 : GW (.fieldLink RX4 18 "ShapeFits$LevelTable" "next" "[[I") := ⟨in_1 (List.mem_of_getElem? (i := 162) (by decide +kernel)), rfl⟩
theorem tw_88 : GW (.fieldLink RX4 21 "ShapeFits$LevelTable" "table" "LShapeFits$GroupTable;") := ⟨in_1 (List.mem_of_getElem? (i := 160) (by decide +kernel)), rfl⟩
theorem tl_wsX7_init_r4 : GoodIn lw_tbl wsX7_init_r4 := (gi_c tw_78 (gi_c tw_79 (gi_c tw_80 (gi_c tw_81 (gi_c tw_82 (gi_c tw_83 (gi_c tw_84 (gi_c tw_85 (gi_c tw_86 (gi_c tw_87 (gi_c tw_88 gi_n)))))))))))
theorem tu_X5 : GoodIn lw_tbl (u_ws RX5 TX5 4) := gi_u (fun k hk => by
  rcases (show k = 0 ∨ k = 1 ∨ k = 2 ∨ k = 3 by omega) with rfl | rfl | rfl | rfl
  · exact ⟨in_1 (List.mem_of_getElem? (i := 30) (by decide +kernel)), rfl⟩
  · exact ⟨in_1 (List.mem_of_getElem? (i := 32) (by decide +kernel)), rfl⟩
  · exact ⟨in_1 (List.mem_of_getElem? (i := 34) (by decide +kernel)), rfl⟩
  · exact ⟨in_1 (List.mem_of_getElem? (i := 36) (by decide +kernel)), rfl⟩)
theorem tu_X7 : GoodIn lw_tbl (u_ws RX7 TX7 8) := gi_u (fun k hk => by
  rcases (show k = 0 ∨ k = 1 ∨ k = 2 ∨ k = 3 ∨ k = 4 ∨ k = 5 ∨ k = 6 ∨ k = 7 by omega) with rfl | rfl | rfl | rfl | rfl | rfl | rfl | rfl
  · exact ⟨in_1 (List.mem_of_getElem? (i := 179) (by decide +kernel)), rfl⟩
  · exact ⟨in_1 (List.mem_of_getElem? (i := 181) (by decide +kernel)), rfl⟩
  · exact ⟨in_1 (List.mem_of_getElem? (i := 183) (by decide +kernel)), rfl⟩
  · exact ⟨in_1 (List.mem_of_getElem? (i := 185) (by decide +kernel)), rfl⟩
  · exact ⟨in_1 (List.mem_of_getElem? (i := 187) (by decide +kernel)), rfl⟩
  · exact ⟨in_1 (List.mem_of_getElem? (i := 189) (by decide +kernel)), rfl⟩
  · exact ⟨in_1 (List.mem_of_getElem? (i := 191) (by decide +kernel)), rfl⟩
  · exact ⟨in_1 (List.mem_of_getElem? (i := 193) (by decide +kernel)), rfl⟩)
theorem tu_X6 : GoodIn lw_tbl (u_ws RX6 TX6 6) := gi_u (fun k hk => by
  rcases (show k = 0 ∨ k = 1 ∨ k = 2 ∨ k = 3 ∨ k = 4 ∨ k = 5 by omega) with rfl | rfl | rfl | rfl | rfl | rfl
  · exact ⟨in_1 (List.mem_of_getElem? (i := 54) (by decide +kernel)), rfl⟩
  · exact ⟨in_1 (List.mem_of_getElem? (i := 56) (by decide +kernel)), rfl⟩
  · exact ⟨in_1 (List.mem_of_getElem? (i := 58) (by decide +kernel)), rfl⟩
  · exact ⟨in_1 (List.mem_of_getElem? (i := 60) (by decide +kernel)), rfl⟩
  · exact ⟨in_1 (List.mem_of_getElem? (i := 62) (by decide +kernel)), rfl⟩
  · exact ⟨in_1 (List.mem_of_getElem? (i := 64) (by decide +kernel)), rfl⟩)
theorem tu_X2 : GoodIn lw_tbl (u_ws RX2 TX2 2) := gi_u (fun k hk => by
  rcases (show k = 0 ∨ k = 1 by omega) with rfl | rfl
  · exact ⟨in_1 (List.mem_of_getElem? (i := 79) (by decide +kernel)), rfl⟩
  · exact ⟨in_1 (List.mem_of_getElem? (i := 81) (by decide +kernel)), rfl⟩)
theorem tu_X1 : GoodIn lw_tbl (u_ws RX1 TX1 6) := gi_u (fun k hk => by
  rcases (show k = 0 ∨ k = 1 ∨ k = 2 ∨ k = 3 ∨ k = 4 ∨ k = 5 by omega) with rfl | rfl | rfl | rfl | rfl | rfl
  · exact ⟨in_1 (List.mem_of_getElem? (i := 96) (by decide +kernel)), rfl⟩
  · exact ⟨in_1 (List.mem_of_getElem? (i := 98) (by decide +kernel)), rfl⟩
  · exact ⟨in_1 (List.mem_of_getElem? (i := 100) (by decide +kernel)), rfl⟩
  · exact ⟨in_1 (List.mem_of_getElem? (i := 102) (by decide +kernel)), rfl⟩
  · exact ⟨in_1 (List.mem_of_getElem? (i := 104) (by decide +kernel)), rfl⟩
  · exact ⟨in_1 (List.mem_of_getElem? (i := 106) (by decide +kernel)), rfl⟩)
theorem tu_X0 : GoodIn lw_tbl (u_ws RX0 TX0 5) := gi_u (fun k hk => by
  rcases (show k = 0 ∨ k = 1 ∨ k = 2 ∨ k = 3 ∨ k = 4 by omega) with rfl | rfl | rfl | rfl | rfl
  · exact ⟨in_1 (List.mem_of_getElem? (i := 120) (by decide +kernel)), rfl⟩
  · exact ⟨in_1 (List.mem_of_getElem? (i := 122) (by decide +kernel)), rfl⟩
  · exact ⟨in_1 (List.mem_of_getElem? (i := 124) (by decide +kernel)), rfl⟩
  · exact ⟨in_1 (List.mem_of_getElem? (i := 126) (by decide +kernel)), rfl⟩
  · exact ⟨in_1 (List.mem_of_getElem? (i := 128) (by decide +kernel)), rfl⟩)
theorem tu_X3 : GoodIn lw_tbl (u_ws RX3 TX3 4) := gi_u (fun k hk => by
  rcases (show k = 0 ∨ k = 1 ∨ k = 2 ∨ k = 3 by omega) with rfl | rfl | rfl | rfl
  · exact ⟨in_1 (List.mem_of_getElem? (i := 141) (by decide +kernel)), rfl⟩
  · exact ⟨in_1 (List.mem_of_getElem? (i := 143) (by decide +kernel)), rfl⟩
  · exact ⟨in_1 (List.mem_of_getElem? (i := 145) (by decide +kernel)), rfl⟩
  · exact ⟨in_1 (List.mem_of_getElem? (i := 147) (by decide +kernel)), rfl⟩)
theorem tu_X4 : GoodIn lw_tbl (u_ws RX4 TX4 3) := gi_u (fun k hk => by
  rcases (show k = 0 ∨ k = 1 ∨ k = 2 by omega) with rfl | rfl | rfl
  · exact ⟨in_1 (List.mem_of_getElem? (i := 163) (by decide +kernel)), rfl⟩
  · exact ⟨in_1 (List.mem_of_getElem? (i := 165) (by decide +kernel)), rfl⟩
  · exact ⟨in_1 (List.mem_of_getElem? (i := 167) (by decide +kernel)), rfl⟩)
theorem tl_wsX7_init : GoodIn lw_tbl wsX7_init := (gi_c tw_1 (goodIn_app (goodIn_app (goodIn_app (goodIn_app (goodIn_app (goodIn_app (goodIn_app (goodIn_app (goodIn_app tl_wsX7_init_r1 (goodIn_app tl_wsX7_init_r2 (goodIn_app tl_wsX7_init_r3 tl_wsX7_init_r4))) tu_X5) tu_X7) tu_X6) tu_X2) tu_X1) tu_X0) tu_X3) tu_X4))
theorem tw_98 : GW (.code yX8_init cX8_init 1 none) := ⟨in_3 (List.mem_of_getElem? (i := 213) rfl), rfl⟩
theorem tw_99 : GW (.methodLink RX8 1 objectInit) := ⟨in_3 (List.mem_of_getElem? (i := 214) (by decide +kernel)), rfl⟩
theorem tw_100 : GW (.fieldLink RX8 7 "ShapeFitsModel" "d" "[I") := ⟨in_3 (List.mem_of_getElem? (i := 215) (by decide +kernel)), rfl⟩
theorem tw_101 : GW (.fieldLink RX8 13 "ShapeFitsModel" "was" "[I") := ⟨in_3 (List.mem_of_getElem? (i := 216) (by decide +kernel)), rfl⟩
theorem tw_102 : GW (.fieldLink RX8 16 "ShapeFitsModel" "text" "[C") := ⟨in_3 (List.mem_of_getElem? (i := 218) (by decide +kernel)), rfl⟩
theorem tw_103 : GW (.fieldLink RX8 20 "ShapeFitsModel" "reasons" "[I") := ⟨in_3 (List.mem_of_getElem? (i := 220) (by decide +kernel)), rfl⟩
theorem tw_104 : GW (.fieldLink RX8 23 "ShapeFitsModel" "read" "[I") := ⟨in_3 (List.mem_of_getElem? (i := 222) (by decide +kernel)), rfl⟩
theorem tw_105 : GW (.fieldLink RX8 26 "ShapeFitsModel" "spot" "[I") := ⟨in_3 (List.mem_of_getElem? (i := 224) (by decide +kernel)), rfl⟩
theorem tw_106 : GW (.fieldLink RX8 29 "ShapeFitsModel" "weight" "[I") := ⟨in_3 (List.mem_of_getElem? (i := 225) (by decide +kernel)), rfl⟩
theorem tw_107 : GW (.fieldLink RX8 32 "ShapeFitsModel" "moment" "[I") := ⟨in_3 (List.mem_of_getElem? (i := 226) (by decide +kernel)), rfl⟩
theorem tw_108 : GW (.fieldLink RX8 35 "ShapeFitsModel" "first" "[I") := ⟨in_3 (List.mem_of_getElem? (i := 228) (by decide +kernel)), rfl⟩
theorem tw_109 : GW (.fieldLink RX8 38 "ShapeFitsModel" "blockWeight" "[I") := ⟨in_3 (List.mem_of_getElem? (i := 229) (by decide +kernel)), rfl⟩
theorem tw_110 : GW (.fieldLink RX8 41 "ShapeFitsModel" "blockMoment" "[I") := ⟨in_3 (List.mem_of_getElem? (i := 230) (by decide +kernel)), rfl⟩
theorem tw_111 : GW (.fieldLink RX8 44 "ShapeFitsModel" "corner" "[I") := ⟨in_3 (List.mem_of_getElem? (i := 232) (by decide +kernel)), rfl⟩
theorem tw_112 : GW (.fieldLink RX8 47 "ShapeFitsModel" "least" "[J") := ⟨in_3 (List.mem_of_getElem? (i := 235) (by decide +kernel)), rfl⟩
theorem tw_113 : GW (.fieldLink RX8 51 "ShapeFitsModel" "length" "[I") := ⟨in_3 (List.mem_of_getElem? (i := 236) (by decide +kernel)), rfl⟩
theorem tu_X8 : GoodIn lw_tbl (u_ws RX8 TX8 24) := gi_u (fun k hk => by
  rcases (show k = 0 ∨ k = 1 ∨ k = 2 ∨ k = 3 ∨ k = 4 ∨ k = 5 ∨ k = 6 ∨ k = 7 ∨ k = 8 ∨ k = 9 ∨ k = 10 ∨ k = 11 ∨ k = 12 ∨ k = 13 ∨ k = 14 ∨ k = 15 ∨ k = 16 ∨ k = 17 ∨ k = 18 ∨ k = 19 ∨ k = 20 ∨ k = 21 ∨ k = 22 ∨ k = 23 by omega) with rfl | rfl | rfl | rfl | rfl | rfl | rfl | rfl | rfl | rfl | rfl | rfl | rfl | rfl | rfl | rfl | rfl | rfl | rfl | rfl | rfl | rfl | rfl | rfl
  · exact ⟨in_3 (List.mem_of_getElem? (i := 239) (by decide +kernel)), rfl⟩
  · exact ⟨in_4 (List.mem_of_getElem? (i := 1) (by decide +kernel)), rfl⟩
  · exact ⟨in_4 (List.mem_of_getElem? (i := 3) (by decide +kernel)), rfl⟩
  · exact ⟨in_4 (List.mem_of_getElem? (i := 5) (by decide +kernel)), rfl⟩
  · exact ⟨in_4 (List.mem_of_getElem? (i := 7) (by decide +kernel)), rfl⟩
  · exact ⟨in_4 (List.mem_of_getElem? (i := 9) (by decide +kernel)), rfl⟩
  · exact ⟨in_4 (List.mem_of_getElem? (i := 11) (by decide +kernel)), rfl⟩
  · exact ⟨in_4 (List.mem_of_getElem? (i := 13) (by decide +kernel)), rfl⟩
  · exact ⟨in_4 (List.mem_of_getElem? (i := 15) (by decide +kernel)), rfl⟩
  · exact ⟨in_4 (List.mem_of_getElem? (i := 17) (by decide +kernel)), rfl⟩
  · exact ⟨in_4 (List.mem_of_getElem? (i := 19) (by decide +kernel)), rfl⟩
  · exact ⟨in_4 (List.mem_of_getElem? (i := 21) (by decide +kernel)), rfl⟩
  · exact ⟨in_4 (List.mem_of_getElem? (i := 23) (by decide +kernel)), rfl⟩
  · exact ⟨in_4 (List.mem_of_getElem? (i := 25) (by decide +kernel)), rfl⟩
  · exact ⟨in_4 (List.mem_of_getElem? (i := 27) (by decide +kernel)), rfl⟩
  · exact ⟨in_4 (List.mem_of_getElem? (i := 29) (by decide +kernel)), rfl⟩
  · exact ⟨in_4 (List.mem_of_getElem? (i := 31) (by decide +kernel)), rfl⟩
  · exact ⟨in_4 (List.mem_of_getElem? (i := 33) (by decide +kernel)), rfl⟩
  · exact ⟨in_4 (List.mem_of_getElem? (i := 35) (by decide +kernel)), rfl⟩
  · exact ⟨in_4 (List.mem_of_getElem? (i := 37) (by decide +kernel)), rfl⟩
  · exact ⟨in_4 (List.mem_of_getElem? (i := 39) (by decide +kernel)), rfl⟩
  · exact ⟨in_4 (List.mem_of_getElem? (i := 41) (by decide +kernel)), rfl⟩
  · exact ⟨in_4 (List.mem_of_getElem? (i := 43) (by decide +kernel)), rfl⟩
  · exact ⟨in_4 (List.mem_of_getElem? (i := 45) (by decide +kernel)), rfl⟩)
theorem tl_wsX8_init : GoodIn lw_tbl wsX8_init := (gi_c tw_98 (goodIn_app (gi_c tw_99 (gi_c tw_4 (gi_c tw_5 (gi_c tw_39 (gi_c tw_100 (gi_c tw_101 (gi_c tw_46 (gi_c tw_102 (gi_c tw_103 (gi_c tw_104 (gi_c tw_105 (gi_c tw_106 (gi_c tw_107 (gi_c tw_108 (gi_c tw_109 (gi_c tw_110 (gi_c tw_111 (gi_c tw_84 (gi_c tw_112 (gi_c tw_113 gi_n)))))))))))))))))))) tu_X8))
theorem tw_116 : GW (.code yX7_add cX7_add 4 (some .int)) := ⟨in_1 (List.mem_of_getElem? (i := 199) rfl), rfl⟩
theorem tw_118 : GW (.constant RX7 73 (-1000001)) := ⟨in_1 (List.mem_of_getElem? (i := 206) (by decide +kernel)), rfl⟩
theorem tw_119 : GW (.constant RX7 78 (-1000003)) := ⟨in_1 (List.mem_of_getElem? (i := 211) (by decide +kernel)), rfl⟩
theorem tw_120 : GW (.methodLink RX7 65 yX7_outside) := ⟨in_1 (List.mem_of_getElem? (i := 200) (by decide +kernel)), rfl⟩
theorem tw_121 : GW (.static yX7_outside) := ⟨in_1 (List.mem_of_getElem? (i := 201) (by decide +kernel)), rfl⟩
theorem tw_122 : GW (.initialized RX7) := ⟨in_1 (List.mem_of_getElem? (i := 1) (by decide +kernel)), rfl⟩
theorem tw_123 : GW (.code yX7_outside cX7_outside 3 (some .boolean)) := ⟨in_1 (List.mem_of_getElem? (i := 202) rfl), rfl⟩
theorem tw_124 : GW (.methodLink RX7 69 yX7_wrongValueOrWeight) := ⟨in_1 (List.mem_of_getElem? (i := 203) (by decide +kernel)), rfl⟩
theorem tw_125 : GW (.static yX7_wrongValueOrWeight) := ⟨in_1 (List.mem_of_getElem? (i := 204) (by decide +kernel)), rfl⟩
theorem tw_126 : GW (.code yX7_wrongValueOrWeight cX7_wrongValueOrWeight 2 (some .boolean)) := ⟨in_1 (List.mem_of_getElem? (i := 205) rfl), rfl⟩
theorem tw_127 : GW (.methodLink RX7 74 yX5_size) := ⟨in_1 (List.mem_of_getElem? (i := 207) (by decide +kernel)), rfl⟩
theorem tw_128 : GW (.instanceMethod yX5_size) := ⟨in_1 (List.mem_of_getElem? (i := 208) (by decide +kernel)), rfl⟩
theorem tw_129 : GW (.selects RX5 yX5_size yX5_size) := ⟨in_1 (List.mem_of_getElem? (i := 209) (by decide +kernel)), rfl⟩
theorem tw_130 : GW (.code yX5_size cX5_size 1 (some .int)) := ⟨in_1 (List.mem_of_getElem? (i := 210) rfl), rfl⟩
theorem tw_131 : GW (.fieldLink RX5 21 "ShapeFits$PointRow" "count" "I") := ⟨in_1 (List.mem_of_getElem? (i := 29) (by decide +kernel)), rfl⟩
theorem tw_132 : GW (.methodLink RX7 79 yX2_record) := ⟨in_1 (List.mem_of_getElem? (i := 212) (by decide +kernel)), rfl⟩
theorem tw_133 : GW (.instanceMethod yX2_record) := ⟨in_1 (List.mem_of_getElem? (i := 213) (by decide +kernel)), rfl⟩
theorem tw_134 : GW (.selects RX2 yX2_record yX2_record) := ⟨in_1 (List.mem_of_getElem? (i := 214) (by decide +kernel)), rfl⟩
theorem tw_135 : GW (.code yX2_record cX2_record 2 none) := ⟨in_1 (List.mem_of_getElem? (i := 215) rfl), rfl⟩
theorem tw_136 : GW (.fieldLink RX2 18 "ShapeFits$History" "count" "I") := ⟨in_1 (List.mem_of_getElem? (i := 78) (by decide +kernel)), rfl⟩
theorem tl_wsX7_add_r1 : GoodIn lw_tbl wsX7_add_r1 := (gi_c tw_118 (gi_c tw_9 (gi_c tw_119 (gi_c tw_17 (gi_c tw_21 (gi_c tw_120 (gi_c tw_121 (gi_c tw_122 (gi_c tw_123 (gi_c tw_124 (gi_c tw_125 (gi_c tw_126 (gi_c tw_127 (gi_c tw_128 (gi_c tw_129 (gi_c tw_8 (gi_c tw_130 (gi_c tw_131 (gi_c tw_132 (gi_c tw_133 (gi_c tw_134 (gi_c tw_16 (gi_c tw_135 (gi_c tw_136 gi_n))))))))))))))))))))))))
theorem tw_138 : GW (.methodLink RX2 22 yX2_forgetOldest) := ⟨in_1 (List.mem_of_getElem? (i := 216) (by decide +kernel)), rfl⟩
theorem tw_139 : GW (.instanceMethod yX2_forgetOldest) := ⟨in_1 (List.mem_of_getElem? (i := 218) (by decide +kernel)), rfl⟩
theorem tw_140 : GW (.selects RX2 yX2_forgetOldest yX2_forgetOldest) := ⟨in_0 (List.mem_of_getElem? (i := 0) rfl), rfl⟩
theorem tw_141 : GW (.code yX2_forgetOldest cX2_forgetOldest 3 none) := ⟨in_1 (List.mem_of_getElem? (i := 219) rfl), rfl⟩
theorem tw_142 : GW (.methodLink RX2 25 yX5_copyTo) := ⟨in_1 (List.mem_of_getElem? (i := 220) (by decide +kernel)), rfl⟩
theorem tw_143 : GW (.instanceMethod yX5_copyTo) := ⟨in_1 (List.mem_of_getElem? (i := 221) (by decide +kernel)), rfl⟩
theorem tw_144 : GW (.selects RX5 yX5_copyTo yX5_copyTo) := ⟨in_1 (List.mem_of_getElem? (i := 222) (by decide +kernel)), rfl⟩
theorem tw_145 : GW (.code yX5_copyTo cX5_copyTo 3 none) := ⟨in_1 (List.mem_of_getElem? (i := 223) rfl), rfl⟩
theorem tw_146 : GW (.methodLink RX5 29 yX5_empty) := ⟨in_1 (List.mem_of_getElem? (i := 224) (by decide +kernel)), rfl⟩
theorem tw_147 : GW (.instanceMethod yX5_empty) := ⟨in_1 (List.mem_of_getElem? (i := 225) (by decide +kernel)), rfl⟩
theorem tw_148 : GW (.selects RX5 yX5_empty yX5_empty) := ⟨in_1 (List.mem_of_getElem? (i := 226) (by decide +kernel)), rfl⟩
theorem tw_149 : GW (.code yX5_empty cX5_empty 1 none) := ⟨in_1 (List.mem_of_getElem? (i := 227) rfl), rfl⟩
theorem tw_150 : GW (.methodLink RX5 32 yX5_append) := ⟨in_1 (List.mem_of_getElem? (i := 228) (by decide +kernel)), rfl⟩
theorem tw_151 : GW (.instanceMethod yX5_append) := ⟨in_1 (List.mem_of_getElem? (i := 229) (by decide +kernel)), rfl⟩
theorem tw_152 : GW (.selects RX5 yX5_append yX5_append) := ⟨in_1 (List.mem_of_getElem? (i := 230) (by decide +kernel)), rfl⟩
theorem tw_153 : GW (.code yX5_append cX5_append 4 none) := ⟨in_1 (List.mem_of_getElem? (i := 231) rfl), rfl⟩
theorem tw_154 : GW (.methodLink RX7 83 yX5_append) := ⟨in_1 (List.mem_of_getElem? (i := 232) (by decide +kernel)), rfl⟩
theorem tw_155 : GW (.methodLink RX7 87 yX1_gather) := ⟨in_1 (List.mem_of_getElem? (i := 233) (by decide +kernel)), rfl⟩
theorem tw_156 : GW (.instanceMethod yX1_gather) := ⟨in_1 (List.mem_of_getElem? (i := 234) (by decide +kernel)), rfl⟩
theorem tw_157 : GW (.selects RX1 yX1_gather yX1_gather) := ⟨in_1 (List.mem_of_getElem? (i := 235) (by decide +kernel)), rfl⟩
theorem tl_wsX7_add_r2 : GoodIn lw_tbl wsX7_add_r2 := (gi_c tw_57 (gi_c tw_138 (gi_c tw_139 (gi_c tw_140 (gi_c tw_141 (gi_c tw_142 (gi_c tw_143 (gi_c tw_144 (gi_c tw_145 (gi_c tw_40 (gi_c tw_41 (gi_c tw_42 (gi_c tw_146 (gi_c tw_147 (gi_c tw_148 (gi_c tw_149 (gi_c tw_150 (gi_c tw_151 (gi_c tw_152 (gi_c tw_153 (gi_c tw_154 (gi_c tw_155 (gi_c tw_156 (gi_c tw_157 gi_n))))))))))))))))))))))))
theorem tw_159 : GW (.code yX1_gather cX1_gather 4 none) := ⟨in_1 (List.mem_of_getElem? (i := 236) rfl), rfl⟩
theorem tw_160 : GW (.fieldLink RX1 24 "ShapeFits$GroupTable" "count" "I") := ⟨in_1 (List.mem_of_getElem? (i := 94) (by decide +kernel)), rfl⟩
theorem tw_161 : GW (.fieldLink RX1 28 "ShapeFits$GroupTable" "squares" "I") := ⟨in_1 (List.mem_of_getElem? (i := 95) (by decide +kernel)), rfl⟩
theorem tw_162 : GW (.methodLink RX1 31 yX5_positionBehind) := ⟨in_1 (List.mem_of_getElem? (i := 237) (by decide +kernel)), rfl⟩
theorem tw_163 : GW (.instanceMethod yX5_positionBehind) := ⟨in_1 (List.mem_of_getElem? (i := 238) (by decide +kernel)), rfl⟩
theorem tw_164 : GW (.selects RX5 yX5_positionBehind yX5_positionBehind) := ⟨in_1 (List.mem_of_getElem? (i := 239) (by decide +kernel)), rfl⟩
theorem tw_165 : GW (.code yX5_positionBehind cX5_positionBehind 5 (some .int)) := ⟨in_2 (List.mem_of_getElem? (i := 0) rfl), rfl⟩
theorem tw_166 : GW (.methodLink RX1 37 yX1_gatherGroup) := ⟨in_2 (List.mem_of_getElem? (i := 1) (by decide +kernel)), rfl⟩
theorem tw_167 : GW (.instanceMethod yX1_gatherGroup) := ⟨in_2 (List.mem_of_getElem? (i := 3) (by decide +kernel)), rfl⟩
theorem tw_168 : GW (.selects RX1 yX1_gatherGroup yX1_gatherGroup) := ⟨in_0 (List.mem_of_getElem? (i := 1) rfl), rfl⟩
theorem tw_169 : GW (.code yX1_gatherGroup cX1_gatherGroup 8 none) := ⟨in_2 (List.mem_of_getElem? (i := 4) rfl), rfl⟩
theorem tw_170 : GW (.methodLink RX1 41 yX5_size) := ⟨in_2 (List.mem_of_getElem? (i := 5) (by decide +kernel)), rfl⟩
theorem tw_171 : GW (.methodLink RX1 45 yX5_positionOf) := ⟨in_2 (List.mem_of_getElem? (i := 6) (by decide +kernel)), rfl⟩
theorem tw_172 : GW (.instanceMethod yX5_positionOf) := ⟨in_2 (List.mem_of_getElem? (i := 7) (by decide +kernel)), rfl⟩
theorem tw_173 : GW (.selects RX5 yX5_positionOf yX5_positionOf) := ⟨in_2 (List.mem_of_getElem? (i := 8) (by decide +kernel)), rfl⟩
theorem tw_174 : GW (.code yX5_positionOf cX5_positionOf 2 (some .int)) := ⟨in_2 (List.mem_of_getElem? (i := 9) rfl), rfl⟩
theorem tw_175 : GW (.methodLink RX5 25 yX5_has) := ⟨in_2 (List.mem_of_getElem? (i := 10) (by decide +kernel)), rfl⟩
theorem tw_176 : GW (.instanceMethod yX5_has) := ⟨in_2 (List.mem_of_getElem? (i := 11) (by decide +kernel)), rfl⟩
theorem tw_177 : GW (.selects RX5 yX5_has yX5_has) := ⟨in_2 (List.mem_of_getElem? (i := 12) (by decide +kernel)), rfl⟩
theorem tl_wsX7_add_r3 : GoodIn lw_tbl wsX7_add_r3 := (gi_c tw_20 (gi_c tw_159 (gi_c tw_160 (gi_c tw_161 (gi_c tw_162 (gi_c tw_163 (gi_c tw_164 (gi_c tw_165 (gi_c tw_166 (gi_c tw_167 (gi_c tw_168 (gi_c tw_169 (gi_c tw_63 (gi_c tw_64 (gi_c tw_61 (gi_c tw_62 (gi_c tw_170 (gi_c tw_171 (gi_c tw_172 (gi_c tw_173 (gi_c tw_174 (gi_c tw_175 (gi_c tw_176 (gi_c tw_177 gi_n))))))))))))))))))))))))
theorem tw_179 : GW (.code yX5_has cX5_has 2 (some .boolean)) := ⟨in_2 (List.mem_of_getElem? (i := 13) rfl), rfl⟩
theorem tw_180 : GW (.methodLink RX1 48 yX5_valueOf) := ⟨in_2 (List.mem_of_getElem? (i := 14) (by decide +kernel)), rfl⟩
theorem tw_181 : GW (.instanceMethod yX5_valueOf) := ⟨in_2 (List.mem_of_getElem? (i := 15) (by decide +kernel)), rfl⟩
theorem tw_182 : GW (.selects RX5 yX5_valueOf yX5_valueOf) := ⟨in_2 (List.mem_of_getElem? (i := 16) (by decide +kernel)), rfl⟩
theorem tw_183 : GW (.code yX5_valueOf cX5_valueOf 2 (some .int)) := ⟨in_2 (List.mem_of_getElem? (i := 17) rfl), rfl⟩
theorem tw_184 : GW (.methodLink RX1 51 yX5_weightOf) := ⟨in_2 (List.mem_of_getElem? (i := 18) (by decide +kernel)), rfl⟩
theorem tw_185 : GW (.instanceMethod yX5_weightOf) := ⟨in_2 (List.mem_of_getElem? (i := 19) (by decide +kernel)), rfl⟩
theorem tw_186 : GW (.selects RX5 yX5_weightOf yX5_weightOf) := ⟨in_2 (List.mem_of_getElem? (i := 20) (by decide +kernel)), rfl⟩
theorem tw_187 : GW (.code yX5_weightOf cX5_weightOf 2 (some .int)) := ⟨in_2 (List.mem_of_getElem? (i := 21) rfl), rfl⟩
theorem tl_wsX7_add_r4 : GoodIn lw_tbl wsX7_add_r4 := (gi_c tw_179 (gi_c tw_180 (gi_c tw_181 (gi_c tw_182 (gi_c tw_183 (gi_c tw_184 (gi_c tw_185 (gi_c tw_186 (gi_c tw_187 gi_n)))))))))
theorem tl_wsX7_add : GoodIn lw_tbl wsX7_add := (gi_c tw_116 (goodIn_app (goodIn_app (goodIn_app (goodIn_app (goodIn_app tl_wsX7_add_r1 (goodIn_app tl_wsX7_add_r2 (goodIn_app tl_wsX7_add_r3 tl_wsX7_add_r4))) tu_X7) tu_X5) tu_X2) tu_X1))
theorem tw_188 : GW (.methodLink RL 13 yX7_add) := ⟨in_1 (List.mem_of_getElem? (i := 196) (by decide +kernel)), rfl⟩
theorem tw_189 : GW (.instanceMethod yX7_add) := ⟨in_1 (List.mem_of_getElem? (i := 197) (by decide +kernel)), rfl⟩
theorem tw_190 : GW (.selects RX7 yX7_add yX7_add) := ⟨in_1 (List.mem_of_getElem? (i := 198) (by decide +kernel)), rfl⟩
theorem tv_X7_add : GoodIn lw_tbl (wsV RL 13 RX7 yX7_add wsX7_add) := gi_v tw_122 tw_188 tw_189 tw_190 tl_wsX7_add
theorem tw_192 : GW (.code yX8_add cX8_add 4 (some .int)) := ⟨in_4 (List.mem_of_getElem? (i := 51) rfl), rfl⟩
theorem tw_193 : GW (.constant RX8 62 (-1000001)) := ⟨in_4 (List.mem_of_getElem? (i := 55) (by decide +kernel)), rfl⟩
theorem tw_194 : GW (.constant RX8 63 (-1000003)) := ⟨in_4 (List.mem_of_getElem? (i := 56) (by decide +kernel)), rfl⟩
theorem tw_195 : GW (.methodLink RX8 54 yX8_in) := ⟨in_4 (List.mem_of_getElem? (i := 52) (by decide +kernel)), rfl⟩
theorem tw_196 : GW (.static yX8_in) := ⟨in_4 (List.mem_of_getElem? (i := 53) (by decide +kernel)), rfl⟩
theorem tw_197 : GW (.initialized RX8) := ⟨in_1 (List.mem_of_getElem? (i := 9) (by decide +kernel)), rfl⟩
theorem tw_198 : GW (.code yX8_in cX8_in 3 (some .boolean)) := ⟨in_4 (List.mem_of_getElem? (i := 54) rfl), rfl⟩
theorem tw_199 : GW (.methodLink RX8 64 yX8_records) := ⟨in_4 (List.mem_of_getElem? (i := 57) (by decide +kernel)), rfl⟩
theorem tw_200 : GW (.instanceMethod yX8_records) := ⟨in_4 (List.mem_of_getElem? (i := 59) (by decide +kernel)), rfl⟩
theorem tw_201 : GW (.selects RX8 yX8_records yX8_records) := ⟨in_0 (List.mem_of_getElem? (i := 25) rfl), rfl⟩
theorem tw_202 : GW (.code yX8_records cX8_records 2 none) := ⟨in_4 (List.mem_of_getElem? (i := 60) rfl), rfl⟩
theorem tw_203 : GW (.fieldLink RX8 58 "ShapeFitsModel" "kept" "I") := ⟨in_3 (List.mem_of_getElem? (i := 217) (by decide +kernel)), rfl⟩
theorem tl_wsX8_add : GoodIn lw_tbl wsX8_add := (gi_c tw_192 (goodIn_app (gi_c tw_193 (gi_c tw_100 (gi_c tw_194 (gi_c tw_195 (gi_c tw_196 (gi_c tw_197 (gi_c tw_198 (gi_c tw_199 (gi_c tw_200 (gi_c tw_201 (gi_c tw_202 (gi_c tw_203 (gi_c tw_101 gi_n))))))))))))) tu_X8))
theorem tw_204 : GW (.methodLink RL 17 yX8_add) := ⟨in_4 (List.mem_of_getElem? (i := 48) (by decide +kernel)), rfl⟩
theorem tw_205 : GW (.instanceMethod yX8_add) := ⟨in_4 (List.mem_of_getElem? (i := 49) (by decide +kernel)), rfl⟩
theorem tw_206 : GW (.selects RX8 yX8_add yX8_add) := ⟨in_4 (List.mem_of_getElem? (i := 50) (by decide +kernel)), rfl⟩
theorem tv_X8_add : GoodIn lw_tbl (wsV RL 17 RX8 yX8_add wsX8_add) := gi_v tw_197 tw_204 tw_205 tw_206 tl_wsX8_add
theorem tw_208 : GW (.code yX7_remove cX7_remove 2 (some .int)) := ⟨in_2 (List.mem_of_getElem? (i := 25) rfl), rfl⟩
theorem tw_210 : GW (.methodLink RX7 90 yX5_has) := ⟨in_2 (List.mem_of_getElem? (i := 26) (by decide +kernel)), rfl⟩
theorem tl_wsX7_remove_r1 : GoodIn lw_tbl wsX7_remove_r1 := (gi_c tw_9 (gi_c tw_118 (gi_c tw_17 (gi_c tw_21 (gi_c tw_210 (gi_c tw_176 (gi_c tw_177 (gi_c tw_8 (gi_c tw_179 (gi_c tw_131 (gi_c tw_132 (gi_c tw_133 (gi_c tw_134 (gi_c tw_16 (gi_c tw_135 (gi_c tw_136 (gi_c tw_57 (gi_c tw_138 (gi_c tw_139 (gi_c tw_140 (gi_c tw_141 (gi_c tw_142 (gi_c tw_143 (gi_c tw_144 gi_n))))))))))))))))))))))))
theorem tw_212 : GW (.methodLink RX7 94 yX5_drop) := ⟨in_2 (List.mem_of_getElem? (i := 27) (by decide +kernel)), rfl⟩
theorem tw_213 : GW (.instanceMethod yX5_drop) := ⟨in_2 (List.mem_of_getElem? (i := 28) (by decide +kernel)), rfl⟩
theorem tw_214 : GW (.selects RX5 yX5_drop yX5_drop) := ⟨in_2 (List.mem_of_getElem? (i := 29) (by decide +kernel)), rfl⟩
theorem tw_215 : GW (.code yX5_drop cX5_drop 3 none) := ⟨in_2 (List.mem_of_getElem? (i := 30) rfl), rfl⟩
theorem tl_wsX7_remove_r2 : GoodIn lw_tbl wsX7_remove_r2 := (gi_c tw_145 (gi_c tw_40 (gi_c tw_41 (gi_c tw_42 (gi_c tw_146 (gi_c tw_147 (gi_c tw_148 (gi_c tw_149 (gi_c tw_150 (gi_c tw_151 (gi_c tw_152 (gi_c tw_153 (gi_c tw_212 (gi_c tw_213 (gi_c tw_214 (gi_c tw_215 (gi_c tw_175 (gi_c tw_155 (gi_c tw_156 (gi_c tw_157 (gi_c tw_20 (gi_c tw_159 (gi_c tw_160 (gi_c tw_161 gi_n))))))))))))))))))))))))
theorem tl_wsX7_remove_r3 : GoodIn lw_tbl wsX7_remove_r3 := (gi_c tw_162 (gi_c tw_163 (gi_c tw_164 (gi_c tw_165 (gi_c tw_166 (gi_c tw_167 (gi_c tw_168 (gi_c tw_169 (gi_c tw_63 (gi_c tw_64 (gi_c tw_61 (gi_c tw_62 (gi_c tw_170 (gi_c tw_128 (gi_c tw_129 (gi_c tw_130 (gi_c tw_171 (gi_c tw_172 (gi_c tw_173 (gi_c tw_174 (gi_c tw_180 (gi_c tw_181 (gi_c tw_182 (gi_c tw_183 gi_n))))))))))))))))))))))))
theorem tl_wsX7_remove_r4 : GoodIn lw_tbl wsX7_remove_r4 := (gi_c tw_184 (gi_c tw_185 (gi_c tw_186 (gi_c tw_187 (gi_c tw_127 gi_n)))))
theorem tl_wsX7_remove : GoodIn lw_tbl wsX7_remove := (gi_c tw_208 (goodIn_app (goodIn_app (goodIn_app (goodIn_app (goodIn_app tl_wsX7_remove_r1 (goodIn_app tl_wsX7_remove_r2 (goodIn_app tl_wsX7_remove_r3 tl_wsX7_remove_r4))) tu_X7) tu_X5) tu_X2) tu_X1))
theorem tw_218 : GW (.methodLink RL 18 yX7_remove) := ⟨in_2 (List.mem_of_getElem? (i := 22) (by decide +kernel)), rfl⟩
theorem tw_219 : GW (.instanceMethod yX7_remove) := ⟨in_2 (List.mem_of_getElem? (i := 23) (by decide +kernel)), rfl⟩
theorem tw_220 : GW (.selects RX7 yX7_remove yX7_remove) := ⟨in_2 (List.mem_of_getElem? (i := 24) (by decide +kernel)), rfl⟩
theorem tv_X7_remove : GoodIn lw_tbl (wsV RL 18 RX7 yX7_remove wsX7_remove) := gi_v tw_122 tw_218 tw_219 tw_220 tl_wsX7_remove
theorem tw_222 : GW (.code yX8_remove cX8_remove 3 (some .int)) := ⟨in_4 (List.mem_of_getElem? (i := 64) rfl), rfl⟩
theorem tw_223 : GW (.methodLink RX8 67 yX8_isPoint) := ⟨in_4 (List.mem_of_getElem? (i := 65) (by decide +kernel)), rfl⟩
theorem tw_224 : GW (.instanceMethod yX8_isPoint) := ⟨in_4 (List.mem_of_getElem? (i := 67) (by decide +kernel)), rfl⟩
theorem tw_225 : GW (.selects RX8 yX8_isPoint yX8_isPoint) := ⟨in_0 (List.mem_of_getElem? (i := 26) rfl), rfl⟩
theorem tw_226 : GW (.code yX8_isPoint cX8_isPoint 2 (some .boolean)) := ⟨in_4 (List.mem_of_getElem? (i := 68) rfl), rfl⟩
theorem tl_wsX8_remove : GoodIn lw_tbl wsX8_remove := (gi_c tw_222 (goodIn_app (gi_c tw_193 (gi_c tw_100 (gi_c tw_223 (gi_c tw_224 (gi_c tw_225 (gi_c tw_197 (gi_c tw_226 (gi_c tw_195 (gi_c tw_196 (gi_c tw_198 (gi_c tw_199 (gi_c tw_200 (gi_c tw_201 (gi_c tw_202 (gi_c tw_203 (gi_c tw_101 gi_n)))))))))))))))) tu_X8))
theorem tw_227 : GW (.methodLink RL 22 yX8_remove) := ⟨in_4 (List.mem_of_getElem? (i := 61) (by decide +kernel)), rfl⟩
theorem tw_228 : GW (.instanceMethod yX8_remove) := ⟨in_4 (List.mem_of_getElem? (i := 62) (by decide +kernel)), rfl⟩
theorem tw_229 : GW (.selects RX8 yX8_remove yX8_remove) := ⟨in_4 (List.mem_of_getElem? (i := 63) (by decide +kernel)), rfl⟩
theorem tv_X8_remove : GoodIn lw_tbl (wsV RL 22 RX8 yX8_remove wsX8_remove) := gi_v tw_197 tw_227 tw_228 tw_229 tl_wsX8_remove
theorem tw_231 : GW (.code yX7_setPoint cX7_setPoint 5 (some .int)) := ⟨in_2 (List.mem_of_getElem? (i := 34) rfl), rfl⟩
theorem tw_233 : GW (.methodLink RX7 98 yX5_valueOf) := ⟨in_2 (List.mem_of_getElem? (i := 35) (by decide +kernel)), rfl⟩
theorem tw_234 : GW (.methodLink RX7 102 yX5_weightOf) := ⟨in_2 (List.mem_of_getElem? (i := 36) (by decide +kernel)), rfl⟩
theorem tl_wsX7_setPoint_r1 : GoodIn lw_tbl wsX7_setPoint_r1 := (gi_c tw_9 (gi_c tw_118 (gi_c tw_17 (gi_c tw_21 (gi_c tw_210 (gi_c tw_176 (gi_c tw_177 (gi_c tw_8 (gi_c tw_179 (gi_c tw_131 (gi_c tw_124 (gi_c tw_125 (gi_c tw_122 (gi_c tw_126 (gi_c tw_120 (gi_c tw_121 (gi_c tw_123 (gi_c tw_233 (gi_c tw_181 (gi_c tw_182 (gi_c tw_183 (gi_c tw_41 (gi_c tw_175 (gi_c tw_234 gi_n))))))))))))))))))))))))
theorem tl_wsX7_setPoint_r2 : GoodIn lw_tbl wsX7_setPoint_r2 := (gi_c tw_185 (gi_c tw_186 (gi_c tw_187 (gi_c tw_42 (gi_c tw_132 (gi_c tw_133 (gi_c tw_134 (gi_c tw_16 (gi_c tw_135 (gi_c tw_136 (gi_c tw_57 (gi_c tw_138 (gi_c tw_139 (gi_c tw_140 (gi_c tw_141 (gi_c tw_142 (gi_c tw_143 (gi_c tw_144 (gi_c tw_145 (gi_c tw_40 (gi_c tw_146 (gi_c tw_147 (gi_c tw_148 (gi_c tw_149 gi_n))))))))))))))))))))))))
theorem tw_237 : GW (.methodLink RX7 105 yX5_change) := ⟨in_2 (List.mem_of_getElem? (i := 37) (by decide +kernel)), rfl⟩
theorem tw_238 : GW (.instanceMethod yX5_change) := ⟨in_2 (List.mem_of_getElem? (i := 38) (by decide +kernel)), rfl⟩
theorem tw_239 : GW (.selects RX5 yX5_change yX5_change) := ⟨in_2 (List.mem_of_getElem? (i := 39) (by decide +kernel)), rfl⟩
theorem tw_240 : GW (.code yX5_change cX5_change 4 none) := ⟨in_2 (List.mem_of_getElem? (i := 40) rfl), rfl⟩
theorem tl_wsX7_setPoint_r3 : GoodIn lw_tbl wsX7_setPoint_r3 := (gi_c tw_150 (gi_c tw_151 (gi_c tw_152 (gi_c tw_153 (gi_c tw_237 (gi_c tw_238 (gi_c tw_239 (gi_c tw_240 (gi_c tw_155 (gi_c tw_156 (gi_c tw_157 (gi_c tw_20 (gi_c tw_159 (gi_c tw_160 (gi_c tw_161 (gi_c tw_162 (gi_c tw_163 (gi_c tw_164 (gi_c tw_165 (gi_c tw_166 (gi_c tw_167 (gi_c tw_168 (gi_c tw_169 (gi_c tw_63 gi_n))))))))))))))))))))))))
theorem tl_wsX7_setPoint_r4 : GoodIn lw_tbl wsX7_setPoint_r4 := (gi_c tw_64 (gi_c tw_61 (gi_c tw_62 (gi_c tw_170 (gi_c tw_128 (gi_c tw_129 (gi_c tw_130 (gi_c tw_171 (gi_c tw_172 (gi_c tw_173 (gi_c tw_174 (gi_c tw_180 (gi_c tw_184 gi_n)))))))))))))
theorem tl_wsX7_setPoint : GoodIn lw_tbl wsX7_setPoint := (gi_c tw_231 (goodIn_app (goodIn_app (goodIn_app (goodIn_app (goodIn_app tl_wsX7_setPoint_r1 (goodIn_app tl_wsX7_setPoint_r2 (goodIn_app tl_wsX7_setPoint_r3 tl_wsX7_setPoint_r4))) tu_X7) tu_X5) tu_X2) tu_X1))
theorem tw_242 : GW (.methodLink RL 23 yX7_setPoint) := ⟨in_2 (List.mem_of_getElem? (i := 31) (by decide +kernel)), rfl⟩
theorem tw_243 : GW (.instanceMethod yX7_setPoint) := ⟨in_2 (List.mem_of_getElem? (i := 32) (by decide +kernel)), rfl⟩
theorem tw_244 : GW (.selects RX7 yX7_setPoint yX7_setPoint) := ⟨in_2 (List.mem_of_getElem? (i := 33) (by decide +kernel)), rfl⟩
theorem tv_X7_setPoint : GoodIn lw_tbl (wsV RL 23 RX7 yX7_setPoint wsX7_setPoint) := gi_v tw_122 tw_242 tw_243 tw_244 tl_wsX7_setPoint
theorem tw_246 : GW (.code yX8_setPoint cX8_setPoint 5 (some .int)) := ⟨in_4 (List.mem_of_getElem? (i := 72) rfl), rfl⟩
theorem tl_wsX8_setPoint : GoodIn lw_tbl wsX8_setPoint := (gi_c tw_246 (goodIn_app (gi_c tw_193 (gi_c tw_100 (gi_c tw_223 (gi_c tw_224 (gi_c tw_225 (gi_c tw_197 (gi_c tw_226 (gi_c tw_195 (gi_c tw_196 (gi_c tw_198 (gi_c tw_199 (gi_c tw_200 (gi_c tw_201 (gi_c tw_202 (gi_c tw_203 (gi_c tw_101 gi_n)))))))))))))))) tu_X8))
theorem tw_247 : GW (.methodLink RL 26 yX8_setPoint) := ⟨in_4 (List.mem_of_getElem? (i := 69) (by decide +kernel)), rfl⟩
theorem tw_248 : GW (.instanceMethod yX8_setPoint) := ⟨in_4 (List.mem_of_getElem? (i := 70) (by decide +kernel)), rfl⟩
theorem tw_249 : GW (.selects RX8 yX8_setPoint yX8_setPoint) := ⟨in_4 (List.mem_of_getElem? (i := 71) (by decide +kernel)), rfl⟩
theorem tv_X8_setPoint : GoodIn lw_tbl (wsV RL 26 RX8 yX8_setPoint wsX8_setPoint) := gi_v tw_197 tw_247 tw_248 tw_249 tl_wsX8_setPoint
theorem tw_251 : GW (.code yX7_mirror cX7_mirror 2 (some .int)) := ⟨in_2 (List.mem_of_getElem? (i := 44) rfl), rfl⟩
theorem tl_wsX7_mirror_r1 : GoodIn lw_tbl wsX7_mirror_r1 := (gi_c tw_118 (gi_c tw_17 (gi_c tw_9 (gi_c tw_21 (gi_c tw_120 (gi_c tw_121 (gi_c tw_122 (gi_c tw_123 (gi_c tw_132 (gi_c tw_133 (gi_c tw_134 (gi_c tw_16 (gi_c tw_135 (gi_c tw_136 (gi_c tw_57 (gi_c tw_138 (gi_c tw_139 (gi_c tw_140 (gi_c tw_141 (gi_c tw_142 (gi_c tw_143 (gi_c tw_144 (gi_c tw_8 (gi_c tw_145 gi_n))))))))))))))))))))))))
theorem tw_254 : GW (.methodLink RX7 108 yX5_mirrorPositions) := ⟨in_2 (List.mem_of_getElem? (i := 45) (by decide +kernel)), rfl⟩
theorem tw_255 : GW (.instanceMethod yX5_mirrorPositions) := ⟨in_2 (List.mem_of_getElem? (i := 46) (by decide +kernel)), rfl⟩
theorem tw_256 : GW (.selects RX5 yX5_mirrorPositions yX5_mirrorPositions) := ⟨in_2 (List.mem_of_getElem? (i := 47) (by decide +kernel)), rfl⟩
theorem tw_257 : GW (.code yX5_mirrorPositions cX5_mirrorPositions 2 none) := ⟨in_2 (List.mem_of_getElem? (i := 48) rfl), rfl⟩
theorem tw_258 : GW (.methodLink RX7 111 yX5_mirrorValues) := ⟨in_2 (List.mem_of_getElem? (i := 49) (by decide +kernel)), rfl⟩
theorem tw_259 : GW (.instanceMethod yX5_mirrorValues) := ⟨in_2 (List.mem_of_getElem? (i := 50) (by decide +kernel)), rfl⟩
theorem tw_260 : GW (.selects RX5 yX5_mirrorValues yX5_mirrorValues) := ⟨in_2 (List.mem_of_getElem? (i := 51) (by decide +kernel)), rfl⟩
theorem tw_261 : GW (.code yX5_mirrorValues cX5_mirrorValues 2 none) := ⟨in_2 (List.mem_of_getElem? (i := 52) rfl), rfl⟩
theorem tl_wsX7_mirror_r2 : GoodIn lw_tbl wsX7_mirror_r2 := (gi_c tw_131 (gi_c tw_40 (gi_c tw_41 (gi_c tw_42 (gi_c tw_146 (gi_c tw_147 (gi_c tw_148 (gi_c tw_149 (gi_c tw_150 (gi_c tw_151 (gi_c tw_152 (gi_c tw_153 (gi_c tw_254 (gi_c tw_255 (gi_c tw_256 (gi_c tw_257 (gi_c tw_258 (gi_c tw_259 (gi_c tw_260 (gi_c tw_261 (gi_c tw_155 (gi_c tw_156 (gi_c tw_157 (gi_c tw_20 gi_n))))))))))))))))))))))))
theorem tl_wsX7_mirror_r3 : GoodIn lw_tbl wsX7_mirror_r3 := (gi_c tw_159 (gi_c tw_160 (gi_c tw_161 (gi_c tw_162 (gi_c tw_163 (gi_c tw_164 (gi_c tw_165 (gi_c tw_166 (gi_c tw_167 (gi_c tw_168 (gi_c tw_169 (gi_c tw_63 (gi_c tw_64 (gi_c tw_61 (gi_c tw_62 (gi_c tw_170 (gi_c tw_128 (gi_c tw_129 (gi_c tw_130 (gi_c tw_171 (gi_c tw_172 (gi_c tw_173 (gi_c tw_174 (gi_c tw_175 gi_n))))))))))))))))))))))))
theorem tl_wsX7_mirror_r4 : GoodIn lw_tbl wsX7_mirror_r4 := (gi_c tw_176 (gi_c tw_177 (gi_c tw_179 (gi_c tw_180 (gi_c tw_181 (gi_c tw_182 (gi_c tw_183 (gi_c tw_184 (gi_c tw_185 (gi_c tw_186 (gi_c tw_187 (gi_c tw_127 gi_n))))))))))))
theorem tl_wsX7_mirror : GoodIn lw_tbl wsX7_mirror := (gi_c tw_251 (goodIn_app (goodIn_app (goodIn_app (goodIn_app (goodIn_app tl_wsX7_mirror_r1 (goodIn_app tl_wsX7_mirror_r2 (goodIn_app tl_wsX7_mirror_r3 tl_wsX7_mirror_r4))) tu_X7) tu_X2) tu_X5) tu_X1))
theorem tw_264 : GW (.methodLink RL 27 yX7_mirror) := ⟨in_2 (List.mem_of_getElem? (i := 41) (by decide +kernel)), rfl⟩
theorem tw_265 : GW (.instanceMethod yX7_mirror) := ⟨in_2 (List.mem_of_getElem? (i := 42) (by decide +kernel)), rfl⟩
theorem tw_266 : GW (.selects RX7 yX7_mirror yX7_mirror) := ⟨in_2 (List.mem_of_getElem? (i := 43) (by decide +kernel)), rfl⟩
theorem tv_X7_mirror : GoodIn lw_tbl (wsV RL 27 RX7 yX7_mirror wsX7_mirror) := gi_v tw_122 tw_264 tw_265 tw_266 tl_wsX7_mirror
theorem tw_268 : GW (.code yX8_mirror cX8_mirror 3 (some .int)) := ⟨in_4 (List.mem_of_getElem? (i := 76) rfl), rfl⟩
theorem tl_wsX8_mirror : GoodIn lw_tbl wsX8_mirror := (gi_c tw_268 (goodIn_app (gi_c tw_193 (gi_c tw_100 (gi_c tw_195 (gi_c tw_196 (gi_c tw_197 (gi_c tw_198 (gi_c tw_199 (gi_c tw_200 (gi_c tw_201 (gi_c tw_202 (gi_c tw_203 (gi_c tw_101 gi_n)))))))))))) tu_X8))
theorem tw_269 : GW (.methodLink RL 30 yX8_mirror) := ⟨in_4 (List.mem_of_getElem? (i := 73) (by decide +kernel)), rfl⟩
theorem tw_270 : GW (.instanceMethod yX8_mirror) := ⟨in_4 (List.mem_of_getElem? (i := 74) (by decide +kernel)), rfl⟩
theorem tw_271 : GW (.selects RX8 yX8_mirror yX8_mirror) := ⟨in_4 (List.mem_of_getElem? (i := 75) (by decide +kernel)), rfl⟩
theorem tv_X8_mirror : GoodIn lw_tbl (wsV RL 30 RX8 yX8_mirror wsX8_mirror) := gi_v tw_197 tw_269 tw_270 tw_271 tl_wsX8_mirror
theorem tw_273 : GW (.code yX7_lay cX7_lay 1 (some .int)) := ⟨in_2 (List.mem_of_getElem? (i := 56) rfl), rfl⟩
theorem tw_275 : GW (.constant RX7 117 (-1000002)) := ⟨in_2 (List.mem_of_getElem? (i := 91) (by decide +kernel)), rfl⟩
theorem tw_276 : GW (.methodLink RX7 114 yX6_examine) := ⟨in_2 (List.mem_of_getElem? (i := 57) (by decide +kernel)), rfl⟩
theorem tw_277 : GW (.instanceMethod yX6_examine) := ⟨in_2 (List.mem_of_getElem? (i := 58) (by decide +kernel)), rfl⟩
theorem tw_278 : GW (.selects RX6 yX6_examine yX6_examine) := ⟨in_2 (List.mem_of_getElem? (i := 59) (by decide +kernel)), rfl⟩
theorem tw_279 : GW (.code yX6_examine cX6_examine 3 (some .int)) := ⟨in_2 (List.mem_of_getElem? (i := 60) rfl), rfl⟩
theorem tw_280 : GW (.fieldLink RX6 30 "ShapeFits$PointText" "chainLength" "I") := ⟨in_1 (List.mem_of_getElem? (i := 53) (by decide +kernel)), rfl⟩
theorem tw_281 : GW (.fieldLink RX6 40 "ShapeFits$PointText" "place" "I") := ⟨in_1 (List.mem_of_getElem? (i := 52) (by decide +kernel)), rfl⟩
theorem tw_282 : GW (.fieldLink RX6 26 "ShapeFits$PointText" "length" "I") := ⟨in_1 (List.mem_of_getElem? (i := 51) (by decide +kernel)), rfl⟩
theorem tw_283 : GW (.methodLink RX6 37 yX5_empty) := ⟨in_2 (List.mem_of_getElem? (i := 61) (by decide +kernel)), rfl⟩
theorem tw_284 : GW (.methodLink RX6 43 yX6_readPoint) := ⟨in_2 (List.mem_of_getElem? (i := 62) (by decide +kernel)), rfl⟩
theorem tw_285 : GW (.instanceMethod yX6_readPoint) := ⟨in_2 (List.mem_of_getElem? (i := 64) (by decide +kernel)), rfl⟩
theorem tw_286 : GW (.selects RX6 yX6_readPoint yX6_readPoint) := ⟨in_0 (List.mem_of_getElem? (i := 2) rfl), rfl⟩
theorem tw_287 : GW (.code yX6_readPoint cX6_readPoint 5 (some .boolean)) := ⟨in_2 (List.mem_of_getElem? (i := 65) rfl), rfl⟩
theorem tl_wsX7_lay_r1 : GoodIn lw_tbl wsX7_lay_r1 := (gi_c tw_13 (gi_c tw_275 (gi_c tw_17 (gi_c tw_9 (gi_c tw_21 (gi_c tw_276 (gi_c tw_277 (gi_c tw_278 (gi_c tw_12 (gi_c tw_279 (gi_c tw_49 (gi_c tw_280 (gi_c tw_281 (gi_c tw_282 (gi_c tw_283 (gi_c tw_147 (gi_c tw_148 (gi_c tw_8 (gi_c tw_149 (gi_c tw_131 (gi_c tw_284 (gi_c tw_285 (gi_c tw_286 (gi_c tw_287 gi_n))))))))))))))))))))))))
theorem tw_289 : GW (.methodLink RX6 51 yX6_readNumber) := ⟨in_2 (List.mem_of_getElem? (i := 66) (by decide +kernel)), rfl⟩
theorem tw_290 : GW (.instanceMethod yX6_readNumber) := ⟨in_2 (List.mem_of_getElem? (i := 68) (by decide +kernel)), rfl⟩
theorem tw_291 : GW (.selects RX6 yX6_readNumber yX6_readNumber) := ⟨in_0 (List.mem_of_getElem? (i := 3) rfl), rfl⟩
theorem tw_292 : GW (.code yX6_readNumber cX6_readNumber 4 (some .int)) := ⟨in_2 (List.mem_of_getElem? (i := 69) rfl), rfl⟩
theorem tw_293 : GW (.methodLink RX6 73 Lib.Math.max.name) := ⟨in_2 (List.mem_of_getElem? (i := 74) (by decide +kernel)), rfl⟩
theorem tw_294 : GW (.static Lib.Math.max.name) := ⟨in_2 (List.mem_of_getElem? (i := 75) (by decide +kernel)), rfl⟩
theorem tw_295 : GW (.initialized "java/lang/Math") := ⟨in_1 (List.mem_of_getElem? (i := 10) (by decide +kernel)), rfl⟩
theorem tw_296 : GW (.code Lib.Math.max.name Lib.Math.max.code 2 (some .int)) := ⟨in_2 (List.mem_of_getElem? (i := 76) rfl), rfl⟩
theorem tw_297 : GW (.methodLink RX6 70 yX6_digitAhead) := ⟨in_2 (List.mem_of_getElem? (i := 70) (by decide +kernel)), rfl⟩
theorem tw_298 : GW (.instanceMethod yX6_digitAhead) := ⟨in_2 (List.mem_of_getElem? (i := 72) (by decide +kernel)), rfl⟩
theorem tw_299 : GW (.selects RX6 yX6_digitAhead yX6_digitAhead) := ⟨in_0 (List.mem_of_getElem? (i := 4) rfl), rfl⟩
theorem tw_300 : GW (.code yX6_digitAhead cX6_digitAhead 1 (some .boolean)) := ⟨in_2 (List.mem_of_getElem? (i := 73) rfl), rfl⟩
theorem tw_301 : GW (.methodLink RX6 55 yX6_refuseNumber) := ⟨in_2 (List.mem_of_getElem? (i := 77) (by decide +kernel)), rfl⟩
theorem tw_302 : GW (.instanceMethod yX6_refuseNumber) := ⟨in_2 (List.mem_of_getElem? (i := 79) (by decide +kernel)), rfl⟩
theorem tw_303 : GW (.selects RX6 yX6_refuseNumber yX6_refuseNumber) := ⟨in_0 (List.mem_of_getElem? (i := 5) rfl), rfl⟩
theorem tw_304 : GW (.code yX6_refuseNumber cX6_refuseNumber 3 (some .boolean)) := ⟨in_2 (List.mem_of_getElem? (i := 80) rfl), rfl⟩
theorem tw_305 : GW (.methodLink RX6 47 yX6_refuse) := ⟨in_2 (List.mem_of_getElem? (i := 81) (by decide +kernel)), rfl⟩
theorem tw_306 : GW (.instanceMethod yX6_refuse) := ⟨in_2 (List.mem_of_getElem? (i := 83) (by decide +kernel)), rfl⟩
theorem tw_307 : GW (.selects RX6 yX6_refuse yX6_refuse) := ⟨in_0 (List.mem_of_getElem? (i := 6) rfl), rfl⟩
theorem tw_308 : GW (.code yX6_refuse cX6_refuse 3 (some .boolean)) := ⟨in_2 (List.mem_of_getElem? (i := 84) rfl), rfl⟩
theorem tw_309 : GW (.methodLink RX6 66 yX5_size) := ⟨in_2 (List.mem_of_getElem? (i := 85) (by decide +kernel)), rfl⟩
theorem tl_wsX7_lay_r2 : GoodIn lw_tbl wsX7_lay_r2 := (gi_c tw_289 (gi_c tw_290 (gi_c tw_291 (gi_c tw_292 (gi_c tw_293 (gi_c tw_294 (gi_c tw_295 (gi_c tw_296 (gi_c tw_47 (gi_c tw_297 (gi_c tw_298 (gi_c tw_299 (gi_c tw_300 (gi_c tw_301 (gi_c tw_302 (gi_c tw_303 (gi_c tw_304 (gi_c tw_305 (gi_c tw_306 (gi_c tw_307 (gi_c tw_308 (gi_c tw_50 (gi_c tw_309 (gi_c tw_128 gi_n))))))))))))))))))))))))
theorem tw_311 : GW (.methodLink RX6 58 yX6_passes) := ⟨in_2 (List.mem_of_getElem? (i := 86) (by decide +kernel)), rfl⟩
theorem tw_312 : GW (.instanceMethod yX6_passes) := ⟨in_2 (List.mem_of_getElem? (i := 88) (by decide +kernel)), rfl⟩
theorem tw_313 : GW (.selects RX6 yX6_passes yX6_passes) := ⟨in_0 (List.mem_of_getElem? (i := 7) rfl), rfl⟩
theorem tw_314 : GW (.code yX6_passes cX6_passes 2 (some .boolean)) := ⟨in_2 (List.mem_of_getElem? (i := 89) rfl), rfl⟩
theorem tw_315 : GW (.methodLink RX6 62 yX5_append) := ⟨in_2 (List.mem_of_getElem? (i := 90) (by decide +kernel)), rfl⟩
theorem tl_wsX7_lay_r3 : GoodIn lw_tbl wsX7_lay_r3 := (gi_c tw_129 (gi_c tw_130 (gi_c tw_311 (gi_c tw_312 (gi_c tw_313 (gi_c tw_314 (gi_c tw_315 (gi_c tw_151 (gi_c tw_152 (gi_c tw_153 (gi_c tw_40 (gi_c tw_41 (gi_c tw_42 (gi_c tw_132 (gi_c tw_133 (gi_c tw_134 (gi_c tw_16 (gi_c tw_135 (gi_c tw_136 (gi_c tw_57 (gi_c tw_138 (gi_c tw_139 (gi_c tw_140 (gi_c tw_141 gi_n))))))))))))))))))))))))
theorem tw_317 : GW (.methodLink RX7 118 yX6_copyPointsTo) := ⟨in_2 (List.mem_of_getElem? (i := 92) (by decide +kernel)), rfl⟩
theorem tw_318 : GW (.instanceMethod yX6_copyPointsTo) := ⟨in_2 (List.mem_of_getElem? (i := 93) (by decide +kernel)), rfl⟩
theorem tw_319 : GW (.selects RX6 yX6_copyPointsTo yX6_copyPointsTo) := ⟨in_2 (List.mem_of_getElem? (i := 94) (by decide +kernel)), rfl⟩
theorem tw_320 : GW (.code yX6_copyPointsTo cX6_copyPointsTo 2 none) := ⟨in_2 (List.mem_of_getElem? (i := 95) rfl), rfl⟩
theorem tw_321 : GW (.methodLink RX6 33 yX5_copyTo) := ⟨in_2 (List.mem_of_getElem? (i := 96) (by decide +kernel)), rfl⟩
theorem tl_wsX7_lay_r4 : GoodIn lw_tbl wsX7_lay_r4 := (gi_c tw_142 (gi_c tw_143 (gi_c tw_144 (gi_c tw_145 (gi_c tw_146 (gi_c tw_150 (gi_c tw_317 (gi_c tw_318 (gi_c tw_319 (gi_c tw_320 (gi_c tw_321 (gi_c tw_155 (gi_c tw_156 (gi_c tw_157 (gi_c tw_20 (gi_c tw_159 (gi_c tw_160 (gi_c tw_161 (gi_c tw_162 (gi_c tw_163 (gi_c tw_164 (gi_c tw_165 (gi_c tw_166 (gi_c tw_167 gi_n))))))))))))))))))))))))
theorem tl_wsX7_lay_r5 : GoodIn lw_tbl wsX7_lay_r5 := (gi_c tw_168 (gi_c tw_169 (gi_c tw_63 (gi_c tw_64 (gi_c tw_61 (gi_c tw_62 (gi_c tw_170 (gi_c tw_171 (gi_c tw_172 (gi_c tw_173 (gi_c tw_174 (gi_c tw_175 (gi_c tw_176 (gi_c tw_177 (gi_c tw_179 (gi_c tw_180 (gi_c tw_181 (gi_c tw_182 (gi_c tw_183 (gi_c tw_184 (gi_c tw_185 (gi_c tw_186 (gi_c tw_187 (gi_c tw_127 gi_n))))))))))))))))))))))))
theorem tl_wsX7_lay : GoodIn lw_tbl wsX7_lay := (gi_c tw_273 (goodIn_app (goodIn_app (goodIn_app (goodIn_app (goodIn_app (goodIn_app tl_wsX7_lay_r1 (goodIn_app tl_wsX7_lay_r2 (goodIn_app tl_wsX7_lay_r3 (goodIn_app tl_wsX7_lay_r4 tl_wsX7_lay_r5)))) tu_X7) tu_X6) tu_X5) tu_X2) tu_X1))
theorem tw_323 : GW (.methodLink RL 31 yX7_lay) := ⟨in_2 (List.mem_of_getElem? (i := 53) (by decide +kernel)), rfl⟩
theorem tw_324 : GW (.instanceMethod yX7_lay) := ⟨in_2 (List.mem_of_getElem? (i := 54) (by decide +kernel)), rfl⟩
theorem tw_325 : GW (.selects RX7 yX7_lay yX7_lay) := ⟨in_2 (List.mem_of_getElem? (i := 55) (by decide +kernel)), rfl⟩
theorem tv_X7_lay : GoodIn lw_tbl (wsV RL 31 RX7 yX7_lay wsX7_lay) := gi_v tw_122 tw_323 tw_324 tw_325 tl_wsX7_lay
theorem tw_327 : GW (.code yX8_lay cX8_lay 2 (some .int)) := ⟨in_5 (List.mem_of_getElem? (i := 36) rfl), rfl⟩
theorem tw_329 : GW (.constant RX8 159 (-1000004)) := ⟨in_4 (List.mem_of_getElem? (i := 193) (by decide +kernel)), rfl⟩
theorem tw_330 : GW (.constant RX8 71 (-1000002)) := ⟨in_4 (List.mem_of_getElem? (i := 81) (by decide +kernel)), rfl⟩
theorem tw_331 : GW (.fieldLink RX8 203 "ShapeFitsModel" "readPoints" "I") := ⟨in_3 (List.mem_of_getElem? (i := 238) (by decide +kernel)), rfl⟩
theorem tw_332 : GW (.methodLink RX8 209 yX8_fault) := ⟨in_5 (List.mem_of_getElem? (i := 37) (by decide +kernel)), rfl⟩
theorem tw_333 : GW (.instanceMethod yX8_fault) := ⟨in_5 (List.mem_of_getElem? (i := 6) (by decide +kernel)), rfl⟩
theorem tw_334 : GW (.selects RX8 yX8_fault yX8_fault) := ⟨in_5 (List.mem_of_getElem? (i := 7) (by decide +kernel)), rfl⟩
theorem tw_335 : GW (.code yX8_fault cX8_fault 2 (some .int)) := ⟨in_5 (List.mem_of_getElem? (i := 8) rfl), rfl⟩
theorem tw_336 : GW (.fieldLink RX8 182 "ShapeFitsModel" "reasoned" "I") := ⟨in_3 (List.mem_of_getElem? (i := 221) (by decide +kernel)), rfl⟩
theorem tw_337 : GW (.fieldLink RX8 179 "ShapeFitsModel" "at" "I") := ⟨in_3 (List.mem_of_getElem? (i := 237) (by decide +kernel)), rfl⟩
theorem tw_338 : GW (.fieldLink RX8 176 "ShapeFitsModel" "typed" "I") := ⟨in_3 (List.mem_of_getElem? (i := 219) (by decide +kernel)), rfl⟩
theorem tw_339 : GW (.methodLink RX8 206 yX8_readsPoint) := ⟨in_5 (List.mem_of_getElem? (i := 9) (by decide +kernel)), rfl⟩
theorem tw_340 : GW (.instanceMethod yX8_readsPoint) := ⟨in_5 (List.mem_of_getElem? (i := 11) (by decide +kernel)), rfl⟩
theorem tw_341 : GW (.selects RX8 yX8_readsPoint yX8_readsPoint) := ⟨in_0 (List.mem_of_getElem? (i := 45) rfl), rfl⟩
theorem tw_342 : GW (.code yX8_readsPoint cX8_readsPoint 2 (some .boolean)) := ⟨in_5 (List.mem_of_getElem? (i := 12) rfl), rfl⟩
theorem tw_343 : GW (.methodLink RX8 192 yX8_blames) := ⟨in_5 (List.mem_of_getElem? (i := 13) (by decide +kernel)), rfl⟩
theorem tw_344 : GW (.instanceMethod yX8_blames) := ⟨in_5 (List.mem_of_getElem? (i := 15) (by decide +kernel)), rfl⟩
theorem tw_345 : GW (.selects RX8 yX8_blames yX8_blames) := ⟨in_0 (List.mem_of_getElem? (i := 46) rfl), rfl⟩
theorem tw_346 : GW (.code yX8_blames cX8_blames 4 none) := ⟨in_5 (List.mem_of_getElem? (i := 16) rfl), rfl⟩
theorem tw_347 : GW (.methodLink RX8 195 yX8_reads) := ⟨in_5 (List.mem_of_getElem? (i := 17) (by decide +kernel)), rfl⟩
theorem tw_348 : GW (.instanceMethod yX8_reads) := ⟨in_5 (List.mem_of_getElem? (i := 19) (by decide +kernel)), rfl⟩
theorem tl_wsX8_lay_r1 : GoodIn lw_tbl wsX8_lay_r1 := (gi_c tw_329 (gi_c tw_330 (gi_c tw_100 (gi_c tw_331 (gi_c tw_104 (gi_c tw_332 (gi_c tw_333 (gi_c tw_334 (gi_c tw_197 (gi_c tw_335 (gi_c tw_336 (gi_c tw_337 (gi_c tw_338 (gi_c tw_339 (gi_c tw_340 (gi_c tw_341 (gi_c tw_342 (gi_c tw_343 (gi_c tw_344 (gi_c tw_345 (gi_c tw_346 (gi_c tw_103 (gi_c tw_347 (gi_c tw_348 gi_n))))))))))))))))))))))))
theorem tw_350 : GW (.selects RX8 yX8_reads yX8_reads) := ⟨in_0 (List.mem_of_getElem? (i := 47) rfl), rfl⟩
theorem tw_351 : GW (.code yX8_reads cX8_reads 8 (some .boolean)) := ⟨in_5 (List.mem_of_getElem? (i := 20) rfl), rfl⟩
theorem tw_352 : GW (.methodLink RX8 185 yX8_has) := ⟨in_5 (List.mem_of_getElem? (i := 21) (by decide +kernel)), rfl⟩
theorem tw_353 : GW (.instanceMethod yX8_has) := ⟨in_5 (List.mem_of_getElem? (i := 23) (by decide +kernel)), rfl⟩
theorem tw_354 : GW (.selects RX8 yX8_has yX8_has) := ⟨in_0 (List.mem_of_getElem? (i := 48) rfl), rfl⟩
theorem tw_355 : GW (.code yX8_has cX8_has 3 (some .boolean)) := ⟨in_5 (List.mem_of_getElem? (i := 24) rfl), rfl⟩
theorem tw_356 : GW (.methodLink RX8 189 yX8_number) := ⟨in_5 (List.mem_of_getElem? (i := 25) (by decide +kernel)), rfl⟩
theorem tw_357 : GW (.instanceMethod yX8_number) := ⟨in_5 (List.mem_of_getElem? (i := 27) (by decide +kernel)), rfl⟩
theorem tw_358 : GW (.selects RX8 yX8_number yX8_number) := ⟨in_0 (List.mem_of_getElem? (i := 49) rfl), rfl⟩
theorem tw_359 : GW (.code yX8_number cX8_number 4 (some .int)) := ⟨in_5 (List.mem_of_getElem? (i := 28) rfl), rfl⟩
theorem tw_360 : GW (.methodLink RX8 199 yX8_expects) := ⟨in_5 (List.mem_of_getElem? (i := 29) (by decide +kernel)), rfl⟩
theorem tw_361 : GW (.instanceMethod yX8_expects) := ⟨in_5 (List.mem_of_getElem? (i := 31) (by decide +kernel)), rfl⟩
theorem tw_362 : GW (.selects RX8 yX8_expects yX8_expects) := ⟨in_0 (List.mem_of_getElem? (i := 50) rfl), rfl⟩
theorem tw_363 : GW (.code yX8_expects cX8_expects 3 (some .boolean)) := ⟨in_5 (List.mem_of_getElem? (i := 32) rfl), rfl⟩
theorem tl_wsX8_lay_r2 : GoodIn lw_tbl wsX8_lay_r2 := (gi_c tw_350 (gi_c tw_351 (gi_c tw_352 (gi_c tw_353 (gi_c tw_354 (gi_c tw_355 (gi_c tw_102 (gi_c tw_356 (gi_c tw_357 (gi_c tw_358 (gi_c tw_359 (gi_c tw_195 (gi_c tw_196 (gi_c tw_198 (gi_c tw_360 (gi_c tw_361 (gi_c tw_362 (gi_c tw_363 (gi_c tw_199 (gi_c tw_200 (gi_c tw_201 (gi_c tw_202 (gi_c tw_203 (gi_c tw_101 gi_n))))))))))))))))))))))))
theorem tl_wsX8_lay : GoodIn lw_tbl wsX8_lay := (gi_c tw_327 (goodIn_app (goodIn_app tl_wsX8_lay_r1 tl_wsX8_lay_r2) tu_X8))
theorem tw_364 : GW (.methodLink RL 35 yX8_lay) := ⟨in_5 (List.mem_of_getElem? (i := 33) (by decide +kernel)), rfl⟩
theorem tw_365 : GW (.instanceMethod yX8_lay) := ⟨in_5 (List.mem_of_getElem? (i := 34) (by decide +kernel)), rfl⟩
theorem tw_366 : GW (.selects RX8 yX8_lay yX8_lay) := ⟨in_5 (List.mem_of_getElem? (i := 35) (by decide +kernel)), rfl⟩
theorem tv_X8_lay : GoodIn lw_tbl (wsV RL 35 RX8 yX8_lay wsX8_lay) := gi_v tw_197 tw_364 tw_365 tw_366 tl_wsX8_lay
theorem tw_368 : GW (.code yX7_undo cX7_undo 1 (some .int)) := ⟨in_2 (List.mem_of_getElem? (i := 100) rfl), rfl⟩
theorem tw_370 : GW (.methodLink RX7 121 yX2_size) := ⟨in_2 (List.mem_of_getElem? (i := 101) (by decide +kernel)), rfl⟩
theorem tw_371 : GW (.instanceMethod yX2_size) := ⟨in_2 (List.mem_of_getElem? (i := 102) (by decide +kernel)), rfl⟩
theorem tw_372 : GW (.selects RX2 yX2_size yX2_size) := ⟨in_2 (List.mem_of_getElem? (i := 103) (by decide +kernel)), rfl⟩
theorem tw_373 : GW (.code yX2_size cX2_size 1 (some .int)) := ⟨in_2 (List.mem_of_getElem? (i := 104) rfl), rfl⟩
theorem tw_374 : GW (.methodLink RX7 122 yX2_restore) := ⟨in_2 (List.mem_of_getElem? (i := 105) (by decide +kernel)), rfl⟩
theorem tw_375 : GW (.instanceMethod yX2_restore) := ⟨in_2 (List.mem_of_getElem? (i := 106) (by decide +kernel)), rfl⟩
theorem tw_376 : GW (.selects RX2 yX2_restore yX2_restore) := ⟨in_2 (List.mem_of_getElem? (i := 107) (by decide +kernel)), rfl⟩
theorem tw_377 : GW (.code yX2_restore cX2_restore 3 none) := ⟨in_2 (List.mem_of_getElem? (i := 108) rfl), rfl⟩
theorem tl_wsX7_undo_r1 : GoodIn lw_tbl wsX7_undo_r1 := (gi_c tw_17 (gi_c tw_275 (gi_c tw_9 (gi_c tw_21 (gi_c tw_370 (gi_c tw_371 (gi_c tw_372 (gi_c tw_16 (gi_c tw_373 (gi_c tw_136 (gi_c tw_374 (gi_c tw_375 (gi_c tw_376 (gi_c tw_377 (gi_c tw_57 (gi_c tw_142 (gi_c tw_143 (gi_c tw_144 (gi_c tw_8 (gi_c tw_145 (gi_c tw_131 (gi_c tw_40 (gi_c tw_41 (gi_c tw_42 gi_n))))))))))))))))))))))))
theorem tl_wsX7_undo_r2 : GoodIn lw_tbl wsX7_undo_r2 := (gi_c tw_146 (gi_c tw_147 (gi_c tw_148 (gi_c tw_149 (gi_c tw_150 (gi_c tw_151 (gi_c tw_152 (gi_c tw_153 (gi_c tw_155 (gi_c tw_156 (gi_c tw_157 (gi_c tw_20 (gi_c tw_159 (gi_c tw_160 (gi_c tw_161 (gi_c tw_162 (gi_c tw_163 (gi_c tw_164 (gi_c tw_165 (gi_c tw_166 (gi_c tw_167 (gi_c tw_168 (gi_c tw_169 (gi_c tw_63 gi_n))))))))))))))))))))))))
theorem tl_wsX7_undo_r3 : GoodIn lw_tbl wsX7_undo_r3 := (gi_c tw_64 (gi_c tw_61 (gi_c tw_62 (gi_c tw_170 (gi_c tw_128 (gi_c tw_129 (gi_c tw_130 (gi_c tw_171 (gi_c tw_172 (gi_c tw_173 (gi_c tw_174 (gi_c tw_175 (gi_c tw_176 (gi_c tw_177 (gi_c tw_179 (gi_c tw_180 (gi_c tw_181 (gi_c tw_182 (gi_c tw_183 (gi_c tw_184 (gi_c tw_185 (gi_c tw_186 (gi_c tw_187 gi_n)))))))))))))))))))))))
theorem tl_wsX7_undo : GoodIn lw_tbl wsX7_undo := (gi_c tw_368 (goodIn_app (goodIn_app (goodIn_app (goodIn_app (goodIn_app tl_wsX7_undo_r1 (goodIn_app tl_wsX7_undo_r2 tl_wsX7_undo_r3)) tu_X7) tu_X2) tu_X5) tu_X1))
theorem tw_380 : GW (.methodLink RL 36 yX7_undo) := ⟨in_2 (List.mem_of_getElem? (i := 97) (by decide +kernel)), rfl⟩
theorem tw_381 : GW (.instanceMethod yX7_undo) := ⟨in_2 (List.mem_of_getElem? (i := 98) (by decide +kernel)), rfl⟩
theorem tw_382 : GW (.selects RX7 yX7_undo yX7_undo) := ⟨in_2 (List.mem_of_getElem? (i := 99) (by decide +kernel)), rfl⟩
theorem tv_X7_undo : GoodIn lw_tbl (wsV RL 36 RX7 yX7_undo wsX7_undo) := gi_v tw_122 tw_380 tw_381 tw_382 tl_wsX7_undo
theorem tw_384 : GW (.code yX8_undo cX8_undo 2 (some .int)) := ⟨in_4 (List.mem_of_getElem? (i := 80) rfl), rfl⟩
theorem tl_wsX8_undo : GoodIn lw_tbl wsX8_undo := (gi_c tw_384 (goodIn_app (gi_c tw_203 (gi_c tw_330 (gi_c tw_100 (gi_c tw_101 gi_n)))) tu_X8))
theorem tw_385 : GW (.methodLink RL 39 yX8_undo) := ⟨in_4 (List.mem_of_getElem? (i := 77) (by decide +kernel)), rfl⟩
theorem tw_386 : GW (.instanceMethod yX8_undo) := ⟨in_4 (List.mem_of_getElem? (i := 78) (by decide +kernel)), rfl⟩
theorem tw_387 : GW (.selects RX8 yX8_undo yX8_undo) := ⟨in_4 (List.mem_of_getElem? (i := 79) (by decide +kernel)), rfl⟩
theorem tv_X8_undo : GoodIn lw_tbl (wsV RL 39 RX8 yX8_undo wsX8_undo) := gi_v tw_197 tw_385 tw_386 tw_387 tl_wsX8_undo
theorem tw_389 : GW (.code yX7_points cX7_points 1 (some .int)) := ⟨in_2 (List.mem_of_getElem? (i := 112) rfl), rfl⟩
theorem tl_wsX7_points : GoodIn lw_tbl wsX7_points := (gi_c tw_389 (goodIn_app (goodIn_app (gi_c tw_9 (gi_c tw_127 (gi_c tw_128 (gi_c tw_129 (gi_c tw_8 (gi_c tw_130 (gi_c tw_131 gi_n))))))) tu_X7) tu_X5))
theorem tw_390 : GW (.methodLink RL 40 yX7_points) := ⟨in_2 (List.mem_of_getElem? (i := 109) (by decide +kernel)), rfl⟩
theorem tw_391 : GW (.instanceMethod yX7_points) := ⟨in_2 (List.mem_of_getElem? (i := 110) (by decide +kernel)), rfl⟩
theorem tw_392 : GW (.selects RX7 yX7_points yX7_points) := ⟨in_2 (List.mem_of_getElem? (i := 111) (by decide +kernel)), rfl⟩
theorem tv_X7_points : GoodIn lw_tbl (wsV RL 40 RX7 yX7_points wsX7_points) := gi_v tw_122 tw_390 tw_391 tw_392 tl_wsX7_points
theorem tw_394 : GW (.code yX8_points cX8_points 1 (some .int)) := ⟨in_4 (List.mem_of_getElem? (i := 85) rfl), rfl⟩
theorem tl_wsX8_points : GoodIn lw_tbl wsX8_points := (gi_c tw_394 (goodIn_app (gi_c tw_100 gi_n) tu_X8))
theorem tw_395 : GW (.methodLink RL 43 yX8_points) := ⟨in_4 (List.mem_of_getElem? (i := 82) (by decide +kernel)), rfl⟩
theorem tw_396 : GW (.instanceMethod yX8_points) := ⟨in_4 (List.mem_of_getElem? (i := 83) (by decide +kernel)), rfl⟩
theorem tw_397 : GW (.selects RX8 yX8_points yX8_points) := ⟨in_4 (List.mem_of_getElem? (i := 84) (by decide +kernel)), rfl⟩
theorem tv_X8_points : GoodIn lw_tbl (wsV RL 43 RX8 yX8_points wsX8_points) := gi_v tw_197 tw_395 tw_396 tw_397 tl_wsX8_points
theorem tw_399 : GW (.code yX7_pointInfo cX7_pointInfo 3 (some .int)) := ⟨in_2 (List.mem_of_getElem? (i := 116) rfl), rfl⟩
theorem tw_401 : GW (.methodLink RX7 125 yX5_positionOf) := ⟨in_2 (List.mem_of_getElem? (i := 117) (by decide +kernel)), rfl⟩
theorem tl_wsX7_pointInfo_r1 : GoodIn lw_tbl wsX7_pointInfo_r1 := (gi_c tw_9 (gi_c tw_118 (gi_c tw_21 (gi_c tw_210 (gi_c tw_176 (gi_c tw_177 (gi_c tw_8 (gi_c tw_179 (gi_c tw_131 (gi_c tw_120 (gi_c tw_121 (gi_c tw_122 (gi_c tw_123 (gi_c tw_401 (gi_c tw_172 (gi_c tw_173 (gi_c tw_174 (gi_c tw_40 (gi_c tw_175 (gi_c tw_233 (gi_c tw_181 (gi_c tw_182 (gi_c tw_183 (gi_c tw_41 gi_n))))))))))))))))))))))))
theorem tw_403 : GW (.methodLink RX7 128 yX1_groupAt) := ⟨in_2 (List.mem_of_getElem? (i := 118) (by decide +kernel)), rfl⟩
theorem tw_404 : GW (.instanceMethod yX1_groupAt) := ⟨in_2 (List.mem_of_getElem? (i := 119) (by decide +kernel)), rfl⟩
theorem tw_405 : GW (.selects RX1 yX1_groupAt yX1_groupAt) := ⟨in_2 (List.mem_of_getElem? (i := 120) (by decide +kernel)), rfl⟩
theorem tw_406 : GW (.code yX1_groupAt cX1_groupAt 3 (some .int)) := ⟨in_2 (List.mem_of_getElem? (i := 121) rfl), rfl⟩
theorem tl_wsX7_pointInfo_r2 : GoodIn lw_tbl wsX7_pointInfo_r2 := (gi_c tw_234 (gi_c tw_185 (gi_c tw_186 (gi_c tw_187 (gi_c tw_42 (gi_c tw_403 (gi_c tw_404 (gi_c tw_405 (gi_c tw_20 (gi_c tw_406 (gi_c tw_160 (gi_c tw_61 gi_n))))))))))))
theorem tl_wsX7_pointInfo : GoodIn lw_tbl wsX7_pointInfo := (gi_c tw_399 (goodIn_app (goodIn_app (goodIn_app (goodIn_app tl_wsX7_pointInfo_r1 tl_wsX7_pointInfo_r2) tu_X7) tu_X5) tu_X1))
theorem tw_407 : GW (.methodLink RL 44 yX7_pointInfo) := ⟨in_2 (List.mem_of_getElem? (i := 113) (by decide +kernel)), rfl⟩
theorem tw_408 : GW (.instanceMethod yX7_pointInfo) := ⟨in_2 (List.mem_of_getElem? (i := 114) (by decide +kernel)), rfl⟩
theorem tw_409 : GW (.selects RX7 yX7_pointInfo yX7_pointInfo) := ⟨in_2 (List.mem_of_getElem? (i := 115) (by decide +kernel)), rfl⟩
theorem tv_X7_pointInfo : GoodIn lw_tbl (wsV RL 44 RX7 yX7_pointInfo wsX7_pointInfo) := gi_v tw_122 tw_407 tw_408 tw_409 tl_wsX7_pointInfo
theorem tw_411 : GW (.code yX8_pointInfo cX8_pointInfo 3 (some .int)) := ⟨in_4 (List.mem_of_getElem? (i := 89) rfl), rfl⟩
theorem tw_412 : GW (.methodLink RX8 78 yX8_groupOf) := ⟨in_4 (List.mem_of_getElem? (i := 90) (by decide +kernel)), rfl⟩
theorem tw_413 : GW (.instanceMethod yX8_groupOf) := ⟨in_4 (List.mem_of_getElem? (i := 92) (by decide +kernel)), rfl⟩
theorem tw_414 : GW (.selects RX8 yX8_groupOf yX8_groupOf) := ⟨in_0 (List.mem_of_getElem? (i := 27) rfl), rfl⟩
theorem tw_415 : GW (.code yX8_groupOf cX8_groupOf 3 (some .int)) := ⟨in_4 (List.mem_of_getElem? (i := 93) rfl), rfl⟩
theorem tw_416 : GW (.methodLink RX8 75 yX8_finds) := ⟨in_4 (List.mem_of_getElem? (i := 94) (by decide +kernel)), rfl⟩
theorem tw_417 : GW (.instanceMethod yX8_finds) := ⟨in_4 (List.mem_of_getElem? (i := 96) (by decide +kernel)), rfl⟩
theorem tw_418 : GW (.selects RX8 yX8_finds yX8_finds) := ⟨in_0 (List.mem_of_getElem? (i := 28) rfl), rfl⟩
theorem tw_419 : GW (.code yX8_finds cX8_finds 5 none) := ⟨in_4 (List.mem_of_getElem? (i := 97) rfl), rfl⟩
theorem tw_420 : GW (.fieldLink RX8 72 "ShapeFitsModel" "groups" "I") := ⟨in_3 (List.mem_of_getElem? (i := 223) (by decide +kernel)), rfl⟩
theorem tl_wsX8_pointInfo : GoodIn lw_tbl wsX8_pointInfo := (gi_c tw_411 (goodIn_app (gi_c tw_193 (gi_c tw_100 (gi_c tw_223 (gi_c tw_224 (gi_c tw_225 (gi_c tw_197 (gi_c tw_226 (gi_c tw_195 (gi_c tw_196 (gi_c tw_198 (gi_c tw_412 (gi_c tw_413 (gi_c tw_414 (gi_c tw_415 (gi_c tw_105 (gi_c tw_416 (gi_c tw_417 (gi_c tw_418 (gi_c tw_419 (gi_c tw_420 (gi_c tw_106 (gi_c tw_107 gi_n)))))))))))))))))))))) tu_X8))
theorem tw_421 : GW (.methodLink RL 48 yX8_pointInfo) := ⟨in_4 (List.mem_of_getElem? (i := 86) (by decide +kernel)), rfl⟩
theorem tw_422 : GW (.instanceMethod yX8_pointInfo) := ⟨in_4 (List.mem_of_getElem? (i := 87) (by decide +kernel)), rfl⟩
theorem tw_423 : GW (.selects RX8 yX8_pointInfo yX8_pointInfo) := ⟨in_4 (List.mem_of_getElem? (i := 88) (by decide +kernel)), rfl⟩
theorem tv_X8_pointInfo : GoodIn lw_tbl (wsV RL 48 RX8 yX8_pointInfo wsX8_pointInfo) := gi_v tw_197 tw_421 tw_422 tw_423 tl_wsX8_pointInfo
theorem tw_425 : GW (.code yX7_groups cX7_groups 1 (some .int)) := ⟨in_2 (List.mem_of_getElem? (i := 125) rfl), rfl⟩
theorem tw_426 : GW (.methodLink RX7 131 yX1_size) := ⟨in_2 (List.mem_of_getElem? (i := 126) (by decide +kernel)), rfl⟩
theorem tw_427 : GW (.instanceMethod yX1_size) := ⟨in_2 (List.mem_of_getElem? (i := 127) (by decide +kernel)), rfl⟩
theorem tw_428 : GW (.selects RX1 yX1_size yX1_size) := ⟨in_2 (List.mem_of_getElem? (i := 128) (by decide +kernel)), rfl⟩
theorem tw_429 : GW (.code yX1_size cX1_size 1 (some .int)) := ⟨in_2 (List.mem_of_getElem? (i := 129) rfl), rfl⟩
theorem tl_wsX7_groups : GoodIn lw_tbl wsX7_groups := (gi_c tw_425 (goodIn_app (goodIn_app (gi_c tw_21 (gi_c tw_426 (gi_c tw_427 (gi_c tw_428 (gi_c tw_20 (gi_c tw_429 (gi_c tw_160 gi_n))))))) tu_X7) tu_X1))
theorem tw_430 : GW (.methodLink RL 49 yX7_groups) := ⟨in_2 (List.mem_of_getElem? (i := 122) (by decide +kernel)), rfl⟩
theorem tw_431 : GW (.instanceMethod yX7_groups) := ⟨in_2 (List.mem_of_getElem? (i := 123) (by decide +kernel)), rfl⟩
theorem tw_432 : GW (.selects RX7 yX7_groups yX7_groups) := ⟨in_2 (List.mem_of_getElem? (i := 124) (by decide +kernel)), rfl⟩
theorem tv_X7_groups : GoodIn lw_tbl (wsV RL 49 RX7 yX7_groups wsX7_groups) := gi_v tw_122 tw_430 tw_431 tw_432 tl_wsX7_groups
theorem tw_434 : GW (.code yX8_groups cX8_groups 1 (some .int)) := ⟨in_4 (List.mem_of_getElem? (i := 101) rfl), rfl⟩
theorem tl_wsX8_groups : GoodIn lw_tbl wsX8_groups := (gi_c tw_434 (goodIn_app (gi_c tw_420 (gi_c tw_416 (gi_c tw_417 (gi_c tw_418 (gi_c tw_197 (gi_c tw_419 (gi_c tw_100 (gi_c tw_105 (gi_c tw_106 (gi_c tw_107 gi_n)))))))))) tu_X8))
theorem tw_435 : GW (.methodLink RL 52 yX8_groups) := ⟨in_4 (List.mem_of_getElem? (i := 98) (by decide +kernel)), rfl⟩
theorem tw_436 : GW (.instanceMethod yX8_groups) := ⟨in_4 (List.mem_of_getElem? (i := 99) (by decide +kernel)), rfl⟩
theorem tw_437 : GW (.selects RX8 yX8_groups yX8_groups) := ⟨in_4 (List.mem_of_getElem? (i := 100) (by decide +kernel)), rfl⟩
theorem tv_X8_groups : GoodIn lw_tbl (wsV RL 52 RX8 yX8_groups wsX8_groups) := gi_v tw_197 tw_435 tw_436 tw_437 tl_wsX8_groups
theorem tw_439 : GW (.code yX7_groupInfo cX7_groupInfo 3 (some .int)) := ⟨in_2 (List.mem_of_getElem? (i := 133) rfl), rfl⟩
theorem tw_441 : GW (.methodLink RX7 132 yX1_has) := ⟨in_2 (List.mem_of_getElem? (i := 134) (by decide +kernel)), rfl⟩
theorem tw_442 : GW (.instanceMethod yX1_has) := ⟨in_2 (List.mem_of_getElem? (i := 135) (by decide +kernel)), rfl⟩
theorem tw_443 : GW (.selects RX1 yX1_has yX1_has) := ⟨in_2 (List.mem_of_getElem? (i := 136) (by decide +kernel)), rfl⟩
theorem tw_444 : GW (.code yX1_has cX1_has 2 (some .boolean)) := ⟨in_2 (List.mem_of_getElem? (i := 137) rfl), rfl⟩
theorem tw_445 : GW (.methodLink RX7 133 yX1_positionOf) := ⟨in_2 (List.mem_of_getElem? (i := 138) (by decide +kernel)), rfl⟩
theorem tw_446 : GW (.instanceMethod yX1_positionOf) := ⟨in_2 (List.mem_of_getElem? (i := 139) (by decide +kernel)), rfl⟩
theorem tw_447 : GW (.selects RX1 yX1_positionOf yX1_positionOf) := ⟨in_2 (List.mem_of_getElem? (i := 140) (by decide +kernel)), rfl⟩
theorem tw_448 : GW (.code yX1_positionOf cX1_positionOf 2 (some .int)) := ⟨in_2 (List.mem_of_getElem? (i := 141) rfl), rfl⟩
theorem tw_449 : GW (.methodLink RX1 54 yX1_has) := ⟨in_2 (List.mem_of_getElem? (i := 142) (by decide +kernel)), rfl⟩
theorem tw_450 : GW (.methodLink RX7 134 yX1_weightOf) := ⟨in_2 (List.mem_of_getElem? (i := 143) (by decide +kernel)), rfl⟩
theorem tw_451 : GW (.instanceMethod yX1_weightOf) := ⟨in_2 (List.mem_of_getElem? (i := 144) (by decide +kernel)), rfl⟩
theorem tw_452 : GW (.selects RX1 yX1_weightOf yX1_weightOf) := ⟨in_2 (List.mem_of_getElem? (i := 145) (by decide +kernel)), rfl⟩
theorem tw_453 : GW (.code yX1_weightOf cX1_weightOf 3 (some .int)) := ⟨in_2 (List.mem_of_getElem? (i := 146) rfl), rfl⟩
theorem tw_454 : GW (.methodLink RX7 137 yX1_momentOf) := ⟨in_2 (List.mem_of_getElem? (i := 147) (by decide +kernel)), rfl⟩
theorem tl_wsX7_groupInfo_r1 : GoodIn lw_tbl wsX7_groupInfo_r1 := (gi_c tw_21 (gi_c tw_118 (gi_c tw_441 (gi_c tw_442 (gi_c tw_443 (gi_c tw_20 (gi_c tw_444 (gi_c tw_160 (gi_c tw_120 (gi_c tw_121 (gi_c tw_122 (gi_c tw_123 (gi_c tw_445 (gi_c tw_446 (gi_c tw_447 (gi_c tw_448 (gi_c tw_61 (gi_c tw_449 (gi_c tw_450 (gi_c tw_451 (gi_c tw_452 (gi_c tw_453 (gi_c tw_63 (gi_c tw_454 gi_n))))))))))))))))))))))))
theorem tw_456 : GW (.instanceMethod yX1_momentOf) := ⟨in_2 (List.mem_of_getElem? (i := 148) (by decide +kernel)), rfl⟩
theorem tw_457 : GW (.selects RX1 yX1_momentOf yX1_momentOf) := ⟨in_2 (List.mem_of_getElem? (i := 149) (by decide +kernel)), rfl⟩
theorem tw_458 : GW (.code yX1_momentOf cX1_momentOf 3 (some .int)) := ⟨in_2 (List.mem_of_getElem? (i := 150) rfl), rfl⟩
theorem tw_459 : GW (.methodLink RX7 140 yX1_membersOf) := ⟨in_2 (List.mem_of_getElem? (i := 151) (by decide +kernel)), rfl⟩
theorem tw_460 : GW (.instanceMethod yX1_membersOf) := ⟨in_2 (List.mem_of_getElem? (i := 152) (by decide +kernel)), rfl⟩
theorem tw_461 : GW (.selects RX1 yX1_membersOf yX1_membersOf) := ⟨in_2 (List.mem_of_getElem? (i := 153) (by decide +kernel)), rfl⟩
theorem tw_462 : GW (.code yX1_membersOf cX1_membersOf 2 (some .int)) := ⟨in_2 (List.mem_of_getElem? (i := 154) rfl), rfl⟩
theorem tl_wsX7_groupInfo_r2 : GoodIn lw_tbl wsX7_groupInfo_r2 := (gi_c tw_456 (gi_c tw_457 (gi_c tw_458 (gi_c tw_64 (gi_c tw_459 (gi_c tw_460 (gi_c tw_461 (gi_c tw_462 (gi_c tw_62 gi_n)))))))))
theorem tl_wsX7_groupInfo : GoodIn lw_tbl wsX7_groupInfo := (gi_c tw_439 (goodIn_app (goodIn_app (goodIn_app tl_wsX7_groupInfo_r1 tl_wsX7_groupInfo_r2) tu_X7) tu_X1))
theorem tw_463 : GW (.methodLink RL 53 yX7_groupInfo) := ⟨in_2 (List.mem_of_getElem? (i := 130) (by decide +kernel)), rfl⟩
theorem tw_464 : GW (.instanceMethod yX7_groupInfo) := ⟨in_2 (List.mem_of_getElem? (i := 131) (by decide +kernel)), rfl⟩
theorem tw_465 : GW (.selects RX7 yX7_groupInfo yX7_groupInfo) := ⟨in_2 (List.mem_of_getElem? (i := 132) (by decide +kernel)), rfl⟩
theorem tv_X7_groupInfo : GoodIn lw_tbl (wsV RL 53 RX7 yX7_groupInfo wsX7_groupInfo) := gi_v tw_122 tw_463 tw_464 tw_465 tl_wsX7_groupInfo
theorem tw_467 : GW (.code yX8_groupInfo cX8_groupInfo 5 (some .int)) := ⟨in_4 (List.mem_of_getElem? (i := 105) rfl), rfl⟩
theorem tw_468 : GW (.methodLink RX8 82 yX8_isGroup) := ⟨in_4 (List.mem_of_getElem? (i := 106) (by decide +kernel)), rfl⟩
theorem tw_469 : GW (.instanceMethod yX8_isGroup) := ⟨in_4 (List.mem_of_getElem? (i := 108) (by decide +kernel)), rfl⟩
theorem tw_470 : GW (.selects RX8 yX8_isGroup yX8_isGroup) := ⟨in_0 (List.mem_of_getElem? (i := 29) rfl), rfl⟩
theorem tw_471 : GW (.code yX8_isGroup cX8_isGroup 2 (some .boolean)) := ⟨in_4 (List.mem_of_getElem? (i := 109) rfl), rfl⟩
theorem tl_wsX8_groupInfo : GoodIn lw_tbl wsX8_groupInfo := (gi_c tw_467 (goodIn_app (gi_c tw_193 (gi_c tw_100 (gi_c tw_105 (gi_c tw_106 (gi_c tw_107 (gi_c tw_468 (gi_c tw_469 (gi_c tw_470 (gi_c tw_197 (gi_c tw_471 (gi_c tw_420 (gi_c tw_416 (gi_c tw_417 (gi_c tw_418 (gi_c tw_419 (gi_c tw_195 (gi_c tw_196 (gi_c tw_198 gi_n)))))))))))))))))) tu_X8))
theorem tw_472 : GW (.methodLink RL 56 yX8_groupInfo) := ⟨in_4 (List.mem_of_getElem? (i := 102) (by decide +kernel)), rfl⟩
theorem tw_473 : GW (.instanceMethod yX8_groupInfo) := ⟨in_4 (List.mem_of_getElem? (i := 103) (by decide +kernel)), rfl⟩
theorem tw_474 : GW (.selects RX8 yX8_groupInfo yX8_groupInfo) := ⟨in_4 (List.mem_of_getElem? (i := 104) (by decide +kernel)), rfl⟩
theorem tv_X8_groupInfo : GoodIn lw_tbl (wsV RL 56 RX8 yX8_groupInfo wsX8_groupInfo) := gi_v tw_197 tw_472 tw_473 tw_474 tl_wsX8_groupInfo
theorem tw_476 : GW (.code yX7_fit cX7_fit 7 (some .long)) := ⟨in_2 (List.mem_of_getElem? (i := 158) rfl), rfl⟩
theorem tw_478 : GW (.constantLong RX7 146 (-1000001)) := ⟨in_2 (List.mem_of_getElem? (i := 162) (by decide +kernel)), rfl⟩
theorem tw_479 : GW (.methodLink RX7 143 yX7_notFractionPart) := ⟨in_2 (List.mem_of_getElem? (i := 159) (by decide +kernel)), rfl⟩
theorem tw_480 : GW (.static yX7_notFractionPart) := ⟨in_2 (List.mem_of_getElem? (i := 160) (by decide +kernel)), rfl⟩
theorem tw_481 : GW (.code yX7_notFractionPart cX7_notFractionPart 1 (some .boolean)) := ⟨in_2 (List.mem_of_getElem? (i := 161) rfl), rfl⟩
theorem tw_482 : GW (.methodLink RX7 148 yX7_hullOf) := ⟨in_2 (List.mem_of_getElem? (i := 163) (by decide +kernel)), rfl⟩
theorem tw_483 : GW (.instanceMethod yX7_hullOf) := ⟨in_2 (List.mem_of_getElem? (i := 165) (by decide +kernel)), rfl⟩
theorem tw_484 : GW (.selects RX7 yX7_hullOf yX7_hullOf) := ⟨in_0 (List.mem_of_getElem? (i := 8) rfl), rfl⟩
theorem tw_485 : GW (.code yX7_hullOf cX7_hullOf 2 (some (.object "ShapeFits$Hull"))) := ⟨in_2 (List.mem_of_getElem? (i := 166) rfl), rfl⟩
theorem tw_486 : GW (.methodLink RX7 152 yX3_draw) := ⟨in_2 (List.mem_of_getElem? (i := 167) (by decide +kernel)), rfl⟩
theorem tw_487 : GW (.instanceMethod yX3_draw) := ⟨in_2 (List.mem_of_getElem? (i := 168) (by decide +kernel)), rfl⟩
theorem tl_wsX7_fit_r1 : GoodIn lw_tbl wsX7_fit_r1 := (gi_c tw_21 (gi_c tw_478 (gi_c tw_25 (gi_c tw_120 (gi_c tw_121 (gi_c tw_122 (gi_c tw_123 (gi_c tw_441 (gi_c tw_442 (gi_c tw_443 (gi_c tw_20 (gi_c tw_444 (gi_c tw_160 (gi_c tw_479 (gi_c tw_480 (gi_c tw_481 (gi_c tw_482 (gi_c tw_483 (gi_c tw_484 (gi_c tw_485 (gi_c tw_30 (gi_c tw_31 (gi_c tw_486 (gi_c tw_487 gi_n))))))))))))))))))))))))
theorem tw_489 : GW (.selects RX3 yX3_draw yX3_draw) := ⟨in_2 (List.mem_of_getElem? (i := 169) (by decide +kernel)), rfl⟩
theorem tw_490 : GW (.code yX3_draw cX3_draw 3 none) := ⟨in_2 (List.mem_of_getElem? (i := 170) rfl), rfl⟩
theorem tw_491 : GW (.fieldLink RX3 23 "ShapeFits$Hull" "count" "I") := ⟨in_1 (List.mem_of_getElem? (i := 140) (by decide +kernel)), rfl⟩
theorem tw_492 : GW (.methodLink RX3 26 yX1_size) := ⟨in_2 (List.mem_of_getElem? (i := 171) (by decide +kernel)), rfl⟩
theorem tw_493 : GW (.methodLink RX3 32 yX3_bends) := ⟨in_2 (List.mem_of_getElem? (i := 172) (by decide +kernel)), rfl⟩
theorem tw_494 : GW (.instanceMethod yX3_bends) := ⟨in_2 (List.mem_of_getElem? (i := 174) (by decide +kernel)), rfl⟩
theorem tw_495 : GW (.selects RX3 yX3_bends yX3_bends) := ⟨in_0 (List.mem_of_getElem? (i := 9) rfl), rfl⟩
theorem tw_496 : GW (.code yX3_bends cX3_bends 8 (some .boolean)) := ⟨in_2 (List.mem_of_getElem? (i := 175) rfl), rfl⟩
theorem tw_497 : GW (.methodLink RX3 45 yX3_rise) := ⟨in_2 (List.mem_of_getElem? (i := 176) (by decide +kernel)), rfl⟩
theorem tw_498 : GW (.instanceMethod yX3_rise) := ⟨in_2 (List.mem_of_getElem? (i := 178) (by decide +kernel)), rfl⟩
theorem tw_499 : GW (.selects RX3 yX3_rise yX3_rise) := ⟨in_0 (List.mem_of_getElem? (i := 10) rfl), rfl⟩
theorem tw_500 : GW (.code yX3_rise cX3_rise 3 (some .long)) := ⟨in_2 (List.mem_of_getElem? (i := 179) rfl), rfl⟩
theorem tw_501 : GW (.methodLink RX3 56 yX1_compareMeans) := ⟨in_2 (List.mem_of_getElem? (i := 180) (by decide +kernel)), rfl⟩
theorem tw_502 : GW (.instanceMethod yX1_compareMeans) := ⟨in_2 (List.mem_of_getElem? (i := 181) (by decide +kernel)), rfl⟩
theorem tw_503 : GW (.selects RX1 yX1_compareMeans yX1_compareMeans) := ⟨in_2 (List.mem_of_getElem? (i := 182) (by decide +kernel)), rfl⟩
theorem tw_504 : GW (.code yX1_compareMeans cX1_compareMeans 5 (some .int)) := ⟨in_2 (List.mem_of_getElem? (i := 183) rfl), rfl⟩
theorem tw_505 : GW (.methodLink RX1 58 yX1_momentOf) := ⟨in_2 (List.mem_of_getElem? (i := 184) (by decide +kernel)), rfl⟩
theorem tl_wsX7_fit_r2 : GoodIn lw_tbl wsX7_fit_r2 := (gi_c tw_489 (gi_c tw_29 (gi_c tw_490 (gi_c tw_491 (gi_c tw_76 (gi_c tw_75 (gi_c tw_492 (gi_c tw_427 (gi_c tw_428 (gi_c tw_429 (gi_c tw_493 (gi_c tw_494 (gi_c tw_495 (gi_c tw_496 (gi_c tw_78 (gi_c tw_497 (gi_c tw_498 (gi_c tw_499 (gi_c tw_500 (gi_c tw_501 (gi_c tw_502 (gi_c tw_503 (gi_c tw_504 (gi_c tw_505 gi_n))))))))))))))))))))))))
theorem tw_507 : GW (.methodLink RX1 62 yX1_weightOf) := ⟨in_2 (List.mem_of_getElem? (i := 185) (by decide +kernel)), rfl⟩
theorem tw_508 : GW (.methodLink RX3 49 yX3_weight) := ⟨in_2 (List.mem_of_getElem? (i := 186) (by decide +kernel)), rfl⟩
theorem tw_509 : GW (.instanceMethod yX3_weight) := ⟨in_2 (List.mem_of_getElem? (i := 188) (by decide +kernel)), rfl⟩
theorem tw_510 : GW (.selects RX3 yX3_weight yX3_weight) := ⟨in_0 (List.mem_of_getElem? (i := 11) rfl), rfl⟩
theorem tw_511 : GW (.code yX3_weight cX3_weight 2 (some .long)) := ⟨in_2 (List.mem_of_getElem? (i := 189) rfl), rfl⟩
theorem tw_512 : GW (.methodLink RX3 60 yX1_weightOf) := ⟨in_2 (List.mem_of_getElem? (i := 190) (by decide +kernel)), rfl⟩
theorem tw_513 : GW (.methodLink RX3 53 yX3_distance) := ⟨in_2 (List.mem_of_getElem? (i := 191) (by decide +kernel)), rfl⟩
theorem tw_514 : GW (.instanceMethod yX3_distance) := ⟨in_2 (List.mem_of_getElem? (i := 193) (by decide +kernel)), rfl⟩
theorem tw_515 : GW (.selects RX3 yX3_distance yX3_distance) := ⟨in_0 (List.mem_of_getElem? (i := 12) rfl), rfl⟩
theorem tw_516 : GW (.code yX3_distance cX3_distance 3 (some .long)) := ⟨in_2 (List.mem_of_getElem? (i := 194) rfl), rfl⟩
theorem tw_517 : GW (.methodLink RX3 66 yX1_positionOf) := ⟨in_2 (List.mem_of_getElem? (i := 195) (by decide +kernel)), rfl⟩
theorem tl_wsX7_fit_r3 : GoodIn lw_tbl wsX7_fit_r3 := (gi_c tw_456 (gi_c tw_457 (gi_c tw_458 (gi_c tw_64 (gi_c tw_507 (gi_c tw_451 (gi_c tw_452 (gi_c tw_453 (gi_c tw_63 (gi_c tw_508 (gi_c tw_509 (gi_c tw_510 (gi_c tw_511 (gi_c tw_512 (gi_c tw_513 (gi_c tw_514 (gi_c tw_515 (gi_c tw_516 (gi_c tw_517 (gi_c tw_446 (gi_c tw_447 (gi_c tw_448 (gi_c tw_61 (gi_c tw_449 gi_n))))))))))))))))))))))))
theorem tw_519 : GW (.methodLink RX7 155 yX3_numeratorAt) := ⟨in_2 (List.mem_of_getElem? (i := 196) (by decide +kernel)), rfl⟩
theorem tw_520 : GW (.instanceMethod yX3_numeratorAt) := ⟨in_2 (List.mem_of_getElem? (i := 197) (by decide +kernel)), rfl⟩
theorem tw_521 : GW (.selects RX3 yX3_numeratorAt yX3_numeratorAt) := ⟨in_2 (List.mem_of_getElem? (i := 198) (by decide +kernel)), rfl⟩
theorem tw_522 : GW (.code yX3_numeratorAt cX3_numeratorAt 4 (some .long)) := ⟨in_2 (List.mem_of_getElem? (i := 199) rfl), rfl⟩
theorem tw_523 : GW (.methodLink RX3 70 yX3_cornerUpTo) := ⟨in_2 (List.mem_of_getElem? (i := 200) (by decide +kernel)), rfl⟩
theorem tw_524 : GW (.instanceMethod yX3_cornerUpTo) := ⟨in_2 (List.mem_of_getElem? (i := 202) (by decide +kernel)), rfl⟩
theorem tw_525 : GW (.selects RX3 yX3_cornerUpTo yX3_cornerUpTo) := ⟨in_0 (List.mem_of_getElem? (i := 13) rfl), rfl⟩
theorem tw_526 : GW (.code yX3_cornerUpTo cX3_cornerUpTo 4 (some .int)) := ⟨in_2 (List.mem_of_getElem? (i := 203) rfl), rfl⟩
theorem tw_527 : GW (.methodLink RX3 73 yX3_cornerFrom) := ⟨in_2 (List.mem_of_getElem? (i := 204) (by decide +kernel)), rfl⟩
theorem tw_528 : GW (.instanceMethod yX3_cornerFrom) := ⟨in_2 (List.mem_of_getElem? (i := 206) (by decide +kernel)), rfl⟩
theorem tw_529 : GW (.selects RX3 yX3_cornerFrom yX3_cornerFrom) := ⟨in_0 (List.mem_of_getElem? (i := 14) rfl), rfl⟩
theorem tw_530 : GW (.code yX3_cornerFrom cX3_cornerFrom 4 (some .int)) := ⟨in_2 (List.mem_of_getElem? (i := 207) rfl), rfl⟩
theorem tw_531 : GW (.methodLink RX3 76 yX3_moment) := ⟨in_2 (List.mem_of_getElem? (i := 208) (by decide +kernel)), rfl⟩
theorem tw_532 : GW (.instanceMethod yX3_moment) := ⟨in_2 (List.mem_of_getElem? (i := 210) (by decide +kernel)), rfl⟩
theorem tw_533 : GW (.selects RX3 yX3_moment yX3_moment) := ⟨in_0 (List.mem_of_getElem? (i := 15) rfl), rfl⟩
theorem tw_534 : GW (.code yX3_moment cX3_moment 2 (some .long)) := ⟨in_2 (List.mem_of_getElem? (i := 211) rfl), rfl⟩
theorem tw_535 : GW (.methodLink RX3 63 yX1_momentOf) := ⟨in_2 (List.mem_of_getElem? (i := 212) (by decide +kernel)), rfl⟩
theorem tw_536 : GW (.methodLink RX7 159 yX3_denominatorAt) := ⟨in_2 (List.mem_of_getElem? (i := 213) (by decide +kernel)), rfl⟩
theorem tw_537 : GW (.instanceMethod yX3_denominatorAt) := ⟨in_2 (List.mem_of_getElem? (i := 214) (by decide +kernel)), rfl⟩
theorem tw_538 : GW (.selects RX3 yX3_denominatorAt yX3_denominatorAt) := ⟨in_2 (List.mem_of_getElem? (i := 215) (by decide +kernel)), rfl⟩
theorem tw_539 : GW (.code yX3_denominatorAt cX3_denominatorAt 4 (some .long)) := ⟨in_2 (List.mem_of_getElem? (i := 216) rfl), rfl⟩
theorem tw_540 : GW (.methodLink RX7 162 yX7_lowest) := ⟨in_2 (List.mem_of_getElem? (i := 217) (by decide +kernel)), rfl⟩
theorem tw_541 : GW (.static yX7_lowest) := ⟨in_2 (List.mem_of_getElem? (i := 218) (by decide +kernel)), rfl⟩
theorem tw_542 : GW (.code yX7_lowest cX7_lowest 9 (some .long)) := ⟨in_2 (List.mem_of_getElem? (i := 219) rfl), rfl⟩
theorem tl_wsX7_fit_r4 : GoodIn lw_tbl wsX7_fit_r4 := (gi_c tw_519 (gi_c tw_520 (gi_c tw_521 (gi_c tw_522 (gi_c tw_523 (gi_c tw_524 (gi_c tw_525 (gi_c tw_526 (gi_c tw_527 (gi_c tw_528 (gi_c tw_529 (gi_c tw_530 (gi_c tw_531 (gi_c tw_532 (gi_c tw_533 (gi_c tw_534 (gi_c tw_535 (gi_c tw_536 (gi_c tw_537 (gi_c tw_538 (gi_c tw_539 (gi_c tw_540 (gi_c tw_541 (gi_c tw_542 gi_n))))))))))))))))))))))))
theorem tw_544 : GW (.methodLink RX7 247 Lib.MathLoose.abs_long.x) := ⟨in_2 (List.mem_of_getElem? (i := 220) (by decide +kernel)), rfl⟩
theorem tw_545 : GW (.static Lib.MathLoose.abs_long.x) := ⟨in_2 (List.mem_of_getElem? (i := 221) (by decide +kernel)), rfl⟩
theorem tw_546 : GW (.code Lib.MathLoose.abs_long.x Lib.MathLoose.abs_long.code 2 (some .long)) := ⟨in_2 (List.mem_of_getElem? (i := 222) rfl), rfl⟩
theorem tw_547 : GW (.methodLink RX7 253 yX7_greatestDivisor) := ⟨in_2 (List.mem_of_getElem? (i := 223) (by decide +kernel)), rfl⟩
theorem tw_548 : GW (.static yX7_greatestDivisor) := ⟨in_2 (List.mem_of_getElem? (i := 224) (by decide +kernel)), rfl⟩
theorem tw_549 : GW (.code yX7_greatestDivisor cX7_greatestDivisor 11 (some .long)) := ⟨in_2 (List.mem_of_getElem? (i := 225) rfl), rfl⟩
theorem tw_550 : GW (.methodLink RX7 166 yX0_shape) := ⟨in_2 (List.mem_of_getElem? (i := 226) (by decide +kernel)), rfl⟩
theorem tw_551 : GW (.instanceMethod yX0_shape) := ⟨in_2 (List.mem_of_getElem? (i := 227) (by decide +kernel)), rfl⟩
theorem tw_552 : GW (.selects RX0 yX0_shape yX0_shape) := ⟨in_2 (List.mem_of_getElem? (i := 228) (by decide +kernel)), rfl⟩
theorem tw_553 : GW (.code yX0_shape cX0_shape 2 none) := ⟨in_2 (List.mem_of_getElem? (i := 229) rfl), rfl⟩
theorem tw_554 : GW (.fieldLink RX0 19 "ShapeFits$BlockFit" "count" "I") := ⟨in_1 (List.mem_of_getElem? (i := 117) (by decide +kernel)), rfl⟩
theorem tw_555 : GW (.methodLink RX0 23 yX1_size) := ⟨in_2 (List.mem_of_getElem? (i := 230) (by decide +kernel)), rfl⟩
theorem tw_556 : GW (.methodLink RX0 44 yX0_bestTurn) := ⟨in_2 (List.mem_of_getElem? (i := 231) (by decide +kernel)), rfl⟩
theorem tw_557 : GW (.instanceMethod yX0_bestTurn) := ⟨in_2 (List.mem_of_getElem? (i := 232) (by decide +kernel)), rfl⟩
theorem tw_558 : GW (.selects RX0 yX0_bestTurn yX0_bestTurn) := ⟨in_2 (List.mem_of_getElem? (i := 233) (by decide +kernel)), rfl⟩
theorem tw_559 : GW (.code yX0_bestTurn cX0_bestTurn 8 (some .int)) := ⟨in_2 (List.mem_of_getElem? (i := 234) rfl), rfl⟩
theorem tw_560 : GW (.methodLink RX0 47 yX0_shapeWithTurn) := ⟨in_2 (List.mem_of_getElem? (i := 235) (by decide +kernel)), rfl⟩
theorem tw_561 : GW (.instanceMethod yX0_shapeWithTurn) := ⟨in_2 (List.mem_of_getElem? (i := 236) (by decide +kernel)), rfl⟩
theorem tw_562 : GW (.selects RX0 yX0_shapeWithTurn yX0_shapeWithTurn) := ⟨in_2 (List.mem_of_getElem? (i := 237) (by decide +kernel)), rfl⟩
theorem tw_563 : GW (.code yX0_shapeWithTurn cX0_shapeWithTurn 4 none) := ⟨in_2 (List.mem_of_getElem? (i := 238) rfl), rfl⟩
theorem tw_564 : GW (.fieldLink RX0 61 "ShapeFits$BlockFit" "topFirst" "I") := ⟨in_1 (List.mem_of_getElem? (i := 118) (by decide +kernel)), rfl⟩
theorem tl_wsX7_fit_r5 : GoodIn lw_tbl wsX7_fit_r5 := (gi_c tw_544 (gi_c tw_545 (gi_c tw_295 (gi_c tw_546 (gi_c tw_547 (gi_c tw_548 (gi_c tw_549 (gi_c tw_550 (gi_c tw_551 (gi_c tw_552 (gi_c tw_24 (gi_c tw_553 (gi_c tw_70 (gi_c tw_554 (gi_c tw_555 (gi_c tw_556 (gi_c tw_557 (gi_c tw_558 (gi_c tw_559 (gi_c tw_560 (gi_c tw_561 (gi_c tw_562 (gi_c tw_563 (gi_c tw_564 gi_n))))))))))))))))))))))))
theorem tw_566 : GW (.fieldLink RX0 68 "ShapeFits$BlockFit" "topLast" "I") := ⟨in_1 (List.mem_of_getElem? (i := 119) (by decide +kernel)), rfl⟩
theorem tw_567 : GW (.methodLink RX0 58 yX0_findTop) := ⟨in_2 (List.mem_of_getElem? (i := 239) (by decide +kernel)), rfl⟩
theorem tw_568 : GW (.instanceMethod yX0_findTop) := ⟨in_3 (List.mem_of_getElem? (i := 1) (by decide +kernel)), rfl⟩
theorem tw_569 : GW (.selects RX0 yX0_findTop yX0_findTop) := ⟨in_0 (List.mem_of_getElem? (i := 16) rfl), rfl⟩
theorem tw_570 : GW (.code yX0_findTop cX0_findTop 5 none) := ⟨in_3 (List.mem_of_getElem? (i := 2) rfl), rfl⟩
theorem tw_571 : GW (.methodLink RX0 71 yX1_compareMeans) := ⟨in_3 (List.mem_of_getElem? (i := 3) (by decide +kernel)), rfl⟩
theorem tw_572 : GW (.methodLink RX0 51 yX0_pool) := ⟨in_3 (List.mem_of_getElem? (i := 4) (by decide +kernel)), rfl⟩
theorem tw_573 : GW (.instanceMethod yX0_pool) := ⟨in_3 (List.mem_of_getElem? (i := 6) (by decide +kernel)), rfl⟩
theorem tw_574 : GW (.selects RX0 yX0_pool yX0_pool) := ⟨in_0 (List.mem_of_getElem? (i := 17) rfl), rfl⟩
theorem tw_575 : GW (.code yX0_pool cX0_pool 8 none) := ⟨in_3 (List.mem_of_getElem? (i := 7) rfl), rfl⟩
theorem tw_576 : GW (.methodLink RX0 64 yX0_open) := ⟨in_3 (List.mem_of_getElem? (i := 8) (by decide +kernel)), rfl⟩
theorem tw_577 : GW (.instanceMethod yX0_open) := ⟨in_3 (List.mem_of_getElem? (i := 10) (by decide +kernel)), rfl⟩
theorem tw_578 : GW (.selects RX0 yX0_open yX0_open) := ⟨in_0 (List.mem_of_getElem? (i := 18) rfl), rfl⟩
theorem tw_579 : GW (.code yX0_open cX0_open 2 none) := ⟨in_3 (List.mem_of_getElem? (i := 11) rfl), rfl⟩
theorem tw_580 : GW (.methodLink RX0 55 yX0_commonError) := ⟨in_3 (List.mem_of_getElem? (i := 12) (by decide +kernel)), rfl⟩
theorem tw_581 : GW (.instanceMethod yX0_commonError) := ⟨in_3 (List.mem_of_getElem? (i := 13) (by decide +kernel)), rfl⟩
theorem tw_582 : GW (.selects RX0 yX0_commonError yX0_commonError) := ⟨in_3 (List.mem_of_getElem? (i := 14) (by decide +kernel)), rfl⟩
theorem tw_583 : GW (.code yX0_commonError cX0_commonError 4 (some .long)) := ⟨in_3 (List.mem_of_getElem? (i := 15) rfl), rfl⟩
theorem tw_584 : GW (.methodLink RX0 29 yX1_errorOfZero) := ⟨in_3 (List.mem_of_getElem? (i := 16) (by decide +kernel)), rfl⟩
theorem tw_585 : GW (.instanceMethod yX1_errorOfZero) := ⟨in_3 (List.mem_of_getElem? (i := 17) (by decide +kernel)), rfl⟩
theorem tw_586 : GW (.selects RX1 yX1_errorOfZero yX1_errorOfZero) := ⟨in_3 (List.mem_of_getElem? (i := 18) (by decide +kernel)), rfl⟩
theorem tw_587 : GW (.code yX1_errorOfZero cX1_errorOfZero 1 (some .long)) := ⟨in_3 (List.mem_of_getElem? (i := 19) rfl), rfl⟩
theorem tw_588 : GW (.constantLong RX1 64 (5354228880)) := ⟨in_3 (List.mem_of_getElem? (i := 20) (by decide +kernel)), rfl⟩
theorem tl_wsX7_fit_r6 : GoodIn lw_tbl wsX7_fit_r6 := (gi_c tw_566 (gi_c tw_567 (gi_c tw_568 (gi_c tw_569 (gi_c tw_570 (gi_c tw_571 (gi_c tw_572 (gi_c tw_573 (gi_c tw_574 (gi_c tw_575 (gi_c tw_69 (gi_c tw_576 (gi_c tw_577 (gi_c tw_578 (gi_c tw_579 (gi_c tw_580 (gi_c tw_581 (gi_c tw_582 (gi_c tw_583 (gi_c tw_584 (gi_c tw_585 (gi_c tw_586 (gi_c tw_587 (gi_c tw_588 gi_n))))))))))))))))))))))))
theorem tw_590 : GW (.methodLink RX0 33 yX0_firstOf) := ⟨in_3 (List.mem_of_getElem? (i := 21) (by decide +kernel)), rfl⟩
theorem tw_591 : GW (.instanceMethod yX0_firstOf) := ⟨in_3 (List.mem_of_getElem? (i := 22) (by decide +kernel)), rfl⟩
theorem tw_592 : GW (.selects RX0 yX0_firstOf yX0_firstOf) := ⟨in_3 (List.mem_of_getElem? (i := 23) (by decide +kernel)), rfl⟩
theorem tw_593 : GW (.code yX0_firstOf cX0_firstOf 2 (some .int)) := ⟨in_3 (List.mem_of_getElem? (i := 24) rfl), rfl⟩
theorem tw_594 : GW (.methodLink RX0 37 yX0_lastOf) := ⟨in_3 (List.mem_of_getElem? (i := 25) (by decide +kernel)), rfl⟩
theorem tw_595 : GW (.instanceMethod yX0_lastOf) := ⟨in_3 (List.mem_of_getElem? (i := 26) (by decide +kernel)), rfl⟩
theorem tw_596 : GW (.selects RX0 yX0_lastOf yX0_lastOf) := ⟨in_3 (List.mem_of_getElem? (i := 27) (by decide +kernel)), rfl⟩
theorem tw_597 : GW (.code yX0_lastOf cX0_lastOf 2 (some .int)) := ⟨in_3 (List.mem_of_getElem? (i := 28) rfl), rfl⟩
theorem tw_598 : GW (.methodLink RX0 40 yX1_gainOf) := ⟨in_3 (List.mem_of_getElem? (i := 29) (by decide +kernel)), rfl⟩
theorem tw_599 : GW (.instanceMethod yX1_gainOf) := ⟨in_3 (List.mem_of_getElem? (i := 30) (by decide +kernel)), rfl⟩
theorem tw_600 : GW (.selects RX1 yX1_gainOf yX1_gainOf) := ⟨in_3 (List.mem_of_getElem? (i := 31) (by decide +kernel)), rfl⟩
theorem tw_601 : GW (.code yX1_gainOf cX1_gainOf 7 (some .long)) := ⟨in_3 (List.mem_of_getElem? (i := 32) rfl), rfl⟩
theorem tw_602 : GW (.methodLink RX7 169 yX0_blockWith) := ⟨in_3 (List.mem_of_getElem? (i := 33) (by decide +kernel)), rfl⟩
theorem tw_603 : GW (.instanceMethod yX0_blockWith) := ⟨in_3 (List.mem_of_getElem? (i := 34) (by decide +kernel)), rfl⟩
theorem tw_604 : GW (.selects RX0 yX0_blockWith yX0_blockWith) := ⟨in_3 (List.mem_of_getElem? (i := 35) (by decide +kernel)), rfl⟩
theorem tw_605 : GW (.code yX0_blockWith cX0_blockWith 4 (some .int)) := ⟨in_3 (List.mem_of_getElem? (i := 36) rfl), rfl⟩
theorem tw_606 : GW (.methodLink RX7 172 yX0_firstOf) := ⟨in_3 (List.mem_of_getElem? (i := 37) (by decide +kernel)), rfl⟩
theorem tw_607 : GW (.methodLink RX7 175 yX0_lastOf) := ⟨in_3 (List.mem_of_getElem? (i := 38) (by decide +kernel)), rfl⟩
theorem tl_wsX7_fit_r7 : GoodIn lw_tbl wsX7_fit_r7 := (gi_c tw_161 (gi_c tw_590 (gi_c tw_591 (gi_c tw_592 (gi_c tw_593 (gi_c tw_594 (gi_c tw_595 (gi_c tw_596 (gi_c tw_597 (gi_c tw_598 (gi_c tw_599 (gi_c tw_600 (gi_c tw_601 (gi_c tw_602 (gi_c tw_603 (gi_c tw_604 (gi_c tw_605 (gi_c tw_606 (gi_c tw_607 (gi_c tw_454 (gi_c tw_450 gi_n)))))))))))))))))))))
theorem tl_wsX7_fit : GoodIn lw_tbl wsX7_fit := (gi_c tw_476 (goodIn_app (goodIn_app (goodIn_app (goodIn_app (goodIn_app tl_wsX7_fit_r1 (goodIn_app tl_wsX7_fit_r2 (goodIn_app tl_wsX7_fit_r3 (goodIn_app tl_wsX7_fit_r4 (goodIn_app tl_wsX7_fit_r5 (goodIn_app tl_wsX7_fit_r6 tl_wsX7_fit_r7)))))) tu_X7) tu_X1) tu_X3) tu_X0))
theorem tw_608 : GW (.methodLink RL 57 yX7_fit) := ⟨in_2 (List.mem_of_getElem? (i := 155) (by decide +kernel)), rfl⟩
theorem tw_609 : GW (.instanceMethod yX7_fit) := ⟨in_2 (List.mem_of_getElem? (i := 156) (by decide +kernel)), rfl⟩
theorem tw_610 : GW (.selects RX7 yX7_fit yX7_fit) := ⟨in_2 (List.mem_of_getElem? (i := 157) (by decide +kernel)), rfl⟩
theorem tv_X7_fit : GoodIn lw_tbl (wsV RL 57 RX7 yX7_fit wsX7_fit) := gi_v tw_122 tw_608 tw_609 tw_610 tl_wsX7_fit
theorem tw_612 : GW (.code yX8_fit cX8_fit 5 (some .long)) := ⟨in_4 (List.mem_of_getElem? (i := 113) rfl), rfl⟩
theorem tw_614 : GW (.constantLong RX8 136 (-1000001)) := ⟨in_4 (List.mem_of_getElem? (i := 114) (by decide +kernel)), rfl⟩
theorem tw_615 : GW (.methodLink RX8 138 yX8_bends) := ⟨in_4 (List.mem_of_getElem? (i := 115) (by decide +kernel)), rfl⟩
theorem tw_616 : GW (.instanceMethod yX8_bends) := ⟨in_4 (List.mem_of_getElem? (i := 117) (by decide +kernel)), rfl⟩
theorem tw_617 : GW (.selects RX8 yX8_bends yX8_bends) := ⟨in_0 (List.mem_of_getElem? (i := 30) rfl), rfl⟩
theorem tw_618 : GW (.code yX8_bends cX8_bends 5 none) := ⟨in_4 (List.mem_of_getElem? (i := 118) rfl), rfl⟩
theorem tl_wsX8_fit_r1 : GoodIn lw_tbl wsX8_fit_r1 := (gi_c tw_614 (gi_c tw_110 (gi_c tw_109 (gi_c tw_195 (gi_c tw_196 (gi_c tw_197 (gi_c tw_198 (gi_c tw_468 (gi_c tw_469 (gi_c tw_470 (gi_c tw_471 (gi_c tw_420 (gi_c tw_416 (gi_c tw_417 (gi_c tw_418 (gi_c tw_419 (gi_c tw_100 (gi_c tw_105 (gi_c tw_106 (gi_c tw_107 (gi_c tw_615 (gi_c tw_616 (gi_c tw_617 (gi_c tw_618 gi_n))))))))))))))))))))))))
theorem tw_620 : GW (.fieldLink RX8 125 "ShapeFitsModel" "corners" "I") := ⟨in_3 (List.mem_of_getElem? (i := 231) (by decide +kernel)), rfl⟩
theorem tw_621 : GW (.methodLink RX8 128 yX8_rise) := ⟨in_4 (List.mem_of_getElem? (i := 119) (by decide +kernel)), rfl⟩
theorem tw_622 : GW (.instanceMethod yX8_rise) := ⟨in_4 (List.mem_of_getElem? (i := 121) (by decide +kernel)), rfl⟩
theorem tw_623 : GW (.selects RX8 yX8_rise yX8_rise) := ⟨in_0 (List.mem_of_getElem? (i := 31) rfl), rfl⟩
theorem tw_624 : GW (.code yX8_rise cX8_rise 8 (some .long)) := ⟨in_4 (List.mem_of_getElem? (i := 122) rfl), rfl⟩
theorem tw_625 : GW (.constantLong RX8 123 (-1)) := ⟨in_4 (List.mem_of_getElem? (i := 123) (by decide +kernel)), rfl⟩
theorem tw_626 : GW (.methodLink RX8 142 yX8_bent) := ⟨in_4 (List.mem_of_getElem? (i := 124) (by decide +kernel)), rfl⟩
theorem tw_627 : GW (.instanceMethod yX8_bent) := ⟨in_4 (List.mem_of_getElem? (i := 126) (by decide +kernel)), rfl⟩
theorem tw_628 : GW (.selects RX8 yX8_bent yX8_bent) := ⟨in_0 (List.mem_of_getElem? (i := 32) rfl), rfl⟩
theorem tw_629 : GW (.code yX8_bent cX8_bent 9 none) := ⟨in_4 (List.mem_of_getElem? (i := 127) rfl), rfl⟩
theorem tw_630 : GW (.methodLink RX8 132 yX8_lowers) := ⟨in_4 (List.mem_of_getElem? (i := 128) (by decide +kernel)), rfl⟩
theorem tw_631 : GW (.instanceMethod yX8_lowers) := ⟨in_4 (List.mem_of_getElem? (i := 130) (by decide +kernel)), rfl⟩
theorem tw_632 : GW (.selects RX8 yX8_lowers yX8_lowers) := ⟨in_0 (List.mem_of_getElem? (i := 33) rfl), rfl⟩
theorem tw_633 : GW (.code yX8_lowers cX8_lowers 7 none) := ⟨in_4 (List.mem_of_getElem? (i := 131) rfl), rfl⟩
theorem tw_634 : GW (.fieldLink RX8 89 "ShapeFitsModel" "top" "J") := ⟨in_3 (List.mem_of_getElem? (i := 233) (by decide +kernel)), rfl⟩
theorem tw_635 : GW (.fieldLink RX8 93 "ShapeFitsModel" "bottom" "J") := ⟨in_3 (List.mem_of_getElem? (i := 234) (by decide +kernel)), rfl⟩
theorem tw_636 : GW (.methodLink RX8 85 yX8_divisor) := ⟨in_4 (List.mem_of_getElem? (i := 132) (by decide +kernel)), rfl⟩
theorem tw_637 : GW (.static yX8_divisor) := ⟨in_4 (List.mem_of_getElem? (i := 133) (by decide +kernel)), rfl⟩
theorem tw_638 : GW (.code yX8_divisor cX8_divisor 10 (some .long)) := ⟨in_4 (List.mem_of_getElem? (i := 134) rfl), rfl⟩
theorem tw_639 : GW (.methodLink RX8 145 yX8_fits) := ⟨in_4 (List.mem_of_getElem? (i := 135) (by decide +kernel)), rfl⟩
theorem tw_640 : GW (.instanceMethod yX8_fits) := ⟨in_4 (List.mem_of_getElem? (i := 137) (by decide +kernel)), rfl⟩
theorem tw_641 : GW (.selects RX8 yX8_fits yX8_fits) := ⟨in_0 (List.mem_of_getElem? (i := 34) rfl), rfl⟩
theorem tw_642 : GW (.code yX8_fits cX8_fits 8 (some .int)) := ⟨in_4 (List.mem_of_getElem? (i := 138) rfl), rfl⟩
theorem tl_wsX8_fit_r2 : GoodIn lw_tbl wsX8_fit_r2 := (gi_c tw_620 (gi_c tw_111 (gi_c tw_621 (gi_c tw_622 (gi_c tw_623 (gi_c tw_624 (gi_c tw_625 (gi_c tw_626 (gi_c tw_627 (gi_c tw_628 (gi_c tw_629 (gi_c tw_630 (gi_c tw_631 (gi_c tw_632 (gi_c tw_633 (gi_c tw_634 (gi_c tw_635 (gi_c tw_636 (gi_c tw_637 (gi_c tw_638 (gi_c tw_639 (gi_c tw_640 (gi_c tw_641 (gi_c tw_642 gi_n))))))))))))))))))))))))
theorem tw_644 : GW (.fieldLink RX8 96 "ShapeFitsModel" "blocks" "I") := ⟨in_3 (List.mem_of_getElem? (i := 227) (by decide +kernel)), rfl⟩
theorem tw_645 : GW (.methodLink RX8 107 yX8_rises) := ⟨in_4 (List.mem_of_getElem? (i := 139) (by decide +kernel)), rfl⟩
theorem tw_646 : GW (.instanceMethod yX8_rises) := ⟨in_4 (List.mem_of_getElem? (i := 141) (by decide +kernel)), rfl⟩
theorem tw_647 : GW (.selects RX8 yX8_rises yX8_rises) := ⟨in_0 (List.mem_of_getElem? (i := 35) rfl), rfl⟩
theorem tw_648 : GW (.code yX8_rises cX8_rises 6 none) := ⟨in_4 (List.mem_of_getElem? (i := 142) rfl), rfl⟩
theorem tw_649 : GW (.methodLink RX8 99 yX8_poolsFrom) := ⟨in_4 (List.mem_of_getElem? (i := 143) (by decide +kernel)), rfl⟩
theorem tw_650 : GW (.instanceMethod yX8_poolsFrom) := ⟨in_4 (List.mem_of_getElem? (i := 145) (by decide +kernel)), rfl⟩
theorem tw_651 : GW (.selects RX8 yX8_poolsFrom yX8_poolsFrom) := ⟨in_0 (List.mem_of_getElem? (i := 36) rfl), rfl⟩
theorem tw_652 : GW (.code yX8_poolsFrom cX8_poolsFrom 7 none) := ⟨in_4 (List.mem_of_getElem? (i := 146) rfl), rfl⟩
theorem tw_653 : GW (.methodLink RX8 103 yX8_compared) := ⟨in_4 (List.mem_of_getElem? (i := 147) (by decide +kernel)), rfl⟩
theorem tw_654 : GW (.static yX8_compared) := ⟨in_4 (List.mem_of_getElem? (i := 148) (by decide +kernel)), rfl⟩
theorem tw_655 : GW (.code yX8_compared cX8_compared 4 (some .int)) := ⟨in_4 (List.mem_of_getElem? (i := 149) rfl), rfl⟩
theorem tw_656 : GW (.methodLink RX8 110 yX8_joins) := ⟨in_4 (List.mem_of_getElem? (i := 150) (by decide +kernel)), rfl⟩
theorem tw_657 : GW (.instanceMethod yX8_joins) := ⟨in_4 (List.mem_of_getElem? (i := 152) (by decide +kernel)), rfl⟩
theorem tw_658 : GW (.selects RX8 yX8_joins yX8_joins) := ⟨in_0 (List.mem_of_getElem? (i := 37) rfl), rfl⟩
theorem tw_659 : GW (.code yX8_joins cX8_joins 3 none) := ⟨in_4 (List.mem_of_getElem? (i := 153) rfl), rfl⟩
theorem tw_660 : GW (.methodLink RX8 115 yX8_turns) := ⟨in_4 (List.mem_of_getElem? (i := 154) (by decide +kernel)), rfl⟩
theorem tw_661 : GW (.instanceMethod yX8_turns) := ⟨in_4 (List.mem_of_getElem? (i := 156) (by decide +kernel)), rfl⟩
theorem tw_662 : GW (.selects RX8 yX8_turns yX8_turns) := ⟨in_0 (List.mem_of_getElem? (i := 38) rfl), rfl⟩
theorem tw_663 : GW (.code yX8_turns cX8_turns 14 none) := ⟨in_4 (List.mem_of_getElem? (i := 157) rfl), rfl⟩
theorem tw_664 : GW (.methodLink RX8 119 yX8_errorOf) := ⟨in_4 (List.mem_of_getElem? (i := 158) (by decide +kernel)), rfl⟩
theorem tw_665 : GW (.instanceMethod yX8_errorOf) := ⟨in_4 (List.mem_of_getElem? (i := 160) (by decide +kernel)), rfl⟩
theorem tw_666 : GW (.selects RX8 yX8_errorOf yX8_errorOf) := ⟨in_0 (List.mem_of_getElem? (i := 39) rfl), rfl⟩
theorem tl_wsX8_fit_r3 : GoodIn lw_tbl wsX8_fit_r3 := (gi_c tw_644 (gi_c tw_645 (gi_c tw_646 (gi_c tw_647 (gi_c tw_648 (gi_c tw_649 (gi_c tw_650 (gi_c tw_651 (gi_c tw_652 (gi_c tw_108 (gi_c tw_653 (gi_c tw_654 (gi_c tw_655 (gi_c tw_656 (gi_c tw_657 (gi_c tw_658 (gi_c tw_659 (gi_c tw_660 (gi_c tw_661 (gi_c tw_662 (gi_c tw_663 (gi_c tw_664 (gi_c tw_665 (gi_c tw_666 gi_n))))))))))))))))))))))))
theorem tw_668 : GW (.code yX8_errorOf cX8_errorOf 4 (some .long)) := ⟨in_4 (List.mem_of_getElem? (i := 161) rfl), rfl⟩
theorem tw_669 : GW (.constantLong RX8 113 (5354228880)) := ⟨in_4 (List.mem_of_getElem? (i := 162) (by decide +kernel)), rfl⟩
theorem tw_670 : GW (.methodLink RX8 148 yX8_blockOf) := ⟨in_4 (List.mem_of_getElem? (i := 163) (by decide +kernel)), rfl⟩
theorem tw_671 : GW (.instanceMethod yX8_blockOf) := ⟨in_4 (List.mem_of_getElem? (i := 165) (by decide +kernel)), rfl⟩
theorem tw_672 : GW (.selects RX8 yX8_blockOf yX8_blockOf) := ⟨in_0 (List.mem_of_getElem? (i := 40) rfl), rfl⟩
theorem tw_673 : GW (.code yX8_blockOf cX8_blockOf 3 (some .int)) := ⟨in_4 (List.mem_of_getElem? (i := 166) rfl), rfl⟩
theorem tw_674 : GW (.methodLink RX8 151 yX8_tells) := ⟨in_4 (List.mem_of_getElem? (i := 167) (by decide +kernel)), rfl⟩
theorem tw_675 : GW (.instanceMethod yX8_tells) := ⟨in_4 (List.mem_of_getElem? (i := 169) (by decide +kernel)), rfl⟩
theorem tw_676 : GW (.selects RX8 yX8_tells yX8_tells) := ⟨in_0 (List.mem_of_getElem? (i := 41) rfl), rfl⟩
theorem tw_677 : GW (.code yX8_tells cX8_tells 2 (some .long)) := ⟨in_4 (List.mem_of_getElem? (i := 170) rfl), rfl⟩
theorem tl_wsX8_fit_r4 : GoodIn lw_tbl wsX8_fit_r4 := (gi_c tw_668 (gi_c tw_669 (gi_c tw_670 (gi_c tw_671 (gi_c tw_672 (gi_c tw_673 (gi_c tw_674 (gi_c tw_675 (gi_c tw_676 (gi_c tw_677 gi_n))))))))))
theorem tl_wsX8_fit : GoodIn lw_tbl wsX8_fit := (gi_c tw_612 (goodIn_app (goodIn_app tl_wsX8_fit_r1 (goodIn_app tl_wsX8_fit_r2 (goodIn_app tl_wsX8_fit_r3 tl_wsX8_fit_r4))) tu_X8))
theorem tw_678 : GW (.methodLink RL 61 yX8_fit) := ⟨in_4 (List.mem_of_getElem? (i := 110) (by decide +kernel)), rfl⟩
theorem tw_679 : GW (.instanceMethod yX8_fit) := ⟨in_4 (List.mem_of_getElem? (i := 111) (by decide +kernel)), rfl⟩
theorem tw_680 : GW (.selects RX8 yX8_fit yX8_fit) := ⟨in_4 (List.mem_of_getElem? (i := 112) (by decide +kernel)), rfl⟩
theorem tv_X8_fit : GoodIn lw_tbl (wsV RL 61 RX8 yX8_fit wsX8_fit) := gi_v tw_197 tw_678 tw_679 tw_680 tl_wsX8_fit
theorem tw_682 : GW (.code yX7_error cX7_error 3 (some .long)) := ⟨in_3 (List.mem_of_getElem? (i := 42) rfl), rfl⟩
theorem tw_684 : GW (.constantLong RX7 178 (-1000002)) := ⟨in_3 (List.mem_of_getElem? (i := 43) (by decide +kernel)), rfl⟩
theorem tw_685 : GW (.constantLong RX7 184 (5354228880)) := ⟨in_3 (List.mem_of_getElem? (i := 45) (by decide +kernel)), rfl⟩
theorem tl_wsX7_error_r1 : GoodIn lw_tbl wsX7_error_r1 := (gi_c tw_478 (gi_c tw_21 (gi_c tw_684 (gi_c tw_25 (gi_c tw_685 (gi_c tw_120 (gi_c tw_121 (gi_c tw_122 (gi_c tw_123 (gi_c tw_479 (gi_c tw_480 (gi_c tw_481 (gi_c tw_426 (gi_c tw_427 (gi_c tw_428 (gi_c tw_20 (gi_c tw_429 (gi_c tw_160 (gi_c tw_550 (gi_c tw_551 (gi_c tw_552 (gi_c tw_24 (gi_c tw_553 (gi_c tw_70 gi_n))))))))))))))))))))))))
theorem tl_wsX7_error_r2 : GoodIn lw_tbl wsX7_error_r2 := (gi_c tw_554 (gi_c tw_555 (gi_c tw_556 (gi_c tw_557 (gi_c tw_558 (gi_c tw_559 (gi_c tw_560 (gi_c tw_561 (gi_c tw_562 (gi_c tw_563 (gi_c tw_564 (gi_c tw_566 (gi_c tw_567 (gi_c tw_568 (gi_c tw_569 (gi_c tw_570 (gi_c tw_571 (gi_c tw_502 (gi_c tw_503 (gi_c tw_504 (gi_c tw_505 (gi_c tw_456 (gi_c tw_457 (gi_c tw_458 gi_n))))))))))))))))))))))))
theorem tl_wsX7_error_r3 : GoodIn lw_tbl wsX7_error_r3 := (gi_c tw_64 (gi_c tw_507 (gi_c tw_451 (gi_c tw_452 (gi_c tw_453 (gi_c tw_63 (gi_c tw_572 (gi_c tw_573 (gi_c tw_574 (gi_c tw_575 (gi_c tw_69 (gi_c tw_576 (gi_c tw_577 (gi_c tw_578 (gi_c tw_579 (gi_c tw_580 (gi_c tw_581 (gi_c tw_582 (gi_c tw_583 (gi_c tw_584 (gi_c tw_585 (gi_c tw_586 (gi_c tw_587 (gi_c tw_588 gi_n))))))))))))))))))))))))
theorem tw_689 : GW (.methodLink RX7 180 yX0_commonError) := ⟨in_3 (List.mem_of_getElem? (i := 44) (by decide +kernel)), rfl⟩
theorem tl_wsX7_error_r4 : GoodIn lw_tbl wsX7_error_r4 := (gi_c tw_161 (gi_c tw_590 (gi_c tw_591 (gi_c tw_592 (gi_c tw_593 (gi_c tw_594 (gi_c tw_595 (gi_c tw_596 (gi_c tw_597 (gi_c tw_598 (gi_c tw_599 (gi_c tw_600 (gi_c tw_601 (gi_c tw_689 (gi_c tw_540 (gi_c tw_541 (gi_c tw_542 (gi_c tw_544 (gi_c tw_545 (gi_c tw_295 (gi_c tw_546 (gi_c tw_547 (gi_c tw_548 (gi_c tw_549 gi_n))))))))))))))))))))))))
theorem tl_wsX7_error : GoodIn lw_tbl wsX7_error := (gi_c tw_682 (goodIn_app (goodIn_app (goodIn_app (goodIn_app tl_wsX7_error_r1 (goodIn_app tl_wsX7_error_r2 (goodIn_app tl_wsX7_error_r3 tl_wsX7_error_r4))) tu_X7) tu_X1) tu_X0))
theorem tw_690 : GW (.methodLink RL 62 yX7_error) := ⟨in_3 (List.mem_of_getElem? (i := 39) (by decide +kernel)), rfl⟩
theorem tw_691 : GW (.instanceMethod yX7_error) := ⟨in_3 (List.mem_of_getElem? (i := 40) (by decide +kernel)), rfl⟩
theorem tw_692 : GW (.selects RX7 yX7_error yX7_error) := ⟨in_3 (List.mem_of_getElem? (i := 41) (by decide +kernel)), rfl⟩
theorem tv_X7_error : GoodIn lw_tbl (wsV RL 62 RX7 yX7_error wsX7_error) := gi_v tw_122 tw_690 tw_691 tw_692 tl_wsX7_error
theorem tw_694 : GW (.code yX8_error cX8_error 3 (some .long)) := ⟨in_4 (List.mem_of_getElem? (i := 174) rfl), rfl⟩
theorem tw_696 : GW (.constantLong RX8 155 (-1000002)) := ⟨in_4 (List.mem_of_getElem? (i := 175) (by decide +kernel)), rfl⟩
theorem tl_wsX8_error_r1 : GoodIn lw_tbl wsX8_error_r1 := (gi_c tw_614 (gi_c tw_100 (gi_c tw_696 (gi_c tw_669 (gi_c tw_195 (gi_c tw_196 (gi_c tw_197 (gi_c tw_198 (gi_c tw_416 (gi_c tw_417 (gi_c tw_418 (gi_c tw_419 (gi_c tw_420 (gi_c tw_105 (gi_c tw_106 (gi_c tw_107 (gi_c tw_639 (gi_c tw_640 (gi_c tw_641 (gi_c tw_642 (gi_c tw_644 (gi_c tw_645 (gi_c tw_646 (gi_c tw_647 gi_n))))))))))))))))))))))))
theorem tl_wsX8_error_r2 : GoodIn lw_tbl wsX8_error_r2 := (gi_c tw_648 (gi_c tw_649 (gi_c tw_650 (gi_c tw_651 (gi_c tw_652 (gi_c tw_110 (gi_c tw_109 (gi_c tw_108 (gi_c tw_653 (gi_c tw_654 (gi_c tw_655 (gi_c tw_656 (gi_c tw_657 (gi_c tw_658 (gi_c tw_659 (gi_c tw_660 (gi_c tw_661 (gi_c tw_662 (gi_c tw_663 (gi_c tw_664 (gi_c tw_665 (gi_c tw_666 (gi_c tw_668 (gi_c tw_630 gi_n))))))))))))))))))))))))
theorem tl_wsX8_error_r3 : GoodIn lw_tbl wsX8_error_r3 := (gi_c tw_631 (gi_c tw_632 (gi_c tw_633 (gi_c tw_634 (gi_c tw_635 (gi_c tw_636 (gi_c tw_637 (gi_c tw_638 (gi_c tw_674 (gi_c tw_675 (gi_c tw_676 (gi_c tw_677 gi_n))))))))))))
theorem tl_wsX8_error : GoodIn lw_tbl wsX8_error := (gi_c tw_694 (goodIn_app (goodIn_app tl_wsX8_error_r1 (goodIn_app tl_wsX8_error_r2 tl_wsX8_error_r3)) tu_X8))
theorem tw_699 : GW (.methodLink RL 66 yX8_error) := ⟨in_4 (List.mem_of_getElem? (i := 171) (by decide +kernel)), rfl⟩
theorem tw_700 : GW (.instanceMethod yX8_error) := ⟨in_4 (List.mem_of_getElem? (i := 172) (by decide +kernel)), rfl⟩
theorem tw_701 : GW (.selects RX8 yX8_error yX8_error) := ⟨in_4 (List.mem_of_getElem? (i := 173) (by decide +kernel)), rfl⟩
theorem tv_X8_error : GoodIn lw_tbl (wsV RL 66 RX8 yX8_error wsX8_error) := gi_v tw_197 tw_699 tw_700 tw_701 tl_wsX8_error
theorem tw_703 : GW (.code yX7_turn cX7_turn 2 (some .int)) := ⟨in_3 (List.mem_of_getElem? (i := 49) rfl), rfl⟩
theorem tw_705 : GW (.methodLink RX7 186 yX0_bestTurn) := ⟨in_3 (List.mem_of_getElem? (i := 50) (by decide +kernel)), rfl⟩
theorem tl_wsX7_turn_r1 : GoodIn lw_tbl wsX7_turn_r1 := (gi_c tw_118 (gi_c tw_21 (gi_c tw_275 (gi_c tw_25 (gi_c tw_120 (gi_c tw_121 (gi_c tw_122 (gi_c tw_123 (gi_c tw_426 (gi_c tw_427 (gi_c tw_428 (gi_c tw_20 (gi_c tw_429 (gi_c tw_160 (gi_c tw_705 (gi_c tw_557 (gi_c tw_558 (gi_c tw_24 (gi_c tw_559 (gi_c tw_70 (gi_c tw_555 (gi_c tw_560 (gi_c tw_561 (gi_c tw_562 gi_n))))))))))))))))))))))))
theorem tl_wsX7_turn_r2 : GoodIn lw_tbl wsX7_turn_r2 := (gi_c tw_563 (gi_c tw_554 (gi_c tw_564 (gi_c tw_566 (gi_c tw_567 (gi_c tw_568 (gi_c tw_569 (gi_c tw_570 (gi_c tw_571 (gi_c tw_502 (gi_c tw_503 (gi_c tw_504 (gi_c tw_505 (gi_c tw_456 (gi_c tw_457 (gi_c tw_458 (gi_c tw_64 (gi_c tw_507 (gi_c tw_451 (gi_c tw_452 (gi_c tw_453 (gi_c tw_63 (gi_c tw_572 (gi_c tw_573 gi_n))))))))))))))))))))))))
theorem tl_wsX7_turn_r3 : GoodIn lw_tbl wsX7_turn_r3 := (gi_c tw_574 (gi_c tw_575 (gi_c tw_69 (gi_c tw_576 (gi_c tw_577 (gi_c tw_578 (gi_c tw_579 (gi_c tw_580 (gi_c tw_581 (gi_c tw_582 (gi_c tw_583 (gi_c tw_584 (gi_c tw_585 (gi_c tw_586 (gi_c tw_587 (gi_c tw_588 (gi_c tw_161 (gi_c tw_590 (gi_c tw_591 (gi_c tw_592 (gi_c tw_593 (gi_c tw_594 (gi_c tw_595 (gi_c tw_596 gi_n))))))))))))))))))))))))
theorem tl_wsX7_turn_r4 : GoodIn lw_tbl wsX7_turn_r4 := (gi_c tw_597 (gi_c tw_598 (gi_c tw_599 (gi_c tw_600 (gi_c tw_601 gi_n)))))
theorem tl_wsX7_turn : GoodIn lw_tbl wsX7_turn := (gi_c tw_703 (goodIn_app (goodIn_app (goodIn_app (goodIn_app tl_wsX7_turn_r1 (goodIn_app tl_wsX7_turn_r2 (goodIn_app tl_wsX7_turn_r3 tl_wsX7_turn_r4))) tu_X7) tu_X1) tu_X0))
theorem tw_709 : GW (.methodLink RL 67 yX7_turn) := ⟨in_3 (List.mem_of_getElem? (i := 46) (by decide +kernel)), rfl⟩
theorem tw_710 : GW (.instanceMethod yX7_turn) := ⟨in_3 (List.mem_of_getElem? (i := 47) (by decide +kernel)), rfl⟩
theorem tw_711 : GW (.selects RX7 yX7_turn yX7_turn) := ⟨in_3 (List.mem_of_getElem? (i := 48) (by decide +kernel)), rfl⟩
theorem tv_X7_turn : GoodIn lw_tbl (wsV RL 67 RX7 yX7_turn wsX7_turn) := gi_v tw_122 tw_709 tw_710 tw_711 tl_wsX7_turn
theorem tw_713 : GW (.code yX8_turn cX8_turn 2 (some .int)) := ⟨in_4 (List.mem_of_getElem? (i := 179) rfl), rfl⟩
theorem tl_wsX8_turn_r1 : GoodIn lw_tbl wsX8_turn_r1 := (gi_c tw_193 (gi_c tw_100 (gi_c tw_330 (gi_c tw_195 (gi_c tw_196 (gi_c tw_197 (gi_c tw_198 (gi_c tw_416 (gi_c tw_417 (gi_c tw_418 (gi_c tw_419 (gi_c tw_420 (gi_c tw_105 (gi_c tw_106 (gi_c tw_107 (gi_c tw_639 (gi_c tw_640 (gi_c tw_641 (gi_c tw_642 (gi_c tw_644 (gi_c tw_645 (gi_c tw_646 (gi_c tw_647 (gi_c tw_648 gi_n))))))))))))))))))))))))
theorem tl_wsX8_turn_r2 : GoodIn lw_tbl wsX8_turn_r2 := (gi_c tw_649 (gi_c tw_650 (gi_c tw_651 (gi_c tw_652 (gi_c tw_110 (gi_c tw_109 (gi_c tw_108 (gi_c tw_653 (gi_c tw_654 (gi_c tw_655 (gi_c tw_656 (gi_c tw_657 (gi_c tw_658 (gi_c tw_659 (gi_c tw_660 (gi_c tw_661 (gi_c tw_662 (gi_c tw_663 (gi_c tw_664 (gi_c tw_665 (gi_c tw_666 (gi_c tw_668 (gi_c tw_669 gi_n)))))))))))))))))))))))
theorem tl_wsX8_turn : GoodIn lw_tbl wsX8_turn := (gi_c tw_713 (goodIn_app (goodIn_app tl_wsX8_turn_r1 tl_wsX8_turn_r2) tu_X8))
theorem tw_716 : GW (.methodLink RL 70 yX8_turn) := ⟨in_4 (List.mem_of_getElem? (i := 176) (by decide +kernel)), rfl⟩
theorem tw_717 : GW (.instanceMethod yX8_turn) := ⟨in_4 (List.mem_of_getElem? (i := 177) (by decide +kernel)), rfl⟩
theorem tw_718 : GW (.selects RX8 yX8_turn yX8_turn) := ⟨in_4 (List.mem_of_getElem? (i := 178) (by decide +kernel)), rfl⟩
theorem tv_X8_turn : GoodIn lw_tbl (wsV RL 70 RX8 yX8_turn wsX8_turn) := gi_v tw_197 tw_716 tw_717 tw_718 tl_wsX8_turn
theorem tw_720 : GW (.code yX7_turnError cX7_turnError 4 (some .long)) := ⟨in_3 (List.mem_of_getElem? (i := 54) rfl), rfl⟩
theorem tw_722 : GW (.methodLink RX7 189 yX0_shapeWithTurn) := ⟨in_3 (List.mem_of_getElem? (i := 55) (by decide +kernel)), rfl⟩
theorem tl_wsX7_turnError_r1 : GoodIn lw_tbl wsX7_turnError_r1 := (gi_c tw_21 (gi_c tw_478 (gi_c tw_25 (gi_c tw_685 (gi_c tw_120 (gi_c tw_121 (gi_c tw_122 (gi_c tw_123 (gi_c tw_441 (gi_c tw_442 (gi_c tw_443 (gi_c tw_20 (gi_c tw_444 (gi_c tw_160 (gi_c tw_479 (gi_c tw_480 (gi_c tw_481 (gi_c tw_722 (gi_c tw_561 (gi_c tw_562 (gi_c tw_24 (gi_c tw_563 (gi_c tw_554 (gi_c tw_564 gi_n))))))))))))))))))))))))
theorem tl_wsX7_turnError_r2 : GoodIn lw_tbl wsX7_turnError_r2 := (gi_c tw_566 (gi_c tw_70 (gi_c tw_567 (gi_c tw_568 (gi_c tw_569 (gi_c tw_570 (gi_c tw_555 (gi_c tw_427 (gi_c tw_428 (gi_c tw_429 (gi_c tw_571 (gi_c tw_502 (gi_c tw_503 (gi_c tw_504 (gi_c tw_505 (gi_c tw_456 (gi_c tw_457 (gi_c tw_458 (gi_c tw_64 (gi_c tw_507 (gi_c tw_451 (gi_c tw_452 (gi_c tw_453 (gi_c tw_63 gi_n))))))))))))))))))))))))
theorem tl_wsX7_turnError_r3 : GoodIn lw_tbl wsX7_turnError_r3 := (gi_c tw_572 (gi_c tw_573 (gi_c tw_574 (gi_c tw_575 (gi_c tw_69 (gi_c tw_576 (gi_c tw_577 (gi_c tw_578 (gi_c tw_579 (gi_c tw_689 (gi_c tw_581 (gi_c tw_582 (gi_c tw_583 (gi_c tw_584 (gi_c tw_585 (gi_c tw_586 (gi_c tw_587 (gi_c tw_588 (gi_c tw_161 (gi_c tw_590 (gi_c tw_591 (gi_c tw_592 (gi_c tw_593 (gi_c tw_594 gi_n))))))))))))))))))))))))
theorem tl_wsX7_turnError_r4 : GoodIn lw_tbl wsX7_turnError_r4 := (gi_c tw_595 (gi_c tw_596 (gi_c tw_597 (gi_c tw_598 (gi_c tw_599 (gi_c tw_600 (gi_c tw_601 (gi_c tw_540 (gi_c tw_541 (gi_c tw_542 (gi_c tw_544 (gi_c tw_545 (gi_c tw_295 (gi_c tw_546 (gi_c tw_547 (gi_c tw_548 (gi_c tw_549 gi_n)))))))))))))))))
theorem tl_wsX7_turnError : GoodIn lw_tbl wsX7_turnError := (gi_c tw_720 (goodIn_app (goodIn_app (goodIn_app (goodIn_app tl_wsX7_turnError_r1 (goodIn_app tl_wsX7_turnError_r2 (goodIn_app tl_wsX7_turnError_r3 tl_wsX7_turnError_r4))) tu_X7) tu_X1) tu_X0))
theorem tw_726 : GW (.methodLink RL 71 yX7_turnError) := ⟨in_3 (List.mem_of_getElem? (i := 51) (by decide +kernel)), rfl⟩
theorem tw_727 : GW (.instanceMethod yX7_turnError) := ⟨in_3 (List.mem_of_getElem? (i := 52) (by decide +kernel)), rfl⟩
theorem tw_728 : GW (.selects RX7 yX7_turnError yX7_turnError) := ⟨in_3 (List.mem_of_getElem? (i := 53) (by decide +kernel)), rfl⟩
theorem tv_X7_turnError : GoodIn lw_tbl (wsV RL 71 RX7 yX7_turnError wsX7_turnError) := gi_v tw_122 tw_726 tw_727 tw_728 tl_wsX7_turnError
theorem tw_730 : GW (.code yX8_turnError cX8_turnError 4 (some .long)) := ⟨in_4 (List.mem_of_getElem? (i := 183) rfl), rfl⟩
theorem tl_wsX8_turnError_r1 : GoodIn lw_tbl wsX8_turnError_r1 := (gi_c tw_614 (gi_c tw_669 (gi_c tw_195 (gi_c tw_196 (gi_c tw_197 (gi_c tw_198 (gi_c tw_468 (gi_c tw_469 (gi_c tw_470 (gi_c tw_471 (gi_c tw_420 (gi_c tw_416 (gi_c tw_417 (gi_c tw_418 (gi_c tw_419 (gi_c tw_100 (gi_c tw_105 (gi_c tw_106 (gi_c tw_107 (gi_c tw_660 (gi_c tw_661 (gi_c tw_662 (gi_c tw_663 (gi_c tw_644 gi_n))))))))))))))))))))))))
theorem tl_wsX8_turnError_r2 : GoodIn lw_tbl wsX8_turnError_r2 := (gi_c tw_108 (gi_c tw_110 (gi_c tw_109 (gi_c tw_653 (gi_c tw_654 (gi_c tw_655 (gi_c tw_645 (gi_c tw_646 (gi_c tw_647 (gi_c tw_648 (gi_c tw_649 (gi_c tw_650 (gi_c tw_651 (gi_c tw_652 (gi_c tw_656 (gi_c tw_657 (gi_c tw_658 (gi_c tw_659 (gi_c tw_664 (gi_c tw_665 (gi_c tw_666 (gi_c tw_668 (gi_c tw_630 (gi_c tw_631 gi_n))))))))))))))))))))))))
theorem tl_wsX8_turnError_r3 : GoodIn lw_tbl wsX8_turnError_r3 := (gi_c tw_632 (gi_c tw_633 (gi_c tw_634 (gi_c tw_635 (gi_c tw_636 (gi_c tw_637 (gi_c tw_638 (gi_c tw_674 (gi_c tw_675 (gi_c tw_676 (gi_c tw_677 gi_n)))))))))))
theorem tl_wsX8_turnError : GoodIn lw_tbl wsX8_turnError := (gi_c tw_730 (goodIn_app (goodIn_app tl_wsX8_turnError_r1 (goodIn_app tl_wsX8_turnError_r2 tl_wsX8_turnError_r3)) tu_X8))
theorem tw_734 : GW (.methodLink RL 74 yX8_turnError) := ⟨in_4 (List.mem_of_getElem? (i := 180) (by decide +kernel)), rfl⟩
theorem tw_735 : GW (.instanceMethod yX8_turnError) := ⟨in_4 (List.mem_of_getElem? (i := 181) (by decide +kernel)), rfl⟩
theorem tw_736 : GW (.selects RX8 yX8_turnError yX8_turnError) := ⟨in_4 (List.mem_of_getElem? (i := 182) (by decide +kernel)), rfl⟩
theorem tv_X8_turnError : GoodIn lw_tbl (wsV RL 74 RX8 yX8_turnError wsX8_turnError) := gi_v tw_197 tw_734 tw_735 tw_736 tl_wsX8_turnError
theorem tw_738 : GW (.code yX7_blocks cX7_blocks 2 (some .int)) := ⟨in_3 (List.mem_of_getElem? (i := 59) rfl), rfl⟩
theorem tl_wsX7_blocks_r1 : GoodIn lw_tbl wsX7_blocks_r1 := (gi_c tw_118 (gi_c tw_25 (gi_c tw_120 (gi_c tw_121 (gi_c tw_122 (gi_c tw_123 (gi_c tw_550 (gi_c tw_551 (gi_c tw_552 (gi_c tw_24 (gi_c tw_553 (gi_c tw_70 (gi_c tw_554 (gi_c tw_555 (gi_c tw_427 (gi_c tw_428 (gi_c tw_20 (gi_c tw_429 (gi_c tw_160 (gi_c tw_556 (gi_c tw_557 (gi_c tw_558 (gi_c tw_559 (gi_c tw_560 gi_n))))))))))))))))))))))))
theorem tl_wsX7_blocks_r2 : GoodIn lw_tbl wsX7_blocks_r2 := (gi_c tw_561 (gi_c tw_562 (gi_c tw_563 (gi_c tw_564 (gi_c tw_566 (gi_c tw_567 (gi_c tw_568 (gi_c tw_569 (gi_c tw_570 (gi_c tw_571 (gi_c tw_502 (gi_c tw_503 (gi_c tw_504 (gi_c tw_505 (gi_c tw_456 (gi_c tw_457 (gi_c tw_458 (gi_c tw_64 (gi_c tw_507 (gi_c tw_451 (gi_c tw_452 (gi_c tw_453 (gi_c tw_63 (gi_c tw_572 gi_n))))))))))))))))))))))))
theorem tl_wsX7_blocks_r3 : GoodIn lw_tbl wsX7_blocks_r3 := (gi_c tw_573 (gi_c tw_574 (gi_c tw_575 (gi_c tw_69 (gi_c tw_576 (gi_c tw_577 (gi_c tw_578 (gi_c tw_579 (gi_c tw_580 (gi_c tw_581 (gi_c tw_582 (gi_c tw_583 (gi_c tw_584 (gi_c tw_585 (gi_c tw_586 (gi_c tw_587 (gi_c tw_588 (gi_c tw_161 (gi_c tw_590 (gi_c tw_591 (gi_c tw_592 (gi_c tw_593 (gi_c tw_594 (gi_c tw_595 gi_n))))))))))))))))))))))))
theorem tw_743 : GW (.methodLink RX7 193 yX0_size) := ⟨in_3 (List.mem_of_getElem? (i := 60) (by decide +kernel)), rfl⟩
theorem tw_744 : GW (.instanceMethod yX0_size) := ⟨in_3 (List.mem_of_getElem? (i := 61) (by decide +kernel)), rfl⟩
theorem tw_745 : GW (.selects RX0 yX0_size yX0_size) := ⟨in_3 (List.mem_of_getElem? (i := 62) (by decide +kernel)), rfl⟩
theorem tw_746 : GW (.code yX0_size cX0_size 1 (some .int)) := ⟨in_3 (List.mem_of_getElem? (i := 63) rfl), rfl⟩
theorem tl_wsX7_blocks_r4 : GoodIn lw_tbl wsX7_blocks_r4 := (gi_c tw_596 (gi_c tw_597 (gi_c tw_598 (gi_c tw_599 (gi_c tw_600 (gi_c tw_601 (gi_c tw_743 (gi_c tw_744 (gi_c tw_745 (gi_c tw_746 gi_n))))))))))
theorem tl_wsX7_blocks : GoodIn lw_tbl wsX7_blocks := (gi_c tw_738 (goodIn_app (goodIn_app (goodIn_app (goodIn_app tl_wsX7_blocks_r1 (goodIn_app tl_wsX7_blocks_r2 (goodIn_app tl_wsX7_blocks_r3 tl_wsX7_blocks_r4))) tu_X7) tu_X0) tu_X1))
theorem tw_747 : GW (.methodLink RL 75 yX7_blocks) := ⟨in_3 (List.mem_of_getElem? (i := 56) (by decide +kernel)), rfl⟩
theorem tw_748 : GW (.instanceMethod yX7_blocks) := ⟨in_3 (List.mem_of_getElem? (i := 57) (by decide +kernel)), rfl⟩
theorem tw_749 : GW (.selects RX7 yX7_blocks yX7_blocks) := ⟨in_3 (List.mem_of_getElem? (i := 58) (by decide +kernel)), rfl⟩
theorem tv_X7_blocks : GoodIn lw_tbl (wsV RL 75 RX7 yX7_blocks wsX7_blocks) := gi_v tw_122 tw_747 tw_748 tw_749 tl_wsX7_blocks
theorem tw_751 : GW (.code yX8_blocks cX8_blocks 2 (some .int)) := ⟨in_4 (List.mem_of_getElem? (i := 187) rfl), rfl⟩
theorem tl_wsX8_blocks_r1 : GoodIn lw_tbl wsX8_blocks_r1 := (gi_c tw_193 (gi_c tw_644 (gi_c tw_420 (gi_c tw_195 (gi_c tw_196 (gi_c tw_197 (gi_c tw_198 (gi_c tw_416 (gi_c tw_417 (gi_c tw_418 (gi_c tw_419 (gi_c tw_100 (gi_c tw_105 (gi_c tw_106 (gi_c tw_107 (gi_c tw_639 (gi_c tw_640 (gi_c tw_641 (gi_c tw_642 (gi_c tw_645 (gi_c tw_646 (gi_c tw_647 (gi_c tw_648 (gi_c tw_649 gi_n))))))))))))))))))))))))
theorem tl_wsX8_blocks_r2 : GoodIn lw_tbl wsX8_blocks_r2 := (gi_c tw_650 (gi_c tw_651 (gi_c tw_652 (gi_c tw_110 (gi_c tw_109 (gi_c tw_108 (gi_c tw_653 (gi_c tw_654 (gi_c tw_655 (gi_c tw_656 (gi_c tw_657 (gi_c tw_658 (gi_c tw_659 (gi_c tw_660 (gi_c tw_661 (gi_c tw_662 (gi_c tw_663 (gi_c tw_664 (gi_c tw_665 (gi_c tw_666 (gi_c tw_668 (gi_c tw_669 gi_n))))))))))))))))))))))
theorem tl_wsX8_blocks : GoodIn lw_tbl wsX8_blocks := (gi_c tw_751 (goodIn_app (goodIn_app tl_wsX8_blocks_r1 tl_wsX8_blocks_r2) tu_X8))
theorem tw_754 : GW (.methodLink RL 78 yX8_blocks) := ⟨in_4 (List.mem_of_getElem? (i := 184) (by decide +kernel)), rfl⟩
theorem tw_755 : GW (.instanceMethod yX8_blocks) := ⟨in_4 (List.mem_of_getElem? (i := 185) (by decide +kernel)), rfl⟩
theorem tw_756 : GW (.selects RX8 yX8_blocks yX8_blocks) := ⟨in_4 (List.mem_of_getElem? (i := 186) (by decide +kernel)), rfl⟩
theorem tv_X8_blocks : GoodIn lw_tbl (wsV RL 78 RX8 yX8_blocks wsX8_blocks) := gi_v tw_197 tw_754 tw_755 tw_756 tl_wsX8_blocks
theorem tw_758 : GW (.code yX7_blockInfo cX7_blockInfo 6 (some .int)) := ⟨in_3 (List.mem_of_getElem? (i := 67) rfl), rfl⟩
theorem tw_760 : GW (.constant RX7 194 (-1000004)) := ⟨in_3 (List.mem_of_getElem? (i := 68) (by decide +kernel)), rfl⟩
theorem tl_wsX7_blockInfo_r1 : GoodIn lw_tbl wsX7_blockInfo_r1 := (gi_c tw_118 (gi_c tw_25 (gi_c tw_760 (gi_c tw_21 (gi_c tw_120 (gi_c tw_121 (gi_c tw_122 (gi_c tw_123 (gi_c tw_550 (gi_c tw_551 (gi_c tw_552 (gi_c tw_24 (gi_c tw_553 (gi_c tw_70 (gi_c tw_554 (gi_c tw_555 (gi_c tw_427 (gi_c tw_428 (gi_c tw_20 (gi_c tw_429 (gi_c tw_160 (gi_c tw_556 (gi_c tw_557 (gi_c tw_558 gi_n))))))))))))))))))))))))
theorem tl_wsX7_blockInfo_r2 : GoodIn lw_tbl wsX7_blockInfo_r2 := (gi_c tw_559 (gi_c tw_560 (gi_c tw_561 (gi_c tw_562 (gi_c tw_563 (gi_c tw_564 (gi_c tw_566 (gi_c tw_567 (gi_c tw_568 (gi_c tw_569 (gi_c tw_570 (gi_c tw_571 (gi_c tw_502 (gi_c tw_503 (gi_c tw_504 (gi_c tw_505 (gi_c tw_456 (gi_c tw_457 (gi_c tw_458 (gi_c tw_64 (gi_c tw_507 (gi_c tw_451 (gi_c tw_452 (gi_c tw_453 gi_n))))))))))))))))))))))))
theorem tl_wsX7_blockInfo_r3 : GoodIn lw_tbl wsX7_blockInfo_r3 := (gi_c tw_63 (gi_c tw_572 (gi_c tw_573 (gi_c tw_574 (gi_c tw_575 (gi_c tw_69 (gi_c tw_576 (gi_c tw_577 (gi_c tw_578 (gi_c tw_579 (gi_c tw_580 (gi_c tw_581 (gi_c tw_582 (gi_c tw_583 (gi_c tw_584 (gi_c tw_585 (gi_c tw_586 (gi_c tw_587 (gi_c tw_588 (gi_c tw_161 (gi_c tw_590 (gi_c tw_591 (gi_c tw_592 (gi_c tw_593 gi_n))))))))))))))))))))))))
theorem tl_wsX7_blockInfo_r4 : GoodIn lw_tbl wsX7_blockInfo_r4 := (gi_c tw_594 (gi_c tw_595 (gi_c tw_596 (gi_c tw_597 (gi_c tw_598 (gi_c tw_599 (gi_c tw_600 (gi_c tw_601 (gi_c tw_743 (gi_c tw_744 (gi_c tw_745 (gi_c tw_746 (gi_c tw_606 (gi_c tw_607 (gi_c tw_450 (gi_c tw_454 gi_n))))))))))))))))
theorem tl_wsX7_blockInfo : GoodIn lw_tbl wsX7_blockInfo := (gi_c tw_758 (goodIn_app (goodIn_app (goodIn_app (goodIn_app tl_wsX7_blockInfo_r1 (goodIn_app tl_wsX7_blockInfo_r2 (goodIn_app tl_wsX7_blockInfo_r3 tl_wsX7_blockInfo_r4))) tu_X7) tu_X0) tu_X1))
theorem tw_764 : GW (.methodLink RL 79 yX7_blockInfo) := ⟨in_3 (List.mem_of_getElem? (i := 64) (by decide +kernel)), rfl⟩
theorem tw_765 : GW (.instanceMethod yX7_blockInfo) := ⟨in_3 (List.mem_of_getElem? (i := 65) (by decide +kernel)), rfl⟩
theorem tw_766 : GW (.selects RX7 yX7_blockInfo yX7_blockInfo) := ⟨in_3 (List.mem_of_getElem? (i := 66) (by decide +kernel)), rfl⟩
theorem tv_X7_blockInfo : GoodIn lw_tbl (wsV RL 79 RX7 yX7_blockInfo wsX7_blockInfo) := gi_v tw_122 tw_764 tw_765 tw_766 tl_wsX7_blockInfo
theorem tw_768 : GW (.code yX8_blockInfo cX8_blockInfo 4 (some .int)) := ⟨in_4 (List.mem_of_getElem? (i := 191) rfl), rfl⟩
theorem tw_770 : GW (.methodLink RX8 157 yX8_blocks) := ⟨in_4 (List.mem_of_getElem? (i := 192) (by decide +kernel)), rfl⟩
theorem tl_wsX8_blockInfo_r1 : GoodIn lw_tbl wsX8_blockInfo_r1 := (gi_c tw_193 (gi_c tw_329 (gi_c tw_108 (gi_c tw_109 (gi_c tw_110 (gi_c tw_195 (gi_c tw_196 (gi_c tw_197 (gi_c tw_198 (gi_c tw_770 (gi_c tw_755 (gi_c tw_756 (gi_c tw_751 (gi_c tw_644 (gi_c tw_420 (gi_c tw_416 (gi_c tw_417 (gi_c tw_418 (gi_c tw_419 (gi_c tw_100 (gi_c tw_105 (gi_c tw_106 (gi_c tw_107 (gi_c tw_639 gi_n))))))))))))))))))))))))
theorem tl_wsX8_blockInfo_r2 : GoodIn lw_tbl wsX8_blockInfo_r2 := (gi_c tw_640 (gi_c tw_641 (gi_c tw_642 (gi_c tw_645 (gi_c tw_646 (gi_c tw_647 (gi_c tw_648 (gi_c tw_649 (gi_c tw_650 (gi_c tw_651 (gi_c tw_652 (gi_c tw_653 (gi_c tw_654 (gi_c tw_655 (gi_c tw_656 (gi_c tw_657 (gi_c tw_658 (gi_c tw_659 (gi_c tw_660 (gi_c tw_661 (gi_c tw_662 (gi_c tw_663 (gi_c tw_664 (gi_c tw_665 gi_n))))))))))))))))))))))))
theorem tl_wsX8_blockInfo_r3 : GoodIn lw_tbl wsX8_blockInfo_r3 := (gi_c tw_666 (gi_c tw_668 (gi_c tw_669 gi_n)))
theorem tl_wsX8_blockInfo : GoodIn lw_tbl wsX8_blockInfo := (gi_c tw_768 (goodIn_app (goodIn_app tl_wsX8_blockInfo_r1 (goodIn_app tl_wsX8_blockInfo_r2 tl_wsX8_blockInfo_r3)) tu_X8))
theorem tw_773 : GW (.methodLink RL 82 yX8_blockInfo) := ⟨in_4 (List.mem_of_getElem? (i := 188) (by decide +kernel)), rfl⟩
theorem tw_774 : GW (.instanceMethod yX8_blockInfo) := ⟨in_4 (List.mem_of_getElem? (i := 189) (by decide +kernel)), rfl⟩
theorem tw_775 : GW (.selects RX8 yX8_blockInfo yX8_blockInfo) := ⟨in_4 (List.mem_of_getElem? (i := 190) (by decide +kernel)), rfl⟩
theorem tv_X8_blockInfo : GoodIn lw_tbl (wsV RL 82 RX8 yX8_blockInfo wsX8_blockInfo) := gi_v tw_197 tw_773 tw_774 tw_775 tl_wsX8_blockInfo
theorem tw_777 : GW (.code yX7_kinks cX7_kinks 3 (some .int)) := ⟨in_3 (List.mem_of_getElem? (i := 72) rfl), rfl⟩
theorem tl_wsX7_kinks_r1 : GoodIn lw_tbl wsX7_kinks_r1 := (gi_c tw_118 (gi_c tw_120 (gi_c tw_121 (gi_c tw_122 (gi_c tw_123 (gi_c tw_482 (gi_c tw_483 (gi_c tw_484 (gi_c tw_485 (gi_c tw_30 (gi_c tw_31 (gi_c tw_486 (gi_c tw_487 (gi_c tw_489 (gi_c tw_29 (gi_c tw_490 (gi_c tw_491 (gi_c tw_76 (gi_c tw_75 (gi_c tw_492 (gi_c tw_427 (gi_c tw_428 (gi_c tw_20 (gi_c tw_429 gi_n))))))))))))))))))))))))
theorem tl_wsX7_kinks_r2 : GoodIn lw_tbl wsX7_kinks_r2 := (gi_c tw_160 (gi_c tw_493 (gi_c tw_494 (gi_c tw_495 (gi_c tw_496 (gi_c tw_78 (gi_c tw_497 (gi_c tw_498 (gi_c tw_499 (gi_c tw_500 (gi_c tw_501 (gi_c tw_502 (gi_c tw_503 (gi_c tw_504 (gi_c tw_505 (gi_c tw_456 (gi_c tw_457 (gi_c tw_458 (gi_c tw_64 (gi_c tw_507 (gi_c tw_451 (gi_c tw_452 (gi_c tw_453 (gi_c tw_63 gi_n))))))))))))))))))))))))
theorem tw_781 : GW (.methodLink RX7 195 yX3_innerCorners) := ⟨in_3 (List.mem_of_getElem? (i := 73) (by decide +kernel)), rfl⟩
theorem tw_782 : GW (.instanceMethod yX3_innerCorners) := ⟨in_3 (List.mem_of_getElem? (i := 74) (by decide +kernel)), rfl⟩
theorem tw_783 : GW (.selects RX3 yX3_innerCorners yX3_innerCorners) := ⟨in_3 (List.mem_of_getElem? (i := 75) (by decide +kernel)), rfl⟩
theorem tw_784 : GW (.code yX3_innerCorners cX3_innerCorners 1 (some .int)) := ⟨in_3 (List.mem_of_getElem? (i := 76) rfl), rfl⟩
theorem tw_785 : GW (.methodLink RX3 36 Lib.Math.max.name) := ⟨in_3 (List.mem_of_getElem? (i := 77) (by decide +kernel)), rfl⟩
theorem tl_wsX7_kinks_r3 : GoodIn lw_tbl wsX7_kinks_r3 := (gi_c tw_508 (gi_c tw_509 (gi_c tw_510 (gi_c tw_511 (gi_c tw_512 (gi_c tw_513 (gi_c tw_514 (gi_c tw_515 (gi_c tw_516 (gi_c tw_517 (gi_c tw_446 (gi_c tw_447 (gi_c tw_448 (gi_c tw_61 (gi_c tw_449 (gi_c tw_442 (gi_c tw_443 (gi_c tw_444 (gi_c tw_781 (gi_c tw_782 (gi_c tw_783 (gi_c tw_784 (gi_c tw_785 (gi_c tw_294 gi_n))))))))))))))))))))))))
theorem tl_wsX7_kinks_r4 : GoodIn lw_tbl wsX7_kinks_r4 := (gi_c tw_295 (gi_c tw_296 gi_n))
theorem tl_wsX7_kinks : GoodIn lw_tbl wsX7_kinks := (gi_c tw_777 (goodIn_app (goodIn_app (goodIn_app (goodIn_app tl_wsX7_kinks_r1 (goodIn_app tl_wsX7_kinks_r2 (goodIn_app tl_wsX7_kinks_r3 tl_wsX7_kinks_r4))) tu_X7) tu_X3) tu_X1))
theorem tw_787 : GW (.methodLink RL 83 yX7_kinks) := ⟨in_3 (List.mem_of_getElem? (i := 69) (by decide +kernel)), rfl⟩
theorem tw_788 : GW (.instanceMethod yX7_kinks) := ⟨in_3 (List.mem_of_getElem? (i := 70) (by decide +kernel)), rfl⟩
theorem tw_789 : GW (.selects RX7 yX7_kinks yX7_kinks) := ⟨in_3 (List.mem_of_getElem? (i := 71) (by decide +kernel)), rfl⟩
theorem tv_X7_kinks : GoodIn lw_tbl (wsV RL 83 RX7 yX7_kinks wsX7_kinks) := gi_v tw_122 tw_787 tw_788 tw_789 tl_wsX7_kinks
theorem tw_791 : GW (.code yX8_kinks cX8_kinks 2 (some .int)) := ⟨in_4 (List.mem_of_getElem? (i := 197) rfl), rfl⟩
theorem tl_wsX8_kinks_r1 : GoodIn lw_tbl wsX8_kinks_r1 := (gi_c tw_193 (gi_c tw_620 (gi_c tw_195 (gi_c tw_196 (gi_c tw_197 (gi_c tw_198 (gi_c tw_416 (gi_c tw_417 (gi_c tw_418 (gi_c tw_419 (gi_c tw_420 (gi_c tw_100 (gi_c tw_105 (gi_c tw_106 (gi_c tw_107 (gi_c tw_615 (gi_c tw_616 (gi_c tw_617 (gi_c tw_618 (gi_c tw_111 (gi_c tw_621 (gi_c tw_622 (gi_c tw_623 (gi_c tw_624 gi_n))))))))))))))))))))))))
theorem tl_wsX8_kinks_r2 : GoodIn lw_tbl wsX8_kinks_r2 := (gi_c tw_625 gi_n)
theorem tl_wsX8_kinks : GoodIn lw_tbl wsX8_kinks := (gi_c tw_791 (goodIn_app (goodIn_app tl_wsX8_kinks_r1 tl_wsX8_kinks_r2) tu_X8))
theorem tw_794 : GW (.methodLink RL 86 yX8_kinks) := ⟨in_4 (List.mem_of_getElem? (i := 194) (by decide +kernel)), rfl⟩
theorem tw_795 : GW (.instanceMethod yX8_kinks) := ⟨in_4 (List.mem_of_getElem? (i := 195) (by decide +kernel)), rfl⟩
theorem tw_796 : GW (.selects RX8 yX8_kinks yX8_kinks) := ⟨in_4 (List.mem_of_getElem? (i := 196) (by decide +kernel)), rfl⟩
theorem tv_X8_kinks : GoodIn lw_tbl (wsV RL 86 RX8 yX8_kinks wsX8_kinks) := gi_v tw_197 tw_794 tw_795 tw_796 tl_wsX8_kinks
theorem tw_798 : GW (.code yX7_kinkAt cX7_kinkAt 4 (some .int)) := ⟨in_3 (List.mem_of_getElem? (i := 81) rfl), rfl⟩
theorem tl_wsX7_kinkAt_r1 : GoodIn lw_tbl wsX7_kinkAt_r1 := (gi_c tw_118 (gi_c tw_760 (gi_c tw_120 (gi_c tw_121 (gi_c tw_122 (gi_c tw_123 (gi_c tw_482 (gi_c tw_483 (gi_c tw_484 (gi_c tw_485 (gi_c tw_30 (gi_c tw_31 (gi_c tw_486 (gi_c tw_487 (gi_c tw_489 (gi_c tw_29 (gi_c tw_490 (gi_c tw_491 (gi_c tw_76 (gi_c tw_75 (gi_c tw_492 (gi_c tw_427 (gi_c tw_428 (gi_c tw_20 gi_n))))))))))))))))))))))))
theorem tl_wsX7_kinkAt_r2 : GoodIn lw_tbl wsX7_kinkAt_r2 := (gi_c tw_429 (gi_c tw_160 (gi_c tw_493 (gi_c tw_494 (gi_c tw_495 (gi_c tw_496 (gi_c tw_78 (gi_c tw_497 (gi_c tw_498 (gi_c tw_499 (gi_c tw_500 (gi_c tw_501 (gi_c tw_502 (gi_c tw_503 (gi_c tw_504 (gi_c tw_505 (gi_c tw_456 (gi_c tw_457 (gi_c tw_458 (gi_c tw_64 (gi_c tw_507 (gi_c tw_451 (gi_c tw_452 (gi_c tw_453 gi_n))))))))))))))))))))))))
theorem tl_wsX7_kinkAt_r3 : GoodIn lw_tbl wsX7_kinkAt_r3 := (gi_c tw_63 (gi_c tw_508 (gi_c tw_509 (gi_c tw_510 (gi_c tw_511 (gi_c tw_512 (gi_c tw_513 (gi_c tw_514 (gi_c tw_515 (gi_c tw_516 (gi_c tw_517 (gi_c tw_446 (gi_c tw_447 (gi_c tw_448 (gi_c tw_61 (gi_c tw_449 (gi_c tw_442 (gi_c tw_443 (gi_c tw_444 (gi_c tw_781 (gi_c tw_782 (gi_c tw_783 (gi_c tw_784 (gi_c tw_785 gi_n))))))))))))))))))))))))
theorem tw_803 : GW (.methodLink RX7 198 yX3_innerCorner) := ⟨in_3 (List.mem_of_getElem? (i := 82) (by decide +kernel)), rfl⟩
theorem tw_804 : GW (.instanceMethod yX3_innerCorner) := ⟨in_3 (List.mem_of_getElem? (i := 83) (by decide +kernel)), rfl⟩
theorem tw_805 : GW (.selects RX3 yX3_innerCorner yX3_innerCorner) := ⟨in_3 (List.mem_of_getElem? (i := 84) (by decide +kernel)), rfl⟩
theorem tw_806 : GW (.code yX3_innerCorner cX3_innerCorner 2 (some .int)) := ⟨in_3 (List.mem_of_getElem? (i := 85) rfl), rfl⟩
theorem tw_807 : GW (.methodLink RX3 42 yX3_innerCorners) := ⟨in_3 (List.mem_of_getElem? (i := 86) (by decide +kernel)), rfl⟩
theorem tl_wsX7_kinkAt_r4 : GoodIn lw_tbl wsX7_kinkAt_r4 := (gi_c tw_294 (gi_c tw_295 (gi_c tw_296 (gi_c tw_803 (gi_c tw_804 (gi_c tw_805 (gi_c tw_806 (gi_c tw_807 gi_n))))))))
theorem tl_wsX7_kinkAt : GoodIn lw_tbl wsX7_kinkAt := (gi_c tw_798 (goodIn_app (goodIn_app (goodIn_app (goodIn_app tl_wsX7_kinkAt_r1 (goodIn_app tl_wsX7_kinkAt_r2 (goodIn_app tl_wsX7_kinkAt_r3 tl_wsX7_kinkAt_r4))) tu_X7) tu_X3) tu_X1))
theorem tw_808 : GW (.methodLink RL 87 yX7_kinkAt) := ⟨in_3 (List.mem_of_getElem? (i := 78) (by decide +kernel)), rfl⟩
theorem tw_809 : GW (.instanceMethod yX7_kinkAt) := ⟨in_3 (List.mem_of_getElem? (i := 79) (by decide +kernel)), rfl⟩
theorem tw_810 : GW (.selects RX7 yX7_kinkAt yX7_kinkAt) := ⟨in_3 (List.mem_of_getElem? (i := 80) (by decide +kernel)), rfl⟩
theorem tv_X7_kinkAt : GoodIn lw_tbl (wsV RL 87 RX7 yX7_kinkAt wsX7_kinkAt) := gi_v tw_122 tw_808 tw_809 tw_810 tl_wsX7_kinkAt
theorem tw_812 : GW (.code yX8_kinkAt cX8_kinkAt 3 (some .int)) := ⟨in_4 (List.mem_of_getElem? (i := 201) rfl), rfl⟩
theorem tw_814 : GW (.methodLink RX8 160 yX8_kinks) := ⟨in_4 (List.mem_of_getElem? (i := 202) (by decide +kernel)), rfl⟩
theorem tl_wsX8_kinkAt_r1 : GoodIn lw_tbl wsX8_kinkAt_r1 := (gi_c tw_193 (gi_c tw_111 (gi_c tw_329 (gi_c tw_195 (gi_c tw_196 (gi_c tw_197 (gi_c tw_198 (gi_c tw_814 (gi_c tw_795 (gi_c tw_796 (gi_c tw_791 (gi_c tw_620 (gi_c tw_416 (gi_c tw_417 (gi_c tw_418 (gi_c tw_419 (gi_c tw_420 (gi_c tw_100 (gi_c tw_105 (gi_c tw_106 (gi_c tw_107 (gi_c tw_615 (gi_c tw_616 (gi_c tw_617 gi_n))))))))))))))))))))))))
theorem tl_wsX8_kinkAt_r2 : GoodIn lw_tbl wsX8_kinkAt_r2 := (gi_c tw_618 (gi_c tw_621 (gi_c tw_622 (gi_c tw_623 (gi_c tw_624 (gi_c tw_625 gi_n))))))
theorem tl_wsX8_kinkAt : GoodIn lw_tbl wsX8_kinkAt := (gi_c tw_812 (goodIn_app (goodIn_app tl_wsX8_kinkAt_r1 tl_wsX8_kinkAt_r2) tu_X8))
theorem tw_816 : GW (.methodLink RL 90 yX8_kinkAt) := ⟨in_4 (List.mem_of_getElem? (i := 198) (by decide +kernel)), rfl⟩
theorem tw_817 : GW (.instanceMethod yX8_kinkAt) := ⟨in_4 (List.mem_of_getElem? (i := 199) (by decide +kernel)), rfl⟩
theorem tw_818 : GW (.selects RX8 yX8_kinkAt yX8_kinkAt) := ⟨in_4 (List.mem_of_getElem? (i := 200) (by decide +kernel)), rfl⟩
theorem tv_X8_kinkAt : GoodIn lw_tbl (wsV RL 90 RX8 yX8_kinkAt wsX8_kinkAt) := gi_v tw_197 tw_816 tw_817 tw_818 tl_wsX8_kinkAt
theorem tw_820 : GW (.code yX7_gap cX7_gap 3 (some .long)) := ⟨in_3 (List.mem_of_getElem? (i := 90) rfl), rfl⟩
theorem tl_wsX7_gap_r1 : GoodIn lw_tbl wsX7_gap_r1 := (gi_c tw_478 (gi_c tw_21 (gi_c tw_684 (gi_c tw_30 (gi_c tw_31 (gi_c tw_120 (gi_c tw_121 (gi_c tw_122 (gi_c tw_123 (gi_c tw_426 (gi_c tw_427 (gi_c tw_428 (gi_c tw_20 (gi_c tw_429 (gi_c tw_160 (gi_c tw_486 (gi_c tw_487 (gi_c tw_489 (gi_c tw_29 (gi_c tw_490 (gi_c tw_491 (gi_c tw_76 (gi_c tw_75 (gi_c tw_492 gi_n))))))))))))))))))))))))
theorem tl_wsX7_gap_r2 : GoodIn lw_tbl wsX7_gap_r2 := (gi_c tw_493 (gi_c tw_494 (gi_c tw_495 (gi_c tw_496 (gi_c tw_78 (gi_c tw_497 (gi_c tw_498 (gi_c tw_499 (gi_c tw_500 (gi_c tw_501 (gi_c tw_502 (gi_c tw_503 (gi_c tw_504 (gi_c tw_505 (gi_c tw_456 (gi_c tw_457 (gi_c tw_458 (gi_c tw_64 (gi_c tw_507 (gi_c tw_451 (gi_c tw_452 (gi_c tw_453 (gi_c tw_63 (gi_c tw_508 gi_n))))))))))))))))))))))))
theorem tw_824 : GW (.methodLink RX7 201 yX7_widestGap) := ⟨in_3 (List.mem_of_getElem? (i := 91) (by decide +kernel)), rfl⟩
theorem tw_825 : GW (.instanceMethod yX7_widestGap) := ⟨in_3 (List.mem_of_getElem? (i := 93) (by decide +kernel)), rfl⟩
theorem tw_826 : GW (.selects RX7 yX7_widestGap yX7_widestGap) := ⟨in_0 (List.mem_of_getElem? (i := 19) rfl), rfl⟩
theorem tw_827 : GW (.code yX7_widestGap cX7_widestGap 7 (some .int)) := ⟨in_3 (List.mem_of_getElem? (i := 94) rfl), rfl⟩
theorem tw_828 : GW (.methodLink RX7 204 yX7_gapNumerator) := ⟨in_3 (List.mem_of_getElem? (i := 95) (by decide +kernel)), rfl⟩
theorem tw_829 : GW (.instanceMethod yX7_gapNumerator) := ⟨in_3 (List.mem_of_getElem? (i := 97) (by decide +kernel)), rfl⟩
theorem tw_830 : GW (.selects RX7 yX7_gapNumerator yX7_gapNumerator) := ⟨in_0 (List.mem_of_getElem? (i := 20) rfl), rfl⟩
theorem tl_wsX7_gap_r3 : GoodIn lw_tbl wsX7_gap_r3 := (gi_c tw_509 (gi_c tw_510 (gi_c tw_511 (gi_c tw_512 (gi_c tw_513 (gi_c tw_514 (gi_c tw_515 (gi_c tw_516 (gi_c tw_517 (gi_c tw_446 (gi_c tw_447 (gi_c tw_448 (gi_c tw_61 (gi_c tw_449 (gi_c tw_442 (gi_c tw_443 (gi_c tw_444 (gi_c tw_824 (gi_c tw_825 (gi_c tw_826 (gi_c tw_827 (gi_c tw_828 (gi_c tw_829 (gi_c tw_830 gi_n))))))))))))))))))))))))
theorem tw_832 : GW (.code yX7_gapNumerator cX7_gapNumerator 2 (some .long)) := ⟨in_3 (List.mem_of_getElem? (i := 98) rfl), rfl⟩
theorem tw_833 : GW (.methodLink RX7 207 yX7_gapDenominator) := ⟨in_3 (List.mem_of_getElem? (i := 99) (by decide +kernel)), rfl⟩
theorem tw_834 : GW (.instanceMethod yX7_gapDenominator) := ⟨in_3 (List.mem_of_getElem? (i := 101) (by decide +kernel)), rfl⟩
theorem tl_wsX7_gap_r4 : GoodIn lw_tbl wsX7_gap_r4 := (gi_c tw_832 (gi_c tw_519 (gi_c tw_520 (gi_c tw_521 (gi_c tw_522 (gi_c tw_523 (gi_c tw_524 (gi_c tw_525 (gi_c tw_526 (gi_c tw_527 (gi_c tw_528 (gi_c tw_529 (gi_c tw_530 (gi_c tw_531 (gi_c tw_532 (gi_c tw_533 (gi_c tw_534 (gi_c tw_535 (gi_c tw_536 (gi_c tw_537 (gi_c tw_538 (gi_c tw_539 (gi_c tw_833 (gi_c tw_834 gi_n))))))))))))))))))))))))
theorem tw_836 : GW (.selects RX7 yX7_gapDenominator yX7_gapDenominator) := ⟨in_0 (List.mem_of_getElem? (i := 21) rfl), rfl⟩
theorem tw_837 : GW (.code yX7_gapDenominator cX7_gapDenominator 2 (some .long)) := ⟨in_3 (List.mem_of_getElem? (i := 102) rfl), rfl⟩
theorem tl_wsX7_gap_r5 : GoodIn lw_tbl wsX7_gap_r5 := (gi_c tw_836 (gi_c tw_837 (gi_c tw_540 (gi_c tw_541 (gi_c tw_542 (gi_c tw_544 (gi_c tw_545 (gi_c tw_295 (gi_c tw_546 (gi_c tw_547 (gi_c tw_548 (gi_c tw_549 gi_n))))))))))))
theorem tl_wsX7_gap : GoodIn lw_tbl wsX7_gap := (gi_c tw_820 (goodIn_app (goodIn_app (goodIn_app (goodIn_app tl_wsX7_gap_r1 (goodIn_app tl_wsX7_gap_r2 (goodIn_app tl_wsX7_gap_r3 (goodIn_app tl_wsX7_gap_r4 tl_wsX7_gap_r5)))) tu_X7) tu_X1) tu_X3))
theorem tw_838 : GW (.methodLink RL 91 yX7_gap) := ⟨in_3 (List.mem_of_getElem? (i := 87) (by decide +kernel)), rfl⟩
theorem tw_839 : GW (.instanceMethod yX7_gap) := ⟨in_3 (List.mem_of_getElem? (i := 88) (by decide +kernel)), rfl⟩
theorem tw_840 : GW (.selects RX7 yX7_gap yX7_gap) := ⟨in_3 (List.mem_of_getElem? (i := 89) (by decide +kernel)), rfl⟩
theorem tv_X7_gap : GoodIn lw_tbl (wsV RL 91 RX7 yX7_gap wsX7_gap) := gi_v tw_122 tw_838 tw_839 tw_840 tl_wsX7_gap
theorem tw_842 : GW (.code yX8_gap cX8_gap 12 (some .long)) := ⟨in_4 (List.mem_of_getElem? (i := 206) rfl), rfl⟩
theorem tl_wsX8_gap_r1 : GoodIn lw_tbl wsX8_gap_r1 := (gi_c tw_614 (gi_c tw_100 (gi_c tw_696 (gi_c tw_625 (gi_c tw_420 (gi_c tw_634 (gi_c tw_635 (gi_c tw_195 (gi_c tw_196 (gi_c tw_197 (gi_c tw_198 (gi_c tw_416 (gi_c tw_417 (gi_c tw_418 (gi_c tw_419 (gi_c tw_105 (gi_c tw_106 (gi_c tw_107 (gi_c tw_615 (gi_c tw_616 (gi_c tw_617 (gi_c tw_618 (gi_c tw_620 (gi_c tw_111 gi_n))))))))))))))))))))))))
theorem tl_wsX8_gap_r2 : GoodIn lw_tbl wsX8_gap_r2 := (gi_c tw_621 (gi_c tw_622 (gi_c tw_623 (gi_c tw_624 (gi_c tw_626 (gi_c tw_627 (gi_c tw_628 (gi_c tw_629 (gi_c tw_630 (gi_c tw_631 (gi_c tw_632 (gi_c tw_633 (gi_c tw_636 (gi_c tw_637 (gi_c tw_638 gi_n)))))))))))))))
theorem tl_wsX8_gap : GoodIn lw_tbl wsX8_gap := (gi_c tw_842 (goodIn_app (goodIn_app tl_wsX8_gap_r1 tl_wsX8_gap_r2) tu_X8))
theorem tw_845 : GW (.methodLink RL 95 yX8_gap) := ⟨in_4 (List.mem_of_getElem? (i := 203) (by decide +kernel)), rfl⟩
theorem tw_846 : GW (.instanceMethod yX8_gap) := ⟨in_4 (List.mem_of_getElem? (i := 204) (by decide +kernel)), rfl⟩
theorem tw_847 : GW (.selects RX8 yX8_gap yX8_gap) := ⟨in_4 (List.mem_of_getElem? (i := 205) (by decide +kernel)), rfl⟩
theorem tv_X8_gap : GoodIn lw_tbl (wsV RL 95 RX8 yX8_gap wsX8_gap) := gi_v tw_197 tw_845 tw_846 tw_847 tl_wsX8_gap
theorem tw_849 : GW (.code yX7_levelError cX7_levelError 3 (some .long)) := ⟨in_3 (List.mem_of_getElem? (i := 106) rfl), rfl⟩
theorem tw_851 : GW (.constantLong RX7 210 (-1000004)) := ⟨in_3 (List.mem_of_getElem? (i := 107) (by decide +kernel)), rfl⟩
theorem tw_852 : GW (.methodLink RX7 212 yX4_divide) := ⟨in_3 (List.mem_of_getElem? (i := 108) (by decide +kernel)), rfl⟩
theorem tw_853 : GW (.instanceMethod yX4_divide) := ⟨in_3 (List.mem_of_getElem? (i := 109) (by decide +kernel)), rfl⟩
theorem tw_854 : GW (.selects RX4 yX4_divide yX4_divide) := ⟨in_3 (List.mem_of_getElem? (i := 110) (by decide +kernel)), rfl⟩
theorem tw_855 : GW (.code yX4_divide cX4_divide 4 none) := ⟨in_3 (List.mem_of_getElem? (i := 111) rfl), rfl⟩
theorem tl_wsX7_levelError_r1 : GoodIn lw_tbl wsX7_levelError_r1 := (gi_c tw_478 (gi_c tw_21 (gi_c tw_851 (gi_c tw_35 (gi_c tw_685 (gi_c tw_120 (gi_c tw_121 (gi_c tw_122 (gi_c tw_123 (gi_c tw_479 (gi_c tw_480 (gi_c tw_481 (gi_c tw_426 (gi_c tw_427 (gi_c tw_428 (gi_c tw_20 (gi_c tw_429 (gi_c tw_160 (gi_c tw_852 (gi_c tw_853 (gi_c tw_854 (gi_c tw_34 (gi_c tw_855 (gi_c tw_88 gi_n))))))))))))))))))))))))
theorem tw_857 : GW (.methodLink RX4 25 yX1_size) := ⟨in_3 (List.mem_of_getElem? (i := 112) (by decide +kernel)), rfl⟩
theorem tw_858 : GW (.methodLink RX4 31 yX4_chooseFirstLevel) := ⟨in_3 (List.mem_of_getElem? (i := 113) (by decide +kernel)), rfl⟩
theorem tw_859 : GW (.instanceMethod yX4_chooseFirstLevel) := ⟨in_3 (List.mem_of_getElem? (i := 115) (by decide +kernel)), rfl⟩
theorem tw_860 : GW (.selects RX4 yX4_chooseFirstLevel yX4_chooseFirstLevel) := ⟨in_0 (List.mem_of_getElem? (i := 22) rfl), rfl⟩
theorem tw_861 : GW (.code yX4_chooseFirstLevel cX4_chooseFirstLevel 8 none) := ⟨in_3 (List.mem_of_getElem? (i := 116) rfl), rfl⟩
theorem tw_862 : GW (.constantLong RX4 35 (-1)) := ⟨in_3 (List.mem_of_getElem? (i := 117) (by decide +kernel)), rfl⟩
theorem tw_863 : GW (.methodLink RX4 37 yX1_gainOf) := ⟨in_3 (List.mem_of_getElem? (i := 118) (by decide +kernel)), rfl⟩
theorem tw_864 : GW (.methodLink RX7 215 yX4_commonError) := ⟨in_3 (List.mem_of_getElem? (i := 119) (by decide +kernel)), rfl⟩
theorem tl_wsX7_levelError_r2 : GoodIn lw_tbl wsX7_levelError_r2 := (gi_c tw_857 (gi_c tw_858 (gi_c tw_859 (gi_c tw_860 (gi_c tw_861 (gi_c tw_85 (gi_c tw_862 (gi_c tw_87 (gi_c tw_863 (gi_c tw_599 (gi_c tw_600 (gi_c tw_601 (gi_c tw_588 (gi_c tw_507 (gi_c tw_451 (gi_c tw_452 (gi_c tw_453 (gi_c tw_63 (gi_c tw_505 (gi_c tw_456 (gi_c tw_457 (gi_c tw_458 (gi_c tw_64 (gi_c tw_864 gi_n))))))))))))))))))))))))
theorem tw_866 : GW (.instanceMethod yX4_commonError) := ⟨in_3 (List.mem_of_getElem? (i := 120) (by decide +kernel)), rfl⟩
theorem tw_867 : GW (.selects RX4 yX4_commonError yX4_commonError) := ⟨in_3 (List.mem_of_getElem? (i := 121) (by decide +kernel)), rfl⟩
theorem tw_868 : GW (.code yX4_commonError cX4_commonError 2 (some .long)) := ⟨in_3 (List.mem_of_getElem? (i := 122) rfl), rfl⟩
theorem tw_869 : GW (.methodLink RX4 41 yX1_errorOfZero) := ⟨in_3 (List.mem_of_getElem? (i := 123) (by decide +kernel)), rfl⟩
theorem tl_wsX7_levelError_r3 : GoodIn lw_tbl wsX7_levelError_r3 := (gi_c tw_866 (gi_c tw_867 (gi_c tw_868 (gi_c tw_869 (gi_c tw_585 (gi_c tw_586 (gi_c tw_587 (gi_c tw_161 (gi_c tw_540 (gi_c tw_541 (gi_c tw_542 (gi_c tw_544 (gi_c tw_545 (gi_c tw_295 (gi_c tw_546 (gi_c tw_547 (gi_c tw_548 (gi_c tw_549 gi_n))))))))))))))))))
theorem tl_wsX7_levelError : GoodIn lw_tbl wsX7_levelError := (gi_c tw_849 (goodIn_app (goodIn_app (goodIn_app (goodIn_app tl_wsX7_levelError_r1 (goodIn_app tl_wsX7_levelError_r2 tl_wsX7_levelError_r3)) tu_X7) tu_X1) tu_X4))
theorem tw_870 : GW (.methodLink RL 96 yX7_levelError) := ⟨in_3 (List.mem_of_getElem? (i := 103) (by decide +kernel)), rfl⟩
theorem tw_871 : GW (.instanceMethod yX7_levelError) := ⟨in_3 (List.mem_of_getElem? (i := 104) (by decide +kernel)), rfl⟩
theorem tw_872 : GW (.selects RX7 yX7_levelError yX7_levelError) := ⟨in_3 (List.mem_of_getElem? (i := 105) (by decide +kernel)), rfl⟩
theorem tv_X7_levelError : GoodIn lw_tbl (wsV RL 96 RX7 yX7_levelError wsX7_levelError) := gi_v tw_122 tw_870 tw_871 tw_872 tl_wsX7_levelError
theorem tw_874 : GW (.code yX8_levelError cX8_levelError 3 (some .long)) := ⟨in_4 (List.mem_of_getElem? (i := 210) rfl), rfl⟩
theorem tw_876 : GW (.constantLong RX8 170 (-1000004)) := ⟨in_4 (List.mem_of_getElem? (i := 219) (by decide +kernel)), rfl⟩
theorem tw_877 : GW (.methodLink RX8 167 yX8_divides) := ⟨in_4 (List.mem_of_getElem? (i := 211) (by decide +kernel)), rfl⟩
theorem tw_878 : GW (.instanceMethod yX8_divides) := ⟨in_4 (List.mem_of_getElem? (i := 213) (by decide +kernel)), rfl⟩
theorem tw_879 : GW (.selects RX8 yX8_divides yX8_divides) := ⟨in_0 (List.mem_of_getElem? (i := 42) rfl), rfl⟩
theorem tw_880 : GW (.code yX8_divides cX8_divides 8 none) := ⟨in_4 (List.mem_of_getElem? (i := 214) rfl), rfl⟩
theorem tw_881 : GW (.methodLink RX8 163 yX8_part) := ⟨in_4 (List.mem_of_getElem? (i := 215) (by decide +kernel)), rfl⟩
theorem tw_882 : GW (.instanceMethod yX8_part) := ⟨in_4 (List.mem_of_getElem? (i := 217) (by decide +kernel)), rfl⟩
theorem tl_wsX8_levelError_r1 : GoodIn lw_tbl wsX8_levelError_r1 := (gi_c tw_614 (gi_c tw_420 (gi_c tw_876 (gi_c tw_669 (gi_c tw_195 (gi_c tw_196 (gi_c tw_197 (gi_c tw_198 (gi_c tw_877 (gi_c tw_878 (gi_c tw_879 (gi_c tw_880 (gi_c tw_112 (gi_c tw_113 (gi_c tw_416 (gi_c tw_417 (gi_c tw_418 (gi_c tw_419 (gi_c tw_100 (gi_c tw_105 (gi_c tw_106 (gi_c tw_107 (gi_c tw_881 (gi_c tw_882 gi_n))))))))))))))))))))))))
theorem tw_884 : GW (.selects RX8 yX8_part yX8_part) := ⟨in_0 (List.mem_of_getElem? (i := 43) rfl), rfl⟩
theorem tw_885 : GW (.code yX8_part cX8_part 6 (some .long)) := ⟨in_4 (List.mem_of_getElem? (i := 218) rfl), rfl⟩
theorem tw_886 : GW (.methodLink RX8 172 yX8_errorBy) := ⟨in_4 (List.mem_of_getElem? (i := 220) (by decide +kernel)), rfl⟩
theorem tw_887 : GW (.instanceMethod yX8_errorBy) := ⟨in_4 (List.mem_of_getElem? (i := 222) (by decide +kernel)), rfl⟩
theorem tw_888 : GW (.selects RX8 yX8_errorBy yX8_errorBy) := ⟨in_0 (List.mem_of_getElem? (i := 44) rfl), rfl⟩
theorem tw_889 : GW (.code yX8_errorBy cX8_errorBy 2 (some .long)) := ⟨in_4 (List.mem_of_getElem? (i := 223) rfl), rfl⟩
theorem tl_wsX8_levelError_r2 : GoodIn lw_tbl wsX8_levelError_r2 := (gi_c tw_884 (gi_c tw_885 (gi_c tw_886 (gi_c tw_887 (gi_c tw_888 (gi_c tw_889 (gi_c tw_644 (gi_c tw_664 (gi_c tw_665 (gi_c tw_666 (gi_c tw_668 (gi_c tw_109 (gi_c tw_110 (gi_c tw_630 (gi_c tw_631 (gi_c tw_632 (gi_c tw_633 (gi_c tw_634 (gi_c tw_635 (gi_c tw_636 (gi_c tw_637 (gi_c tw_638 (gi_c tw_674 (gi_c tw_675 gi_n))))))))))))))))))))))))
theorem tl_wsX8_levelError_r3 : GoodIn lw_tbl wsX8_levelError_r3 := (gi_c tw_676 (gi_c tw_677 gi_n))
theorem tl_wsX8_levelError : GoodIn lw_tbl wsX8_levelError := (gi_c tw_874 (goodIn_app (goodIn_app tl_wsX8_levelError_r1 (goodIn_app tl_wsX8_levelError_r2 tl_wsX8_levelError_r3)) tu_X8))
theorem tw_891 : GW (.methodLink RL 99 yX8_levelError) := ⟨in_4 (List.mem_of_getElem? (i := 207) (by decide +kernel)), rfl⟩
theorem tw_892 : GW (.instanceMethod yX8_levelError) := ⟨in_4 (List.mem_of_getElem? (i := 208) (by decide +kernel)), rfl⟩
theorem tw_893 : GW (.selects RX8 yX8_levelError yX8_levelError) := ⟨in_4 (List.mem_of_getElem? (i := 209) (by decide +kernel)), rfl⟩
theorem tv_X8_levelError : GoodIn lw_tbl (wsV RL 99 RX8 yX8_levelError wsX8_levelError) := gi_v tw_197 tw_891 tw_892 tw_893 tl_wsX8_levelError
theorem tw_895 : GW (.code yX7_levelBegin cX7_levelBegin 3 (some .int)) := ⟨in_3 (List.mem_of_getElem? (i := 127) rfl), rfl⟩
theorem tl_wsX7_levelBegin_r1 : GoodIn lw_tbl wsX7_levelBegin_r1 := (gi_c tw_118 (gi_c tw_21 (gi_c tw_760 (gi_c tw_35 (gi_c tw_120 (gi_c tw_121 (gi_c tw_122 (gi_c tw_123 (gi_c tw_426 (gi_c tw_427 (gi_c tw_428 (gi_c tw_20 (gi_c tw_429 (gi_c tw_160 (gi_c tw_852 (gi_c tw_853 (gi_c tw_854 (gi_c tw_34 (gi_c tw_855 (gi_c tw_88 (gi_c tw_857 (gi_c tw_858 (gi_c tw_859 (gi_c tw_860 gi_n))))))))))))))))))))))))
theorem tw_898 : GW (.methodLink RX7 217 yX4_beginOf) := ⟨in_3 (List.mem_of_getElem? (i := 128) (by decide +kernel)), rfl⟩
theorem tw_899 : GW (.instanceMethod yX4_beginOf) := ⟨in_3 (List.mem_of_getElem? (i := 129) (by decide +kernel)), rfl⟩
theorem tw_900 : GW (.selects RX4 yX4_beginOf yX4_beginOf) := ⟨in_3 (List.mem_of_getElem? (i := 130) (by decide +kernel)), rfl⟩
theorem tw_901 : GW (.code yX4_beginOf cX4_beginOf 5 (some .int)) := ⟨in_3 (List.mem_of_getElem? (i := 131) rfl), rfl⟩
theorem tw_902 : GW (.methodLink RX4 45 yX1_has) := ⟨in_3 (List.mem_of_getElem? (i := 132) (by decide +kernel)), rfl⟩
theorem tl_wsX7_levelBegin_r2 : GoodIn lw_tbl wsX7_levelBegin_r2 := (gi_c tw_861 (gi_c tw_85 (gi_c tw_862 (gi_c tw_87 (gi_c tw_863 (gi_c tw_599 (gi_c tw_600 (gi_c tw_601 (gi_c tw_588 (gi_c tw_507 (gi_c tw_451 (gi_c tw_452 (gi_c tw_453 (gi_c tw_63 (gi_c tw_505 (gi_c tw_456 (gi_c tw_457 (gi_c tw_458 (gi_c tw_64 (gi_c tw_898 (gi_c tw_899 (gi_c tw_900 (gi_c tw_901 (gi_c tw_902 gi_n))))))))))))))))))))))))
theorem tl_wsX7_levelBegin_r3 : GoodIn lw_tbl wsX7_levelBegin_r3 := (gi_c tw_442 (gi_c tw_443 (gi_c tw_444 gi_n)))
theorem tl_wsX7_levelBegin : GoodIn lw_tbl wsX7_levelBegin := (gi_c tw_895 (goodIn_app (goodIn_app (goodIn_app (goodIn_app tl_wsX7_levelBegin_r1 (goodIn_app tl_wsX7_levelBegin_r2 tl_wsX7_levelBegin_r3)) tu_X7) tu_X1) tu_X4))
theorem tw_904 : GW (.methodLink RL 100 yX7_levelBegin) := ⟨in_3 (List.mem_of_getElem? (i := 124) (by decide +kernel)), rfl⟩
theorem tw_905 : GW (.instanceMethod yX7_levelBegin) := ⟨in_3 (List.mem_of_getElem? (i := 125) (by decide +kernel)), rfl⟩
theorem tw_906 : GW (.selects RX7 yX7_levelBegin yX7_levelBegin) := ⟨in_3 (List.mem_of_getElem? (i := 126) (by decide +kernel)), rfl⟩
theorem tv_X7_levelBegin : GoodIn lw_tbl (wsV RL 100 RX7 yX7_levelBegin wsX7_levelBegin) := gi_v tw_122 tw_904 tw_905 tw_906 tl_wsX7_levelBegin
theorem tw_908 : GW (.code yX8_levelBegin cX8_levelBegin 5 (some .int)) := ⟨in_4 (List.mem_of_getElem? (i := 227) rfl), rfl⟩
theorem tl_wsX8_levelBegin_r1 : GoodIn lw_tbl wsX8_levelBegin_r1 := (gi_c tw_193 (gi_c tw_420 (gi_c tw_329 (gi_c tw_113 (gi_c tw_195 (gi_c tw_196 (gi_c tw_197 (gi_c tw_198 (gi_c tw_877 (gi_c tw_878 (gi_c tw_879 (gi_c tw_880 (gi_c tw_112 (gi_c tw_416 (gi_c tw_417 (gi_c tw_418 (gi_c tw_419 (gi_c tw_100 (gi_c tw_105 (gi_c tw_106 (gi_c tw_107 (gi_c tw_881 (gi_c tw_882 (gi_c tw_884 gi_n))))))))))))))))))))))))
theorem tl_wsX8_levelBegin_r2 : GoodIn lw_tbl wsX8_levelBegin_r2 := (gi_c tw_885 (gi_c tw_669 gi_n))
theorem tl_wsX8_levelBegin : GoodIn lw_tbl wsX8_levelBegin := (gi_c tw_908 (goodIn_app (goodIn_app tl_wsX8_levelBegin_r1 tl_wsX8_levelBegin_r2) tu_X8))
theorem tw_911 : GW (.methodLink RL 103 yX8_levelBegin) := ⟨in_4 (List.mem_of_getElem? (i := 224) (by decide +kernel)), rfl⟩
theorem tw_912 : GW (.instanceMethod yX8_levelBegin) := ⟨in_4 (List.mem_of_getElem? (i := 225) (by decide +kernel)), rfl⟩
theorem tw_913 : GW (.selects RX8 yX8_levelBegin yX8_levelBegin) := ⟨in_4 (List.mem_of_getElem? (i := 226) (by decide +kernel)), rfl⟩
theorem tv_X8_levelBegin : GoodIn lw_tbl (wsV RL 103 RX8 yX8_levelBegin wsX8_levelBegin) := gi_v tw_197 tw_911 tw_912 tw_913 tl_wsX8_levelBegin
theorem tw_915 : GW (.code yX7_levels cX7_levels 3 (some .int)) := ⟨in_3 (List.mem_of_getElem? (i := 136) rfl), rfl⟩
theorem tw_917 : GW (.constant RX7 220 (1000000)) := ⟨in_3 (List.mem_of_getElem? (i := 137) (by decide +kernel)), rfl⟩
theorem tl_wsX7_levels_r1 : GoodIn lw_tbl wsX7_levels_r1 := (gi_c tw_917 (gi_c tw_118 (gi_c tw_21 (gi_c tw_275 (gi_c tw_35 (gi_c tw_120 (gi_c tw_121 (gi_c tw_122 (gi_c tw_123 (gi_c tw_426 (gi_c tw_427 (gi_c tw_428 (gi_c tw_20 (gi_c tw_429 (gi_c tw_160 (gi_c tw_852 (gi_c tw_853 (gi_c tw_854 (gi_c tw_34 (gi_c tw_855 (gi_c tw_88 (gi_c tw_857 (gi_c tw_858 (gi_c tw_859 gi_n))))))))))))))))))))))))
theorem tw_919 : GW (.methodLink RX7 221 yX4_cheapest) := ⟨in_3 (List.mem_of_getElem? (i := 138) (by decide +kernel)), rfl⟩
theorem tw_920 : GW (.instanceMethod yX4_cheapest) := ⟨in_3 (List.mem_of_getElem? (i := 139) (by decide +kernel)), rfl⟩
theorem tw_921 : GW (.selects RX4 yX4_cheapest yX4_cheapest) := ⟨in_3 (List.mem_of_getElem? (i := 140) (by decide +kernel)), rfl⟩
theorem tw_922 : GW (.code yX4_cheapest cX4_cheapest 5 (some .int)) := ⟨in_3 (List.mem_of_getElem? (i := 141) rfl), rfl⟩
theorem tl_wsX7_levels_r2 : GoodIn lw_tbl wsX7_levels_r2 := (gi_c tw_860 (gi_c tw_861 (gi_c tw_85 (gi_c tw_862 (gi_c tw_87 (gi_c tw_863 (gi_c tw_599 (gi_c tw_600 (gi_c tw_601 (gi_c tw_588 (gi_c tw_507 (gi_c tw_451 (gi_c tw_452 (gi_c tw_453 (gi_c tw_63 (gi_c tw_505 (gi_c tw_456 (gi_c tw_457 (gi_c tw_458 (gi_c tw_64 (gi_c tw_919 (gi_c tw_920 (gi_c tw_921 (gi_c tw_922 gi_n))))))))))))))))))))))))
theorem tw_924 : GW (.methodLink RX4 49 yX4_costOf) := ⟨in_3 (List.mem_of_getElem? (i := 142) (by decide +kernel)), rfl⟩
theorem tw_925 : GW (.instanceMethod yX4_costOf) := ⟨in_3 (List.mem_of_getElem? (i := 144) (by decide +kernel)), rfl⟩
theorem tw_926 : GW (.selects RX4 yX4_costOf yX4_costOf) := ⟨in_0 (List.mem_of_getElem? (i := 23) rfl), rfl⟩
theorem tw_927 : GW (.code yX4_costOf cX4_costOf 4 (some .long)) := ⟨in_3 (List.mem_of_getElem? (i := 145) rfl), rfl⟩
theorem tw_928 : GW (.constantLong RX4 57 (5354228880)) := ⟨in_3 (List.mem_of_getElem? (i := 147) (by decide +kernel)), rfl⟩
theorem tw_929 : GW (.methodLink RX4 53 yX4_commonError) := ⟨in_3 (List.mem_of_getElem? (i := 146) (by decide +kernel)), rfl⟩
theorem tl_wsX7_levels_r3 : GoodIn lw_tbl wsX7_levels_r3 := (gi_c tw_924 (gi_c tw_925 (gi_c tw_926 (gi_c tw_927 (gi_c tw_928 (gi_c tw_929 (gi_c tw_866 (gi_c tw_867 (gi_c tw_868 (gi_c tw_869 (gi_c tw_585 (gi_c tw_586 (gi_c tw_587 (gi_c tw_161 gi_n))))))))))))))
theorem tl_wsX7_levels : GoodIn lw_tbl wsX7_levels := (gi_c tw_915 (goodIn_app (goodIn_app (goodIn_app (goodIn_app tl_wsX7_levels_r1 (goodIn_app tl_wsX7_levels_r2 tl_wsX7_levels_r3)) tu_X7) tu_X1) tu_X4))
theorem tw_930 : GW (.methodLink RL 104 yX7_levels) := ⟨in_3 (List.mem_of_getElem? (i := 133) (by decide +kernel)), rfl⟩
theorem tw_931 : GW (.instanceMethod yX7_levels) := ⟨in_3 (List.mem_of_getElem? (i := 134) (by decide +kernel)), rfl⟩
theorem tw_932 : GW (.selects RX7 yX7_levels yX7_levels) := ⟨in_3 (List.mem_of_getElem? (i := 135) (by decide +kernel)), rfl⟩
theorem tv_X7_levels : GoodIn lw_tbl (wsV RL 104 RX7 yX7_levels wsX7_levels) := gi_v tw_122 tw_930 tw_931 tw_932 tl_wsX7_levels
theorem tw_934 : GW (.code yX8_levels cX8_levels 9 (some .int)) := ⟨in_4 (List.mem_of_getElem? (i := 231) rfl), rfl⟩
theorem tw_936 : GW (.constant RX8 175 (1000000)) := ⟨in_4 (List.mem_of_getElem? (i := 232) (by decide +kernel)), rfl⟩
theorem tl_wsX8_levels_r1 : GoodIn lw_tbl wsX8_levels_r1 := (gi_c tw_936 (gi_c tw_193 (gi_c tw_100 (gi_c tw_330 (gi_c tw_420 (gi_c tw_669 (gi_c tw_195 (gi_c tw_196 (gi_c tw_197 (gi_c tw_198 (gi_c tw_877 (gi_c tw_878 (gi_c tw_879 (gi_c tw_880 (gi_c tw_112 (gi_c tw_113 (gi_c tw_416 (gi_c tw_417 (gi_c tw_418 (gi_c tw_419 (gi_c tw_105 (gi_c tw_106 (gi_c tw_107 (gi_c tw_881 gi_n))))))))))))))))))))))))
theorem tl_wsX8_levels_r2 : GoodIn lw_tbl wsX8_levels_r2 := (gi_c tw_882 (gi_c tw_884 (gi_c tw_885 (gi_c tw_886 (gi_c tw_887 (gi_c tw_888 (gi_c tw_889 (gi_c tw_644 (gi_c tw_664 (gi_c tw_665 (gi_c tw_666 (gi_c tw_668 (gi_c tw_109 (gi_c tw_110 gi_n))))))))))))))
theorem tl_wsX8_levels : GoodIn lw_tbl wsX8_levels := (gi_c tw_934 (goodIn_app (goodIn_app tl_wsX8_levels_r1 tl_wsX8_levels_r2) tu_X8))
theorem tw_938 : GW (.methodLink RL 107 yX8_levels) := ⟨in_4 (List.mem_of_getElem? (i := 228) (by decide +kernel)), rfl⟩
theorem tw_939 : GW (.instanceMethod yX8_levels) := ⟨in_4 (List.mem_of_getElem? (i := 229) (by decide +kernel)), rfl⟩
theorem tw_940 : GW (.selects RX8 yX8_levels yX8_levels) := ⟨in_4 (List.mem_of_getElem? (i := 230) (by decide +kernel)), rfl⟩
theorem tv_X8_levels : GoodIn lw_tbl (wsV RL 107 RX8 yX8_levels wsX8_levels) := gi_v tw_197 tw_938 tw_939 tw_940 tl_wsX8_levels
theorem tw_942 : GW (.code yX7_penaltyFor cX7_penaltyFor 5 (some .long)) := ⟨in_3 (List.mem_of_getElem? (i := 151) rfl), rfl⟩
theorem tl_wsX7_penaltyFor_r1 : GoodIn lw_tbl wsX7_penaltyFor_r1 := (gi_c tw_478 (gi_c tw_21 (gi_c tw_684 (gi_c tw_35 (gi_c tw_685 (gi_c tw_120 (gi_c tw_121 (gi_c tw_122 (gi_c tw_123 (gi_c tw_479 (gi_c tw_480 (gi_c tw_481 (gi_c tw_426 (gi_c tw_427 (gi_c tw_428 (gi_c tw_20 (gi_c tw_429 (gi_c tw_160 (gi_c tw_540 (gi_c tw_541 (gi_c tw_542 (gi_c tw_544 (gi_c tw_545 (gi_c tw_295 gi_n))))))))))))))))))))))))
theorem tl_wsX7_penaltyFor_r2 : GoodIn lw_tbl wsX7_penaltyFor_r2 := (gi_c tw_546 (gi_c tw_547 (gi_c tw_548 (gi_c tw_549 (gi_c tw_852 (gi_c tw_853 (gi_c tw_854 (gi_c tw_34 (gi_c tw_855 (gi_c tw_88 (gi_c tw_857 (gi_c tw_858 (gi_c tw_859 (gi_c tw_860 (gi_c tw_861 (gi_c tw_85 (gi_c tw_862 (gi_c tw_87 (gi_c tw_863 (gi_c tw_599 (gi_c tw_600 (gi_c tw_601 (gi_c tw_588 (gi_c tw_507 gi_n))))))))))))))))))))))))
theorem tw_946 : GW (.methodLink RX7 224 yX4_firstToPrevail) := ⟨in_3 (List.mem_of_getElem? (i := 152) (by decide +kernel)), rfl⟩
theorem tw_947 : GW (.instanceMethod yX4_firstToPrevail) := ⟨in_3 (List.mem_of_getElem? (i := 153) (by decide +kernel)), rfl⟩
theorem tw_948 : GW (.selects RX4 yX4_firstToPrevail yX4_firstToPrevail) := ⟨in_3 (List.mem_of_getElem? (i := 154) (by decide +kernel)), rfl⟩
theorem tw_949 : GW (.code yX4_firstToPrevail cX4_firstToPrevail 6 (some .int)) := ⟨in_3 (List.mem_of_getElem? (i := 155) rfl), rfl⟩
theorem tw_950 : GW (.methodLink RX4 59 yX4_lastToYield) := ⟨in_3 (List.mem_of_getElem? (i := 156) (by decide +kernel)), rfl⟩
theorem tw_951 : GW (.instanceMethod yX4_lastToYield) := ⟨in_3 (List.mem_of_getElem? (i := 157) (by decide +kernel)), rfl⟩
theorem tw_952 : GW (.selects RX4 yX4_lastToYield yX4_lastToYield) := ⟨in_3 (List.mem_of_getElem? (i := 158) (by decide +kernel)), rfl⟩
theorem tw_953 : GW (.code yX4_lastToYield cX4_lastToYield 5 (some .int)) := ⟨in_3 (List.mem_of_getElem? (i := 159) rfl), rfl⟩
theorem tw_954 : GW (.methodLink RX4 63 yX4_comparePenalties) := ⟨in_3 (List.mem_of_getElem? (i := 160) (by decide +kernel)), rfl⟩
theorem tw_955 : GW (.instanceMethod yX4_comparePenalties) := ⟨in_3 (List.mem_of_getElem? (i := 162) (by decide +kernel)), rfl⟩
theorem tw_956 : GW (.selects RX4 yX4_comparePenalties yX4_comparePenalties) := ⟨in_0 (List.mem_of_getElem? (i := 24) rfl), rfl⟩
theorem tw_957 : GW (.code yX4_comparePenalties cX4_comparePenalties 9 (some .int)) := ⟨in_3 (List.mem_of_getElem? (i := 163) rfl), rfl⟩
theorem tw_958 : GW (.methodLink RX4 67 yX4_errorDrop) := ⟨in_3 (List.mem_of_getElem? (i := 164) (by decide +kernel)), rfl⟩
theorem tw_959 : GW (.instanceMethod yX4_errorDrop) := ⟨in_3 (List.mem_of_getElem? (i := 165) (by decide +kernel)), rfl⟩
theorem tw_960 : GW (.selects RX4 yX4_errorDrop yX4_errorDrop) := ⟨in_3 (List.mem_of_getElem? (i := 166) (by decide +kernel)), rfl⟩
theorem tl_wsX7_penaltyFor_r3 : GoodIn lw_tbl wsX7_penaltyFor_r3 := (gi_c tw_451 (gi_c tw_452 (gi_c tw_453 (gi_c tw_63 (gi_c tw_505 (gi_c tw_456 (gi_c tw_457 (gi_c tw_458 (gi_c tw_64 (gi_c tw_946 (gi_c tw_947 (gi_c tw_948 (gi_c tw_949 (gi_c tw_950 (gi_c tw_951 (gi_c tw_952 (gi_c tw_953 (gi_c tw_954 (gi_c tw_955 (gi_c tw_956 (gi_c tw_957 (gi_c tw_958 (gi_c tw_959 (gi_c tw_960 gi_n))))))))))))))))))))))))
theorem tw_962 : GW (.code yX4_errorDrop cX4_errorDrop 3 (some .long)) := ⟨in_3 (List.mem_of_getElem? (i := 167) rfl), rfl⟩
theorem tw_963 : GW (.methodLink RX4 70 yJ13_compare_74951) := ⟨in_3 (List.mem_of_getElem? (i := 168) (by decide +kernel)), rfl⟩
theorem tw_964 : GW (.static yJ13_compare_74951) := ⟨in_3 (List.mem_of_getElem? (i := 169) (by decide +kernel)), rfl⟩
theorem tw_965 : GW (.initialized RJ13) := ⟨in_1 (List.mem_of_getElem? (i := 11) (by decide +kernel)), rfl⟩
theorem tw_966 : GW (.code yJ13_compare_74951 cJ13_compare_74951 4 (some .int)) := ⟨in_3 (List.mem_of_getElem? (i := 170) rfl), rfl⟩
theorem tw_967 : GW (.methodLink RX7 227 yX4_lastToYield) := ⟨in_3 (List.mem_of_getElem? (i := 171) (by decide +kernel)), rfl⟩
theorem tw_968 : GW (.methodLink RX7 230 yX4_errorDrop) := ⟨in_3 (List.mem_of_getElem? (i := 172) (by decide +kernel)), rfl⟩
theorem tl_wsX7_penaltyFor_r4 : GoodIn lw_tbl wsX7_penaltyFor_r4 := (gi_c tw_962 (gi_c tw_929 (gi_c tw_866 (gi_c tw_867 (gi_c tw_868 (gi_c tw_869 (gi_c tw_585 (gi_c tw_586 (gi_c tw_587 (gi_c tw_161 (gi_c tw_963 (gi_c tw_964 (gi_c tw_965 (gi_c tw_966 (gi_c tw_967 (gi_c tw_968 gi_n))))))))))))))))
theorem tl_wsX7_penaltyFor : GoodIn lw_tbl wsX7_penaltyFor := (gi_c tw_942 (goodIn_app (goodIn_app (goodIn_app (goodIn_app tl_wsX7_penaltyFor_r1 (goodIn_app tl_wsX7_penaltyFor_r2 (goodIn_app tl_wsX7_penaltyFor_r3 tl_wsX7_penaltyFor_r4))) tu_X7) tu_X1) tu_X4))
theorem tw_969 : GW (.methodLink RL 108 yX7_penaltyFor) := ⟨in_3 (List.mem_of_getElem? (i := 148) (by decide +kernel)), rfl⟩
theorem tw_970 : GW (.instanceMethod yX7_penaltyFor) := ⟨in_3 (List.mem_of_getElem? (i := 149) (by decide +kernel)), rfl⟩
theorem tw_971 : GW (.selects RX7 yX7_penaltyFor yX7_penaltyFor) := ⟨in_3 (List.mem_of_getElem? (i := 150) (by decide +kernel)), rfl⟩
theorem tv_X7_penaltyFor : GoodIn lw_tbl (wsV RL 108 RX7 yX7_penaltyFor wsX7_penaltyFor) := gi_v tw_122 tw_969 tw_970 tw_971 tl_wsX7_penaltyFor
theorem tw_973 : GW (.code yX8_penaltyFor cX8_penaltyFor 15 (some .long)) := ⟨in_4 (List.mem_of_getElem? (i := 236) rfl), rfl⟩
theorem tl_wsX8_penaltyFor_r1 : GoodIn lw_tbl wsX8_penaltyFor_r1 := (gi_c tw_614 (gi_c tw_100 (gi_c tw_696 (gi_c tw_420 (gi_c tw_625 (gi_c tw_669 (gi_c tw_195 (gi_c tw_196 (gi_c tw_197 (gi_c tw_198 (gi_c tw_877 (gi_c tw_878 (gi_c tw_879 (gi_c tw_880 (gi_c tw_112 (gi_c tw_113 (gi_c tw_416 (gi_c tw_417 (gi_c tw_418 (gi_c tw_419 (gi_c tw_105 (gi_c tw_106 (gi_c tw_107 (gi_c tw_881 gi_n))))))))))))))))))))))))
theorem tl_wsX8_penaltyFor_r2 : GoodIn lw_tbl wsX8_penaltyFor_r2 := (gi_c tw_882 (gi_c tw_884 (gi_c tw_885 (gi_c tw_886 (gi_c tw_887 (gi_c tw_888 (gi_c tw_889 (gi_c tw_644 (gi_c tw_664 (gi_c tw_665 (gi_c tw_666 (gi_c tw_668 (gi_c tw_109 (gi_c tw_110 (gi_c tw_630 (gi_c tw_631 (gi_c tw_632 (gi_c tw_633 (gi_c tw_634 (gi_c tw_635 (gi_c tw_636 (gi_c tw_637 (gi_c tw_638 (gi_c tw_674 gi_n))))))))))))))))))))))))
theorem tl_wsX8_penaltyFor_r3 : GoodIn lw_tbl wsX8_penaltyFor_r3 := (gi_c tw_675 (gi_c tw_676 (gi_c tw_677 gi_n)))
theorem tl_wsX8_penaltyFor : GoodIn lw_tbl wsX8_penaltyFor := (gi_c tw_973 (goodIn_app (goodIn_app tl_wsX8_penaltyFor_r1 (goodIn_app tl_wsX8_penaltyFor_r2 tl_wsX8_penaltyFor_r3)) tu_X8))
theorem tw_977 : GW (.methodLink RL 111 yX8_penaltyFor) := ⟨in_4 (List.mem_of_getElem? (i := 233) (by decide +kernel)), rfl⟩
theorem tw_978 : GW (.instanceMethod yX8_penaltyFor) := ⟨in_4 (List.mem_of_getElem? (i := 234) (by decide +kernel)), rfl⟩
theorem tw_979 : GW (.selects RX8 yX8_penaltyFor yX8_penaltyFor) := ⟨in_4 (List.mem_of_getElem? (i := 235) (by decide +kernel)), rfl⟩
theorem tv_X8_penaltyFor : GoodIn lw_tbl (wsV RL 111 RX8 yX8_penaltyFor wsX8_penaltyFor) := gi_v tw_197 tw_977 tw_978 tw_979 tl_wsX8_penaltyFor
theorem tw_981 : GW (.code yX7_type cX7_type 2 (some .int)) := ⟨in_3 (List.mem_of_getElem? (i := 176) rfl), rfl⟩
theorem tw_982 : GW (.methodLink RX7 234 yX6_size) := ⟨in_3 (List.mem_of_getElem? (i := 177) (by decide +kernel)), rfl⟩
theorem tw_983 : GW (.instanceMethod yX6_size) := ⟨in_3 (List.mem_of_getElem? (i := 178) (by decide +kernel)), rfl⟩
theorem tw_984 : GW (.selects RX6 yX6_size yX6_size) := ⟨in_3 (List.mem_of_getElem? (i := 179) (by decide +kernel)), rfl⟩
theorem tw_985 : GW (.code yX6_size cX6_size 1 (some .int)) := ⟨in_3 (List.mem_of_getElem? (i := 180) rfl), rfl⟩
theorem tw_986 : GW (.methodLink RX7 235 yX6_append) := ⟨in_3 (List.mem_of_getElem? (i := 181) (by decide +kernel)), rfl⟩
theorem tw_987 : GW (.instanceMethod yX6_append) := ⟨in_3 (List.mem_of_getElem? (i := 182) (by decide +kernel)), rfl⟩
theorem tw_988 : GW (.selects RX6 yX6_append yX6_append) := ⟨in_3 (List.mem_of_getElem? (i := 183) (by decide +kernel)), rfl⟩
theorem tw_989 : GW (.code yX6_append cX6_append 2 none) := ⟨in_3 (List.mem_of_getElem? (i := 184) rfl), rfl⟩
theorem tl_wsX7_type : GoodIn lw_tbl wsX7_type := (gi_c tw_981 (goodIn_app (goodIn_app (gi_c tw_118 (gi_c tw_13 (gi_c tw_119 (gi_c tw_120 (gi_c tw_121 (gi_c tw_122 (gi_c tw_123 (gi_c tw_982 (gi_c tw_983 (gi_c tw_984 (gi_c tw_12 (gi_c tw_985 (gi_c tw_282 (gi_c tw_986 (gi_c tw_987 (gi_c tw_988 (gi_c tw_989 (gi_c tw_47 gi_n)))))))))))))))))) tu_X7) tu_X6))
theorem tw_990 : GW (.methodLink RL 112 yX7_type) := ⟨in_3 (List.mem_of_getElem? (i := 173) (by decide +kernel)), rfl⟩
theorem tw_991 : GW (.instanceMethod yX7_type) := ⟨in_3 (List.mem_of_getElem? (i := 174) (by decide +kernel)), rfl⟩
theorem tw_992 : GW (.selects RX7 yX7_type yX7_type) := ⟨in_3 (List.mem_of_getElem? (i := 175) (by decide +kernel)), rfl⟩
theorem tv_X7_type : GoodIn lw_tbl (wsV RL 112 RX7 yX7_type wsX7_type) := gi_v tw_122 tw_990 tw_991 tw_992 tl_wsX7_type
theorem tw_994 : GW (.code yX8_type cX8_type 2 (some .int)) := ⟨in_5 (List.mem_of_getElem? (i := 0) rfl), rfl⟩
theorem tl_wsX8_type : GoodIn lw_tbl wsX8_type := (gi_c tw_994 (goodIn_app (gi_c tw_193 (gi_c tw_338 (gi_c tw_194 (gi_c tw_102 (gi_c tw_195 (gi_c tw_196 (gi_c tw_197 (gi_c tw_198 gi_n)))))))) tu_X8))
theorem tw_995 : GW (.methodLink RL 115 yX8_type) := ⟨in_4 (List.mem_of_getElem? (i := 237) (by decide +kernel)), rfl⟩
theorem tw_996 : GW (.instanceMethod yX8_type) := ⟨in_4 (List.mem_of_getElem? (i := 238) (by decide +kernel)), rfl⟩
theorem tw_997 : GW (.selects RX8 yX8_type yX8_type) := ⟨in_4 (List.mem_of_getElem? (i := 239) (by decide +kernel)), rfl⟩
theorem tv_X8_type : GoodIn lw_tbl (wsV RL 115 RX8 yX8_type wsX8_type) := gi_v tw_197 tw_995 tw_996 tw_997 tl_wsX8_type
theorem tw_999 : GW (.code yX7_clearText cX7_clearText 2 (some .int)) := ⟨in_3 (List.mem_of_getElem? (i := 188) rfl), rfl⟩
theorem tw_1000 : GW (.methodLink RX7 238 yX6_empty) := ⟨in_3 (List.mem_of_getElem? (i := 189) (by decide +kernel)), rfl⟩
theorem tw_1001 : GW (.instanceMethod yX6_empty) := ⟨in_3 (List.mem_of_getElem? (i := 190) (by decide +kernel)), rfl⟩
theorem tw_1002 : GW (.selects RX6 yX6_empty yX6_empty) := ⟨in_3 (List.mem_of_getElem? (i := 191) (by decide +kernel)), rfl⟩
theorem tw_1003 : GW (.code yX6_empty cX6_empty 1 none) := ⟨in_3 (List.mem_of_getElem? (i := 192) rfl), rfl⟩
theorem tl_wsX7_clearText : GoodIn lw_tbl wsX7_clearText := (gi_c tw_999 (goodIn_app (goodIn_app (gi_c tw_13 (gi_c tw_982 (gi_c tw_983 (gi_c tw_984 (gi_c tw_12 (gi_c tw_985 (gi_c tw_282 (gi_c tw_1000 (gi_c tw_1001 (gi_c tw_1002 (gi_c tw_1003 gi_n))))))))))) tu_X7) tu_X6))
theorem tw_1004 : GW (.methodLink RL 116 yX7_clearText) := ⟨in_3 (List.mem_of_getElem? (i := 185) (by decide +kernel)), rfl⟩
theorem tw_1005 : GW (.instanceMethod yX7_clearText) := ⟨in_3 (List.mem_of_getElem? (i := 186) (by decide +kernel)), rfl⟩
theorem tw_1006 : GW (.selects RX7 yX7_clearText yX7_clearText) := ⟨in_3 (List.mem_of_getElem? (i := 187) (by decide +kernel)), rfl⟩
theorem tv_X7_clearText : GoodIn lw_tbl (wsV RL 116 RX7 yX7_clearText wsX7_clearText) := gi_v tw_122 tw_1004 tw_1005 tw_1006 tl_wsX7_clearText
theorem tw_1008 : GW (.code yX8_clearText cX8_clearText 2 (some .int)) := ⟨in_5 (List.mem_of_getElem? (i := 4) rfl), rfl⟩
theorem tl_wsX8_clearText : GoodIn lw_tbl wsX8_clearText := (gi_c tw_1008 (goodIn_app (gi_c tw_338 gi_n) tu_X8))
theorem tw_1009 : GW (.methodLink RL 119 yX8_clearText) := ⟨in_5 (List.mem_of_getElem? (i := 1) (by decide +kernel)), rfl⟩
theorem tw_1010 : GW (.instanceMethod yX8_clearText) := ⟨in_5 (List.mem_of_getElem? (i := 2) (by decide +kernel)), rfl⟩
theorem tw_1011 : GW (.selects RX8 yX8_clearText yX8_clearText) := ⟨in_5 (List.mem_of_getElem? (i := 3) (by decide +kernel)), rfl⟩
theorem tv_X8_clearText : GoodIn lw_tbl (wsV RL 119 RX8 yX8_clearText wsX8_clearText) := gi_v tw_197 tw_1009 tw_1010 tw_1011 tl_wsX8_clearText
theorem tw_1013 : GW (.code yX7_fault cX7_fault 2 (some .int)) := ⟨in_3 (List.mem_of_getElem? (i := 196) rfl), rfl⟩
theorem tl_wsX7_fault_r1 : GoodIn lw_tbl wsX7_fault_r1 := (gi_c tw_13 (gi_c tw_760 (gi_c tw_276 (gi_c tw_277 (gi_c tw_278 (gi_c tw_12 (gi_c tw_279 (gi_c tw_49 (gi_c tw_280 (gi_c tw_281 (gi_c tw_282 (gi_c tw_283 (gi_c tw_147 (gi_c tw_148 (gi_c tw_8 (gi_c tw_149 (gi_c tw_131 (gi_c tw_284 (gi_c tw_285 (gi_c tw_286 (gi_c tw_287 (gi_c tw_289 (gi_c tw_290 (gi_c tw_291 gi_n))))))))))))))))))))))))
theorem tl_wsX7_fault_r2 : GoodIn lw_tbl wsX7_fault_r2 := (gi_c tw_292 (gi_c tw_293 (gi_c tw_294 (gi_c tw_295 (gi_c tw_296 (gi_c tw_47 (gi_c tw_297 (gi_c tw_298 (gi_c tw_299 (gi_c tw_300 (gi_c tw_301 (gi_c tw_302 (gi_c tw_303 (gi_c tw_304 (gi_c tw_305 (gi_c tw_306 (gi_c tw_307 (gi_c tw_308 (gi_c tw_50 (gi_c tw_309 (gi_c tw_128 (gi_c tw_129 (gi_c tw_130 (gi_c tw_311 gi_n))))))))))))))))))))))))
theorem tl_wsX7_fault_r3 : GoodIn lw_tbl wsX7_fault_r3 := (gi_c tw_312 (gi_c tw_313 (gi_c tw_314 (gi_c tw_315 (gi_c tw_151 (gi_c tw_152 (gi_c tw_153 (gi_c tw_40 (gi_c tw_41 (gi_c tw_42 gi_n))))))))))
theorem tl_wsX7_fault : GoodIn lw_tbl wsX7_fault := (gi_c tw_1013 (goodIn_app (goodIn_app (goodIn_app (goodIn_app tl_wsX7_fault_r1 (goodIn_app tl_wsX7_fault_r2 tl_wsX7_fault_r3)) tu_X7) tu_X6) tu_X5))
theorem tw_1017 : GW (.methodLink RL 120 yX7_fault) := ⟨in_3 (List.mem_of_getElem? (i := 193) (by decide +kernel)), rfl⟩
theorem tw_1018 : GW (.instanceMethod yX7_fault) := ⟨in_3 (List.mem_of_getElem? (i := 194) (by decide +kernel)), rfl⟩
theorem tw_1019 : GW (.selects RX7 yX7_fault yX7_fault) := ⟨in_3 (List.mem_of_getElem? (i := 195) (by decide +kernel)), rfl⟩
theorem tv_X7_fault : GoodIn lw_tbl (wsV RL 120 RX7 yX7_fault wsX7_fault) := gi_v tw_122 tw_1017 tw_1018 tw_1019 tl_wsX7_fault
theorem tl_wsX8_fault_r1 : GoodIn lw_tbl wsX8_fault_r1 := (gi_c tw_336 (gi_c tw_337 (gi_c tw_331 (gi_c tw_338 (gi_c tw_329 (gi_c tw_339 (gi_c tw_340 (gi_c tw_341 (gi_c tw_197 (gi_c tw_342 (gi_c tw_104 (gi_c tw_343 (gi_c tw_344 (gi_c tw_345 (gi_c tw_346 (gi_c tw_103 (gi_c tw_347 (gi_c tw_348 (gi_c tw_350 (gi_c tw_351 (gi_c tw_352 (gi_c tw_353 (gi_c tw_354 (gi_c tw_355 gi_n))))))))))))))))))))))))
theorem tl_wsX8_fault_r2 : GoodIn lw_tbl wsX8_fault_r2 := (gi_c tw_102 (gi_c tw_356 (gi_c tw_357 (gi_c tw_358 (gi_c tw_359 (gi_c tw_195 (gi_c tw_196 (gi_c tw_198 (gi_c tw_360 (gi_c tw_361 (gi_c tw_362 (gi_c tw_363 gi_n))))))))))))
theorem tl_wsX8_fault : GoodIn lw_tbl wsX8_fault := (gi_c tw_335 (goodIn_app (goodIn_app tl_wsX8_fault_r1 tl_wsX8_fault_r2) tu_X8))
theorem tw_1023 : GW (.methodLink RL 123 yX8_fault) := ⟨in_5 (List.mem_of_getElem? (i := 5) (by decide +kernel)), rfl⟩
theorem tv_X8_fault : GoodIn lw_tbl (wsV RL 123 RX8 yX8_fault wsX8_fault) := gi_v tw_197 tw_1023 tw_333 tw_334 tl_wsX8_fault
theorem tw_1025 : GW (.code yX7_reason cX7_reason 2 (some .int)) := ⟨in_3 (List.mem_of_getElem? (i := 200) rfl), rfl⟩
theorem tw_1026 : GW (.methodLink RX7 241 yX6_reasons) := ⟨in_3 (List.mem_of_getElem? (i := 201) (by decide +kernel)), rfl⟩
theorem tw_1027 : GW (.instanceMethod yX6_reasons) := ⟨in_3 (List.mem_of_getElem? (i := 202) (by decide +kernel)), rfl⟩
theorem tw_1028 : GW (.selects RX6 yX6_reasons yX6_reasons) := ⟨in_3 (List.mem_of_getElem? (i := 203) (by decide +kernel)), rfl⟩
theorem tw_1029 : GW (.code yX6_reasons cX6_reasons 1 (some .int)) := ⟨in_3 (List.mem_of_getElem? (i := 204) rfl), rfl⟩
theorem tw_1030 : GW (.methodLink RX7 244 yX6_reasonAt) := ⟨in_3 (List.mem_of_getElem? (i := 205) (by decide +kernel)), rfl⟩
theorem tw_1031 : GW (.instanceMethod yX6_reasonAt) := ⟨in_3 (List.mem_of_getElem? (i := 206) (by decide +kernel)), rfl⟩
theorem tw_1032 : GW (.selects RX6 yX6_reasonAt yX6_reasonAt) := ⟨in_3 (List.mem_of_getElem? (i := 207) (by decide +kernel)), rfl⟩
theorem tw_1033 : GW (.code yX6_reasonAt cX6_reasonAt 2 (some .int)) := ⟨in_3 (List.mem_of_getElem? (i := 208) rfl), rfl⟩
theorem tl_wsX7_reason : GoodIn lw_tbl wsX7_reason := (gi_c tw_1025 (goodIn_app (goodIn_app (gi_c tw_118 (gi_c tw_13 (gi_c tw_760 (gi_c tw_1026 (gi_c tw_1027 (gi_c tw_1028 (gi_c tw_12 (gi_c tw_1029 (gi_c tw_280 (gi_c tw_1030 (gi_c tw_1031 (gi_c tw_1032 (gi_c tw_1033 (gi_c tw_50 gi_n)))))))))))))) tu_X7) tu_X6))
theorem tw_1034 : GW (.methodLink RL 124 yX7_reason) := ⟨in_3 (List.mem_of_getElem? (i := 197) (by decide +kernel)), rfl⟩
theorem tw_1035 : GW (.instanceMethod yX7_reason) := ⟨in_3 (List.mem_of_getElem? (i := 198) (by decide +kernel)), rfl⟩
theorem tw_1036 : GW (.selects RX7 yX7_reason yX7_reason) := ⟨in_3 (List.mem_of_getElem? (i := 199) (by decide +kernel)), rfl⟩
theorem tv_X7_reason : GoodIn lw_tbl (wsV RL 124 RX7 yX7_reason wsX7_reason) := gi_v tw_122 tw_1034 tw_1035 tw_1036 tl_wsX7_reason
theorem tw_1038 : GW (.code yX8_reason cX8_reason 2 (some .int)) := ⟨in_5 (List.mem_of_getElem? (i := 41) rfl), rfl⟩
theorem tl_wsX8_reason : GoodIn lw_tbl wsX8_reason := (gi_c tw_1038 (goodIn_app (gi_c tw_193 (gi_c tw_336 (gi_c tw_103 (gi_c tw_329 gi_n)))) tu_X8))
theorem tw_1039 : GW (.methodLink RL 127 yX8_reason) := ⟨in_5 (List.mem_of_getElem? (i := 38) (by decide +kernel)), rfl⟩
theorem tw_1040 : GW (.instanceMethod yX8_reason) := ⟨in_5 (List.mem_of_getElem? (i := 39) (by decide +kernel)), rfl⟩
theorem tw_1041 : GW (.selects RX8 yX8_reason yX8_reason) := ⟨in_5 (List.mem_of_getElem? (i := 40) (by decide +kernel)), rfl⟩
theorem tv_X8_reason : GoodIn lw_tbl (wsV RL 127 RX8 yX8_reason wsX8_reason) := gi_v tw_197 tw_1039 tw_1040 tw_1041 tl_wsX8_reason
