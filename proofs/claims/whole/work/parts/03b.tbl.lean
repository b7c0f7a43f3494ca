/-! the words of what the law calls, among the tables -/
def mT (w : Cond) : Prop := w ∈ lw_tbl ∧ goodWord w = true
theorem gT_n : GoodIn lw_tbl [] := fun _ h => absurd h List.not_mem_nil
theorem gT_c {w : Cond} {ws : List Cond} (h : mT w) (t : GoodIn lw_tbl ws) : GoodIn lw_tbl (w :: ws) := fun x hx => (List.mem_cons.mp hx).elim (fun e => by rw [e]; exact ⟨h.1, good_of_word h.2⟩) (t x)
theorem in0 : ∀ w ∈ k2_sels lw_privs, w ∈ lw_tbl := fun _ h => List.mem_append_left _ h
theorem inT : ∀ w ∈ tables_1, w ∈ lw_tbl := fun _ h => List.mem_append_right _ h
theorem in1 : ∀ w ∈ tables_1_1, w ∈ lw_tbl := fun w h => inT w (List.mem_append_left _ h)
theorem inT2 : ∀ w ∈ tables_1_2 ++ (tables_1_3 ++ (tables_1_4 ++ (tables_1_5 ++ (tables_1_6 ++ tables_1_7)))), w ∈ lw_tbl := fun w h => inT w (List.mem_append_right _ h)
theorem in2 : ∀ w ∈ tables_1_2, w ∈ lw_tbl := fun w h => inT2 w (List.mem_append_left _ h)
theorem inT3 : ∀ w ∈ tables_1_3 ++ (tables_1_4 ++ (tables_1_5 ++ (tables_1_6 ++ tables_1_7))), w ∈ lw_tbl := fun w h => inT2 w (List.mem_append_right _ h)
theorem in3 : ∀ w ∈ tables_1_3, w ∈ lw_tbl := fun w h => inT3 w (List.mem_append_left _ h)
theorem inT4 : ∀ w ∈ tables_1_4 ++ (tables_1_5 ++ (tables_1_6 ++ tables_1_7)), w ∈ lw_tbl := fun w h => inT3 w (List.mem_append_right _ h)
theorem in4 : ∀ w ∈ tables_1_4, w ∈ lw_tbl := fun w h => inT4 w (List.mem_append_left _ h)
theorem inT5 : ∀ w ∈ tables_1_5 ++ (tables_1_6 ++ tables_1_7), w ∈ lw_tbl := fun w h => inT4 w (List.mem_append_right _ h)
theorem in5 : ∀ w ∈ tables_1_5, w ∈ lw_tbl := fun w h => inT5 w (List.mem_append_left _ h)
theorem in6 : ∀ w ∈ tables_1_6, w ∈ lw_tbl := fun w h => inT5 w (List.mem_append_right _ (List.mem_append_left _ h))
theorem in7 : ∀ w ∈ tables_1_7, w ∈ lw_tbl := fun w h => inT5 w (List.mem_append_right _ (List.mem_append_right _ h))
theorem mw_0 : mT (Cond.code yX9_init cX9_init 2 none) := ⟨in1 _ (List.mem_of_getElem? (i := 24) rfl), rfl⟩
theorem mw_1 : mT (Cond.instanceMethod yX7_init) := ⟨in1 _ (List.mem_of_getElem? (i := 31) rfl), rfl⟩
theorem mw_2 : mT (Cond.fieldLink RX9 45 "CordSeals" "trial" "LCordSeals$State;") := ⟨in2 _ (List.mem_of_getElem? (i := 80) rfl), rfl⟩
theorem mw_3 : mT (Cond.fieldLink RX9 41 "CordSeals" "state" "LCordSeals$State;") := ⟨in2 _ (List.mem_of_getElem? (i := 79) rfl), rfl⟩
theorem mw_4 : mT (Cond.initialized RX6) := ⟨in1 _ (List.mem_of_getElem? (i := 6) rfl), rfl⟩
theorem mw_5 : mT (Cond.instantiable RX6 5) := ⟨in1 _ (List.mem_of_getElem? (i := 137) rfl), rfl⟩
theorem mw_6 : mT (Cond.fieldLink RX9 36 "CordSeals" "saved" "[Z") := ⟨in2 _ (List.mem_of_getElem? (i := 78) rfl), rfl⟩
theorem mw_7 : mT (Cond.arrayClass .boolean) := ⟨in2 _ (List.mem_of_getElem? (i := 96) rfl), rfl⟩
theorem mw_8 : mT (Cond.fieldLink RX9 32 "CordSeals" "slots" "[LCordSeals$State;") := ⟨in2 _ (List.mem_of_getElem? (i := 77) rfl), rfl⟩
theorem mw_9 : mT (Cond.classLink RX9 30 RX6) := ⟨in2 _ (List.mem_of_getElem? (i := 72) rfl), rfl⟩
theorem mw_10 : mT (Cond.fieldLink RX9 26 "CordSeals" "memory" "LCordSeals$Memory;") := ⟨in2 _ (List.mem_of_getElem? (i := 76) rfl), rfl⟩
theorem mw_11 : mT (Cond.initialized RX2) := ⟨in1 _ (List.mem_of_getElem? (i := 5) rfl), rfl⟩
theorem mw_12 : mT (Cond.instantiable RX2 3) := ⟨in1 _ (List.mem_of_getElem? (i := 130) rfl), rfl⟩
theorem mw_13 : mT (Cond.classLink RX9 23 RX2) := ⟨in1 _ (List.mem_of_getElem? (i := 129) rfl), rfl⟩
theorem mw_14 : mT (Cond.fieldLink RX9 19 "CordSeals" "judge" "LCordSeals$Judge;") := ⟨in2 _ (List.mem_of_getElem? (i := 75) rfl), rfl⟩
theorem mw_15 : mT (Cond.initialized RX1) := ⟨in1 _ (List.mem_of_getElem? (i := 3) rfl), rfl⟩
theorem mw_16 : mT (Cond.instantiable RX1 6) := ⟨in1 _ (List.mem_of_getElem? (i := 82) rfl), rfl⟩
theorem mw_17 : mT (Cond.classLink RX9 16 RX1) := ⟨in1 _ (List.mem_of_getElem? (i := 81) rfl), rfl⟩
theorem mw_18 : mT (Cond.fieldLink RX9 10 "CordSeals" "text" "LCordSeals$Text;") := ⟨in2 _ (List.mem_of_getElem? (i := 74) rfl), rfl⟩
theorem mw_19 : mT (Cond.initialized RX7) := ⟨in1 _ (List.mem_of_getElem? (i := 2) rfl), rfl⟩
theorem mw_20 : mT (Cond.instantiable RX7 12) := ⟨in1 _ (List.mem_of_getElem? (i := 29) rfl), rfl⟩
theorem mw_21 : mT (Cond.classLink RX9 7 RX7) := ⟨in1 _ (List.mem_of_getElem? (i := 28) rfl), rfl⟩
theorem mw_22 : mT (Cond.code objectInit ⟨#[0xb1]⟩ 1 none) := ⟨in1 _ (List.mem_of_getElem? (i := 27) rfl), rfl⟩
theorem mw_23 : mT (Cond.instanceMethod objectInit) := ⟨in1 _ (List.mem_of_getElem? (i := 26) rfl), rfl⟩
theorem mw_24 : mT (Cond.methodLink RX9 1 objectInit) := ⟨in1 _ (List.mem_of_getElem? (i := 25) rfl), rfl⟩
theorem mw_25 : mT (Cond.code yX2_init cX2_init 2 none) := ⟨in1 _ (List.mem_of_getElem? (i := 133) rfl), rfl⟩
theorem mw_26 : mT (Cond.instanceMethod yX2_init) := ⟨in1 _ (List.mem_of_getElem? (i := 132) rfl), rfl⟩
theorem mw_27 : mT (Cond.methodLink RX9 25 yX2_init) := ⟨in1 _ (List.mem_of_getElem? (i := 131) rfl), rfl⟩
theorem mw_28 : mT (Cond.methodLink RX8 3 objectInit) := ⟨in1 _ (List.mem_of_getElem? (i := 93) rfl), rfl⟩
theorem mw_29 : mT (Cond.code yX8_init cX8_init 1 none) := ⟨in1 _ (List.mem_of_getElem? (i := 92) rfl), rfl⟩
theorem mw_30 : mT (Cond.instanceMethod yX8_init) := ⟨in1 _ (List.mem_of_getElem? (i := 91) rfl), rfl⟩
theorem mw_31 : mT (Cond.fieldLink RX1 31 "CordSeals$Judge" "common" "LCordSeals$Years;") := ⟨in1 _ (List.mem_of_getElem? (i := 115) rfl), rfl⟩
theorem mw_32 : mT (Cond.initialized RX8) := ⟨in1 _ (List.mem_of_getElem? (i := 4) rfl), rfl⟩
theorem mw_33 : mT (Cond.instantiable RX8 3) := ⟨in1 _ (List.mem_of_getElem? (i := 89) rfl), rfl⟩
theorem mw_34 : mT (Cond.fieldLink RX1 27 "CordSeals$Judge" "before" "[I") := ⟨in1 _ (List.mem_of_getElem? (i := 114) rfl), rfl⟩
theorem mw_35 : mT (Cond.fieldLink RX1 24 "CordSeals$Judge" "first" "[I") := ⟨in1 _ (List.mem_of_getElem? (i := 112) rfl), rfl⟩
theorem mw_36 : mT (Cond.fieldLink RX1 20 "CordSeals$Judge" "reason" "[I") := ⟨in1 _ (List.mem_of_getElem? (i := 110) rfl), rfl⟩
theorem mw_37 : mT (Cond.arrayClass .int) := ⟨in1 _ (List.mem_of_getElem? (i := 105) rfl), rfl⟩
theorem mw_38 : mT (Cond.fieldLink RX1 17 "CordSeals$Judge" "ofCharters" "[LCordSeals$Years;") := ⟨in1 _ (List.mem_of_getElem? (i := 108) rfl), rfl⟩
theorem mw_39 : mT (Cond.fieldLink RX1 11 "CordSeals$Judge" "ofSeals" "[LCordSeals$Years;") := ⟨in1 _ (List.mem_of_getElem? (i := 106) rfl), rfl⟩
theorem mw_40 : mT (Cond.classLink RX1 9 RX8) := ⟨in1 _ (List.mem_of_getElem? (i := 87) rfl), rfl⟩
theorem mw_41 : mT (Cond.methodLink RX1 3 objectInit) := ⟨in1 _ (List.mem_of_getElem? (i := 86) rfl), rfl⟩
theorem mw_42 : mT (Cond.code yX1_init cX1_init 2 none) := ⟨in1 _ (List.mem_of_getElem? (i := 85) rfl), rfl⟩
theorem mw_43 : mT (Cond.instanceMethod yX1_init) := ⟨in1 _ (List.mem_of_getElem? (i := 84) rfl), rfl⟩
theorem mw_44 : mT (Cond.methodLink RX9 18 yX1_init) := ⟨in1 _ (List.mem_of_getElem? (i := 83) rfl), rfl⟩
theorem mw_45 : mT (Cond.fieldLink RX7 9 "CordSeals$Text" "signs" "[C") := ⟨in1 _ (List.mem_of_getElem? (i := 36) rfl), rfl⟩
theorem mw_46 : mT (Cond.arrayClass .char) := ⟨in1 _ (List.mem_of_getElem? (i := 80) rfl), rfl⟩
theorem mw_47 : mT (Cond.methodLink RX7 3 objectInit) := ⟨in1 _ (List.mem_of_getElem? (i := 33) rfl), rfl⟩
theorem mw_48 : mT (Cond.code yX7_init cX7_init 1 none) := ⟨in1 _ (List.mem_of_getElem? (i := 32) rfl), rfl⟩
theorem mw_49 : mT (Cond.fieldLink RX6 39 "CordSeals$State" "settings" "[I") := ⟨in2 _ (List.mem_of_getElem? (i := 47) rfl), rfl⟩
theorem mw_50 : mT (Cond.fieldLink RX6 35 "CordSeals$State" "shelves" "LCordSeals$Shelves;") := ⟨in2 _ (List.mem_of_getElem? (i := 44) rfl), rfl⟩
theorem mw_51 : mT (Cond.initialized RX5) := ⟨in1 _ (List.mem_of_getElem? (i := 10) rfl), rfl⟩
theorem mw_52 : mT (Cond.instantiable RX5 2) := ⟨in2 _ (List.mem_of_getElem? (i := 11) rfl), rfl⟩
theorem mw_53 : mT (Cond.classLink RX6 32 RX5) := ⟨in2 _ (List.mem_of_getElem? (i := 10) rfl), rfl⟩
theorem mw_54 : mT (Cond.fieldLink RX6 28 "CordSeals$State" "seals" "LCordSeals$Seals;") := ⟨in2 _ (List.mem_of_getElem? (i := 41) rfl), rfl⟩
theorem mw_55 : mT (Cond.initialized RX4) := ⟨in1 _ (List.mem_of_getElem? (i := 9) rfl), rfl⟩
theorem mw_56 : mT (Cond.instantiable RX4 7) := ⟨in1 _ (List.mem_of_getElem? (i := 202) rfl), rfl⟩
theorem mw_57 : mT (Cond.classLink RX6 25 RX4) := ⟨in1 _ (List.mem_of_getElem? (i := 201) rfl), rfl⟩
theorem mw_58 : mT (Cond.fieldLink RX6 21 "CordSeals$State" "dies" "LCordSeals$Dies;") := ⟨in2 _ (List.mem_of_getElem? (i := 38) rfl), rfl⟩
theorem mw_59 : mT (Cond.initialized RX0) := ⟨in1 _ (List.mem_of_getElem? (i := 8) rfl), rfl⟩
theorem mw_60 : mT (Cond.instantiable RX0 6) := ⟨in1 _ (List.mem_of_getElem? (i := 166) rfl), rfl⟩
theorem mw_61 : mT (Cond.classLink RX6 18 RX0) := ⟨in1 _ (List.mem_of_getElem? (i := 165) rfl), rfl⟩
theorem mw_62 : mT (Cond.fieldLink RX6 12 "CordSeals$State" "reigns" "LCordSeals$Reigns;") := ⟨in2 _ (List.mem_of_getElem? (i := 35) rfl), rfl⟩
theorem mw_63 : mT (Cond.initialized RX3) := ⟨in1 _ (List.mem_of_getElem? (i := 7) rfl), rfl⟩
theorem mw_64 : mT (Cond.instantiable RX3 3) := ⟨in1 _ (List.mem_of_getElem? (i := 143) rfl), rfl⟩
theorem mw_65 : mT (Cond.classLink RX6 9 RX3) := ⟨in1 _ (List.mem_of_getElem? (i := 142) rfl), rfl⟩
theorem mw_66 : mT (Cond.methodLink RX6 3 objectInit) := ⟨in1 _ (List.mem_of_getElem? (i := 141) rfl), rfl⟩
theorem mw_67 : mT (Cond.code yX6_init cX6_init 1 none) := ⟨in1 _ (List.mem_of_getElem? (i := 140) rfl), rfl⟩
theorem mw_68 : mT (Cond.instanceMethod yX6_init) := ⟨in1 _ (List.mem_of_getElem? (i := 139) rfl), rfl⟩
theorem mw_69 : mT (Cond.methodLink RX2 17 yX6_init) := ⟨in1 _ (List.mem_of_getElem? (i := 138) rfl), rfl⟩
theorem mw_70 : mT (Cond.fieldLink RX2 11 "CordSeals$Memory" "ring" "[LCordSeals$State;") := ⟨in2 _ (List.mem_of_getElem? (i := 64) rfl), rfl⟩
theorem mw_71 : mT (Cond.classLink RX2 9 RX6) := ⟨in1 _ (List.mem_of_getElem? (i := 135) rfl), rfl⟩
theorem mw_72 : mT (Cond.methodLink RX2 3 objectInit) := ⟨in1 _ (List.mem_of_getElem? (i := 134) rfl), rfl⟩
theorem mw_73 : mT (Cond.code yX5_init cX5_init 1 none) := ⟨in2 _ (List.mem_of_getElem? (i := 14) rfl), rfl⟩
theorem mw_74 : mT (Cond.instanceMethod yX5_init) := ⟨in2 _ (List.mem_of_getElem? (i := 13) rfl), rfl⟩
theorem mw_75 : mT (Cond.fieldLink RX4 27 "CordSeals$Seals" "hangsOn" "[I") := ⟨in1 _ (List.mem_of_getElem? (i := 231) rfl), rfl⟩
theorem mw_76 : mT (Cond.fieldLink RX4 24 "CordSeals$Seals" "shown" "[I") := ⟨in1 _ (List.mem_of_getElem? (i := 227) rfl), rfl⟩
theorem mw_77 : mT (Cond.fieldLink RX4 21 "CordSeals$Seals" "bubbles" "[I") := ⟨in1 _ (List.mem_of_getElem? (i := 223) rfl), rfl⟩
theorem mw_78 : mT (Cond.fieldLink RX4 18 "CordSeals$Seals" "colour" "[I") := ⟨in1 _ (List.mem_of_getElem? (i := 219) rfl), rfl⟩
theorem mw_79 : mT (Cond.fieldLink RX4 15 "CordSeals$Seals" "material" "[I") := ⟨in1 _ (List.mem_of_getElem? (i := 215) rfl), rfl⟩
theorem mw_80 : mT (Cond.fieldLink RX4 9 "CordSeals$Seals" "die" "[I") := ⟨in1 _ (List.mem_of_getElem? (i := 211) rfl), rfl⟩
theorem mw_81 : mT (Cond.methodLink RX4 3 objectInit) := ⟨in1 _ (List.mem_of_getElem? (i := 206) rfl), rfl⟩
theorem mw_82 : mT (Cond.code yX4_init cX4_init 1 none) := ⟨in1 _ (List.mem_of_getElem? (i := 205) rfl), rfl⟩
theorem mw_83 : mT (Cond.instanceMethod yX4_init) := ⟨in1 _ (List.mem_of_getElem? (i := 204) rfl), rfl⟩
theorem mw_84 : mT (Cond.fieldLink RX0 24 "CordSeals$Dies" "crackYears" "[I") := ⟨in1 _ (List.mem_of_getElem? (i := 186) rfl), rfl⟩
theorem mw_85 : mT (Cond.fieldLink RX0 21 "CordSeals$Dies" "cracks" "[I") := ⟨in1 _ (List.mem_of_getElem? (i := 183) rfl), rfl⟩
theorem mw_86 : mT (Cond.fieldLink RX0 18 "CordSeals$Dies" "to" "[I") := ⟨in1 _ (List.mem_of_getElem? (i := 180) rfl), rfl⟩
theorem mw_87 : mT (Cond.fieldLink RX0 15 "CordSeals$Dies" "from" "[I") := ⟨in1 _ (List.mem_of_getElem? (i := 177) rfl), rfl⟩
theorem mw_88 : mT (Cond.fieldLink RX0 9 "CordSeals$Dies" "house" "[I") := ⟨in1 _ (List.mem_of_getElem? (i := 174) rfl), rfl⟩
theorem mw_89 : mT (Cond.methodLink RX0 3 objectInit) := ⟨in1 _ (List.mem_of_getElem? (i := 170) rfl), rfl⟩
theorem mw_90 : mT (Cond.code yX0_init cX0_init 1 none) := ⟨in1 _ (List.mem_of_getElem? (i := 169) rfl), rfl⟩
theorem mw_91 : mT (Cond.instanceMethod yX0_init) := ⟨in1 _ (List.mem_of_getElem? (i := 168) rfl), rfl⟩
theorem mw_92 : mT (Cond.fieldLink RX3 15 "CordSeals$Reigns" "colours" "[I") := ⟨in1 _ (List.mem_of_getElem? (i := 155) rfl), rfl⟩
theorem mw_93 : mT (Cond.fieldLink RX3 9 "CordSeals$Reigns" "begin" "[I") := ⟨in1 _ (List.mem_of_getElem? (i := 152) rfl), rfl⟩
theorem mw_94 : mT (Cond.methodLink RX3 3 objectInit) := ⟨in1 _ (List.mem_of_getElem? (i := 147) rfl), rfl⟩
theorem mw_95 : mT (Cond.code yX3_init cX3_init 1 none) := ⟨in1 _ (List.mem_of_getElem? (i := 146) rfl), rfl⟩
theorem mw_96 : mT (Cond.instanceMethod yX3_init) := ⟨in1 _ (List.mem_of_getElem? (i := 145) rfl), rfl⟩
theorem mw_97 : mT (Cond.methodLink RX9 40 yX6_init) := ⟨in2 _ (List.mem_of_getElem? (i := 73) rfl), rfl⟩
theorem mw_98 : mT (Cond.code yX5_makeEmpty cX5_makeEmpty 2 none) := ⟨in2 _ (List.mem_of_getElem? (i := 34) rfl), rfl⟩
theorem mw_99 : mT (Cond.selects RX5 yX5_makeEmpty yX5_makeEmpty) := ⟨in2 _ (List.mem_of_getElem? (i := 33) rfl), rfl⟩
theorem mw_100 : mT (Cond.instanceMethod yX5_makeEmpty) := ⟨in2 _ (List.mem_of_getElem? (i := 32) rfl), rfl⟩
theorem mw_101 : mT (Cond.methodLink RX6 52 yX5_makeEmpty) := ⟨in2 _ (List.mem_of_getElem? (i := 31) rfl), rfl⟩
theorem mw_102 : mT (Cond.fieldLink RX6 51 "CordSeals$Seals" "count" "I") := ⟨in1 _ (List.mem_of_getElem? (i := 208) rfl), rfl⟩
theorem mw_103 : mT (Cond.fieldLink RX6 50 "CordSeals$Dies" "count" "I") := ⟨in1 _ (List.mem_of_getElem? (i := 172) rfl), rfl⟩
theorem mw_104 : mT (Cond.fieldLink RX6 46 "CordSeals$Reigns" "count" "I") := ⟨in1 _ (List.mem_of_getElem? (i := 149) rfl), rfl⟩
theorem mw_105 : mT (Cond.code yX6_makeEmpty cX6_makeEmpty 1 none) := ⟨in2 _ (List.mem_of_getElem? (i := 30) rfl), rfl⟩
theorem mw_106 : mT (Cond.selects RX6 yX6_makeEmpty yX6_makeEmpty) := ⟨in2 _ (List.mem_of_getElem? (i := 29) rfl), rfl⟩
theorem mw_107 : mT (Cond.instanceMethod yX6_makeEmpty) := ⟨in2 _ (List.mem_of_getElem? (i := 28) rfl), rfl⟩
theorem mw_108 : mT (Cond.methodLink RX6 43 yX6_makeEmpty) := ⟨in2 _ (List.mem_of_getElem? (i := 27) rfl), rfl⟩
theorem mw_109 : mT (Cond.fieldLink RX5 15 "CordSeals$Shelves" "seals" "[I") := ⟨in2 _ (List.mem_of_getElem? (i := 20) rfl), rfl⟩
theorem mw_110 : mT (Cond.fieldLink RX5 9 "CordSeals$Shelves" "count" "[I") := ⟨in2 _ (List.mem_of_getElem? (i := 16) rfl), rfl⟩
theorem mw_111 : mT (Cond.methodLink RX5 3 objectInit) := ⟨in2 _ (List.mem_of_getElem? (i := 15) rfl), rfl⟩
theorem mw_112 : mT (Cond.lays RX7 "CordSeals$Text" "hangsOn" "I") := ⟨in1 _ (List.mem_of_getElem? (i := 77) rfl), rfl⟩
theorem mw_113 : mT (Cond.lays RX7 "CordSeals$Text" "set" "I") := ⟨in1 _ (List.mem_of_getElem? (i := 75) rfl), rfl⟩
theorem mw_114 : mT (Cond.lays RX7 "CordSeals$Text" "bubbles" "I") := ⟨in1 _ (List.mem_of_getElem? (i := 73) rfl), rfl⟩
theorem mw_115 : mT (Cond.lays RX7 "CordSeals$Text" "colour" "I") := ⟨in1 _ (List.mem_of_getElem? (i := 71) rfl), rfl⟩
theorem mw_116 : mT (Cond.lays RX7 "CordSeals$Text" "lastYear" "I") := ⟨in1 _ (List.mem_of_getElem? (i := 69) rfl), rfl⟩
theorem mw_117 : mT (Cond.lays RX7 "CordSeals$Text" "year" "I") := ⟨in1 _ (List.mem_of_getElem? (i := 67) rfl), rfl⟩
theorem mw_118 : mT (Cond.lays RX7 "CordSeals$Text" "number" "I") := ⟨in1 _ (List.mem_of_getElem? (i := 65) rfl), rfl⟩
theorem mw_119 : mT (Cond.lays RX7 "CordSeals$Text" "kind" "I") := ⟨in1 _ (List.mem_of_getElem? (i := 63) rfl), rfl⟩
theorem mw_120 : mT (Cond.lays RX7 "CordSeals$Text" "failed" "Z") := ⟨in1 _ (List.mem_of_getElem? (i := 61) rfl), rfl⟩
theorem mw_121 : mT (Cond.lays RX7 "CordSeals$Text" "at" "I") := ⟨in1 _ (List.mem_of_getElem? (i := 59) rfl), rfl⟩
theorem mw_122 : mT (Cond.laysFinal RX7 "CordSeals$Text" "signs" "[C") := ⟨in1 _ (List.mem_of_getElem? (i := 57) rfl), rfl⟩
theorem mw_123 : mT (Cond.lays RX7 "CordSeals$Text" "length" "I") := ⟨in1 _ (List.mem_of_getElem? (i := 55) rfl), rfl⟩
theorem mw_124 : mT (Cond.lays RX9 "CordSeals" "trial" "LCordSeals$State;") := ⟨in2 _ (List.mem_of_getElem? (i := 93) rfl), rfl⟩
theorem mw_125 : mT (Cond.lays RX9 "CordSeals" "state" "LCordSeals$State;") := ⟨in2 _ (List.mem_of_getElem? (i := 91) rfl), rfl⟩
theorem mw_126 : mT (Cond.laysFinal RX9 "CordSeals" "saved" "[Z") := ⟨in2 _ (List.mem_of_getElem? (i := 89) rfl), rfl⟩
theorem mw_127 : mT (Cond.laysFinal RX9 "CordSeals" "slots" "[LCordSeals$State;") := ⟨in2 _ (List.mem_of_getElem? (i := 87) rfl), rfl⟩
theorem mw_128 : mT (Cond.laysFinal RX9 "CordSeals" "memory" "LCordSeals$Memory;") := ⟨in2 _ (List.mem_of_getElem? (i := 85) rfl), rfl⟩
theorem mw_129 : mT (Cond.laysFinal RX9 "CordSeals" "judge" "LCordSeals$Judge;") := ⟨in2 _ (List.mem_of_getElem? (i := 83) rfl), rfl⟩
theorem mw_130 : mT (Cond.laysFinal RX9 "CordSeals" "text" "LCordSeals$Text;") := ⟨in2 _ (List.mem_of_getElem? (i := 81) rfl), rfl⟩
theorem mw_131 : mT (Cond.laysFinal RX1 "CordSeals$Judge" "common" "LCordSeals$Years;") := ⟨in1 _ (List.mem_of_getElem? (i := 126) rfl), rfl⟩
theorem mw_132 : mT (Cond.laysFinal RX1 "CordSeals$Judge" "before" "[I") := ⟨in1 _ (List.mem_of_getElem? (i := 124) rfl), rfl⟩
theorem mw_133 : mT (Cond.laysFinal RX1 "CordSeals$Judge" "first" "[I") := ⟨in1 _ (List.mem_of_getElem? (i := 122) rfl), rfl⟩
theorem mw_134 : mT (Cond.laysFinal RX1 "CordSeals$Judge" "reason" "[I") := ⟨in1 _ (List.mem_of_getElem? (i := 120) rfl), rfl⟩
theorem mw_135 : mT (Cond.laysFinal RX1 "CordSeals$Judge" "ofCharters" "[LCordSeals$Years;") := ⟨in1 _ (List.mem_of_getElem? (i := 118) rfl), rfl⟩
theorem mw_136 : mT (Cond.laysFinal RX1 "CordSeals$Judge" "ofSeals" "[LCordSeals$Years;") := ⟨in1 _ (List.mem_of_getElem? (i := 116) rfl), rfl⟩
theorem mw_137 : mT (Cond.laysFinal RX2 "CordSeals$Memory" "ring" "[LCordSeals$State;") := ⟨in2 _ (List.mem_of_getElem? (i := 69) rfl), rfl⟩
theorem mw_138 : mT (Cond.lays RX2 "CordSeals$Memory" "oldest" "I") := ⟨in2 _ (List.mem_of_getElem? (i := 67) rfl), rfl⟩
theorem mw_139 : mT (Cond.lays RX2 "CordSeals$Memory" "count" "I") := ⟨in2 _ (List.mem_of_getElem? (i := 65) rfl), rfl⟩
theorem mw_140 : mT (Cond.laysFinal RX6 "CordSeals$State" "settings" "[I") := ⟨in2 _ (List.mem_of_getElem? (i := 58) rfl), rfl⟩
theorem mw_141 : mT (Cond.laysFinal RX6 "CordSeals$State" "shelves" "LCordSeals$Shelves;") := ⟨in2 _ (List.mem_of_getElem? (i := 56) rfl), rfl⟩
theorem mw_142 : mT (Cond.laysFinal RX6 "CordSeals$State" "seals" "LCordSeals$Seals;") := ⟨in2 _ (List.mem_of_getElem? (i := 54) rfl), rfl⟩
theorem mw_143 : mT (Cond.laysFinal RX6 "CordSeals$State" "dies" "LCordSeals$Dies;") := ⟨in2 _ (List.mem_of_getElem? (i := 52) rfl), rfl⟩
theorem mw_144 : mT (Cond.laysFinal RX6 "CordSeals$State" "reigns" "LCordSeals$Reigns;") := ⟨in2 _ (List.mem_of_getElem? (i := 50) rfl), rfl⟩
theorem mw_145 : mT (Cond.lays RX8 "CordSeals$Years" "spans" "I") := ⟨in1 _ (List.mem_of_getElem? (i := 102) rfl), rfl⟩
theorem mw_146 : mT (Cond.lays RX8 "CordSeals$Years" "high" "I") := ⟨in1 _ (List.mem_of_getElem? (i := 100) rfl), rfl⟩
theorem mw_147 : mT (Cond.lays RX8 "CordSeals$Years" "low" "I") := ⟨in1 _ (List.mem_of_getElem? (i := 98) rfl), rfl⟩
theorem mw_148 : mT (Cond.laysFinal RX3 "CordSeals$Reigns" "colours" "[I") := ⟨in1 _ (List.mem_of_getElem? (i := 162) rfl), rfl⟩
theorem mw_149 : mT (Cond.laysFinal RX3 "CordSeals$Reigns" "begin" "[I") := ⟨in1 _ (List.mem_of_getElem? (i := 160) rfl), rfl⟩
theorem mw_150 : mT (Cond.lays RX3 "CordSeals$Reigns" "count" "I") := ⟨in1 _ (List.mem_of_getElem? (i := 158) rfl), rfl⟩
theorem mw_151 : mT (Cond.laysFinal RX0 "CordSeals$Dies" "crackYears" "[I") := ⟨in1 _ (List.mem_of_getElem? (i := 198) rfl), rfl⟩
theorem mw_152 : mT (Cond.laysFinal RX0 "CordSeals$Dies" "cracks" "[I") := ⟨in1 _ (List.mem_of_getElem? (i := 196) rfl), rfl⟩
theorem mw_153 : mT (Cond.laysFinal RX0 "CordSeals$Dies" "to" "[I") := ⟨in1 _ (List.mem_of_getElem? (i := 194) rfl), rfl⟩
theorem mw_154 : mT (Cond.laysFinal RX0 "CordSeals$Dies" "from" "[I") := ⟨in1 _ (List.mem_of_getElem? (i := 192) rfl), rfl⟩
theorem mw_155 : mT (Cond.laysFinal RX0 "CordSeals$Dies" "house" "[I") := ⟨in1 _ (List.mem_of_getElem? (i := 190) rfl), rfl⟩
theorem mw_156 : mT (Cond.lays RX0 "CordSeals$Dies" "count" "I") := ⟨in1 _ (List.mem_of_getElem? (i := 188) rfl), rfl⟩
theorem mw_157 : mT (Cond.laysFinal RX4 "CordSeals$Seals" "hangsOn" "[I") := ⟨in2 _ (List.mem_of_getElem? (i := 7) rfl), rfl⟩
theorem mw_158 : mT (Cond.laysFinal RX4 "CordSeals$Seals" "shown" "[I") := ⟨in2 _ (List.mem_of_getElem? (i := 5) rfl), rfl⟩
theorem mw_159 : mT (Cond.laysFinal RX4 "CordSeals$Seals" "bubbles" "[I") := ⟨in2 _ (List.mem_of_getElem? (i := 3) rfl), rfl⟩
theorem mw_160 : mT (Cond.laysFinal RX4 "CordSeals$Seals" "colour" "[I") := ⟨in2 _ (List.mem_of_getElem? (i := 1) rfl), rfl⟩
theorem mw_161 : mT (Cond.laysFinal RX4 "CordSeals$Seals" "material" "[I") := ⟨in1 _ (List.mem_of_getElem? (i := 239) rfl), rfl⟩
theorem mw_162 : mT (Cond.laysFinal RX4 "CordSeals$Seals" "die" "[I") := ⟨in1 _ (List.mem_of_getElem? (i := 237) rfl), rfl⟩
theorem mw_163 : mT (Cond.lays RX4 "CordSeals$Seals" "count" "I") := ⟨in1 _ (List.mem_of_getElem? (i := 235) rfl), rfl⟩
theorem mw_164 : mT (Cond.laysFinal RX5 "CordSeals$Shelves" "seals" "[I") := ⟨in2 _ (List.mem_of_getElem? (i := 24) rfl), rfl⟩
theorem mw_165 : mT (Cond.laysFinal RX5 "CordSeals$Shelves" "count" "[I") := ⟨in2 _ (List.mem_of_getElem? (i := 22) rfl), rfl⟩
theorem mw_166 : mT (Cond.code yX10_init cX10_init 1 none) := ⟨in5 _ (List.mem_of_getElem? (i := 211) rfl), rfl⟩
theorem mw_167 : mT (Cond.code yX10_fresh cX10_fresh 2 none) := ⟨in5 _ (List.mem_of_getElem? (i := 215) rfl), rfl⟩
theorem mw_168 : mT (Cond.initialized RX10) := ⟨in1 _ (List.mem_of_getElem? (i := 11) rfl), rfl⟩
theorem mw_169 : mT (Cond.static yX10_fresh) := ⟨in5 _ (List.mem_of_getElem? (i := 214) rfl), rfl⟩
theorem mw_170 : mT (Cond.methodLink RX10 35 yX10_fresh) := ⟨in5 _ (List.mem_of_getElem? (i := 213) rfl), rfl⟩
theorem mw_171 : mT (Cond.fieldLink RX10 32 "CordSealsModel" "place" "[I") := ⟨in5 _ (List.mem_of_getElem? (i := 233) rfl), rfl⟩
theorem mw_172 : mT (Cond.fieldLink RX10 29 "CordSealsModel" "text" "[I") := ⟨in5 _ (List.mem_of_getElem? (i := 224) rfl), rfl⟩
theorem mw_173 : mT (Cond.fieldLink RX10 25 "CordSealsModel" "isKept" "[Z") := ⟨in5 _ (List.mem_of_getElem? (i := 223) rfl), rfl⟩
theorem mw_174 : mT (Cond.fieldLink RX10 22 "CordSealsModel" "kept" "[I") := ⟨in5 _ (List.mem_of_getElem? (i := 222) rfl), rfl⟩
theorem mw_175 : mT (Cond.fieldLink RX10 19 "CordSealsModel" "book" "[I") := ⟨in5 _ (List.mem_of_getElem? (i := 220) rfl), rfl⟩
theorem mw_176 : mT (Cond.fieldLink RX10 16 "CordSealsModel" "read" "[I") := ⟨in5 _ (List.mem_of_getElem? (i := 219) rfl), rfl⟩
theorem mw_177 : mT (Cond.fieldLink RX10 13 "CordSealsModel" "trial" "[I") := ⟨in5 _ (List.mem_of_getElem? (i := 218) rfl), rfl⟩
theorem mw_178 : mT (Cond.fieldLink RX10 7 "CordSealsModel" "now" "[I") := ⟨in5 _ (List.mem_of_getElem? (i := 217) rfl), rfl⟩
theorem mw_179 : mT (Cond.methodLink RX10 1 objectInit) := ⟨in5 _ (List.mem_of_getElem? (i := 212) rfl), rfl⟩
theorem mw_180 : mT (Cond.laysFinal RX10 "CordSealsModel" "place" "[I") := ⟨in6 _ (List.mem_of_getElem? (i := 28) rfl), rfl⟩
theorem mw_181 : mT (Cond.lays RX10 "CordSealsModel" "counted" "I") := ⟨in6 _ (List.mem_of_getElem? (i := 26) rfl), rfl⟩
theorem mw_182 : mT (Cond.lays RX10 "CordSealsModel" "mask" "I") := ⟨in6 _ (List.mem_of_getElem? (i := 24) rfl), rfl⟩
theorem mw_183 : mT (Cond.lays RX10 "CordSealsModel" "high" "I") := ⟨in6 _ (List.mem_of_getElem? (i := 22) rfl), rfl⟩
theorem mw_184 : mT (Cond.lays RX10 "CordSealsModel" "low" "I") := ⟨in6 _ (List.mem_of_getElem? (i := 20) rfl), rfl⟩
theorem mw_185 : mT (Cond.lays RX10 "CordSealsModel" "leftOut" "I") := ⟨in6 _ (List.mem_of_getElem? (i := 18) rfl), rfl⟩
theorem mw_186 : mT (Cond.lays RX10 "CordSealsModel" "good" "Z") := ⟨in6 _ (List.mem_of_getElem? (i := 16) rfl), rfl⟩
theorem mw_187 : mT (Cond.lays RX10 "CordSealsModel" "at" "I") := ⟨in6 _ (List.mem_of_getElem? (i := 14) rfl), rfl⟩
theorem mw_188 : mT (Cond.lays RX10 "CordSealsModel" "length" "I") := ⟨in6 _ (List.mem_of_getElem? (i := 12) rfl), rfl⟩
theorem mw_189 : mT (Cond.laysFinal RX10 "CordSealsModel" "text" "[I") := ⟨in6 _ (List.mem_of_getElem? (i := 10) rfl), rfl⟩
theorem mw_190 : mT (Cond.laysFinal RX10 "CordSealsModel" "isKept" "[Z") := ⟨in6 _ (List.mem_of_getElem? (i := 8) rfl), rfl⟩
theorem mw_191 : mT (Cond.laysFinal RX10 "CordSealsModel" "kept" "[I") := ⟨in6 _ (List.mem_of_getElem? (i := 6) rfl), rfl⟩
theorem mw_192 : mT (Cond.lays RX10 "CordSealsModel" "states" "I") := ⟨in6 _ (List.mem_of_getElem? (i := 4) rfl), rfl⟩
theorem mw_193 : mT (Cond.laysFinal RX10 "CordSealsModel" "book" "[I") := ⟨in6 _ (List.mem_of_getElem? (i := 2) rfl), rfl⟩
theorem mw_194 : mT (Cond.laysFinal RX10 "CordSealsModel" "read" "[I") := ⟨in6 _ (List.mem_of_getElem? (i := 0) rfl), rfl⟩
theorem mw_195 : mT (Cond.laysFinal RX10 "CordSealsModel" "trial" "[I") := ⟨in5 _ (List.mem_of_getElem? (i := 238) rfl), rfl⟩
theorem mw_196 : mT (Cond.laysFinal RX10 "CordSealsModel" "now" "[I") := ⟨in5 _ (List.mem_of_getElem? (i := 236) rfl), rfl⟩
theorem mw_197 : mT (Cond.lays RX10 "CordSealsModel" "refusal" "I") := ⟨in5 _ (List.mem_of_getElem? (i := 234) rfl), rfl⟩
theorem mw_198 : mT (Cond.codeWith yL_append cL_append 4 (some .int) [(0, 9, 12, 13), (0, 9, 15, 15)]) := ⟨in2 _ (List.mem_of_getElem? (i := 171) rfl), rfl⟩
theorem mw_199 : mT (Cond.code yX7_add cX7_add 2 (some .int)) := ⟨in3 _ (List.mem_of_getElem? (i := 31) rfl), rfl⟩
theorem mw_200 : mT (Cond.selects RX7 yX7_add yX7_add) := ⟨in3 _ (List.mem_of_getElem? (i := 30) rfl), rfl⟩
theorem mw_201 : mT (Cond.instanceMethod yX7_add) := ⟨in3 _ (List.mem_of_getElem? (i := 29) rfl), rfl⟩
theorem mw_202 : mT (Cond.methodLink RX9 59 yX7_add) := ⟨in3 _ (List.mem_of_getElem? (i := 28) rfl), rfl⟩
theorem mw_203 : mT (Cond.initialized "java/lang/IllegalStateException") := ⟨in1 _ (List.mem_of_getElem? (i := 16) rfl), rfl⟩
theorem mw_204 : mT (Cond.classLink RX9 377 "java/lang/IllegalStateException") := ⟨in3 _ (List.mem_of_getElem? (i := 12) rfl), rfl⟩
theorem mw_205 : mT (Cond.code yX9_mustBeFree cX9_mustBeFree 1 none) := ⟨in3 _ (List.mem_of_getElem? (i := 11) rfl), rfl⟩
theorem mw_206 : mT (Cond.static yX9_mustBeFree) := ⟨in3 _ (List.mem_of_getElem? (i := 10) rfl), rfl⟩
theorem mw_207 : mT (Cond.methodLink RX9 56 yX9_mustBeFree) := ⟨in3 _ (List.mem_of_getElem? (i := 9) rfl), rfl⟩
theorem mw_208 : mT (Cond.initialized "java/lang/IllegalArgumentException") := ⟨in1 _ (List.mem_of_getElem? (i := 15) rfl), rfl⟩
theorem mw_209 : mT (Cond.classLink RX9 372 "java/lang/IllegalArgumentException") := ⟨in2 _ (List.mem_of_getElem? (i := 181) rfl), rfl⟩
theorem mw_210 : mT (Cond.code yX9_mustFit cX9_mustFit 1 none) := ⟨in2 _ (List.mem_of_getElem? (i := 180) rfl), rfl⟩
theorem mw_211 : mT (Cond.static yX9_mustFit) := ⟨in2 _ (List.mem_of_getElem? (i := 179) rfl), rfl⟩
theorem mw_212 : mT (Cond.methodLink RX9 48 yX9_mustFit) := ⟨in2 _ (List.mem_of_getElem? (i := 178) rfl), rfl⟩
theorem mw_213 : mT (Cond.fieldLink RX9 52 "CordSeals$Text" "length" "I") := ⟨in1 _ (List.mem_of_getElem? (i := 35) rfl), rfl⟩
theorem mw_214 : mT (Cond.code yX9_append cX9_append 2 (some .int)) := ⟨in2 _ (List.mem_of_getElem? (i := 177) rfl), rfl⟩
theorem mw_215 : mT (Cond.initialized RX9) := ⟨in1 _ (List.mem_of_getElem? (i := 1) rfl), rfl⟩
theorem mw_216 : mT (Cond.selects RX9 yX9_append yX9_append) := ⟨in2 _ (List.mem_of_getElem? (i := 176) rfl), rfl⟩
theorem mw_217 : mT (Cond.instanceMethod yX9_append) := ⟨in2 _ (List.mem_of_getElem? (i := 175) rfl), rfl⟩
theorem mw_218 : mT (Cond.methodLink RL 7 yX9_append) := ⟨in2 _ (List.mem_of_getElem? (i := 174) rfl), rfl⟩
theorem mw_219 : mT (Cond.classLink RL 15 "java/lang/IllegalStateException") := ⟨in2 _ (List.mem_of_getElem? (i := 173) rfl), rfl⟩
theorem mw_220 : mT (Cond.classLink RL 13 "java/lang/IllegalArgumentException") := ⟨in2 _ (List.mem_of_getElem? (i := 172) rfl), rfl⟩
theorem mw_221 : mT (Cond.fieldLink RX7 15 "CordSeals$Text" "length" "I") := ⟨in1 _ (List.mem_of_getElem? (i := 34) rfl), rfl⟩
theorem mw_222 : mT (Cond.code yX10_append cX10_append 2 (some .int)) := ⟨in6 _ (List.mem_of_getElem? (i := 38) rfl), rfl⟩
theorem mw_223 : mT (Cond.fieldLink RX10 39 "CordSealsModel" "refusal" "I") := ⟨in5 _ (List.mem_of_getElem? (i := 216) rfl), rfl⟩
theorem mw_224 : mT (Cond.code yX10_refused cX10_refused 2 (some .boolean)) := ⟨in6 _ (List.mem_of_getElem? (i := 46) rfl), rfl⟩
theorem mw_225 : mT (Cond.selects RX10 yX10_refused yX10_refused) := ⟨in0 _ (List.mem_of_getElem? (i := 31) rfl), rfl⟩
theorem mw_226 : mT (Cond.instanceMethod yX10_refused) := ⟨in6 _ (List.mem_of_getElem? (i := 45) rfl), rfl⟩
theorem mw_227 : mT (Cond.methodLink RX10 150 yX10_refused) := ⟨in6 _ (List.mem_of_getElem? (i := 43) rfl), rfl⟩
theorem mw_228 : mT (Cond.code yX10_in cX10_in 6 (some .boolean)) := ⟨in6 _ (List.mem_of_getElem? (i := 42) rfl), rfl⟩
theorem mw_229 : mT (Cond.static yX10_in) := ⟨in6 _ (List.mem_of_getElem? (i := 41) rfl), rfl⟩
theorem mw_230 : mT (Cond.methodLink RX10 49 yX10_in) := ⟨in6 _ (List.mem_of_getElem? (i := 40) rfl), rfl⟩
theorem mw_231 : mT (Cond.fieldLink RX10 147 "CordSealsModel" "length" "I") := ⟨in5 _ (List.mem_of_getElem? (i := 225) rfl), rfl⟩
theorem mw_232 : mT (Cond.constantLong RX10 145 (255)) := ⟨in6 _ (List.mem_of_getElem? (i := 39) rfl), rfl⟩
theorem mw_233 : mT (Cond.code yX10_thrown cX10_thrown 1 (some .int)) := ⟨in6 _ (List.mem_of_getElem? (i := 34) rfl), rfl⟩
theorem mw_234 : mT (Cond.code yX9_clearText cX9_clearText 1 (some .int)) := ⟨in2 _ (List.mem_of_getElem? (i := 100) rfl), rfl⟩
theorem mw_235 : mT (Cond.code yX7_makeEmpty cX7_makeEmpty 2 (some .int)) := ⟨in2 _ (List.mem_of_getElem? (i := 104) rfl), rfl⟩
theorem mw_236 : mT (Cond.selects RX7 yX7_makeEmpty yX7_makeEmpty) := ⟨in2 _ (List.mem_of_getElem? (i := 103) rfl), rfl⟩
theorem mw_237 : mT (Cond.instanceMethod yX7_makeEmpty) := ⟨in2 _ (List.mem_of_getElem? (i := 102) rfl), rfl⟩
theorem mw_238 : mT (Cond.methodLink RX9 63 yX7_makeEmpty) := ⟨in2 _ (List.mem_of_getElem? (i := 101) rfl), rfl⟩
theorem mw_239 : mT (Cond.code yX10_clearText cX10_clearText 2 (some .int)) := ⟨in6 _ (List.mem_of_getElem? (i := 50) rfl), rfl⟩
theorem mw_240 : mT (Cond.code yX9_errorPosition cX9_errorPosition 1 (some .int)) := ⟨in2 _ (List.mem_of_getElem? (i := 108) rfl), rfl⟩
theorem mw_241 : mT (Cond.instanceMethod yX7_readEntry) := ⟨in2 _ (List.mem_of_getElem? (i := 127) rfl), rfl⟩
theorem mw_242 : mT (Cond.methodLink RX7 37 yX7_readEntry) := ⟨in2 _ (List.mem_of_getElem? (i := 125) rfl), rfl⟩
theorem mw_243 : mT (Cond.code yX7_readSign cX7_readSign 2 none) := ⟨in2 _ (List.mem_of_getElem? (i := 124) rfl), rfl⟩
theorem mw_244 : mT (Cond.selects RX7 yX7_readSign yX7_readSign) := ⟨in0 _ (List.mem_of_getElem? (i := 0) rfl), rfl⟩
theorem mw_245 : mT (Cond.instanceMethod yX7_readSign) := ⟨in2 _ (List.mem_of_getElem? (i := 123) rfl), rfl⟩
theorem mw_246 : mT (Cond.methodLink RX7 33 yX7_readSign) := ⟨in2 _ (List.mem_of_getElem? (i := 121) rfl), rfl⟩
theorem mw_247 : mT (Cond.code yX7_readNext cX7_readNext 1 (some .boolean)) := ⟨in2 _ (List.mem_of_getElem? (i := 120) rfl), rfl⟩
theorem mw_248 : mT (Cond.selects RX7 yX7_readNext yX7_readNext) := ⟨in2 _ (List.mem_of_getElem? (i := 119) rfl), rfl⟩
theorem mw_249 : mT (Cond.instanceMethod yX7_readNext) := ⟨in2 _ (List.mem_of_getElem? (i := 118) rfl), rfl⟩
theorem mw_250 : mT (Cond.methodLink RX7 22 yX7_readNext) := ⟨in2 _ (List.mem_of_getElem? (i := 117) rfl), rfl⟩
theorem mw_251 : mT (Cond.code yX7_toStart cX7_toStart 1 none) := ⟨in2 _ (List.mem_of_getElem? (i := 116) rfl), rfl⟩
theorem mw_252 : mT (Cond.selects RX7 yX7_toStart yX7_toStart) := ⟨in2 _ (List.mem_of_getElem? (i := 115) rfl), rfl⟩
theorem mw_253 : mT (Cond.instanceMethod yX7_toStart) := ⟨in2 _ (List.mem_of_getElem? (i := 114) rfl), rfl⟩
theorem mw_254 : mT (Cond.methodLink RX7 19 yX7_toStart) := ⟨in2 _ (List.mem_of_getElem? (i := 113) rfl), rfl⟩
theorem mw_255 : mT (Cond.fieldLink RX7 30 "CordSeals$Text" "at" "I") := ⟨in1 _ (List.mem_of_getElem? (i := 37) rfl), rfl⟩
theorem mw_256 : mT (Cond.fieldLink RX7 26 "CordSeals$Text" "failed" "Z") := ⟨in1 _ (List.mem_of_getElem? (i := 38) rfl), rfl⟩
theorem mw_257 : mT (Cond.code yX7_firstError cX7_firstError 2 (some .int)) := ⟨in2 _ (List.mem_of_getElem? (i := 112) rfl), rfl⟩
theorem mw_258 : mT (Cond.selects RX7 yX7_firstError yX7_firstError) := ⟨in2 _ (List.mem_of_getElem? (i := 111) rfl), rfl⟩
theorem mw_259 : mT (Cond.instanceMethod yX7_firstError) := ⟨in2 _ (List.mem_of_getElem? (i := 110) rfl), rfl⟩
theorem mw_260 : mT (Cond.methodLink RX9 67 yX7_firstError) := ⟨in2 _ (List.mem_of_getElem? (i := 109) rfl), rfl⟩
theorem mw_261 : mT (Cond.selects RX7 yX7_readRising yX7_readRising) := ⟨in0 _ (List.mem_of_getElem? (i := 6) rfl), rfl⟩
theorem mw_262 : mT (Cond.instanceMethod yX7_readRising) := ⟨in2 _ (List.mem_of_getElem? (i := 147) rfl), rfl⟩
theorem mw_263 : mT (Cond.methodLink RX7 65 yX7_readRising) := ⟨in2 _ (List.mem_of_getElem? (i := 145) rfl), rfl⟩
theorem mw_264 : mT (Cond.code yX7_isDigit cX7_isDigit 3 (some .boolean)) := ⟨in2 _ (List.mem_of_getElem? (i := 144) rfl), rfl⟩
theorem mw_265 : mT (Cond.selects RX7 yX7_isDigit yX7_isDigit) := ⟨in0 _ (List.mem_of_getElem? (i := 5) rfl), rfl⟩
theorem mw_266 : mT (Cond.instanceMethod yX7_isDigit) := ⟨in2 _ (List.mem_of_getElem? (i := 143) rfl), rfl⟩
theorem mw_267 : mT (Cond.methodLink RX7 94 yX7_isDigit) := ⟨in2 _ (List.mem_of_getElem? (i := 141) rfl), rfl⟩
theorem mw_268 : mT (Cond.code yX7_readDigit cX7_readDigit 3 (some .int)) := ⟨in2 _ (List.mem_of_getElem? (i := 140) rfl), rfl⟩
theorem mw_269 : mT (Cond.selects RX7 yX7_readDigit yX7_readDigit) := ⟨in0 _ (List.mem_of_getElem? (i := 4) rfl), rfl⟩
theorem mw_270 : mT (Cond.instanceMethod yX7_readDigit) := ⟨in2 _ (List.mem_of_getElem? (i := 139) rfl), rfl⟩
theorem mw_271 : mT (Cond.methodLink RX7 72 yX7_readDigit) := ⟨in2 _ (List.mem_of_getElem? (i := 137) rfl), rfl⟩
theorem mw_272 : mT (Cond.code yX7_readYear cX7_readYear 3 (some .int)) := ⟨in2 _ (List.mem_of_getElem? (i := 136) rfl), rfl⟩
theorem mw_273 : mT (Cond.selects RX7 yX7_readYear yX7_readYear) := ⟨in0 _ (List.mem_of_getElem? (i := 3) rfl), rfl⟩
theorem mw_274 : mT (Cond.instanceMethod yX7_readYear) := ⟨in2 _ (List.mem_of_getElem? (i := 135) rfl), rfl⟩
theorem mw_275 : mT (Cond.methodLink RX7 58 yX7_readYear) := ⟨in2 _ (List.mem_of_getElem? (i := 133) rfl), rfl⟩
theorem mw_276 : mT (Cond.fieldLink RX7 69 "CordSeals$Text" "set" "I") := ⟨in1 _ (List.mem_of_getElem? (i := 52) rfl), rfl⟩
theorem mw_277 : mT (Cond.fieldLink RX7 62 "CordSeals$Text" "year" "I") := ⟨in1 _ (List.mem_of_getElem? (i := 44) rfl), rfl⟩
theorem mw_278 : mT (Cond.code yX7_readReign cX7_readReign 1 none) := ⟨in2 _ (List.mem_of_getElem? (i := 132) rfl), rfl⟩
theorem mw_279 : mT (Cond.selects RX7 yX7_readReign yX7_readReign) := ⟨in0 _ (List.mem_of_getElem? (i := 2) rfl), rfl⟩
theorem mw_280 : mT (Cond.instanceMethod yX7_readReign) := ⟨in2 _ (List.mem_of_getElem? (i := 131) rfl), rfl⟩
theorem mw_281 : mT (Cond.methodLink RX7 43 yX7_readReign) := ⟨in2 _ (List.mem_of_getElem? (i := 129) rfl), rfl⟩
theorem mw_282 : mT (Cond.fieldLink RX7 40 "CordSeals$Text" "kind" "I") := ⟨in1 _ (List.mem_of_getElem? (i := 40) rfl), rfl⟩
theorem mw_283 : mT (Cond.code yX7_readEntry cX7_readEntry 1 none) := ⟨in2 _ (List.mem_of_getElem? (i := 128) rfl), rfl⟩
theorem mw_284 : mT (Cond.selects RX7 yX7_readEntry yX7_readEntry) := ⟨in0 _ (List.mem_of_getElem? (i := 1) rfl), rfl⟩
theorem mw_285 : mT (Cond.selects RX7 yX7_readHanging yX7_readHanging) := ⟨in0 _ (List.mem_of_getElem? (i := 11) rfl), rfl⟩
theorem mw_286 : mT (Cond.instanceMethod yX7_readHanging) := ⟨in2 _ (List.mem_of_getElem? (i := 167) rfl), rfl⟩
theorem mw_287 : mT (Cond.methodLink RX7 55 yX7_readHanging) := ⟨in2 _ (List.mem_of_getElem? (i := 165) rfl), rfl⟩
theorem mw_288 : mT (Cond.code yX7_readColour cX7_readColour 1 (some .int)) := ⟨in2 _ (List.mem_of_getElem? (i := 164) rfl), rfl⟩
theorem mw_289 : mT (Cond.selects RX7 yX7_readColour yX7_readColour) := ⟨in0 _ (List.mem_of_getElem? (i := 10) rfl), rfl⟩
theorem mw_290 : mT (Cond.instanceMethod yX7_readColour) := ⟨in2 _ (List.mem_of_getElem? (i := 163) rfl), rfl⟩
theorem mw_291 : mT (Cond.methodLink RX7 82 yX7_readColour) := ⟨in2 _ (List.mem_of_getElem? (i := 161) rfl), rfl⟩
theorem mw_292 : mT (Cond.fieldLink RX7 88 "CordSeals$Text" "bubbles" "I") := ⟨in1 _ (List.mem_of_getElem? (i := 50) rfl), rfl⟩
theorem mw_293 : mT (Cond.fieldLink RX7 85 "CordSeals$Text" "colour" "I") := ⟨in1 _ (List.mem_of_getElem? (i := 48) rfl), rfl⟩
theorem mw_294 : mT (Cond.code yX7_readSeal cX7_readSeal 1 none) := ⟨in2 _ (List.mem_of_getElem? (i := 160) rfl), rfl⟩
theorem mw_295 : mT (Cond.selects RX7 yX7_readSeal yX7_readSeal) := ⟨in0 _ (List.mem_of_getElem? (i := 9) rfl), rfl⟩
theorem mw_296 : mT (Cond.instanceMethod yX7_readSeal) := ⟨in2 _ (List.mem_of_getElem? (i := 159) rfl), rfl⟩
theorem mw_297 : mT (Cond.methodLink RX7 52 yX7_readSeal) := ⟨in2 _ (List.mem_of_getElem? (i := 157) rfl), rfl⟩
theorem mw_298 : mT (Cond.code yX7_readCrack cX7_readCrack 1 none) := ⟨in2 _ (List.mem_of_getElem? (i := 156) rfl), rfl⟩
theorem mw_299 : mT (Cond.selects RX7 yX7_readCrack yX7_readCrack) := ⟨in0 _ (List.mem_of_getElem? (i := 8) rfl), rfl⟩
theorem mw_300 : mT (Cond.instanceMethod yX7_readCrack) := ⟨in2 _ (List.mem_of_getElem? (i := 155) rfl), rfl⟩
theorem mw_301 : mT (Cond.methodLink RX7 49 yX7_readCrack) := ⟨in2 _ (List.mem_of_getElem? (i := 153) rfl), rfl⟩
theorem mw_302 : mT (Cond.fieldLink RX7 79 "CordSeals$Text" "lastYear" "I") := ⟨in1 _ (List.mem_of_getElem? (i := 46) rfl), rfl⟩
theorem mw_303 : mT (Cond.fieldLink RX7 76 "CordSeals$Text" "number" "I") := ⟨in1 _ (List.mem_of_getElem? (i := 42) rfl), rfl⟩
theorem mw_304 : mT (Cond.code yX7_readDie cX7_readDie 1 none) := ⟨in2 _ (List.mem_of_getElem? (i := 152) rfl), rfl⟩
theorem mw_305 : mT (Cond.selects RX7 yX7_readDie yX7_readDie) := ⟨in0 _ (List.mem_of_getElem? (i := 7) rfl), rfl⟩
theorem mw_306 : mT (Cond.instanceMethod yX7_readDie) := ⟨in2 _ (List.mem_of_getElem? (i := 151) rfl), rfl⟩
theorem mw_307 : mT (Cond.methodLink RX7 46 yX7_readDie) := ⟨in2 _ (List.mem_of_getElem? (i := 149) rfl), rfl⟩
theorem mw_308 : mT (Cond.code yX7_readRising cX7_readRising 4 (some .int)) := ⟨in2 _ (List.mem_of_getElem? (i := 148) rfl), rfl⟩
theorem mw_309 : mT (Cond.fieldLink RX7 91 "CordSeals$Text" "hangsOn" "I") := ⟨in1 _ (List.mem_of_getElem? (i := 54) rfl), rfl⟩
theorem mw_310 : mT (Cond.code yX7_readHanging cX7_readHanging 3 none) := ⟨in2 _ (List.mem_of_getElem? (i := 168) rfl), rfl⟩
theorem mw_311 : mT (Cond.code yX10_errorPosition cX10_errorPosition 1 (some .int)) := ⟨in6 _ (List.mem_of_getElem? (i := 54) rfl), rfl⟩
theorem mw_312 : mT (Cond.methodLink RX10 164 yX10_eat) := ⟨in6 _ (List.mem_of_getElem? (i := 67) rfl), rfl⟩
theorem mw_313 : mT (Cond.code yX10_here cX10_here 1 (some .int)) := ⟨in6 _ (List.mem_of_getElem? (i := 66) rfl), rfl⟩
theorem mw_314 : mT (Cond.selects RX10 yX10_here yX10_here) := ⟨in0 _ (List.mem_of_getElem? (i := 34) rfl), rfl⟩
theorem mw_315 : mT (Cond.instanceMethod yX10_here) := ⟨in6 _ (List.mem_of_getElem? (i := 65) rfl), rfl⟩
theorem mw_316 : mT (Cond.methodLink RX10 160 yX10_here) := ⟨in6 _ (List.mem_of_getElem? (i := 63) rfl), rfl⟩
theorem mw_317 : mT (Cond.code yX10_readEntry cX10_readEntry 2 none) := ⟨in6 _ (List.mem_of_getElem? (i := 62) rfl), rfl⟩
theorem mw_318 : mT (Cond.selects RX10 yX10_readEntry yX10_readEntry) := ⟨in0 _ (List.mem_of_getElem? (i := 33) rfl), rfl⟩
theorem mw_319 : mT (Cond.instanceMethod yX10_readEntry) := ⟨in6 _ (List.mem_of_getElem? (i := 61) rfl), rfl⟩
theorem mw_320 : mT (Cond.methodLink RX10 236 yX10_readEntry) := ⟨in6 _ (List.mem_of_getElem? (i := 59) rfl), rfl⟩
theorem mw_321 : mT (Cond.fieldLink RX10 172 "CordSealsModel" "leftOut" "I") := ⟨in5 _ (List.mem_of_getElem? (i := 228) rfl), rfl⟩
theorem mw_322 : mT (Cond.fieldLink RX10 156 "CordSealsModel" "good" "Z") := ⟨in5 _ (List.mem_of_getElem? (i := 227) rfl), rfl⟩
theorem mw_323 : mT (Cond.fieldLink RX10 153 "CordSealsModel" "at" "I") := ⟨in5 _ (List.mem_of_getElem? (i := 226) rfl), rfl⟩
theorem mw_324 : mT (Cond.code yX10_readAll cX10_readAll 1 (some .int)) := ⟨in6 _ (List.mem_of_getElem? (i := 58) rfl), rfl⟩
theorem mw_325 : mT (Cond.selects RX10 yX10_readAll yX10_readAll) := ⟨in0 _ (List.mem_of_getElem? (i := 32) rfl), rfl⟩
theorem mw_326 : mT (Cond.instanceMethod yX10_readAll) := ⟨in6 _ (List.mem_of_getElem? (i := 57) rfl), rfl⟩
theorem mw_327 : mT (Cond.methodLink RX10 239 yX10_readAll) := ⟨in6 _ (List.mem_of_getElem? (i := 55) rfl), rfl⟩
theorem mw_328 : mT (Cond.static yX10_canReign) := ⟨in6 _ (List.mem_of_getElem? (i := 88) rfl), rfl⟩
theorem mw_329 : mT (Cond.methodLink RX10 181 yX10_canReign) := ⟨in6 _ (List.mem_of_getElem? (i := 87) rfl), rfl⟩
theorem mw_330 : mT (Cond.code yX10_ascending cX10_ascending 6 (some .int)) := ⟨in6 _ (List.mem_of_getElem? (i := 86) rfl), rfl⟩
theorem mw_331 : mT (Cond.selects RX10 yX10_ascending yX10_ascending) := ⟨in0 _ (List.mem_of_getElem? (i := 39) rfl), rfl⟩
theorem mw_332 : mT (Cond.instanceMethod yX10_ascending) := ⟨in6 _ (List.mem_of_getElem? (i := 85) rfl), rfl⟩
theorem mw_333 : mT (Cond.methodLink RX10 178 yX10_ascending) := ⟨in6 _ (List.mem_of_getElem? (i := 83) rfl), rfl⟩
theorem mw_334 : mT (Cond.code yX10_digit cX10_digit 4 (some .int)) := ⟨in6 _ (List.mem_of_getElem? (i := 82) rfl), rfl⟩
theorem mw_335 : mT (Cond.selects RX10 yX10_digit yX10_digit) := ⟨in0 _ (List.mem_of_getElem? (i := 38) rfl), rfl⟩
theorem mw_336 : mT (Cond.instanceMethod yX10_digit) := ⟨in6 _ (List.mem_of_getElem? (i := 81) rfl), rfl⟩
theorem mw_337 : mT (Cond.methodLink RX10 168 yX10_digit) := ⟨in6 _ (List.mem_of_getElem? (i := 79) rfl), rfl⟩
theorem mw_338 : mT (Cond.code yX10_readYear cX10_readYear 3 (some .int)) := ⟨in6 _ (List.mem_of_getElem? (i := 78) rfl), rfl⟩
theorem mw_339 : mT (Cond.selects RX10 yX10_readYear yX10_readYear) := ⟨in0 _ (List.mem_of_getElem? (i := 37) rfl), rfl⟩
theorem mw_340 : mT (Cond.instanceMethod yX10_readYear) := ⟨in6 _ (List.mem_of_getElem? (i := 77) rfl), rfl⟩
theorem mw_341 : mT (Cond.methodLink RX10 175 yX10_readYear) := ⟨in6 _ (List.mem_of_getElem? (i := 75) rfl), rfl⟩
theorem mw_342 : mT (Cond.code yX10_readReign cX10_readReign 4 none) := ⟨in6 _ (List.mem_of_getElem? (i := 74) rfl), rfl⟩
theorem mw_343 : mT (Cond.selects RX10 yX10_readReign yX10_readReign) := ⟨in0 _ (List.mem_of_getElem? (i := 36) rfl), rfl⟩
theorem mw_344 : mT (Cond.instanceMethod yX10_readReign) := ⟨in6 _ (List.mem_of_getElem? (i := 73) rfl), rfl⟩
theorem mw_345 : mT (Cond.methodLink RX10 220 yX10_readReign) := ⟨in6 _ (List.mem_of_getElem? (i := 71) rfl), rfl⟩
theorem mw_346 : mT (Cond.code yX10_eat cX10_eat 2 none) := ⟨in6 _ (List.mem_of_getElem? (i := 70) rfl), rfl⟩
theorem mw_347 : mT (Cond.selects RX10 yX10_eat yX10_eat) := ⟨in0 _ (List.mem_of_getElem? (i := 35) rfl), rfl⟩
theorem mw_348 : mT (Cond.instanceMethod yX10_eat) := ⟨in6 _ (List.mem_of_getElem? (i := 69) rfl), rfl⟩
theorem mw_349 : mT (Cond.methodLink RX10 197 yX10_hasDie) := ⟨in6 _ (List.mem_of_getElem? (i := 112) rfl), rfl⟩
theorem mw_350 : mT (Cond.code yX10_readCrack cX10_readCrack 3 none) := ⟨in6 _ (List.mem_of_getElem? (i := 111) rfl), rfl⟩
theorem mw_351 : mT (Cond.selects RX10 yX10_readCrack yX10_readCrack) := ⟨in0 _ (List.mem_of_getElem? (i := 43) rfl), rfl⟩
theorem mw_352 : mT (Cond.instanceMethod yX10_readCrack) := ⟨in6 _ (List.mem_of_getElem? (i := 110) rfl), rfl⟩
theorem mw_353 : mT (Cond.methodLink RX10 226 yX10_readCrack) := ⟨in6 _ (List.mem_of_getElem? (i := 108) rfl), rfl⟩
theorem mw_354 : mT (Cond.code yX10_goDie cX10_goDie 5 (some .int)) := ⟨in6 _ (List.mem_of_getElem? (i := 107) rfl), rfl⟩
theorem mw_355 : mT (Cond.static yX10_goDie) := ⟨in6 _ (List.mem_of_getElem? (i := 106) rfl), rfl⟩
theorem mw_356 : mT (Cond.methodLink RX10 194 yX10_goDie) := ⟨in6 _ (List.mem_of_getElem? (i := 105) rfl), rfl⟩
theorem mw_357 : mT (Cond.code yX10_end cX10_end 1 none) := ⟨in6 _ (List.mem_of_getElem? (i := 104) rfl), rfl⟩
theorem mw_358 : mT (Cond.selects RX10 yX10_end yX10_end) := ⟨in0 _ (List.mem_of_getElem? (i := 42) rfl), rfl⟩
theorem mw_359 : mT (Cond.instanceMethod yX10_end) := ⟨in6 _ (List.mem_of_getElem? (i := 103) rfl), rfl⟩
theorem mw_360 : mT (Cond.methodLink RX10 191 yX10_end) := ⟨in6 _ (List.mem_of_getElem? (i := 101) rfl), rfl⟩
theorem mw_361 : mT (Cond.code yX10_readDie cX10_readDie 4 none) := ⟨in6 _ (List.mem_of_getElem? (i := 100) rfl), rfl⟩
theorem mw_362 : mT (Cond.selects RX10 yX10_readDie yX10_readDie) := ⟨in0 _ (List.mem_of_getElem? (i := 41) rfl), rfl⟩
theorem mw_363 : mT (Cond.instanceMethod yX10_readDie) := ⟨in6 _ (List.mem_of_getElem? (i := 99) rfl), rfl⟩
theorem mw_364 : mT (Cond.methodLink RX10 223 yX10_readDie) := ⟨in6 _ (List.mem_of_getElem? (i := 97) rfl), rfl⟩
theorem mw_365 : mT (Cond.code yX10_goReign cX10_goReign 3 (some .int)) := ⟨in6 _ (List.mem_of_getElem? (i := 96) rfl), rfl⟩
theorem mw_366 : mT (Cond.static yX10_goReign) := ⟨in6 _ (List.mem_of_getElem? (i := 95) rfl), rfl⟩
theorem mw_367 : mT (Cond.methodLink RX10 188 yX10_goReign) := ⟨in6 _ (List.mem_of_getElem? (i := 94) rfl), rfl⟩
theorem mw_368 : mT (Cond.code yX10_goes cX10_goes 2 (some .boolean)) := ⟨in6 _ (List.mem_of_getElem? (i := 93) rfl), rfl⟩
theorem mw_369 : mT (Cond.selects RX10 yX10_goes yX10_goes) := ⟨in0 _ (List.mem_of_getElem? (i := 40) rfl), rfl⟩
theorem mw_370 : mT (Cond.instanceMethod yX10_goes) := ⟨in6 _ (List.mem_of_getElem? (i := 92) rfl), rfl⟩
theorem mw_371 : mT (Cond.methodLink RX10 184 yX10_goes) := ⟨in6 _ (List.mem_of_getElem? (i := 90) rfl), rfl⟩
theorem mw_372 : mT (Cond.code yX10_canReign cX10_canReign 2 (some .boolean)) := ⟨in6 _ (List.mem_of_getElem? (i := 89) rfl), rfl⟩
theorem mw_373 : mT (Cond.selects RX10 yX10_readSeal yX10_readSeal) := ⟨in0 _ (List.mem_of_getElem? (i := 45) rfl), rfl⟩
theorem mw_374 : mT (Cond.instanceMethod yX10_readSeal) := ⟨in6 _ (List.mem_of_getElem? (i := 136) rfl), rfl⟩
theorem mw_375 : mT (Cond.methodLink RX10 232 yX10_readSeal) := ⟨in6 _ (List.mem_of_getElem? (i := 134) rfl), rfl⟩
theorem mw_376 : mT (Cond.code yX10_onCharter cX10_onCharter 4 (some .int)) := ⟨in6 _ (List.mem_of_getElem? (i := 133) rfl), rfl⟩
theorem mw_377 : mT (Cond.static yX10_onCharter) := ⟨in6 _ (List.mem_of_getElem? (i := 132) rfl), rfl⟩
theorem mw_378 : mT (Cond.methodLink RX10 139 yX10_onCharter) := ⟨in6 _ (List.mem_of_getElem? (i := 131) rfl), rfl⟩
theorem mw_379 : mT (Cond.code yX10_goHang cX10_goHang 3 (some .int)) := ⟨in6 _ (List.mem_of_getElem? (i := 130) rfl), rfl⟩
theorem mw_380 : mT (Cond.static yX10_goHang) := ⟨in6 _ (List.mem_of_getElem? (i := 129) rfl), rfl⟩
theorem mw_381 : mT (Cond.methodLink RX10 217 yX10_goHang) := ⟨in6 _ (List.mem_of_getElem? (i := 128) rfl), rfl⟩
theorem mw_382 : mT (Cond.code yX10_hasSeal cX10_hasSeal 2 (some .boolean)) := ⟨in6 _ (List.mem_of_getElem? (i := 127) rfl), rfl⟩
theorem mw_383 : mT (Cond.static yX10_hasSeal) := ⟨in6 _ (List.mem_of_getElem? (i := 126) rfl), rfl⟩
theorem mw_384 : mT (Cond.methodLink RX10 214 yX10_hasSeal) := ⟨in6 _ (List.mem_of_getElem? (i := 125) rfl), rfl⟩
theorem mw_385 : mT (Cond.code yX10_readHang cX10_readHang 4 none) := ⟨in6 _ (List.mem_of_getElem? (i := 124) rfl), rfl⟩
theorem mw_386 : mT (Cond.selects RX10 yX10_readHang yX10_readHang) := ⟨in0 _ (List.mem_of_getElem? (i := 44) rfl), rfl⟩
theorem mw_387 : mT (Cond.instanceMethod yX10_readHang) := ⟨in6 _ (List.mem_of_getElem? (i := 123) rfl), rfl⟩
theorem mw_388 : mT (Cond.methodLink RX10 229 yX10_readHang) := ⟨in6 _ (List.mem_of_getElem? (i := 121) rfl), rfl⟩
theorem mw_389 : mT (Cond.code yX10_goCrack cX10_goCrack 3 (some .int)) := ⟨in6 _ (List.mem_of_getElem? (i := 120) rfl), rfl⟩
theorem mw_390 : mT (Cond.static yX10_goCrack) := ⟨in6 _ (List.mem_of_getElem? (i := 119) rfl), rfl⟩
theorem mw_391 : mT (Cond.methodLink RX10 204 yX10_goCrack) := ⟨in6 _ (List.mem_of_getElem? (i := 118) rfl), rfl⟩
theorem mw_392 : mT (Cond.code yX10_canCrack cX10_canCrack 5 (some .boolean)) := ⟨in6 _ (List.mem_of_getElem? (i := 117) rfl), rfl⟩
theorem mw_393 : mT (Cond.static yX10_canCrack) := ⟨in6 _ (List.mem_of_getElem? (i := 116) rfl), rfl⟩
theorem mw_394 : mT (Cond.methodLink RX10 200 yX10_canCrack) := ⟨in6 _ (List.mem_of_getElem? (i := 115) rfl), rfl⟩
theorem mw_395 : mT (Cond.code yX10_hasDie cX10_hasDie 2 (some .boolean)) := ⟨in6 _ (List.mem_of_getElem? (i := 114) rfl), rfl⟩
theorem mw_396 : mT (Cond.static yX10_hasDie) := ⟨in6 _ (List.mem_of_getElem? (i := 113) rfl), rfl⟩
theorem mw_397 : mT (Cond.code yX10_goSeal cX10_goSeal 7 (some .int)) := ⟨in6 _ (List.mem_of_getElem? (i := 143) rfl), rfl⟩
theorem mw_398 : mT (Cond.static yX10_goSeal) := ⟨in6 _ (List.mem_of_getElem? (i := 142) rfl), rfl⟩
theorem mw_399 : mT (Cond.methodLink RX10 210 yX10_goSeal) := ⟨in6 _ (List.mem_of_getElem? (i := 141) rfl), rfl⟩
theorem mw_400 : mT (Cond.code yX10_areCracks cX10_areCracks 3 (some .boolean)) := ⟨in6 _ (List.mem_of_getElem? (i := 140) rfl), rfl⟩
theorem mw_401 : mT (Cond.static yX10_areCracks) := ⟨in6 _ (List.mem_of_getElem? (i := 139) rfl), rfl⟩
theorem mw_402 : mT (Cond.methodLink RX10 207 yX10_areCracks) := ⟨in6 _ (List.mem_of_getElem? (i := 138) rfl), rfl⟩
theorem mw_403 : mT (Cond.code yX10_readSeal cX10_readSeal 7 none) := ⟨in6 _ (List.mem_of_getElem? (i := 137) rfl), rfl⟩
theorem mw_404 : mT (Cond.codeWith yL_load cL_load 3 (some .int) [(0, 8, 11, 15)]) := ⟨in3 _ (List.mem_of_getElem? (i := 34) rfl), rfl⟩
theorem mw_405 : mT (Cond.code yX9_load cX9_load 2 (some .int)) := ⟨in3 _ (List.mem_of_getElem? (i := 38) rfl), rfl⟩
theorem mw_406 : mT (Cond.selects RX9 yX9_load yX9_load) := ⟨in3 _ (List.mem_of_getElem? (i := 37) rfl), rfl⟩
theorem mw_407 : mT (Cond.instanceMethod yX9_load) := ⟨in3 _ (List.mem_of_getElem? (i := 36) rfl), rfl⟩
theorem mw_408 : mT (Cond.methodLink RL 17 yX9_load) := ⟨in3 _ (List.mem_of_getElem? (i := 35) rfl), rfl⟩
theorem mw_409 : mT (Cond.methodLink RX9 70 yX6_makeEmpty) := ⟨in3 _ (List.mem_of_getElem? (i := 39) rfl), rfl⟩
theorem mw_410 : mT (Cond.methodLink RX9 85 yX6_enter) := ⟨in3 _ (List.mem_of_getElem? (i := 50) rfl), rfl⟩
theorem mw_411 : mT (Cond.methodLink RX9 81 yX7_readNext) := ⟨in3 _ (List.mem_of_getElem? (i := 49) rfl), rfl⟩
theorem mw_412 : mT (Cond.methodLink RX9 78 yX7_toStart) := ⟨in3 _ (List.mem_of_getElem? (i := 48) rfl), rfl⟩
theorem mw_413 : mT (Cond.code yX9_enterText cX9_enterText 3 (some .int)) := ⟨in3 _ (List.mem_of_getElem? (i := 47) rfl), rfl⟩
theorem mw_414 : mT (Cond.selects RX9 yX9_enterText yX9_enterText) := ⟨in0 _ (List.mem_of_getElem? (i := 13) rfl), rfl⟩
theorem mw_415 : mT (Cond.instanceMethod yX9_enterText) := ⟨in3 _ (List.mem_of_getElem? (i := 46) rfl), rfl⟩
theorem mw_416 : mT (Cond.methodLink RX9 75 yX9_enterText) := ⟨in3 _ (List.mem_of_getElem? (i := 44) rfl), rfl⟩
theorem mw_417 : mT (Cond.fieldLink RX2 18 "CordSeals$Memory" "count" "I") := ⟨in2 _ (List.mem_of_getElem? (i := 61) rfl), rfl⟩
theorem mw_418 : mT (Cond.code yX2_forget cX2_forget 1 none) := ⟨in3 _ (List.mem_of_getElem? (i := 43) rfl), rfl⟩
theorem mw_419 : mT (Cond.selects RX2 yX2_forget yX2_forget) := ⟨in3 _ (List.mem_of_getElem? (i := 42) rfl), rfl⟩
theorem mw_420 : mT (Cond.instanceMethod yX2_forget) := ⟨in3 _ (List.mem_of_getElem? (i := 41) rfl), rfl⟩
theorem mw_421 : mT (Cond.methodLink RX9 72 yX2_forget) := ⟨in3 _ (List.mem_of_getElem? (i := 40) rfl), rfl⟩
theorem mw_422 : mT (Cond.code yX3_isBehindAll cX3_isBehindAll 2 (some .boolean)) := ⟨in3 _ (List.mem_of_getElem? (i := 64) rfl), rfl⟩
theorem mw_423 : mT (Cond.selects RX3 yX3_isBehindAll yX3_isBehindAll) := ⟨in3 _ (List.mem_of_getElem? (i := 63) rfl), rfl⟩
theorem mw_424 : mT (Cond.instanceMethod yX3_isBehindAll) := ⟨in3 _ (List.mem_of_getElem? (i := 62) rfl), rfl⟩
theorem mw_425 : mT (Cond.methodLink RX6 120 yX3_isBehindAll) := ⟨in3 _ (List.mem_of_getElem? (i := 61) rfl), rfl⟩
theorem mw_426 : mT (Cond.code yX9_isYear cX9_isYear 1 (some .boolean)) := ⟨in3 _ (List.mem_of_getElem? (i := 60) rfl), rfl⟩
theorem mw_427 : mT (Cond.static yX9_isYear) := ⟨in3 _ (List.mem_of_getElem? (i := 59) rfl), rfl⟩
theorem mw_428 : mT (Cond.fieldLink RX6 126 "CordSeals$Reigns" "colours" "[I") := ⟨in1 _ (List.mem_of_getElem? (i := 156) rfl), rfl⟩
theorem mw_429 : mT (Cond.fieldLink RX6 123 "CordSeals$Reigns" "begin" "[I") := ⟨in1 _ (List.mem_of_getElem? (i := 153) rfl), rfl⟩
theorem mw_430 : mT (Cond.code yX6_addReign cX6_addReign 3 (some .int)) := ⟨in3 _ (List.mem_of_getElem? (i := 57) rfl), rfl⟩
theorem mw_431 : mT (Cond.selects RX6 yX6_addReign yX6_addReign) := ⟨in3 _ (List.mem_of_getElem? (i := 56) rfl), rfl⟩
theorem mw_432 : mT (Cond.instanceMethod yX6_addReign) := ⟨in3 _ (List.mem_of_getElem? (i := 55) rfl), rfl⟩
theorem mw_433 : mT (Cond.methodLink RX6 83 yX6_addReign) := ⟨in3 _ (List.mem_of_getElem? (i := 54) rfl), rfl⟩
theorem mw_434 : mT (Cond.fieldLink RX6 110 "CordSeals$Text" "hangsOn" "I") := ⟨in1 _ (List.mem_of_getElem? (i := 53) rfl), rfl⟩
theorem mw_435 : mT (Cond.fieldLink RX6 103 "CordSeals$Text" "bubbles" "I") := ⟨in1 _ (List.mem_of_getElem? (i := 49) rfl), rfl⟩
theorem mw_436 : mT (Cond.fieldLink RX6 100 "CordSeals$Text" "colour" "I") := ⟨in1 _ (List.mem_of_getElem? (i := 47) rfl), rfl⟩
theorem mw_437 : mT (Cond.fieldLink RX6 90 "CordSeals$Text" "lastYear" "I") := ⟨in1 _ (List.mem_of_getElem? (i := 45) rfl), rfl⟩
theorem mw_438 : mT (Cond.fieldLink RX6 87 "CordSeals$Text" "number" "I") := ⟨in1 _ (List.mem_of_getElem? (i := 41) rfl), rfl⟩
theorem mw_439 : mT (Cond.fieldLink RX6 80 "CordSeals$Text" "set" "I") := ⟨in1 _ (List.mem_of_getElem? (i := 51) rfl), rfl⟩
theorem mw_440 : mT (Cond.fieldLink RX6 77 "CordSeals$Text" "year" "I") := ⟨in1 _ (List.mem_of_getElem? (i := 43) rfl), rfl⟩
theorem mw_441 : mT (Cond.fieldLink RX6 72 "CordSeals$Text" "kind" "I") := ⟨in1 _ (List.mem_of_getElem? (i := 39) rfl), rfl⟩
theorem mw_442 : mT (Cond.code yX6_enter cX6_enter 2 (some .int)) := ⟨in3 _ (List.mem_of_getElem? (i := 53) rfl), rfl⟩
theorem mw_443 : mT (Cond.selects RX6 yX6_enter yX6_enter) := ⟨in3 _ (List.mem_of_getElem? (i := 52) rfl), rfl⟩
theorem mw_444 : mT (Cond.instanceMethod yX6_enter) := ⟨in3 _ (List.mem_of_getElem? (i := 51) rfl), rfl⟩
theorem mw_445 : mT (Cond.selects RX0 yX0_crackedIn yX0_crackedIn) := ⟨in3 _ (List.mem_of_getElem? (i := 79) rfl), rfl⟩
theorem mw_446 : mT (Cond.instanceMethod yX0_crackedIn) := ⟨in3 _ (List.mem_of_getElem? (i := 78) rfl), rfl⟩
theorem mw_447 : mT (Cond.methodLink RX6 144 yX0_crackedIn) := ⟨in3 _ (List.mem_of_getElem? (i := 77) rfl), rfl⟩
theorem mw_448 : mT (Cond.fieldLink RX0 27 "CordSeals$Dies" "count" "I") := ⟨in1 _ (List.mem_of_getElem? (i := 171) rfl), rfl⟩
theorem mw_449 : mT (Cond.code yX0_has cX0_has 2 (some .boolean)) := ⟨in3 _ (List.mem_of_getElem? (i := 76) rfl), rfl⟩
theorem mw_450 : mT (Cond.selects RX0 yX0_has yX0_has) := ⟨in3 _ (List.mem_of_getElem? (i := 75) rfl), rfl⟩
theorem mw_451 : mT (Cond.instanceMethod yX0_has) := ⟨in3 _ (List.mem_of_getElem? (i := 74) rfl), rfl⟩
theorem mw_452 : mT (Cond.methodLink RX6 141 yX0_has) := ⟨in3 _ (List.mem_of_getElem? (i := 73) rfl), rfl⟩
theorem mw_453 : mT (Cond.fieldLink RX6 148 "CordSeals$Dies" "crackYears" "[I") := ⟨in1 _ (List.mem_of_getElem? (i := 187) rfl), rfl⟩
theorem mw_454 : mT (Cond.code yX6_addCrack cX6_addCrack 3 (some .int)) := ⟨in3 _ (List.mem_of_getElem? (i := 72) rfl), rfl⟩
theorem mw_455 : mT (Cond.selects RX6 yX6_addCrack yX6_addCrack) := ⟨in3 _ (List.mem_of_getElem? (i := 71) rfl), rfl⟩
theorem mw_456 : mT (Cond.instanceMethod yX6_addCrack) := ⟨in3 _ (List.mem_of_getElem? (i := 70) rfl), rfl⟩
theorem mw_457 : mT (Cond.methodLink RX6 97 yX6_addCrack) := ⟨in3 _ (List.mem_of_getElem? (i := 69) rfl), rfl⟩
theorem mw_458 : mT (Cond.fieldLink RX6 138 "CordSeals$Dies" "cracks" "[I") := ⟨in1 _ (List.mem_of_getElem? (i := 184) rfl), rfl⟩
theorem mw_459 : mT (Cond.fieldLink RX6 135 "CordSeals$Dies" "to" "[I") := ⟨in1 _ (List.mem_of_getElem? (i := 181) rfl), rfl⟩
theorem mw_460 : mT (Cond.fieldLink RX6 132 "CordSeals$Dies" "from" "[I") := ⟨in1 _ (List.mem_of_getElem? (i := 178) rfl), rfl⟩
theorem mw_461 : mT (Cond.fieldLink RX6 129 "CordSeals$Dies" "house" "[I") := ⟨in1 _ (List.mem_of_getElem? (i := 175) rfl), rfl⟩
theorem mw_462 : mT (Cond.code yX6_addDie cX6_addDie 4 (some .int)) := ⟨in3 _ (List.mem_of_getElem? (i := 68) rfl), rfl⟩
theorem mw_463 : mT (Cond.selects RX6 yX6_addDie yX6_addDie) := ⟨in3 _ (List.mem_of_getElem? (i := 67) rfl), rfl⟩
theorem mw_464 : mT (Cond.instanceMethod yX6_addDie) := ⟨in3 _ (List.mem_of_getElem? (i := 66) rfl), rfl⟩
theorem mw_465 : mT (Cond.methodLink RX6 93 yX6_addDie) := ⟨in3 _ (List.mem_of_getElem? (i := 65) rfl), rfl⟩
theorem mw_466 : mT (Cond.fieldLink RX3 18 "CordSeals$Reigns" "count" "I") := ⟨in1 _ (List.mem_of_getElem? (i := 148) rfl), rfl⟩
theorem mw_467 : mT (Cond.selects RX0 yX0_hasCracks yX0_hasCracks) := ⟨in3 _ (List.mem_of_getElem? (i := 97) rfl), rfl⟩
theorem mw_468 : mT (Cond.instanceMethod yX0_hasCracks) := ⟨in3 _ (List.mem_of_getElem? (i := 96) rfl), rfl⟩
theorem mw_469 : mT (Cond.methodLink RX6 157 yX0_hasCracks) := ⟨in3 _ (List.mem_of_getElem? (i := 95) rfl), rfl⟩
theorem mw_470 : mT (Cond.code yX9_isBubbles cX9_isBubbles 1 (some .boolean)) := ⟨in3 _ (List.mem_of_getElem? (i := 94) rfl), rfl⟩
theorem mw_471 : mT (Cond.static yX9_isBubbles) := ⟨in3 _ (List.mem_of_getElem? (i := 93) rfl), rfl⟩
theorem mw_472 : mT (Cond.code yX9_isMaterial cX9_isMaterial 1 (some .boolean)) := ⟨in3 _ (List.mem_of_getElem? (i := 91) rfl), rfl⟩
theorem mw_473 : mT (Cond.static yX9_isMaterial) := ⟨in3 _ (List.mem_of_getElem? (i := 90) rfl), rfl⟩
theorem mw_474 : mT (Cond.fieldLink RX6 173 "CordSeals$Seals" "hangsOn" "[I") := ⟨in1 _ (List.mem_of_getElem? (i := 233) rfl), rfl⟩
theorem mw_475 : mT (Cond.fieldLink RX6 170 "CordSeals$Seals" "shown" "[I") := ⟨in1 _ (List.mem_of_getElem? (i := 229) rfl), rfl⟩
theorem mw_476 : mT (Cond.fieldLink RX6 168 "CordSeals$Seals" "bubbles" "[I") := ⟨in1 _ (List.mem_of_getElem? (i := 225) rfl), rfl⟩
theorem mw_477 : mT (Cond.fieldLink RX6 166 "CordSeals$Seals" "colour" "[I") := ⟨in1 _ (List.mem_of_getElem? (i := 221) rfl), rfl⟩
theorem mw_478 : mT (Cond.fieldLink RX6 163 "CordSeals$Seals" "material" "[I") := ⟨in1 _ (List.mem_of_getElem? (i := 217) rfl), rfl⟩
theorem mw_479 : mT (Cond.fieldLink RX6 160 "CordSeals$Seals" "die" "[I") := ⟨in1 _ (List.mem_of_getElem? (i := 213) rfl), rfl⟩
theorem mw_480 : mT (Cond.code yX6_addSeal cX6_addSeal 6 (some .int)) := ⟨in3 _ (List.mem_of_getElem? (i := 88) rfl), rfl⟩
theorem mw_481 : mT (Cond.selects RX6 yX6_addSeal yX6_addSeal) := ⟨in3 _ (List.mem_of_getElem? (i := 87) rfl), rfl⟩
theorem mw_482 : mT (Cond.instanceMethod yX6_addSeal) := ⟨in3 _ (List.mem_of_getElem? (i := 86) rfl), rfl⟩
theorem mw_483 : mT (Cond.methodLink RX6 106 yX6_addSeal) := ⟨in3 _ (List.mem_of_getElem? (i := 85) rfl), rfl⟩
theorem mw_484 : mT (Cond.code yX0_yearOfCrack cX0_yearOfCrack 3 (some .int)) := ⟨in3 _ (List.mem_of_getElem? (i := 84) rfl), rfl⟩
theorem mw_485 : mT (Cond.selects RX0 yX0_yearOfCrack yX0_yearOfCrack) := ⟨in3 _ (List.mem_of_getElem? (i := 83) rfl), rfl⟩
theorem mw_486 : mT (Cond.instanceMethod yX0_yearOfCrack) := ⟨in3 _ (List.mem_of_getElem? (i := 82) rfl), rfl⟩
theorem mw_487 : mT (Cond.methodLink RX0 37 yX0_yearOfCrack) := ⟨in3 _ (List.mem_of_getElem? (i := 81) rfl), rfl⟩
theorem mw_488 : mT (Cond.code yX0_crackedIn cX0_crackedIn 4 (some .boolean)) := ⟨in3 _ (List.mem_of_getElem? (i := 80) rfl), rfl⟩
theorem mw_489 : mT (Cond.code yX4_ofOneCharter cX4_ofOneCharter 4 (some .int)) := ⟨in3 _ (List.mem_of_getElem? (i := 113) rfl), rfl⟩
theorem mw_490 : mT (Cond.selects RX4 yX4_ofOneCharter yX4_ofOneCharter) := ⟨in3 _ (List.mem_of_getElem? (i := 112) rfl), rfl⟩
theorem mw_491 : mT (Cond.instanceMethod yX4_ofOneCharter) := ⟨in3 _ (List.mem_of_getElem? (i := 111) rfl), rfl⟩
theorem mw_492 : mT (Cond.methodLink RX6 179 yX4_ofOneCharter) := ⟨in3 _ (List.mem_of_getElem? (i := 110) rfl), rfl⟩
theorem mw_493 : mT (Cond.code yX9_isCharter cX9_isCharter 1 (some .boolean)) := ⟨in3 _ (List.mem_of_getElem? (i := 109) rfl), rfl⟩
theorem mw_494 : mT (Cond.static yX9_isCharter) := ⟨in3 _ (List.mem_of_getElem? (i := 108) rfl), rfl⟩
theorem mw_495 : mT (Cond.fieldLink RX4 30 "CordSeals$Seals" "count" "I") := ⟨in1 _ (List.mem_of_getElem? (i := 207) rfl), rfl⟩
theorem mw_496 : mT (Cond.code yX4_has cX4_has 2 (some .boolean)) := ⟨in3 _ (List.mem_of_getElem? (i := 106) rfl), rfl⟩
theorem mw_497 : mT (Cond.selects RX4 yX4_has yX4_has) := ⟨in3 _ (List.mem_of_getElem? (i := 105) rfl), rfl⟩
theorem mw_498 : mT (Cond.instanceMethod yX4_has) := ⟨in3 _ (List.mem_of_getElem? (i := 104) rfl), rfl⟩
theorem mw_499 : mT (Cond.methodLink RX6 175 yX4_has) := ⟨in3 _ (List.mem_of_getElem? (i := 103) rfl), rfl⟩
theorem mw_500 : mT (Cond.code yX6_hangOn cX6_hangOn 3 (some .int)) := ⟨in3 _ (List.mem_of_getElem? (i := 102) rfl), rfl⟩
theorem mw_501 : mT (Cond.selects RX6 yX6_hangOn yX6_hangOn) := ⟨in3 _ (List.mem_of_getElem? (i := 101) rfl), rfl⟩
theorem mw_502 : mT (Cond.instanceMethod yX6_hangOn) := ⟨in3 _ (List.mem_of_getElem? (i := 100) rfl), rfl⟩
theorem mw_503 : mT (Cond.methodLink RX6 113 yX6_hangOn) := ⟨in3 _ (List.mem_of_getElem? (i := 99) rfl), rfl⟩
theorem mw_504 : mT (Cond.code yX0_hasCracks cX0_hasCracks 3 (some .boolean)) := ⟨in3 _ (List.mem_of_getElem? (i := 98) rfl), rfl⟩
theorem mw_505 : mT (Cond.code yX10_load cX10_load 1 (some .int)) := ⟨in6 _ (List.mem_of_getElem? (i := 147) rfl), rfl⟩
theorem mw_506 : mT (Cond.fieldLink RX10 142 "CordSealsModel" "states" "I") := ⟨in5 _ (List.mem_of_getElem? (i := 221) rfl), rfl⟩
theorem mw_507 : mT (Cond.code yX10_copy cX10_copy 3 none) := ⟨in6 _ (List.mem_of_getElem? (i := 150) rfl), rfl⟩
theorem mw_508 : mT (Cond.static yX10_copy) := ⟨in6 _ (List.mem_of_getElem? (i := 149) rfl), rfl⟩
theorem mw_509 : mT (Cond.methodLink RX10 242 yX10_copy) := ⟨in6 _ (List.mem_of_getElem? (i := 148) rfl), rfl⟩
theorem mw_510 : mT (Cond.codeWith yL_about cL_about 4 (some .int) [(0, 9, 12, 13)]) := ⟨in3 _ (List.mem_of_getElem? (i := 116) rfl), rfl⟩
theorem mw_511 : mT (Cond.selects RX1 yX1_look yX1_look) := ⟨in3 _ (List.mem_of_getElem? (i := 123) rfl), rfl⟩
theorem mw_512 : mT (Cond.instanceMethod yX1_look) := ⟨in3 _ (List.mem_of_getElem? (i := 122) rfl), rfl⟩
theorem mw_513 : mT (Cond.methodLink RX9 89 yX1_look) := ⟨in3 _ (List.mem_of_getElem? (i := 121) rfl), rfl⟩
theorem mw_514 : mT (Cond.fieldLink RX9 129 "CordSeals$State" "shelves" "LCordSeals$Shelves;") := ⟨in2 _ (List.mem_of_getElem? (i := 45) rfl), rfl⟩
theorem mw_515 : mT (Cond.fieldLink RX9 113 "CordSeals$Seals" "count" "I") := ⟨in1 _ (List.mem_of_getElem? (i := 210) rfl), rfl⟩
theorem mw_516 : mT (Cond.fieldLink RX9 109 "CordSeals$State" "seals" "LCordSeals$Seals;") := ⟨in2 _ (List.mem_of_getElem? (i := 43) rfl), rfl⟩
theorem mw_517 : mT (Cond.fieldLink RX9 106 "CordSeals$Dies" "count" "I") := ⟨in1 _ (List.mem_of_getElem? (i := 173) rfl), rfl⟩
theorem mw_518 : mT (Cond.fieldLink RX9 102 "CordSeals$State" "dies" "LCordSeals$Dies;") := ⟨in2 _ (List.mem_of_getElem? (i := 40) rfl), rfl⟩
theorem mw_519 : mT (Cond.fieldLink RX9 97 "CordSeals$Reigns" "count" "I") := ⟨in1 _ (List.mem_of_getElem? (i := 151) rfl), rfl⟩
theorem mw_520 : mT (Cond.fieldLink RX9 93 "CordSeals$State" "reigns" "LCordSeals$Reigns;") := ⟨in2 _ (List.mem_of_getElem? (i := 37) rfl), rfl⟩
theorem mw_521 : mT (Cond.code yX9_about cX9_about 2 (some .int)) := ⟨in3 _ (List.mem_of_getElem? (i := 120) rfl), rfl⟩
theorem mw_522 : mT (Cond.selects RX9 yX9_about yX9_about) := ⟨in3 _ (List.mem_of_getElem? (i := 119) rfl), rfl⟩
theorem mw_523 : mT (Cond.instanceMethod yX9_about) := ⟨in3 _ (List.mem_of_getElem? (i := 118) rfl), rfl⟩
theorem mw_524 : mT (Cond.methodLink RL 21 yX9_about) := ⟨in3 _ (List.mem_of_getElem? (i := 117) rfl), rfl⟩
theorem mw_525 : mT (Cond.initialized "java/lang/Math") := ⟨in1 _ (List.mem_of_getElem? (i := 17) rfl), rfl⟩
theorem mw_526 : mT (Cond.static Lib.Math.max.name) := ⟨in3 _ (List.mem_of_getElem? (i := 134) rfl), rfl⟩
theorem mw_527 : mT (Cond.methodLink RX0 41 Lib.Math.max.name) := ⟨in3 _ (List.mem_of_getElem? (i := 133) rfl), rfl⟩
theorem mw_528 : mT (Cond.code yX0_firstYear cX0_firstYear 5 (some .int)) := ⟨in3 _ (List.mem_of_getElem? (i := 132) rfl), rfl⟩
theorem mw_529 : mT (Cond.selects RX0 yX0_firstYear yX0_firstYear) := ⟨in3 _ (List.mem_of_getElem? (i := 131) rfl), rfl⟩
theorem mw_530 : mT (Cond.instanceMethod yX0_firstYear) := ⟨in3 _ (List.mem_of_getElem? (i := 130) rfl), rfl⟩
theorem mw_531 : mT (Cond.methodLink RX1 64 yX0_firstYear) := ⟨in3 _ (List.mem_of_getElem? (i := 129) rfl), rfl⟩
theorem mw_532 : mT (Cond.fieldLink RX1 77 "CordSeals$Seals" "colour" "[I") := ⟨in1 _ (List.mem_of_getElem? (i := 220) rfl), rfl⟩
theorem mw_533 : mT (Cond.fieldLink RX1 73 "CordSeals$State" "reigns" "LCordSeals$Reigns;") := ⟨in2 _ (List.mem_of_getElem? (i := 36) rfl), rfl⟩
theorem mw_534 : mT (Cond.fieldLink RX1 61 "CordSeals$Seals" "shown" "[I") := ⟨in1 _ (List.mem_of_getElem? (i := 228) rfl), rfl⟩
theorem mw_535 : mT (Cond.fieldLink RX1 57 "CordSeals$State" "dies" "LCordSeals$Dies;") := ⟨in2 _ (List.mem_of_getElem? (i := 39) rfl), rfl⟩
theorem mw_536 : mT (Cond.fieldLink RX1 54 "CordSeals$Seals" "die" "[I") := ⟨in1 _ (List.mem_of_getElem? (i := 212) rfl), rfl⟩
theorem mw_537 : mT (Cond.fieldLink RX1 48 "CordSeals$Seals" "count" "I") := ⟨in1 _ (List.mem_of_getElem? (i := 209) rfl), rfl⟩
theorem mw_538 : mT (Cond.fieldLink RX1 42 "CordSeals$State" "seals" "LCordSeals$Seals;") := ⟨in2 _ (List.mem_of_getElem? (i := 42) rfl), rfl⟩
theorem mw_539 : mT (Cond.code yX1_date cX1_date 7 none) := ⟨in3 _ (List.mem_of_getElem? (i := 128) rfl), rfl⟩
theorem mw_540 : mT (Cond.selects RX1 yX1_date yX1_date) := ⟨in3 _ (List.mem_of_getElem? (i := 127) rfl), rfl⟩
theorem mw_541 : mT (Cond.instanceMethod yX1_date) := ⟨in3 _ (List.mem_of_getElem? (i := 126) rfl), rfl⟩
theorem mw_542 : mT (Cond.methodLink RX1 35 yX1_date) := ⟨in3 _ (List.mem_of_getElem? (i := 125) rfl), rfl⟩
theorem mw_543 : mT (Cond.code yX1_look cX1_look 2 none) := ⟨in3 _ (List.mem_of_getElem? (i := 124) rfl), rfl⟩
theorem mw_544 : mT (Cond.selects RX8 yX8_start yX8_start) := ⟨in3 _ (List.mem_of_getElem? (i := 149) rfl), rfl⟩
theorem mw_545 : mT (Cond.instanceMethod yX8_start) := ⟨in3 _ (List.mem_of_getElem? (i := 148) rfl), rfl⟩
theorem mw_546 : mT (Cond.methodLink RX1 86 yX8_start) := ⟨in3 _ (List.mem_of_getElem? (i := 147) rfl), rfl⟩
theorem mw_547 : mT (Cond.code yX3_rightSpans cX3_rightSpans 4 (some .int)) := ⟨in3 _ (List.mem_of_getElem? (i := 146) rfl), rfl⟩
theorem mw_548 : mT (Cond.selects RX3 yX3_rightSpans yX3_rightSpans) := ⟨in3 _ (List.mem_of_getElem? (i := 145) rfl), rfl⟩
theorem mw_549 : mT (Cond.instanceMethod yX3_rightSpans) := ⟨in3 _ (List.mem_of_getElem? (i := 144) rfl), rfl⟩
theorem mw_550 : mT (Cond.methodLink RX1 80 yX3_rightSpans) := ⟨in3 _ (List.mem_of_getElem? (i := 143) rfl), rfl⟩
theorem mw_551 : mT (Cond.code Lib.Math.min.name Lib.Math.min.code 2 (some .int)) := ⟨in3 _ (List.mem_of_getElem? (i := 142) rfl), rfl⟩
theorem mw_552 : mT (Cond.static Lib.Math.min.name) := ⟨in3 _ (List.mem_of_getElem? (i := 141) rfl), rfl⟩
theorem mw_553 : mT (Cond.methodLink RX0 46 Lib.Math.min.name) := ⟨in3 _ (List.mem_of_getElem? (i := 140) rfl), rfl⟩
theorem mw_554 : mT (Cond.code yX0_lastYear cX0_lastYear 5 (some .int)) := ⟨in3 _ (List.mem_of_getElem? (i := 139) rfl), rfl⟩
theorem mw_555 : mT (Cond.selects RX0 yX0_lastYear yX0_lastYear) := ⟨in3 _ (List.mem_of_getElem? (i := 138) rfl), rfl⟩
theorem mw_556 : mT (Cond.instanceMethod yX0_lastYear) := ⟨in3 _ (List.mem_of_getElem? (i := 137) rfl), rfl⟩
theorem mw_557 : mT (Cond.methodLink RX1 70 yX0_lastYear) := ⟨in3 _ (List.mem_of_getElem? (i := 136) rfl), rfl⟩
theorem mw_558 : mT (Cond.code Lib.Math.max.name Lib.Math.max.code 2 (some .int)) := ⟨in3 _ (List.mem_of_getElem? (i := 135) rfl), rfl⟩
theorem mw_559 : mT (Cond.selects RX3 yX3_lastOfSpan yX3_lastOfSpan) := ⟨in3 _ (List.mem_of_getElem? (i := 166) rfl), rfl⟩
theorem mw_560 : mT (Cond.instanceMethod yX3_lastOfSpan) := ⟨in3 _ (List.mem_of_getElem? (i := 165) rfl), rfl⟩
theorem mw_561 : mT (Cond.methodLink RX8 43 yX3_lastOfSpan) := ⟨in3 _ (List.mem_of_getElem? (i := 164) rfl), rfl⟩
theorem mw_562 : mT (Cond.code yX8_hasSpan cX8_hasSpan 2 (some .boolean)) := ⟨in3 _ (List.mem_of_getElem? (i := 163) rfl), rfl⟩
theorem mw_563 : mT (Cond.selects RX8 yX8_hasSpan yX8_hasSpan) := ⟨in0 _ (List.mem_of_getElem? (i := 14) rfl), rfl⟩
theorem mw_564 : mT (Cond.instanceMethod yX8_hasSpan) := ⟨in3 _ (List.mem_of_getElem? (i := 162) rfl), rfl⟩
theorem mw_565 : mT (Cond.methodLink RX8 39 yX8_hasSpan) := ⟨in3 _ (List.mem_of_getElem? (i := 160) rfl), rfl⟩
theorem mw_566 : mT (Cond.code yX3_firstOfSpan cX3_firstOfSpan 2 (some .int)) := ⟨in3 _ (List.mem_of_getElem? (i := 158) rfl), rfl⟩
theorem mw_567 : mT (Cond.selects RX3 yX3_firstOfSpan yX3_firstOfSpan) := ⟨in3 _ (List.mem_of_getElem? (i := 157) rfl), rfl⟩
theorem mw_568 : mT (Cond.instanceMethod yX3_firstOfSpan) := ⟨in3 _ (List.mem_of_getElem? (i := 156) rfl), rfl⟩
theorem mw_569 : mT (Cond.methodLink RX8 35 yX3_firstOfSpan) := ⟨in3 _ (List.mem_of_getElem? (i := 155) rfl), rfl⟩
theorem mw_570 : mT (Cond.methodLink RX8 27 Lib.Math.min.name) := ⟨in3 _ (List.mem_of_getElem? (i := 168) rfl), rfl⟩
theorem mw_571 : mT (Cond.methodLink RX8 21 Lib.Math.max.name) := ⟨in3 _ (List.mem_of_getElem? (i := 159) rfl), rfl⟩
theorem mw_572 : mT (Cond.fieldLink RX8 30 "CordSeals$Reigns" "count" "I") := ⟨in1 _ (List.mem_of_getElem? (i := 150) rfl), rfl⟩
theorem mw_573 : mT (Cond.code yX8_first cX8_first 4 (some .int)) := ⟨in3 _ (List.mem_of_getElem? (i := 154) rfl), rfl⟩
theorem mw_574 : mT (Cond.selects RX8 yX8_first yX8_first) := ⟨in3 _ (List.mem_of_getElem? (i := 153) rfl), rfl⟩
theorem mw_575 : mT (Cond.instanceMethod yX8_first) := ⟨in3 _ (List.mem_of_getElem? (i := 152) rfl), rfl⟩
theorem mw_576 : mT (Cond.methodLink RX1 90 yX8_first) := ⟨in3 _ (List.mem_of_getElem? (i := 151) rfl), rfl⟩
theorem mw_577 : mT (Cond.fieldLink RX8 18 "CordSeals$Years" "spans" "I") := ⟨in1 _ (List.mem_of_getElem? (i := 96) rfl), rfl⟩
theorem mw_578 : mT (Cond.fieldLink RX8 15 "CordSeals$Years" "high" "I") := ⟨in1 _ (List.mem_of_getElem? (i := 95) rfl), rfl⟩
theorem mw_579 : mT (Cond.fieldLink RX8 9 "CordSeals$Years" "low" "I") := ⟨in1 _ (List.mem_of_getElem? (i := 94) rfl), rfl⟩
theorem mw_580 : mT (Cond.code yX8_start cX8_start 4 none) := ⟨in3 _ (List.mem_of_getElem? (i := 150) rfl), rfl⟩
theorem mw_581 : mT (Cond.fieldLink RX1 121 "CordSeals$Seals" "hangsOn" "[I") := ⟨in1 _ (List.mem_of_getElem? (i := 232) rfl), rfl⟩
theorem mw_582 : mT (Cond.code yX1_dates cX1_dates 4 (some .boolean)) := ⟨in3 _ (List.mem_of_getElem? (i := 184) rfl), rfl⟩
theorem mw_583 : mT (Cond.selects RX1 yX1_dates yX1_dates) := ⟨in0 _ (List.mem_of_getElem? (i := 17) rfl), rfl⟩
theorem mw_584 : mT (Cond.instanceMethod yX1_dates) := ⟨in3 _ (List.mem_of_getElem? (i := 183) rfl), rfl⟩
theorem mw_585 : mT (Cond.methodLink RX1 124 yX1_dates) := ⟨in3 _ (List.mem_of_getElem? (i := 181) rfl), rfl⟩
theorem mw_586 : mT (Cond.code yX1_findCommon cX1_findCommon 6 none) := ⟨in3 _ (List.mem_of_getElem? (i := 180) rfl), rfl⟩
theorem mw_587 : mT (Cond.selects RX1 yX1_findCommon yX1_findCommon) := ⟨in0 _ (List.mem_of_getElem? (i := 16) rfl), rfl⟩
theorem mw_588 : mT (Cond.instanceMethod yX1_findCommon) := ⟨in3 _ (List.mem_of_getElem? (i := 179) rfl), rfl⟩
theorem mw_589 : mT (Cond.methodLink RX1 97 yX1_findCommon) := ⟨in3 _ (List.mem_of_getElem? (i := 177) rfl), rfl⟩
theorem mw_590 : mT (Cond.fieldLink RX1 115 "CordSeals$Seals" "material" "[I") := ⟨in1 _ (List.mem_of_getElem? (i := 216) rfl), rfl⟩
theorem mw_591 : mT (Cond.fieldLink RX1 112 "CordSeals$State" "settings" "[I") := ⟨in2 _ (List.mem_of_getElem? (i := 48) rfl), rfl⟩
theorem mw_592 : mT (Cond.fieldLink RX1 109 "CordSeals$Seals" "bubbles" "[I") := ⟨in1 _ (List.mem_of_getElem? (i := 224) rfl), rfl⟩
theorem mw_593 : mT (Cond.code yX1_ownReason cX1_ownReason 3 (some .int)) := ⟨in3 _ (List.mem_of_getElem? (i := 176) rfl), rfl⟩
theorem mw_594 : mT (Cond.selects RX1 yX1_ownReason yX1_ownReason) := ⟨in0 _ (List.mem_of_getElem? (i := 15) rfl), rfl⟩
theorem mw_595 : mT (Cond.instanceMethod yX1_ownReason) := ⟨in3 _ (List.mem_of_getElem? (i := 175) rfl), rfl⟩
theorem mw_596 : mT (Cond.methodLink RX1 93 yX1_ownReason) := ⟨in3 _ (List.mem_of_getElem? (i := 173) rfl), rfl⟩
theorem mw_597 : mT (Cond.code yX1_blame cX1_blame 3 none) := ⟨in3 _ (List.mem_of_getElem? (i := 172) rfl), rfl⟩
theorem mw_598 : mT (Cond.selects RX1 yX1_blame yX1_blame) := ⟨in3 _ (List.mem_of_getElem? (i := 171) rfl), rfl⟩
theorem mw_599 : mT (Cond.instanceMethod yX1_blame) := ⟨in3 _ (List.mem_of_getElem? (i := 170) rfl), rfl⟩
theorem mw_600 : mT (Cond.methodLink RX1 39 yX1_blame) := ⟨in3 _ (List.mem_of_getElem? (i := 169) rfl), rfl⟩
theorem mw_601 : mT (Cond.code yX3_lastOfSpan cX3_lastOfSpan 2 (some .int)) := ⟨in3 _ (List.mem_of_getElem? (i := 167) rfl), rfl⟩
theorem mw_602 : mT (Cond.selects RX4 yX4_hanging yX4_hanging) := ⟨in3 _ (List.mem_of_getElem? (i := 207) rfl), rfl⟩
theorem mw_603 : mT (Cond.instanceMethod yX4_hanging) := ⟨in3 _ (List.mem_of_getElem? (i := 206) rfl), rfl⟩
theorem mw_604 : mT (Cond.methodLink RX9 123 yX4_hanging) := ⟨in3 _ (List.mem_of_getElem? (i := 205) rfl), rfl⟩
theorem mw_605 : mT (Cond.code yX1_casts cX1_casts 4 (some .int)) := ⟨in3 _ (List.mem_of_getElem? (i := 204) rfl), rfl⟩
theorem mw_606 : mT (Cond.selects RX1 yX1_casts yX1_casts) := ⟨in3 _ (List.mem_of_getElem? (i := 203) rfl), rfl⟩
theorem mw_607 : mT (Cond.instanceMethod yX1_casts) := ⟨in3 _ (List.mem_of_getElem? (i := 202) rfl), rfl⟩
theorem mw_608 : mT (Cond.methodLink RX9 120 yX1_casts) := ⟨in3 _ (List.mem_of_getElem? (i := 201) rfl), rfl⟩
theorem mw_609 : mT (Cond.code yX1_fakes cX1_fakes 4 (some .int)) := ⟨in3 _ (List.mem_of_getElem? (i := 200) rfl), rfl⟩
theorem mw_610 : mT (Cond.selects RX1 yX1_fakes yX1_fakes) := ⟨in3 _ (List.mem_of_getElem? (i := 199) rfl), rfl⟩
theorem mw_611 : mT (Cond.instanceMethod yX1_fakes) := ⟨in3 _ (List.mem_of_getElem? (i := 198) rfl), rfl⟩
theorem mw_612 : mT (Cond.methodLink RX9 116 yX1_fakes) := ⟨in3 _ (List.mem_of_getElem? (i := 197) rfl), rfl⟩
theorem mw_613 : mT (Cond.code yX1_blameCharter cX1_blameCharter 4 none) := ⟨in3 _ (List.mem_of_getElem? (i := 196) rfl), rfl⟩
theorem mw_614 : mT (Cond.selects RX1 yX1_blameCharter yX1_blameCharter) := ⟨in0 _ (List.mem_of_getElem? (i := 18) rfl), rfl⟩
theorem mw_615 : mT (Cond.instanceMethod yX1_blameCharter) := ⟨in3 _ (List.mem_of_getElem? (i := 195) rfl), rfl⟩
theorem mw_616 : mT (Cond.methodLink RX1 105 yX1_blameCharter) := ⟨in3 _ (List.mem_of_getElem? (i := 193) rfl), rfl⟩
theorem mw_617 : mT (Cond.code yX8_copy cX8_copy 2 none) := ⟨in3 _ (List.mem_of_getElem? (i := 192) rfl), rfl⟩
theorem mw_618 : mT (Cond.selects RX8 yX8_copy yX8_copy) := ⟨in3 _ (List.mem_of_getElem? (i := 191) rfl), rfl⟩
theorem mw_619 : mT (Cond.instanceMethod yX8_copy) := ⟨in3 _ (List.mem_of_getElem? (i := 190) rfl), rfl⟩
theorem mw_620 : mT (Cond.methodLink RX1 101 yX8_copy) := ⟨in3 _ (List.mem_of_getElem? (i := 189) rfl), rfl⟩
theorem mw_621 : mT (Cond.code yX8_narrow cX8_narrow 2 none) := ⟨in3 _ (List.mem_of_getElem? (i := 188) rfl), rfl⟩
theorem mw_622 : mT (Cond.selects RX8 yX8_narrow yX8_narrow) := ⟨in3 _ (List.mem_of_getElem? (i := 187) rfl), rfl⟩
theorem mw_623 : mT (Cond.instanceMethod yX8_narrow) := ⟨in3 _ (List.mem_of_getElem? (i := 186) rfl), rfl⟩
theorem mw_624 : mT (Cond.methodLink RX1 128 yX8_narrow) := ⟨in3 _ (List.mem_of_getElem? (i := 185) rfl), rfl⟩
theorem mw_625 : mT (Cond.selects RX1 yX1_badShelves yX1_badShelves) := ⟨in3 _ (List.mem_of_getElem? (i := 224) rfl), rfl⟩
theorem mw_626 : mT (Cond.instanceMethod yX1_badShelves) := ⟨in3 _ (List.mem_of_getElem? (i := 223) rfl), rfl⟩
theorem mw_627 : mT (Cond.methodLink RX9 138 yX1_badShelves) := ⟨in3 _ (List.mem_of_getElem? (i := 222) rfl), rfl⟩
theorem mw_628 : mT (Cond.code yX5_filled cX5_filled 3 (some .int)) := ⟨in3 _ (List.mem_of_getElem? (i := 221) rfl), rfl⟩
theorem mw_629 : mT (Cond.selects RX5 yX5_filled yX5_filled) := ⟨in3 _ (List.mem_of_getElem? (i := 220) rfl), rfl⟩
theorem mw_630 : mT (Cond.instanceMethod yX5_filled) := ⟨in3 _ (List.mem_of_getElem? (i := 219) rfl), rfl⟩
theorem mw_631 : mT (Cond.methodLink RX9 133 yX5_filled) := ⟨in3 _ (List.mem_of_getElem? (i := 218) rfl), rfl⟩
theorem mw_632 : mT (Cond.code yX1_fakesOfCharter cX1_fakesOfCharter 5 (some .int)) := ⟨in3 _ (List.mem_of_getElem? (i := 217) rfl), rfl⟩
theorem mw_633 : mT (Cond.selects RX1 yX1_fakesOfCharter yX1_fakesOfCharter) := ⟨in3 _ (List.mem_of_getElem? (i := 216) rfl), rfl⟩
theorem mw_634 : mT (Cond.instanceMethod yX1_fakesOfCharter) := ⟨in3 _ (List.mem_of_getElem? (i := 215) rfl), rfl⟩
theorem mw_635 : mT (Cond.methodLink RX1 143 yX1_fakesOfCharter) := ⟨in3 _ (List.mem_of_getElem? (i := 214) rfl), rfl⟩
theorem mw_636 : mT (Cond.code yX1_chartersWithFakes cX1_chartersWithFakes 4 (some .int)) := ⟨in3 _ (List.mem_of_getElem? (i := 213) rfl), rfl⟩
theorem mw_637 : mT (Cond.selects RX1 yX1_chartersWithFakes yX1_chartersWithFakes) := ⟨in3 _ (List.mem_of_getElem? (i := 212) rfl), rfl⟩
theorem mw_638 : mT (Cond.instanceMethod yX1_chartersWithFakes) := ⟨in3 _ (List.mem_of_getElem? (i := 211) rfl), rfl⟩
theorem mw_639 : mT (Cond.methodLink RX9 126 yX1_chartersWithFakes) := ⟨in3 _ (List.mem_of_getElem? (i := 210) rfl), rfl⟩
theorem mw_640 : mT (Cond.methodLink RX4 40 yX4_ofOneCharter) := ⟨in3 _ (List.mem_of_getElem? (i := 209) rfl), rfl⟩
theorem mw_641 : mT (Cond.code yX4_hanging cX4_hanging 1 (some .int)) := ⟨in3 _ (List.mem_of_getElem? (i := 208) rfl), rfl⟩
theorem mw_642 : mT (Cond.code yX5_at cX5_at 3 (some .int)) := ⟨in3 _ (List.mem_of_getElem? (i := 233) rfl), rfl⟩
theorem mw_643 : mT (Cond.selects RX5 yX5_at yX5_at) := ⟨in3 _ (List.mem_of_getElem? (i := 232) rfl), rfl⟩
theorem mw_644 : mT (Cond.instanceMethod yX5_at) := ⟨in3 _ (List.mem_of_getElem? (i := 231) rfl), rfl⟩
theorem mw_645 : mT (Cond.methodLink RX1 162 yX5_at) := ⟨in3 _ (List.mem_of_getElem? (i := 230) rfl), rfl⟩
theorem mw_646 : mT (Cond.fieldLink RX1 158 "CordSeals$Shelves" "count" "[I") := ⟨in2 _ (List.mem_of_getElem? (i := 19) rfl), rfl⟩
theorem mw_647 : mT (Cond.fieldLink RX1 154 "CordSeals$State" "shelves" "LCordSeals$Shelves;") := ⟨in2 _ (List.mem_of_getElem? (i := 46) rfl), rfl⟩
theorem mw_648 : mT (Cond.code yX1_isGood cX1_isGood 6 (some .boolean)) := ⟨in3 _ (List.mem_of_getElem? (i := 229) rfl), rfl⟩
theorem mw_649 : mT (Cond.selects RX1 yX1_isGood yX1_isGood) := ⟨in0 _ (List.mem_of_getElem? (i := 19) rfl), rfl⟩
theorem mw_650 : mT (Cond.instanceMethod yX1_isGood) := ⟨in3 _ (List.mem_of_getElem? (i := 228) rfl), rfl⟩
theorem mw_651 : mT (Cond.methodLink RX1 150 yX1_isGood) := ⟨in3 _ (List.mem_of_getElem? (i := 226) rfl), rfl⟩
theorem mw_652 : mT (Cond.code yX1_badShelves cX1_badShelves 4 (some .int)) := ⟨in3 _ (List.mem_of_getElem? (i := 225) rfl), rfl⟩
theorem mw_653 : mT (Cond.code yX10_about cX10_about 2 (some .int)) := ⟨in6 _ (List.mem_of_getElem? (i := 154) rfl), rfl⟩
theorem mw_654 : mT (Cond.static yX10_isCast) := ⟨in6 _ (List.mem_of_getElem? (i := 168) rfl), rfl⟩
theorem mw_655 : mT (Cond.methodLink RX10 76 yX10_isCast) := ⟨in6 _ (List.mem_of_getElem? (i := 167) rfl), rfl⟩
theorem mw_656 : mT (Cond.code yX10_alone cX10_alone 2 (some .int)) := ⟨in6 _ (List.mem_of_getElem? (i := 166) rfl), rfl⟩
theorem mw_657 : mT (Cond.static yX10_alone) := ⟨in6 _ (List.mem_of_getElem? (i := 165) rfl), rfl⟩
theorem mw_658 : mT (Cond.methodLink RX10 96 yX10_alone) := ⟨in6 _ (List.mem_of_getElem? (i := 164) rfl), rfl⟩
theorem mw_659 : mT (Cond.code yX10_fake cX10_fake 4 (some .int)) := ⟨in6 _ (List.mem_of_getElem? (i := 163) rfl), rfl⟩
theorem mw_660 : mT (Cond.selects RX10 yX10_fake yX10_fake) := ⟨in0 _ (List.mem_of_getElem? (i := 47) rfl), rfl⟩
theorem mw_661 : mT (Cond.instanceMethod yX10_fake) := ⟨in6 _ (List.mem_of_getElem? (i := 162) rfl), rfl⟩
theorem mw_662 : mT (Cond.methodLink RX10 107 yX10_fake) := ⟨in6 _ (List.mem_of_getElem? (i := 160) rfl), rfl⟩
theorem mw_663 : mT (Cond.code yX10_fakes cX10_fakes 4 (some .int)) := ⟨in6 _ (List.mem_of_getElem? (i := 159) rfl), rfl⟩
theorem mw_664 : mT (Cond.selects RX10 yX10_fakes yX10_fakes) := ⟨in0 _ (List.mem_of_getElem? (i := 46) rfl), rfl⟩
theorem mw_665 : mT (Cond.instanceMethod yX10_fakes) := ⟨in6 _ (List.mem_of_getElem? (i := 158) rfl), rfl⟩
theorem mw_666 : mT (Cond.methodLink RX10 252 yX10_fakes) := ⟨in6 _ (List.mem_of_getElem? (i := 156) rfl), rfl⟩
theorem mw_667 : mT (Cond.constantLong RX10 250 (8)) := ⟨in6 _ (List.mem_of_getElem? (i := 155) rfl), rfl⟩
theorem mw_668 : mT (Cond.instanceMethod yX10_ofCharter) := ⟨in6 _ (List.mem_of_getElem? (i := 193) rfl), rfl⟩
theorem mw_669 : mT (Cond.methodLink RX10 103 yX10_ofCharter) := ⟨in6 _ (List.mem_of_getElem? (i := 191) rfl), rfl⟩
theorem mw_670 : mT (Cond.code yX10_highOf cX10_highOf 6 (some .int)) := ⟨in6 _ (List.mem_of_getElem? (i := 190) rfl), rfl⟩
theorem mw_671 : mT (Cond.static yX10_highOf) := ⟨in6 _ (List.mem_of_getElem? (i := 189) rfl), rfl⟩
theorem mw_672 : mT (Cond.methodLink RX10 66 yX10_highOf) := ⟨in6 _ (List.mem_of_getElem? (i := 188) rfl), rfl⟩
theorem mw_673 : mT (Cond.code yX10_has cX10_has 2 (some .boolean)) := ⟨in6 _ (List.mem_of_getElem? (i := 187) rfl), rfl⟩
theorem mw_674 : mT (Cond.static yX10_has) := ⟨in6 _ (List.mem_of_getElem? (i := 186) rfl), rfl⟩
theorem mw_675 : mT (Cond.methodLink RX10 55 yX10_has) := ⟨in6 _ (List.mem_of_getElem? (i := 185) rfl), rfl⟩
theorem mw_676 : mT (Cond.code yX10_lowOf cX10_lowOf 6 (some .int)) := ⟨in6 _ (List.mem_of_getElem? (i := 184) rfl), rfl⟩
theorem mw_677 : mT (Cond.static yX10_lowOf) := ⟨in6 _ (List.mem_of_getElem? (i := 183) rfl), rfl⟩
theorem mw_678 : mT (Cond.methodLink RX10 63 yX10_lowOf) := ⟨in6 _ (List.mem_of_getElem? (i := 182) rfl), rfl⟩
theorem mw_679 : mT (Cond.code yX10_yearsOf cX10_yearsOf 3 (some .int)) := ⟨in6 _ (List.mem_of_getElem? (i := 181) rfl), rfl⟩
theorem mw_680 : mT (Cond.static yX10_yearsOf) := ⟨in6 _ (List.mem_of_getElem? (i := 180) rfl), rfl⟩
theorem mw_681 : mT (Cond.methodLink RX10 80 yX10_yearsOf) := ⟨in6 _ (List.mem_of_getElem? (i := 179) rfl), rfl⟩
theorem mw_682 : mT (Cond.code yX10_ends cX10_ends 2 (some .int)) := ⟨in6 _ (List.mem_of_getElem? (i := 178) rfl), rfl⟩
theorem mw_683 : mT (Cond.static yX10_ends) := ⟨in6 _ (List.mem_of_getElem? (i := 177) rfl), rfl⟩
theorem mw_684 : mT (Cond.methodLink RX10 59 yX10_ends) := ⟨in6 _ (List.mem_of_getElem? (i := 176) rfl), rfl⟩
theorem mw_685 : mT (Cond.code yX10_years cX10_years 12 (some .int)) := ⟨in6 _ (List.mem_of_getElem? (i := 175) rfl), rfl⟩
theorem mw_686 : mT (Cond.static yX10_years) := ⟨in6 _ (List.mem_of_getElem? (i := 174) rfl), rfl⟩
theorem mw_687 : mT (Cond.methodLink RX10 72 yX10_years) := ⟨in6 _ (List.mem_of_getElem? (i := 173) rfl), rfl⟩
theorem mw_688 : mT (Cond.code yX10_maskOf cX10_maskOf 2 (some .int)) := ⟨in6 _ (List.mem_of_getElem? (i := 172) rfl), rfl⟩
theorem mw_689 : mT (Cond.static yX10_maskOf) := ⟨in6 _ (List.mem_of_getElem? (i := 171) rfl), rfl⟩
theorem mw_690 : mT (Cond.methodLink RX10 69 yX10_maskOf) := ⟨in6 _ (List.mem_of_getElem? (i := 170) rfl), rfl⟩
theorem mw_691 : mT (Cond.code yX10_isCast cX10_isCast 2 (some .boolean)) := ⟨in6 _ (List.mem_of_getElem? (i := 169) rfl), rfl⟩
theorem mw_692 : mT (Cond.instanceMethod yX10_isGood) := ⟨in6 _ (List.mem_of_getElem? (i := 213) rfl), rfl⟩
theorem mw_693 : mT (Cond.methodLink RX10 123 yX10_isGood) := ⟨in6 _ (List.mem_of_getElem? (i := 211) rfl), rfl⟩
theorem mw_694 : mT (Cond.code yX10_bad cX10_bad 4 (some .int)) := ⟨in6 _ (List.mem_of_getElem? (i := 210) rfl), rfl⟩
theorem mw_695 : mT (Cond.selects RX10 yX10_bad yX10_bad) := ⟨in0 _ (List.mem_of_getElem? (i := 52) rfl), rfl⟩
theorem mw_696 : mT (Cond.instanceMethod yX10_bad) := ⟨in6 _ (List.mem_of_getElem? (i := 209) rfl), rfl⟩
theorem mw_697 : mT (Cond.methodLink RX10 259 yX10_bad) := ⟨in6 _ (List.mem_of_getElem? (i := 207) rfl), rfl⟩
theorem mw_698 : mT (Cond.code yX10_fakesOn cX10_fakesOn 4 (some .int)) := ⟨in6 _ (List.mem_of_getElem? (i := 206) rfl), rfl⟩
theorem mw_699 : mT (Cond.selects RX10 yX10_fakesOn yX10_fakesOn) := ⟨in0 _ (List.mem_of_getElem? (i := 51) rfl), rfl⟩
theorem mw_700 : mT (Cond.instanceMethod yX10_fakesOn) := ⟨in6 _ (List.mem_of_getElem? (i := 205) rfl), rfl⟩
theorem mw_701 : mT (Cond.methodLink RX10 246 yX10_fakesOn) := ⟨in6 _ (List.mem_of_getElem? (i := 203) rfl), rfl⟩
theorem mw_702 : mT (Cond.code yX10_badCharters cX10_badCharters 3 (some .int)) := ⟨in6 _ (List.mem_of_getElem? (i := 202) rfl), rfl⟩
theorem mw_703 : mT (Cond.selects RX10 yX10_badCharters yX10_badCharters) := ⟨in0 _ (List.mem_of_getElem? (i := 50) rfl), rfl⟩
theorem mw_704 : mT (Cond.instanceMethod yX10_badCharters) := ⟨in6 _ (List.mem_of_getElem? (i := 201) rfl), rfl⟩
theorem mw_705 : mT (Cond.methodLink RX10 256 yX10_badCharters) := ⟨in6 _ (List.mem_of_getElem? (i := 199) rfl), rfl⟩
theorem mw_706 : mT (Cond.code yX10_gather cX10_gather 5 none) := ⟨in6 _ (List.mem_of_getElem? (i := 198) rfl), rfl⟩
theorem mw_707 : mT (Cond.selects RX10 yX10_gather yX10_gather) := ⟨in0 _ (List.mem_of_getElem? (i := 49) rfl), rfl⟩
theorem mw_708 : mT (Cond.instanceMethod yX10_gather) := ⟨in6 _ (List.mem_of_getElem? (i := 197) rfl), rfl⟩
theorem mw_709 : mT (Cond.methodLink RX10 99 yX10_gather) := ⟨in6 _ (List.mem_of_getElem? (i := 195) rfl), rfl⟩
theorem mw_710 : mT (Cond.fieldLink RX10 90 "CordSealsModel" "mask" "I") := ⟨in5 _ (List.mem_of_getElem? (i := 231) rfl), rfl⟩
theorem mw_711 : mT (Cond.fieldLink RX10 87 "CordSealsModel" "high" "I") := ⟨in5 _ (List.mem_of_getElem? (i := 230) rfl), rfl⟩
theorem mw_712 : mT (Cond.fieldLink RX10 84 "CordSealsModel" "low" "I") := ⟨in5 _ (List.mem_of_getElem? (i := 229) rfl), rfl⟩
theorem mw_713 : mT (Cond.fieldLink RX10 93 "CordSealsModel" "counted" "I") := ⟨in5 _ (List.mem_of_getElem? (i := 232) rfl), rfl⟩
theorem mw_714 : mT (Cond.code yX10_ofCharter cX10_ofCharter 5 (some .int)) := ⟨in6 _ (List.mem_of_getElem? (i := 194) rfl), rfl⟩
theorem mw_715 : mT (Cond.selects RX10 yX10_ofCharter yX10_ofCharter) := ⟨in0 _ (List.mem_of_getElem? (i := 48) rfl), rfl⟩
theorem mw_716 : mT (Cond.code yX10_placeOn cX10_placeOn 5 (some .int)) := ⟨in6 _ (List.mem_of_getElem? (i := 224) rfl), rfl⟩
theorem mw_717 : mT (Cond.static yX10_placeOn) := ⟨in6 _ (List.mem_of_getElem? (i := 223) rfl), rfl⟩
theorem mw_718 : mT (Cond.methodLink RX10 110 yX10_placeOn) := ⟨in6 _ (List.mem_of_getElem? (i := 222) rfl), rfl⟩
theorem mw_719 : mT (Cond.code yX10_shelfOf cX10_shelfOf 4 (some .int)) := ⟨in6 _ (List.mem_of_getElem? (i := 221) rfl), rfl⟩
theorem mw_720 : mT (Cond.static yX10_shelfOf) := ⟨in6 _ (List.mem_of_getElem? (i := 220) rfl), rfl⟩
theorem mw_721 : mT (Cond.methodLink RX10 113 yX10_shelfOf) := ⟨in6 _ (List.mem_of_getElem? (i := 219) rfl), rfl⟩
theorem mw_722 : mT (Cond.code yX10_countOf cX10_countOf 5 (some .int)) := ⟨in6 _ (List.mem_of_getElem? (i := 218) rfl), rfl⟩
theorem mw_723 : mT (Cond.selects RX10 yX10_countOf yX10_countOf) := ⟨in0 _ (List.mem_of_getElem? (i := 54) rfl), rfl⟩
theorem mw_724 : mT (Cond.instanceMethod yX10_countOf) := ⟨in6 _ (List.mem_of_getElem? (i := 217) rfl), rfl⟩
theorem mw_725 : mT (Cond.methodLink RX10 262 yX10_countOf) := ⟨in6 _ (List.mem_of_getElem? (i := 215) rfl), rfl⟩
theorem mw_726 : mT (Cond.code yX10_isGood cX10_isGood 7 (some .boolean)) := ⟨in6 _ (List.mem_of_getElem? (i := 214) rfl), rfl⟩
theorem mw_727 : mT (Cond.selects RX10 yX10_isGood yX10_isGood) := ⟨in0 _ (List.mem_of_getElem? (i := 53) rfl), rfl⟩
theorem mw_728 : mT (Cond.codeWith yL_ofReign cL_ofReign 5 (some .int) [(0, 10, 13, 28), (0, 10, 17, 13)]) := ⟨in3 _ (List.mem_of_getElem? (i := 236) rfl), rfl⟩
theorem mw_729 : mT (Cond.instanceMethod yX3_endOf) := ⟨in4 _ (List.mem_of_getElem? (i := 22) rfl), rfl⟩
theorem mw_730 : mT (Cond.methodLink RX9 148 yX3_endOf) := ⟨in4 _ (List.mem_of_getElem? (i := 21) rfl), rfl⟩
theorem mw_731 : mT (Cond.initialized "java/lang/IndexOutOfBoundsException") := ⟨in1 _ (List.mem_of_getElem? (i := 18) rfl), rfl⟩
theorem mw_732 : mT (Cond.classLink RX9 365 "java/lang/IndexOutOfBoundsException") := ⟨in4 _ (List.mem_of_getElem? (i := 5) rfl), rfl⟩
theorem mw_733 : mT (Cond.code yX9_mustExist cX9_mustExist 1 none) := ⟨in4 _ (List.mem_of_getElem? (i := 4) rfl), rfl⟩
theorem mw_734 : mT (Cond.static yX9_mustExist) := ⟨in4 _ (List.mem_of_getElem? (i := 3) rfl), rfl⟩
theorem mw_735 : mT (Cond.methodLink RX9 141 yX9_mustExist) := ⟨in4 _ (List.mem_of_getElem? (i := 2) rfl), rfl⟩
theorem mw_736 : mT (Cond.fieldLink RX9 152 "CordSeals$Reigns" "colours" "[I") := ⟨in1 _ (List.mem_of_getElem? (i := 157) rfl), rfl⟩
theorem mw_737 : mT (Cond.fieldLink RX9 144 "CordSeals$Reigns" "begin" "[I") := ⟨in1 _ (List.mem_of_getElem? (i := 154) rfl), rfl⟩
theorem mw_738 : mT (Cond.code yX9_ofReign cX9_ofReign 3 (some .int)) := ⟨in4 _ (List.mem_of_getElem? (i := 1) rfl), rfl⟩
theorem mw_739 : mT (Cond.selects RX9 yX9_ofReign yX9_ofReign) := ⟨in4 _ (List.mem_of_getElem? (i := 0) rfl), rfl⟩
theorem mw_740 : mT (Cond.instanceMethod yX9_ofReign) := ⟨in3 _ (List.mem_of_getElem? (i := 239) rfl), rfl⟩
theorem mw_741 : mT (Cond.methodLink RL 24 yX9_ofReign) := ⟨in3 _ (List.mem_of_getElem? (i := 238) rfl), rfl⟩
theorem mw_742 : mT (Cond.classLink RL 28 "java/lang/IndexOutOfBoundsException") := ⟨in3 _ (List.mem_of_getElem? (i := 237) rfl), rfl⟩
theorem mw_743 : mT (Cond.methodLink RX3 28 yX3_lastOfSpan) := ⟨in4 _ (List.mem_of_getElem? (i := 25) rfl), rfl⟩
theorem mw_744 : mT (Cond.code yX3_endOf cX3_endOf 2 (some .int)) := ⟨in4 _ (List.mem_of_getElem? (i := 24) rfl), rfl⟩
theorem mw_745 : mT (Cond.selects RX3 yX3_endOf yX3_endOf) := ⟨in4 _ (List.mem_of_getElem? (i := 23) rfl), rfl⟩
theorem mw_746 : mT (Cond.code yX10_ofReign cX10_ofReign 3 (some .int)) := ⟨in6 _ (List.mem_of_getElem? (i := 228) rfl), rfl⟩
theorem mw_747 : mT (Cond.code yX10_hasReign cX10_hasReign 2 (some .boolean)) := ⟨in6 _ (List.mem_of_getElem? (i := 231) rfl), rfl⟩
theorem mw_748 : mT (Cond.static yX10_hasReign) := ⟨in6 _ (List.mem_of_getElem? (i := 230) rfl), rfl⟩
theorem mw_749 : mT (Cond.methodLink RX10 265 yX10_hasReign) := ⟨in6 _ (List.mem_of_getElem? (i := 229) rfl), rfl⟩
theorem mw_750 : mT (Cond.constantLong RX10 268 (2)) := ⟨in6 _ (List.mem_of_getElem? (i := 232) rfl), rfl⟩
theorem mw_751 : mT (Cond.codeWith yL_ofDie cL_ofDie 5 (some .int) [(0, 10, 13, 28), (0, 10, 17, 13)]) := ⟨in4 _ (List.mem_of_getElem? (i := 28) rfl), rfl⟩
theorem mw_752 : mT (Cond.methodLink RX9 155 yX0_has) := ⟨in4 _ (List.mem_of_getElem? (i := 33) rfl), rfl⟩
theorem mw_753 : mT (Cond.fieldLink RX9 168 "CordSeals$Dies" "cracks" "[I") := ⟨in1 _ (List.mem_of_getElem? (i := 185) rfl), rfl⟩
theorem mw_754 : mT (Cond.fieldLink RX9 165 "CordSeals$Dies" "to" "[I") := ⟨in1 _ (List.mem_of_getElem? (i := 182) rfl), rfl⟩
theorem mw_755 : mT (Cond.fieldLink RX9 162 "CordSeals$Dies" "from" "[I") := ⟨in1 _ (List.mem_of_getElem? (i := 179) rfl), rfl⟩
theorem mw_756 : mT (Cond.fieldLink RX9 159 "CordSeals$Dies" "house" "[I") := ⟨in1 _ (List.mem_of_getElem? (i := 176) rfl), rfl⟩
theorem mw_757 : mT (Cond.code yX9_ofDie cX9_ofDie 3 (some .int)) := ⟨in4 _ (List.mem_of_getElem? (i := 32) rfl), rfl⟩
theorem mw_758 : mT (Cond.selects RX9 yX9_ofDie yX9_ofDie) := ⟨in4 _ (List.mem_of_getElem? (i := 31) rfl), rfl⟩
theorem mw_759 : mT (Cond.instanceMethod yX9_ofDie) := ⟨in4 _ (List.mem_of_getElem? (i := 30) rfl), rfl⟩
theorem mw_760 : mT (Cond.methodLink RL 30 yX9_ofDie) := ⟨in4 _ (List.mem_of_getElem? (i := 29) rfl), rfl⟩
theorem mw_761 : mT (Cond.code yX4_ofOneDie cX4_ofOneDie 4 (some .int)) := ⟨in4 _ (List.mem_of_getElem? (i := 37) rfl), rfl⟩
theorem mw_762 : mT (Cond.selects RX4 yX4_ofOneDie yX4_ofOneDie) := ⟨in4 _ (List.mem_of_getElem? (i := 36) rfl), rfl⟩
theorem mw_763 : mT (Cond.instanceMethod yX4_ofOneDie) := ⟨in4 _ (List.mem_of_getElem? (i := 35) rfl), rfl⟩
theorem mw_764 : mT (Cond.methodLink RX9 171 yX4_ofOneDie) := ⟨in4 _ (List.mem_of_getElem? (i := 34) rfl), rfl⟩
theorem mw_765 : mT (Cond.code yX1_fakesOfDie cX1_fakesOfDie 5 (some .int)) := ⟨in4 _ (List.mem_of_getElem? (i := 41) rfl), rfl⟩
theorem mw_766 : mT (Cond.selects RX1 yX1_fakesOfDie yX1_fakesOfDie) := ⟨in4 _ (List.mem_of_getElem? (i := 40) rfl), rfl⟩
theorem mw_767 : mT (Cond.instanceMethod yX1_fakesOfDie) := ⟨in4 _ (List.mem_of_getElem? (i := 39) rfl), rfl⟩
theorem mw_768 : mT (Cond.methodLink RX9 174 yX1_fakesOfDie) := ⟨in4 _ (List.mem_of_getElem? (i := 38) rfl), rfl⟩
theorem mw_769 : mT (Cond.code yX10_ofDie cX10_ofDie 3 (some .int)) := ⟨in6 _ (List.mem_of_getElem? (i := 236) rfl), rfl⟩
theorem mw_770 : mT (Cond.code yX10_sealsOf cX10_sealsOf 5 (some .int)) := ⟨in7 _ (List.mem_of_getElem? (i := 1) rfl), rfl⟩
theorem mw_771 : mT (Cond.selects RX10 yX10_sealsOf yX10_sealsOf) := ⟨in0 _ (List.mem_of_getElem? (i := 55) rfl), rfl⟩
theorem mw_772 : mT (Cond.instanceMethod yX10_sealsOf) := ⟨in7 _ (List.mem_of_getElem? (i := 0) rfl), rfl⟩
theorem mw_773 : mT (Cond.methodLink RX10 270 yX10_sealsOf) := ⟨in6 _ (List.mem_of_getElem? (i := 238) rfl), rfl⟩
theorem mw_774 : mT (Cond.constantLong RX10 53 (5)) := ⟨in6 _ (List.mem_of_getElem? (i := 237) rfl), rfl⟩
theorem mw_775 : mT (Cond.codeWith yL_crackYear cL_crackYear 5 (some .int) [(0, 10, 13, 28)]) := ⟨in4 _ (List.mem_of_getElem? (i := 44) rfl), rfl⟩
theorem mw_776 : mT (Cond.methodLink RX9 178 yX0_yearOfCrack) := ⟨in4 _ (List.mem_of_getElem? (i := 49) rfl), rfl⟩
theorem mw_777 : mT (Cond.code yX9_crackYear cX9_crackYear 3 (some .int)) := ⟨in4 _ (List.mem_of_getElem? (i := 48) rfl), rfl⟩
theorem mw_778 : mT (Cond.selects RX9 yX9_crackYear yX9_crackYear) := ⟨in4 _ (List.mem_of_getElem? (i := 47) rfl), rfl⟩
theorem mw_779 : mT (Cond.instanceMethod yX9_crackYear) := ⟨in4 _ (List.mem_of_getElem? (i := 46) rfl), rfl⟩
theorem mw_780 : mT (Cond.methodLink RL 33 yX9_crackYear) := ⟨in4 _ (List.mem_of_getElem? (i := 45) rfl), rfl⟩
theorem mw_781 : mT (Cond.code yX10_crackYear cX10_crackYear 3 (some .int)) := ⟨in7 _ (List.mem_of_getElem? (i := 5) rfl), rfl⟩
theorem mw_782 : mT (Cond.codeWith yL_ofSeal cL_ofSeal 5 (some .int) [(0, 10, 13, 28), (0, 10, 17, 13)]) := ⟨in4 _ (List.mem_of_getElem? (i := 52) rfl), rfl⟩
theorem mw_783 : mT (Cond.methodLink RX9 182 yX4_has) := ⟨in4 _ (List.mem_of_getElem? (i := 57) rfl), rfl⟩
theorem mw_784 : mT (Cond.fieldLink RX9 198 "CordSeals$Seals" "hangsOn" "[I") := ⟨in1 _ (List.mem_of_getElem? (i := 234) rfl), rfl⟩
theorem mw_785 : mT (Cond.fieldLink RX9 195 "CordSeals$Seals" "shown" "[I") := ⟨in1 _ (List.mem_of_getElem? (i := 230) rfl), rfl⟩
theorem mw_786 : mT (Cond.fieldLink RX9 192 "CordSeals$Seals" "bubbles" "[I") := ⟨in1 _ (List.mem_of_getElem? (i := 226) rfl), rfl⟩
theorem mw_787 : mT (Cond.fieldLink RX9 189 "CordSeals$Seals" "colour" "[I") := ⟨in1 _ (List.mem_of_getElem? (i := 222) rfl), rfl⟩
theorem mw_788 : mT (Cond.fieldLink RX9 186 "CordSeals$Seals" "material" "[I") := ⟨in1 _ (List.mem_of_getElem? (i := 218) rfl), rfl⟩
theorem mw_789 : mT (Cond.fieldLink RX9 183 "CordSeals$Seals" "die" "[I") := ⟨in1 _ (List.mem_of_getElem? (i := 214) rfl), rfl⟩
theorem mw_790 : mT (Cond.code yX9_ofSeal cX9_ofSeal 3 (some .int)) := ⟨in4 _ (List.mem_of_getElem? (i := 56) rfl), rfl⟩
theorem mw_791 : mT (Cond.selects RX9 yX9_ofSeal yX9_ofSeal) := ⟨in4 _ (List.mem_of_getElem? (i := 55) rfl), rfl⟩
theorem mw_792 : mT (Cond.instanceMethod yX9_ofSeal) := ⟨in4 _ (List.mem_of_getElem? (i := 54) rfl), rfl⟩
theorem mw_793 : mT (Cond.methodLink RL 36 yX9_ofSeal) := ⟨in4 _ (List.mem_of_getElem? (i := 53) rfl), rfl⟩
theorem mw_794 : mT (Cond.methodLink RX9 204 yX5_placeOf) := ⟨in4 _ (List.mem_of_getElem? (i := 67) rfl), rfl⟩
theorem mw_795 : mT (Cond.methodLink RX5 24 yX5_at) := ⟨in4 _ (List.mem_of_getElem? (i := 66) rfl), rfl⟩
theorem mw_796 : mT (Cond.code yX5_placeOn cX5_placeOn 4 (some .int)) := ⟨in4 _ (List.mem_of_getElem? (i := 65) rfl), rfl⟩
theorem mw_797 : mT (Cond.selects RX5 yX5_placeOn yX5_placeOn) := ⟨in4 _ (List.mem_of_getElem? (i := 64) rfl), rfl⟩
theorem mw_798 : mT (Cond.instanceMethod yX5_placeOn) := ⟨in4 _ (List.mem_of_getElem? (i := 63) rfl), rfl⟩
theorem mw_799 : mT (Cond.methodLink RX5 28 yX5_placeOn) := ⟨in4 _ (List.mem_of_getElem? (i := 62) rfl), rfl⟩
theorem mw_800 : mT (Cond.code yX5_shelfOf cX5_shelfOf 3 (some .int)) := ⟨in4 _ (List.mem_of_getElem? (i := 61) rfl), rfl⟩
theorem mw_801 : mT (Cond.selects RX5 yX5_shelfOf yX5_shelfOf) := ⟨in4 _ (List.mem_of_getElem? (i := 60) rfl), rfl⟩
theorem mw_802 : mT (Cond.instanceMethod yX5_shelfOf) := ⟨in4 _ (List.mem_of_getElem? (i := 59) rfl), rfl⟩
theorem mw_803 : mT (Cond.methodLink RX9 201 yX5_shelfOf) := ⟨in4 _ (List.mem_of_getElem? (i := 58) rfl), rfl⟩
theorem mw_804 : mT (Cond.methodLink RX5 31 yX5_shelfOf) := ⟨in4 _ (List.mem_of_getElem? (i := 71) rfl), rfl⟩
theorem mw_805 : mT (Cond.code yX5_placeOf cX5_placeOf 3 (some .int)) := ⟨in4 _ (List.mem_of_getElem? (i := 70) rfl), rfl⟩
theorem mw_806 : mT (Cond.selects RX5 yX5_placeOf yX5_placeOf) := ⟨in4 _ (List.mem_of_getElem? (i := 69) rfl), rfl⟩
theorem mw_807 : mT (Cond.instanceMethod yX5_placeOf) := ⟨in4 _ (List.mem_of_getElem? (i := 68) rfl), rfl⟩
theorem mw_808 : mT (Cond.code yX10_ofSeal cX10_ofSeal 4 (some .int)) := ⟨in7 _ (List.mem_of_getElem? (i := 9) rfl), rfl⟩
theorem mw_809 : mT (Cond.constantLong RX10 135 (7)) := ⟨in7 _ (List.mem_of_getElem? (i := 10) rfl), rfl⟩
theorem mw_810 : mT (Cond.codeWith yL_dated cL_dated 5 (some .int) [(0, 10, 13, 28), (0, 10, 17, 13)]) := ⟨in4 _ (List.mem_of_getElem? (i := 74) rfl), rfl⟩
theorem mw_811 : mT (Cond.fieldLink RX9 222 "CordSeals$Judge" "reason" "[I") := ⟨in1 _ (List.mem_of_getElem? (i := 111) rfl), rfl⟩
theorem mw_812 : mT (Cond.fieldLink RX9 210 "CordSeals$Judge" "ofSeals" "[LCordSeals$Years;") := ⟨in1 _ (List.mem_of_getElem? (i := 107) rfl), rfl⟩
theorem mw_813 : mT (Cond.fieldLink RX9 207 "CordSeals$Judge" "first" "[I") := ⟨in1 _ (List.mem_of_getElem? (i := 113) rfl), rfl⟩
theorem mw_814 : mT (Cond.code yX9_dated cX9_dated 3 (some .int)) := ⟨in4 _ (List.mem_of_getElem? (i := 78) rfl), rfl⟩
theorem mw_815 : mT (Cond.selects RX9 yX9_dated yX9_dated) := ⟨in4 _ (List.mem_of_getElem? (i := 77) rfl), rfl⟩
theorem mw_816 : mT (Cond.instanceMethod yX9_dated) := ⟨in4 _ (List.mem_of_getElem? (i := 76) rfl), rfl⟩
theorem mw_817 : mT (Cond.methodLink RL 39 yX9_dated) := ⟨in4 _ (List.mem_of_getElem? (i := 75) rfl), rfl⟩
theorem mw_818 : mT (Cond.instanceMethod yX8_last) := ⟨in4 _ (List.mem_of_getElem? (i := 80) rfl), rfl⟩
theorem mw_819 : mT (Cond.methodLink RX9 214 yX8_last) := ⟨in4 _ (List.mem_of_getElem? (i := 79) rfl), rfl⟩
theorem mw_820 : mT (Cond.code yX8_count cX8_count 6 (some .int)) := ⟨in4 _ (List.mem_of_getElem? (i := 86) rfl), rfl⟩
theorem mw_821 : mT (Cond.selects RX8 yX8_count yX8_count) := ⟨in4 _ (List.mem_of_getElem? (i := 85) rfl), rfl⟩
theorem mw_822 : mT (Cond.instanceMethod yX8_count) := ⟨in4 _ (List.mem_of_getElem? (i := 84) rfl), rfl⟩
theorem mw_823 : mT (Cond.methodLink RX9 220 yX8_count) := ⟨in4 _ (List.mem_of_getElem? (i := 83) rfl), rfl⟩
theorem mw_824 : mT (Cond.code yX8_last cX8_last 4 (some .int)) := ⟨in4 _ (List.mem_of_getElem? (i := 82) rfl), rfl⟩
theorem mw_825 : mT (Cond.selects RX8 yX8_last yX8_last) := ⟨in4 _ (List.mem_of_getElem? (i := 81) rfl), rfl⟩
theorem mw_826 : mT (Cond.code yX10_dated cX10_dated 3 (some .int)) := ⟨in7 _ (List.mem_of_getElem? (i := 14) rfl), rfl⟩
theorem mw_827 : mT (Cond.constantLong RX10 274 (3)) := ⟨in7 _ (List.mem_of_getElem? (i := 15) rfl), rfl⟩
theorem mw_828 : mT (Cond.codeWith yL_isPossible cL_isPossible 5 (some .int) [(0, 17, 20, 28), (0, 17, 24, 13)]) := ⟨in4 _ (List.mem_of_getElem? (i := 89) rfl), rfl⟩
theorem mw_829 : mT (Cond.methodLink RX9 225 yX9_isYear) := ⟨in4 _ (List.mem_of_getElem? (i := 94) rfl), rfl⟩
theorem mw_830 : mT (Cond.code yX9_isPossible cX9_isPossible 3 (some .boolean)) := ⟨in4 _ (List.mem_of_getElem? (i := 93) rfl), rfl⟩
theorem mw_831 : mT (Cond.selects RX9 yX9_isPossible yX9_isPossible) := ⟨in4 _ (List.mem_of_getElem? (i := 92) rfl), rfl⟩
theorem mw_832 : mT (Cond.instanceMethod yX9_isPossible) := ⟨in4 _ (List.mem_of_getElem? (i := 91) rfl), rfl⟩
theorem mw_833 : mT (Cond.methodLink RL 42 yX9_isPossible) := ⟨in4 _ (List.mem_of_getElem? (i := 90) rfl), rfl⟩
theorem mw_834 : mT (Cond.methodLink RX9 228 yX8_contains) := ⟨in4 _ (List.mem_of_getElem? (i := 95) rfl), rfl⟩
theorem mw_835 : mT (Cond.code yX3_spanOf cX3_spanOf 3 (some .int)) := ⟨in4 _ (List.mem_of_getElem? (i := 102) rfl), rfl⟩
theorem mw_836 : mT (Cond.selects RX3 yX3_spanOf yX3_spanOf) := ⟨in4 _ (List.mem_of_getElem? (i := 101) rfl), rfl⟩
theorem mw_837 : mT (Cond.instanceMethod yX3_spanOf) := ⟨in4 _ (List.mem_of_getElem? (i := 100) rfl), rfl⟩
theorem mw_838 : mT (Cond.methodLink RX8 46 yX3_spanOf) := ⟨in4 _ (List.mem_of_getElem? (i := 99) rfl), rfl⟩
theorem mw_839 : mT (Cond.code yX8_contains cX8_contains 3 (some .boolean)) := ⟨in4 _ (List.mem_of_getElem? (i := 98) rfl), rfl⟩
theorem mw_840 : mT (Cond.selects RX8 yX8_contains yX8_contains) := ⟨in4 _ (List.mem_of_getElem? (i := 97) rfl), rfl⟩
theorem mw_841 : mT (Cond.instanceMethod yX8_contains) := ⟨in4 _ (List.mem_of_getElem? (i := 96) rfl), rfl⟩
theorem mw_842 : mT (Cond.code yX10_isPossible cX10_isPossible 3 (some .boolean)) := ⟨in7 _ (List.mem_of_getElem? (i := 19) rfl), rfl⟩
theorem mw_843 : mT (Cond.code yX10_can cX10_can 3 (some .boolean)) := ⟨in7 _ (List.mem_of_getElem? (i := 28) rfl), rfl⟩
theorem mw_844 : mT (Cond.selects RX10 yX10_can yX10_can) := ⟨in0 _ (List.mem_of_getElem? (i := 56) rfl), rfl⟩
theorem mw_845 : mT (Cond.instanceMethod yX10_can) := ⟨in7 _ (List.mem_of_getElem? (i := 27) rfl), rfl⟩
theorem mw_846 : mT (Cond.methodLink RX10 276 yX10_can) := ⟨in7 _ (List.mem_of_getElem? (i := 25) rfl), rfl⟩
theorem mw_847 : mT (Cond.constantLong RX10 47 (1999)) := ⟨in7 _ (List.mem_of_getElem? (i := 24) rfl), rfl⟩
theorem mw_848 : mT (Cond.constantLong RX10 45 (1000)) := ⟨in7 _ (List.mem_of_getElem? (i := 23) rfl), rfl⟩
theorem mw_849 : mT (Cond.code yX10_isYear cX10_isYear 1 (some .boolean)) := ⟨in7 _ (List.mem_of_getElem? (i := 22) rfl), rfl⟩
theorem mw_850 : mT (Cond.static yX10_isYear) := ⟨in7 _ (List.mem_of_getElem? (i := 21) rfl), rfl⟩
theorem mw_851 : mT (Cond.methodLink RX10 129 yX10_isYear) := ⟨in7 _ (List.mem_of_getElem? (i := 20) rfl), rfl⟩
theorem mw_852 : mT (Cond.codeWith yL_charter cL_charter 5 (some .int) [(0, 10, 13, 28), (0, 10, 17, 13)]) := ⟨in4 _ (List.mem_of_getElem? (i := 105) rfl), rfl⟩
theorem mw_853 : mT (Cond.methodLink RX9 232 yX9_isCharter) := ⟨in4 _ (List.mem_of_getElem? (i := 110) rfl), rfl⟩
theorem mw_854 : mT (Cond.fieldLink RX9 238 "CordSeals$Judge" "ofCharters" "[LCordSeals$Years;") := ⟨in1 _ (List.mem_of_getElem? (i := 109) rfl), rfl⟩
theorem mw_855 : mT (Cond.code yX9_charter cX9_charter 3 (some .int)) := ⟨in4 _ (List.mem_of_getElem? (i := 109) rfl), rfl⟩
theorem mw_856 : mT (Cond.selects RX9 yX9_charter yX9_charter) := ⟨in4 _ (List.mem_of_getElem? (i := 108) rfl), rfl⟩
theorem mw_857 : mT (Cond.instanceMethod yX9_charter) := ⟨in4 _ (List.mem_of_getElem? (i := 107) rfl), rfl⟩
theorem mw_858 : mT (Cond.methodLink RL 46 yX9_charter) := ⟨in4 _ (List.mem_of_getElem? (i := 106) rfl), rfl⟩
theorem mw_859 : mT (Cond.methodLink RX9 235 yX4_ofOneCharter) := ⟨in4 _ (List.mem_of_getElem? (i := 111) rfl), rfl⟩
theorem mw_860 : mT (Cond.methodLink RX9 243 yX1_fakesOfCharter) := ⟨in4 _ (List.mem_of_getElem? (i := 113) rfl), rfl⟩
theorem mw_861 : mT (Cond.methodLink RX9 241 yX8_first) := ⟨in4 _ (List.mem_of_getElem? (i := 112) rfl), rfl⟩
theorem mw_862 : mT (Cond.code yX10_charter cX10_charter 3 (some .int)) := ⟨in7 _ (List.mem_of_getElem? (i := 32) rfl), rfl⟩
theorem mw_863 : mT (Cond.code yX10_isCharter cX10_isCharter 1 (some .boolean)) := ⟨in7 _ (List.mem_of_getElem? (i := 35) rfl), rfl⟩
theorem mw_864 : mT (Cond.static yX10_isCharter) := ⟨in7 _ (List.mem_of_getElem? (i := 34) rfl), rfl⟩
theorem mw_865 : mT (Cond.methodLink RX10 279 yX10_isCharter) := ⟨in7 _ (List.mem_of_getElem? (i := 33) rfl), rfl⟩
theorem mw_866 : mT (Cond.constantLong RX10 282 (4)) := ⟨in7 _ (List.mem_of_getElem? (i := 36) rfl), rfl⟩
theorem mw_867 : mT (Cond.codeWith yL_onShelf cL_onShelf 5 (some .int) [(0, 10, 13, 28), (0, 10, 17, 13)]) := ⟨in4 _ (List.mem_of_getElem? (i := 116) rfl), rfl⟩
theorem mw_868 : mT (Cond.methodLink RX9 251 yX5_at) := ⟨in4 _ (List.mem_of_getElem? (i := 124) rfl), rfl⟩
theorem mw_869 : mT (Cond.code yX9_isShelf cX9_isShelf 1 (some .boolean)) := ⟨in4 _ (List.mem_of_getElem? (i := 123) rfl), rfl⟩
theorem mw_870 : mT (Cond.static yX9_isShelf) := ⟨in4 _ (List.mem_of_getElem? (i := 122) rfl), rfl⟩
theorem mw_871 : mT (Cond.methodLink RX9 246 yX9_isShelf) := ⟨in4 _ (List.mem_of_getElem? (i := 121) rfl), rfl⟩
theorem mw_872 : mT (Cond.fieldLink RX9 249 "CordSeals$Shelves" "count" "[I") := ⟨in2 _ (List.mem_of_getElem? (i := 18) rfl), rfl⟩
theorem mw_873 : mT (Cond.code yX9_onShelf cX9_onShelf 3 (some .int)) := ⟨in4 _ (List.mem_of_getElem? (i := 120) rfl), rfl⟩
theorem mw_874 : mT (Cond.selects RX9 yX9_onShelf yX9_onShelf) := ⟨in4 _ (List.mem_of_getElem? (i := 119) rfl), rfl⟩
theorem mw_875 : mT (Cond.instanceMethod yX9_onShelf) := ⟨in4 _ (List.mem_of_getElem? (i := 118) rfl), rfl⟩
theorem mw_876 : mT (Cond.methodLink RL 49 yX9_onShelf) := ⟨in4 _ (List.mem_of_getElem? (i := 117) rfl), rfl⟩
theorem mw_877 : mT (Cond.code yX10_onShelf cX10_onShelf 3 (some .int)) := ⟨in7 _ (List.mem_of_getElem? (i := 40) rfl), rfl⟩
theorem mw_878 : mT (Cond.code yX10_isShelf cX10_isShelf 1 (some .boolean)) := ⟨in7 _ (List.mem_of_getElem? (i := 43) rfl), rfl⟩
theorem mw_879 : mT (Cond.static yX10_isShelf) := ⟨in7 _ (List.mem_of_getElem? (i := 42) rfl), rfl⟩
theorem mw_880 : mT (Cond.methodLink RX10 284 yX10_isShelf) := ⟨in7 _ (List.mem_of_getElem? (i := 41) rfl), rfl⟩
theorem mw_881 : mT (Cond.codeWith yL_reign cL_reign 5 (some .int) [(0, 10, 13, 13), (0, 10, 17, 15)]) := ⟨in4 _ (List.mem_of_getElem? (i := 127) rfl), rfl⟩
theorem mw_882 : mT (Cond.methodLink RX6 66 arraycopyName) := ⟨in4 _ (List.mem_of_getElem? (i := 162) rfl), rfl⟩
theorem mw_883 : mT (Cond.code yX6_copy cX6_copy 2 none) := ⟨in4 _ (List.mem_of_getElem? (i := 139) rfl), rfl⟩
theorem mw_884 : mT (Cond.selects RX6 yX6_copy yX6_copy) := ⟨in4 _ (List.mem_of_getElem? (i := 138) rfl), rfl⟩
theorem mw_885 : mT (Cond.instanceMethod yX6_copy) := ⟨in4 _ (List.mem_of_getElem? (i := 137) rfl), rfl⟩
theorem mw_886 : mT (Cond.methodLink RX9 301 yX6_copy) := ⟨in4 _ (List.mem_of_getElem? (i := 136) rfl), rfl⟩
theorem mw_887 : mT (Cond.code yX9_freshTrial cX9_freshTrial 1 (some (.object "CordSeals$State"))) := ⟨in4 _ (List.mem_of_getElem? (i := 135) rfl), rfl⟩
theorem mw_888 : mT (Cond.selects RX9 yX9_freshTrial yX9_freshTrial) := ⟨in0 _ (List.mem_of_getElem? (i := 20) rfl), rfl⟩
theorem mw_889 : mT (Cond.instanceMethod yX9_freshTrial) := ⟨in4 _ (List.mem_of_getElem? (i := 134) rfl), rfl⟩
theorem mw_890 : mT (Cond.methodLink RX9 254 yX9_freshTrial) := ⟨in4 _ (List.mem_of_getElem? (i := 132) rfl), rfl⟩
theorem mw_891 : mT (Cond.code yX9_reign cX9_reign 3 (some .int)) := ⟨in4 _ (List.mem_of_getElem? (i := 131) rfl), rfl⟩
theorem mw_892 : mT (Cond.selects RX9 yX9_reign yX9_reign) := ⟨in4 _ (List.mem_of_getElem? (i := 130) rfl), rfl⟩
theorem mw_893 : mT (Cond.instanceMethod yX9_reign) := ⟨in4 _ (List.mem_of_getElem? (i := 129) rfl), rfl⟩
theorem mw_894 : mT (Cond.methodLink RL 52 yX9_reign) := ⟨in4 _ (List.mem_of_getElem? (i := 128) rfl), rfl⟩
theorem mw_895 : mT (Cond.methodLink RX0 31 arraycopyName) := ⟨in4 _ (List.mem_of_getElem? (i := 151) rfl), rfl⟩
theorem mw_896 : mT (Cond.code yX0_copy cX0_copy 2 none) := ⟨in4 _ (List.mem_of_getElem? (i := 150) rfl), rfl⟩
theorem mw_897 : mT (Cond.selects RX0 yX0_copy yX0_copy) := ⟨in4 _ (List.mem_of_getElem? (i := 149) rfl), rfl⟩
theorem mw_898 : mT (Cond.instanceMethod yX0_copy) := ⟨in4 _ (List.mem_of_getElem? (i := 148) rfl), rfl⟩
theorem mw_899 : mT (Cond.methodLink RX6 57 yX0_copy) := ⟨in4 _ (List.mem_of_getElem? (i := 147) rfl), rfl⟩
theorem mw_900 : mT (Cond.methodLink RX3 22 arraycopyName) := ⟨in4 _ (List.mem_of_getElem? (i := 144) rfl), rfl⟩
theorem mw_901 : mT (Cond.code yX3_copy cX3_copy 2 none) := ⟨in4 _ (List.mem_of_getElem? (i := 143) rfl), rfl⟩
theorem mw_902 : mT (Cond.selects RX3 yX3_copy yX3_copy) := ⟨in4 _ (List.mem_of_getElem? (i := 142) rfl), rfl⟩
theorem mw_903 : mT (Cond.instanceMethod yX3_copy) := ⟨in4 _ (List.mem_of_getElem? (i := 141) rfl), rfl⟩
theorem mw_904 : mT (Cond.methodLink RX6 53 yX3_copy) := ⟨in4 _ (List.mem_of_getElem? (i := 140) rfl), rfl⟩
theorem mw_905 : mT (Cond.initialized "java/lang/System") := ⟨in1 _ (List.mem_of_getElem? (i := 19) rfl), rfl⟩
theorem mw_906 : mT (Cond.static arraycopyName) := ⟨in4 _ (List.mem_of_getElem? (i := 145) rfl), rfl⟩
theorem mw_907 : mT (Cond.native arraycopyName) := ⟨in4 _ (List.mem_of_getElem? (i := 146) rfl), rfl⟩
theorem mw_908 : mT (Cond.methodLink RX9 258 yX6_addReign) := ⟨in4 _ (List.mem_of_getElem? (i := 163) rfl), rfl⟩
theorem mw_909 : mT (Cond.methodLink RX5 18 arraycopyName) := ⟨in4 _ (List.mem_of_getElem? (i := 161) rfl), rfl⟩
theorem mw_910 : mT (Cond.code yX5_copy cX5_copy 2 none) := ⟨in4 _ (List.mem_of_getElem? (i := 160) rfl), rfl⟩
theorem mw_911 : mT (Cond.selects RX5 yX5_copy yX5_copy) := ⟨in4 _ (List.mem_of_getElem? (i := 159) rfl), rfl⟩
theorem mw_912 : mT (Cond.instanceMethod yX5_copy) := ⟨in4 _ (List.mem_of_getElem? (i := 158) rfl), rfl⟩
theorem mw_913 : mT (Cond.methodLink RX6 63 yX5_copy) := ⟨in4 _ (List.mem_of_getElem? (i := 157) rfl), rfl⟩
theorem mw_914 : mT (Cond.methodLink RX4 34 arraycopyName) := ⟨in4 _ (List.mem_of_getElem? (i := 156) rfl), rfl⟩
theorem mw_915 : mT (Cond.code yX4_copy cX4_copy 2 none) := ⟨in4 _ (List.mem_of_getElem? (i := 155) rfl), rfl⟩
theorem mw_916 : mT (Cond.selects RX4 yX4_copy yX4_copy) := ⟨in4 _ (List.mem_of_getElem? (i := 154) rfl), rfl⟩
theorem mw_917 : mT (Cond.instanceMethod yX4_copy) := ⟨in4 _ (List.mem_of_getElem? (i := 153) rfl), rfl⟩
theorem mw_918 : mT (Cond.methodLink RX6 60 yX4_copy) := ⟨in4 _ (List.mem_of_getElem? (i := 152) rfl), rfl⟩
theorem mw_919 : mT (Cond.code yX9_mustBeAnswer cX9_mustBeAnswer 1 none) := ⟨in4 _ (List.mem_of_getElem? (i := 170) rfl), rfl⟩
theorem mw_920 : mT (Cond.static yX9_mustBeAnswer) := ⟨in4 _ (List.mem_of_getElem? (i := 169) rfl), rfl⟩
theorem mw_921 : mT (Cond.methodLink RX9 304 yX9_mustBeAnswer) := ⟨in4 _ (List.mem_of_getElem? (i := 168) rfl), rfl⟩
theorem mw_922 : mT (Cond.code yX9_finish cX9_finish 3 (some .int)) := ⟨in4 _ (List.mem_of_getElem? (i := 167) rfl), rfl⟩
theorem mw_923 : mT (Cond.selects RX9 yX9_finish yX9_finish) := ⟨in0 _ (List.mem_of_getElem? (i := 21) rfl), rfl⟩
theorem mw_924 : mT (Cond.instanceMethod yX9_finish) := ⟨in4 _ (List.mem_of_getElem? (i := 166) rfl), rfl⟩
theorem mw_925 : mT (Cond.methodLink RX9 261 yX9_finish) := ⟨in4 _ (List.mem_of_getElem? (i := 164) rfl), rfl⟩
theorem mw_926 : mT (Cond.fieldLink RX2 22 "CordSeals$Memory" "oldest" "I") := ⟨in2 _ (List.mem_of_getElem? (i := 63) rfl), rfl⟩
theorem mw_927 : mT (Cond.code yX2_remember cX2_remember 4 (some (.object "CordSeals$State"))) := ⟨in4 _ (List.mem_of_getElem? (i := 174) rfl), rfl⟩
theorem mw_928 : mT (Cond.selects RX2 yX2_remember yX2_remember) := ⟨in4 _ (List.mem_of_getElem? (i := 173) rfl), rfl⟩
theorem mw_929 : mT (Cond.instanceMethod yX2_remember) := ⟨in4 _ (List.mem_of_getElem? (i := 172) rfl), rfl⟩
theorem mw_930 : mT (Cond.methodLink RX9 308 yX2_remember) := ⟨in4 _ (List.mem_of_getElem? (i := 171) rfl), rfl⟩
theorem mw_931 : mT (Cond.code yX10_reign cX10_reign 3 (some .int)) := ⟨in7 _ (List.mem_of_getElem? (i := 47) rfl), rfl⟩
theorem mw_932 : mT (Cond.code yX10_remember cX10_remember 2 none) := ⟨in7 _ (List.mem_of_getElem? (i := 51) rfl), rfl⟩
theorem mw_933 : mT (Cond.selects RX10 yX10_remember yX10_remember) := ⟨in0 _ (List.mem_of_getElem? (i := 57) rfl), rfl⟩
theorem mw_934 : mT (Cond.instanceMethod yX10_remember) := ⟨in7 _ (List.mem_of_getElem? (i := 50) rfl), rfl⟩
theorem mw_935 : mT (Cond.methodLink RX10 287 yX10_remember) := ⟨in7 _ (List.mem_of_getElem? (i := 48) rfl), rfl⟩
theorem mw_936 : mT (Cond.codeWith yL_die cL_die 6 (some .int) [(0, 12, 15, 13), (0, 12, 19, 15)]) := ⟨in4 _ (List.mem_of_getElem? (i := 177) rfl), rfl⟩
theorem mw_937 : mT (Cond.code yX9_die cX9_die 4 (some .int)) := ⟨in4 _ (List.mem_of_getElem? (i := 181) rfl), rfl⟩
theorem mw_938 : mT (Cond.selects RX9 yX9_die yX9_die) := ⟨in4 _ (List.mem_of_getElem? (i := 180) rfl), rfl⟩
theorem mw_939 : mT (Cond.instanceMethod yX9_die) := ⟨in4 _ (List.mem_of_getElem? (i := 179) rfl), rfl⟩
theorem mw_940 : mT (Cond.methodLink RL 55 yX9_die) := ⟨in4 _ (List.mem_of_getElem? (i := 178) rfl), rfl⟩
theorem mw_941 : mT (Cond.methodLink RX9 264 yX6_addDie) := ⟨in4 _ (List.mem_of_getElem? (i := 182) rfl), rfl⟩
theorem mw_942 : mT (Cond.code yX10_die cX10_die 4 (some .int)) := ⟨in7 _ (List.mem_of_getElem? (i := 55) rfl), rfl⟩
theorem mw_943 : mT (Cond.code yX10_areYears cX10_areYears 2 (some .boolean)) := ⟨in7 _ (List.mem_of_getElem? (i := 58) rfl), rfl⟩
theorem mw_944 : mT (Cond.static yX10_areYears) := ⟨in7 _ (List.mem_of_getElem? (i := 57) rfl), rfl⟩
theorem mw_945 : mT (Cond.methodLink RX10 290 yX10_areYears) := ⟨in7 _ (List.mem_of_getElem? (i := 56) rfl), rfl⟩
theorem mw_946 : mT (Cond.codeWith yL_crack cL_crack 5 (some .int) [(0, 10, 13, 28), (0, 10, 17, 13), (0, 10, 21, 15)]) := ⟨in4 _ (List.mem_of_getElem? (i := 185) rfl), rfl⟩
theorem mw_947 : mT (Cond.code yX9_crack cX9_crack 3 (some .int)) := ⟨in4 _ (List.mem_of_getElem? (i := 189) rfl), rfl⟩
theorem mw_948 : mT (Cond.selects RX9 yX9_crack yX9_crack) := ⟨in4 _ (List.mem_of_getElem? (i := 188) rfl), rfl⟩
theorem mw_949 : mT (Cond.instanceMethod yX9_crack) := ⟨in4 _ (List.mem_of_getElem? (i := 187) rfl), rfl⟩
theorem mw_950 : mT (Cond.methodLink RL 59 yX9_crack) := ⟨in4 _ (List.mem_of_getElem? (i := 186) rfl), rfl⟩
theorem mw_951 : mT (Cond.methodLink RX9 268 yX6_addCrack) := ⟨in4 _ (List.mem_of_getElem? (i := 190) rfl), rfl⟩
theorem mw_952 : mT (Cond.code yX10_crack cX10_crack 3 (some .int)) := ⟨in7 _ (List.mem_of_getElem? (i := 62) rfl), rfl⟩
theorem mw_953 : mT (Cond.codeWith yL_seal cL_seal 8 (some .int) [(0, 16, 19, 28), (0, 16, 23, 13), (0, 16, 27, 15)]) := ⟨in4 _ (List.mem_of_getElem? (i := 193) rfl), rfl⟩
theorem mw_954 : mT (Cond.code yX9_seal cX9_seal 6 (some .int)) := ⟨in4 _ (List.mem_of_getElem? (i := 197) rfl), rfl⟩
theorem mw_955 : mT (Cond.selects RX9 yX9_seal yX9_seal) := ⟨in4 _ (List.mem_of_getElem? (i := 196) rfl), rfl⟩
theorem mw_956 : mT (Cond.instanceMethod yX9_seal) := ⟨in4 _ (List.mem_of_getElem? (i := 195) rfl), rfl⟩
theorem mw_957 : mT (Cond.methodLink RL 62 yX9_seal) := ⟨in4 _ (List.mem_of_getElem? (i := 194) rfl), rfl⟩
theorem mw_958 : mT (Cond.methodLink RX9 271 yX6_addSeal) := ⟨in4 _ (List.mem_of_getElem? (i := 198) rfl), rfl⟩
theorem mw_959 : mT (Cond.code yX10_seal cX10_seal 6 (some .int)) := ⟨in7 _ (List.mem_of_getElem? (i := 66) rfl), rfl⟩
theorem mw_960 : mT (Cond.constantLong RX10 137 (99)) := ⟨in7 _ (List.mem_of_getElem? (i := 71) rfl), rfl⟩
theorem mw_961 : mT (Cond.constantLong RX10 133 (-1)) := ⟨in7 _ (List.mem_of_getElem? (i := 70) rfl), rfl⟩
theorem mw_962 : mT (Cond.code yX10_isKind cX10_isKind 3 (some .boolean)) := ⟨in7 _ (List.mem_of_getElem? (i := 69) rfl), rfl⟩
theorem mw_963 : mT (Cond.static yX10_isKind) := ⟨in7 _ (List.mem_of_getElem? (i := 68) rfl), rfl⟩
theorem mw_964 : mT (Cond.methodLink RX10 293 yX10_isKind) := ⟨in7 _ (List.mem_of_getElem? (i := 67) rfl), rfl⟩
theorem mw_965 : mT (Cond.codeWith yL_show cL_show 5 (some .int) [(0, 10, 13, 28), (0, 10, 17, 13)]) := ⟨in4 _ (List.mem_of_getElem? (i := 201) rfl), rfl⟩
theorem mw_966 : mT (Cond.code yX9_show cX9_show 3 (some .int)) := ⟨in4 _ (List.mem_of_getElem? (i := 205) rfl), rfl⟩
theorem mw_967 : mT (Cond.selects RX9 yX9_show yX9_show) := ⟨in4 _ (List.mem_of_getElem? (i := 204) rfl), rfl⟩
theorem mw_968 : mT (Cond.instanceMethod yX9_show) := ⟨in4 _ (List.mem_of_getElem? (i := 203) rfl), rfl⟩
theorem mw_969 : mT (Cond.methodLink RL 66 yX9_show) := ⟨in4 _ (List.mem_of_getElem? (i := 202) rfl), rfl⟩
theorem mw_970 : mT (Cond.selects RX6 yX6_showCracks yX6_showCracks) := ⟨in4 _ (List.mem_of_getElem? (i := 208) rfl), rfl⟩
theorem mw_971 : mT (Cond.instanceMethod yX6_showCracks) := ⟨in4 _ (List.mem_of_getElem? (i := 207) rfl), rfl⟩
theorem mw_972 : mT (Cond.methodLink RX9 275 yX6_showCracks) := ⟨in4 _ (List.mem_of_getElem? (i := 206) rfl), rfl⟩
theorem mw_973 : mT (Cond.code yX6_showCracks cX6_showCracks 4 (some .int)) := ⟨in4 _ (List.mem_of_getElem? (i := 209) rfl), rfl⟩
theorem mw_974 : mT (Cond.code yX10_show cX10_show 3 (some .int)) := ⟨in7 _ (List.mem_of_getElem? (i := 75) rfl), rfl⟩
theorem mw_975 : mT (Cond.static yX10_goShow) := ⟨in7 _ (List.mem_of_getElem? (i := 77) rfl), rfl⟩
theorem mw_976 : mT (Cond.methodLink RX10 297 yX10_goShow) := ⟨in7 _ (List.mem_of_getElem? (i := 76) rfl), rfl⟩
theorem mw_977 : mT (Cond.code yX10_goShow cX10_goShow 4 (some .int)) := ⟨in7 _ (List.mem_of_getElem? (i := 78) rfl), rfl⟩
theorem mw_978 : mT (Cond.codeWith yL_hang cL_hang 5 (some .int) [(0, 10, 13, 28)]) := ⟨in4 _ (List.mem_of_getElem? (i := 212) rfl), rfl⟩
theorem mw_979 : mT (Cond.code yX9_hang cX9_hang 3 (some .int)) := ⟨in4 _ (List.mem_of_getElem? (i := 216) rfl), rfl⟩
theorem mw_980 : mT (Cond.selects RX9 yX9_hang yX9_hang) := ⟨in4 _ (List.mem_of_getElem? (i := 215) rfl), rfl⟩
theorem mw_981 : mT (Cond.instanceMethod yX9_hang) := ⟨in4 _ (List.mem_of_getElem? (i := 214) rfl), rfl⟩
theorem mw_982 : mT (Cond.methodLink RL 69 yX9_hang) := ⟨in4 _ (List.mem_of_getElem? (i := 213) rfl), rfl⟩
theorem mw_983 : mT (Cond.methodLink RX9 278 yX6_hangOn) := ⟨in4 _ (List.mem_of_getElem? (i := 217) rfl), rfl⟩
theorem mw_984 : mT (Cond.code yX10_hang cX10_hang 3 (some .int)) := ⟨in7 _ (List.mem_of_getElem? (i := 82) rfl), rfl⟩
theorem mw_985 : mT (Cond.codeWith yL_cut cL_cut 4 (some .int) [(0, 9, 12, 28), (0, 9, 15, 15)]) := ⟨in4 _ (List.mem_of_getElem? (i := 220) rfl), rfl⟩
theorem mw_986 : mT (Cond.code yX9_cut cX9_cut 2 (some .int)) := ⟨in4 _ (List.mem_of_getElem? (i := 224) rfl), rfl⟩
theorem mw_987 : mT (Cond.selects RX9 yX9_cut yX9_cut) := ⟨in4 _ (List.mem_of_getElem? (i := 223) rfl), rfl⟩
theorem mw_988 : mT (Cond.instanceMethod yX9_cut) := ⟨in4 _ (List.mem_of_getElem? (i := 222) rfl), rfl⟩
theorem mw_989 : mT (Cond.methodLink RL 72 yX9_cut) := ⟨in4 _ (List.mem_of_getElem? (i := 221) rfl), rfl⟩
theorem mw_990 : mT (Cond.selects RX6 yX6_cutOff yX6_cutOff) := ⟨in4 _ (List.mem_of_getElem? (i := 227) rfl), rfl⟩
theorem mw_991 : mT (Cond.instanceMethod yX6_cutOff) := ⟨in4 _ (List.mem_of_getElem? (i := 226) rfl), rfl⟩
theorem mw_992 : mT (Cond.methodLink RX9 281 yX6_cutOff) := ⟨in4 _ (List.mem_of_getElem? (i := 225) rfl), rfl⟩
theorem mw_993 : mT (Cond.code yX6_cutOff cX6_cutOff 3 (some .int)) := ⟨in4 _ (List.mem_of_getElem? (i := 228) rfl), rfl⟩
theorem mw_994 : mT (Cond.code yX10_cut cX10_cut 2 (some .int)) := ⟨in7 _ (List.mem_of_getElem? (i := 86) rfl), rfl⟩
theorem mw_995 : mT (Cond.code yX10_goCut cX10_goCut 3 (some .int)) := ⟨in7 _ (List.mem_of_getElem? (i := 89) rfl), rfl⟩
theorem mw_996 : mT (Cond.static yX10_goCut) := ⟨in7 _ (List.mem_of_getElem? (i := 88) rfl), rfl⟩
theorem mw_997 : mT (Cond.methodLink RX10 300 yX10_goCut) := ⟨in7 _ (List.mem_of_getElem? (i := 87) rfl), rfl⟩
theorem mw_998 : mT (Cond.codeWith yL_shelve cL_shelve 6 (some .int) [(0, 12, 15, 28), (0, 12, 19, 13), (0, 12, 23, 15)]) := ⟨in4 _ (List.mem_of_getElem? (i := 231) rfl), rfl⟩
theorem mw_999 : mT (Cond.code yX9_shelve cX9_shelve 4 (some .int)) := ⟨in4 _ (List.mem_of_getElem? (i := 235) rfl), rfl⟩
theorem mw_1000 : mT (Cond.selects RX9 yX9_shelve yX9_shelve) := ⟨in4 _ (List.mem_of_getElem? (i := 234) rfl), rfl⟩
theorem mw_1001 : mT (Cond.instanceMethod yX9_shelve) := ⟨in4 _ (List.mem_of_getElem? (i := 233) rfl), rfl⟩
theorem mw_1002 : mT (Cond.methodLink RL 75 yX9_shelve) := ⟨in4 _ (List.mem_of_getElem? (i := 232) rfl), rfl⟩
theorem mw_1003 : mT (Cond.instanceMethod yX6_putOnShelf) := ⟨in4 _ (List.mem_of_getElem? (i := 237) rfl), rfl⟩
theorem mw_1004 : mT (Cond.methodLink RX9 284 yX6_putOnShelf) := ⟨in4 _ (List.mem_of_getElem? (i := 236) rfl), rfl⟩
theorem mw_1005 : mT (Cond.selects RX6 yX6_hasOtherHouse yX6_hasOtherHouse) := ⟨in0 _ (List.mem_of_getElem? (i := 22) rfl), rfl⟩
theorem mw_1006 : mT (Cond.instanceMethod yX6_hasOtherHouse) := ⟨in5 _ (List.mem_of_getElem? (i := 7) rfl), rfl⟩
theorem mw_1007 : mT (Cond.methodLink RX6 189 yX6_hasOtherHouse) := ⟨in5 _ (List.mem_of_getElem? (i := 5) rfl), rfl⟩
theorem mw_1008 : mT (Cond.code yX5_others cX5_others 3 (some .int)) := ⟨in5 _ (List.mem_of_getElem? (i := 4) rfl), rfl⟩
theorem mw_1009 : mT (Cond.selects RX5 yX5_others yX5_others) := ⟨in5 _ (List.mem_of_getElem? (i := 3) rfl), rfl⟩
theorem mw_1010 : mT (Cond.instanceMethod yX5_others) := ⟨in5 _ (List.mem_of_getElem? (i := 2) rfl), rfl⟩
theorem mw_1011 : mT (Cond.methodLink RX6 186 yX5_others) := ⟨in5 _ (List.mem_of_getElem? (i := 1) rfl), rfl⟩
theorem mw_1012 : mT (Cond.fieldLink RX6 200 "CordSeals$Shelves" "count" "[I") := ⟨in2 _ (List.mem_of_getElem? (i := 17) rfl), rfl⟩
theorem mw_1013 : mT (Cond.code yX6_putOnShelf cX6_putOnShelf 5 (some .int)) := ⟨in4 _ (List.mem_of_getElem? (i := 239) rfl), rfl⟩
theorem mw_1014 : mT (Cond.selects RX6 yX6_putOnShelf yX6_putOnShelf) := ⟨in4 _ (List.mem_of_getElem? (i := 238) rfl), rfl⟩
theorem mw_1015 : mT (Cond.code yX5_insert cX5_insert 5 none) := ⟨in5 _ (List.mem_of_getElem? (i := 25) rfl), rfl⟩
theorem mw_1016 : mT (Cond.selects RX5 yX5_insert yX5_insert) := ⟨in5 _ (List.mem_of_getElem? (i := 24) rfl), rfl⟩
theorem mw_1017 : mT (Cond.instanceMethod yX5_insert) := ⟨in5 _ (List.mem_of_getElem? (i := 23) rfl), rfl⟩
theorem mw_1018 : mT (Cond.methodLink RX6 196 yX5_insert) := ⟨in5 _ (List.mem_of_getElem? (i := 22) rfl), rfl⟩
theorem mw_1019 : mT (Cond.code yX5_put cX5_put 4 none) := ⟨in5 _ (List.mem_of_getElem? (i := 21) rfl), rfl⟩
theorem mw_1020 : mT (Cond.selects RX5 yX5_put yX5_put) := ⟨in5 _ (List.mem_of_getElem? (i := 20) rfl), rfl⟩
theorem mw_1021 : mT (Cond.instanceMethod yX5_put) := ⟨in5 _ (List.mem_of_getElem? (i := 19) rfl), rfl⟩
theorem mw_1022 : mT (Cond.methodLink RX5 35 yX5_put) := ⟨in5 _ (List.mem_of_getElem? (i := 18) rfl), rfl⟩
theorem mw_1023 : mT (Cond.code yX5_remove cX5_remove 4 none) := ⟨in5 _ (List.mem_of_getElem? (i := 17) rfl), rfl⟩
theorem mw_1024 : mT (Cond.selects RX5 yX5_remove yX5_remove) := ⟨in5 _ (List.mem_of_getElem? (i := 16) rfl), rfl⟩
theorem mw_1025 : mT (Cond.instanceMethod yX5_remove) := ⟨in5 _ (List.mem_of_getElem? (i := 15) rfl), rfl⟩
theorem mw_1026 : mT (Cond.methodLink RX6 192 yX5_remove) := ⟨in5 _ (List.mem_of_getElem? (i := 14) rfl), rfl⟩
theorem mw_1027 : mT (Cond.code yX6_houseOf cX6_houseOf 2 (some .int)) := ⟨in5 _ (List.mem_of_getElem? (i := 13) rfl), rfl⟩
theorem mw_1028 : mT (Cond.selects RX6 yX6_houseOf yX6_houseOf) := ⟨in0 _ (List.mem_of_getElem? (i := 23) rfl), rfl⟩
theorem mw_1029 : mT (Cond.instanceMethod yX6_houseOf) := ⟨in5 _ (List.mem_of_getElem? (i := 12) rfl), rfl⟩
theorem mw_1030 : mT (Cond.methodLink RX6 205 yX6_houseOf) := ⟨in5 _ (List.mem_of_getElem? (i := 10) rfl), rfl⟩
theorem mw_1031 : mT (Cond.methodLink RX6 202 yX5_at) := ⟨in5 _ (List.mem_of_getElem? (i := 9) rfl), rfl⟩
theorem mw_1032 : mT (Cond.code yX6_hasOtherHouse cX6_hasOtherHouse 4 (some .boolean)) := ⟨in5 _ (List.mem_of_getElem? (i := 8) rfl), rfl⟩
theorem mw_1033 : mT (Cond.code yX10_shelve cX10_shelve 4 (some .int)) := ⟨in7 _ (List.mem_of_getElem? (i := 93) rfl), rfl⟩
theorem mw_1034 : mT (Cond.code yX10_canShelve cX10_canShelve 6 (some .boolean)) := ⟨in7 _ (List.mem_of_getElem? (i := 99) rfl), rfl⟩
theorem mw_1035 : mT (Cond.static yX10_canShelve) := ⟨in7 _ (List.mem_of_getElem? (i := 98) rfl), rfl⟩
theorem mw_1036 : mT (Cond.methodLink RX10 303 yX10_canShelve) := ⟨in7 _ (List.mem_of_getElem? (i := 97) rfl), rfl⟩
theorem mw_1037 : mT (Cond.code yX10_others cX10_others 3 (some .int)) := ⟨in7 _ (List.mem_of_getElem? (i := 96) rfl), rfl⟩
theorem mw_1038 : mT (Cond.static yX10_others) := ⟨in7 _ (List.mem_of_getElem? (i := 95) rfl), rfl⟩
theorem mw_1039 : mT (Cond.methodLink RX10 116 yX10_others) := ⟨in7 _ (List.mem_of_getElem? (i := 94) rfl), rfl⟩
theorem mw_1040 : mT (Cond.code yX10_goTake cX10_goTake 5 none) := ⟨in7 _ (List.mem_of_getElem? (i := 105) rfl), rfl⟩
theorem mw_1041 : mT (Cond.static yX10_goTake) := ⟨in7 _ (List.mem_of_getElem? (i := 104) rfl), rfl⟩
theorem mw_1042 : mT (Cond.methodLink RX10 119 yX10_goTake) := ⟨in7 _ (List.mem_of_getElem? (i := 103) rfl), rfl⟩
theorem mw_1043 : mT (Cond.code yX10_goShelve cX10_goShelve 5 (some .int)) := ⟨in7 _ (List.mem_of_getElem? (i := 102) rfl), rfl⟩
theorem mw_1044 : mT (Cond.static yX10_goShelve) := ⟨in7 _ (List.mem_of_getElem? (i := 101) rfl), rfl⟩
theorem mw_1045 : mT (Cond.methodLink RX10 306 yX10_goShelve) := ⟨in7 _ (List.mem_of_getElem? (i := 100) rfl), rfl⟩
theorem mw_1046 : mT (Cond.codeWith yL_take cL_take 4 (some .int) [(0, 9, 12, 28), (0, 9, 15, 15)]) := ⟨in5 _ (List.mem_of_getElem? (i := 28) rfl), rfl⟩
theorem mw_1047 : mT (Cond.code yX9_take cX9_take 2 (some .int)) := ⟨in5 _ (List.mem_of_getElem? (i := 32) rfl), rfl⟩
theorem mw_1048 : mT (Cond.selects RX9 yX9_take yX9_take) := ⟨in5 _ (List.mem_of_getElem? (i := 31) rfl), rfl⟩
theorem mw_1049 : mT (Cond.instanceMethod yX9_take) := ⟨in5 _ (List.mem_of_getElem? (i := 30) rfl), rfl⟩
theorem mw_1050 : mT (Cond.methodLink RL 78 yX9_take) := ⟨in5 _ (List.mem_of_getElem? (i := 29) rfl), rfl⟩
theorem mw_1051 : mT (Cond.selects RX6 yX6_takeOff yX6_takeOff) := ⟨in5 _ (List.mem_of_getElem? (i := 35) rfl), rfl⟩
theorem mw_1052 : mT (Cond.instanceMethod yX6_takeOff) := ⟨in5 _ (List.mem_of_getElem? (i := 34) rfl), rfl⟩
theorem mw_1053 : mT (Cond.methodLink RX9 287 yX6_takeOff) := ⟨in5 _ (List.mem_of_getElem? (i := 33) rfl), rfl⟩
theorem mw_1054 : mT (Cond.methodLink RX6 208 yX5_shelfOf) := ⟨in5 _ (List.mem_of_getElem? (i := 37) rfl), rfl⟩
theorem mw_1055 : mT (Cond.code yX6_takeOff cX6_takeOff 3 (some .int)) := ⟨in5 _ (List.mem_of_getElem? (i := 36) rfl), rfl⟩
theorem mw_1056 : mT (Cond.code yX10_take cX10_take 3 (some .int)) := ⟨in7 _ (List.mem_of_getElem? (i := 109) rfl), rfl⟩
theorem mw_1057 : mT (Cond.codeWith yL_sort cL_sort 4 (some .int) [(0, 9, 12, 28)]) := ⟨in5 _ (List.mem_of_getElem? (i := 40) rfl), rfl⟩
theorem mw_1058 : mT (Cond.code yX9_sort cX9_sort 2 (some .int)) := ⟨in5 _ (List.mem_of_getElem? (i := 44) rfl), rfl⟩
theorem mw_1059 : mT (Cond.selects RX9 yX9_sort yX9_sort) := ⟨in5 _ (List.mem_of_getElem? (i := 43) rfl), rfl⟩
theorem mw_1060 : mT (Cond.instanceMethod yX9_sort) := ⟨in5 _ (List.mem_of_getElem? (i := 42) rfl), rfl⟩
theorem mw_1061 : mT (Cond.methodLink RL 81 yX9_sort) := ⟨in5 _ (List.mem_of_getElem? (i := 41) rfl), rfl⟩
theorem mw_1062 : mT (Cond.selects RX1 yX1_sortShelf yX1_sortShelf) := ⟨in5 _ (List.mem_of_getElem? (i := 47) rfl), rfl⟩
theorem mw_1063 : mT (Cond.instanceMethod yX1_sortShelf) := ⟨in5 _ (List.mem_of_getElem? (i := 46) rfl), rfl⟩
theorem mw_1064 : mT (Cond.methodLink RX9 290 yX1_sortShelf) := ⟨in5 _ (List.mem_of_getElem? (i := 45) rfl), rfl⟩
theorem mw_1065 : mT (Cond.methodLink RX1 136 yX1_look) := ⟨in5 _ (List.mem_of_getElem? (i := 50) rfl), rfl⟩
theorem mw_1066 : mT (Cond.methodLink RX1 171 arraycopyName) := ⟨in5 _ (List.mem_of_getElem? (i := 51) rfl), rfl⟩
theorem mw_1067 : mT (Cond.fieldLink RX1 169 "CordSeals$Shelves" "seals" "[I") := ⟨in2 _ (List.mem_of_getElem? (i := 21) rfl), rfl⟩
theorem mw_1068 : mT (Cond.code yX1_sortShelf cX1_sortShelf 5 (some .int)) := ⟨in5 _ (List.mem_of_getElem? (i := 48) rfl), rfl⟩
theorem mw_1069 : mT (Cond.methodLink RX1 180 yX1_rankOf) := ⟨in5 _ (List.mem_of_getElem? (i := 56) rfl), rfl⟩
theorem mw_1070 : mT (Cond.code yX1_sinkIn cX1_sinkIn 6 none) := ⟨in5 _ (List.mem_of_getElem? (i := 55) rfl), rfl⟩
theorem mw_1071 : mT (Cond.selects RX1 yX1_sinkIn yX1_sinkIn) := ⟨in0 _ (List.mem_of_getElem? (i := 24) rfl), rfl⟩
theorem mw_1072 : mT (Cond.instanceMethod yX1_sinkIn) := ⟨in5 _ (List.mem_of_getElem? (i := 54) rfl), rfl⟩
theorem mw_1073 : mT (Cond.methodLink RX1 177 yX1_sinkIn) := ⟨in5 _ (List.mem_of_getElem? (i := 52) rfl), rfl⟩
theorem mw_1074 : mT (Cond.methodLink RX1 183 yX5_put) := ⟨in5 _ (List.mem_of_getElem? (i := 60) rfl), rfl⟩
theorem mw_1075 : mT (Cond.code yX1_rankOf cX1_rankOf 2 (some .int)) := ⟨in5 _ (List.mem_of_getElem? (i := 59) rfl), rfl⟩
theorem mw_1076 : mT (Cond.selects RX1 yX1_rankOf yX1_rankOf) := ⟨in0 _ (List.mem_of_getElem? (i := 25) rfl), rfl⟩
theorem mw_1077 : mT (Cond.instanceMethod yX1_rankOf) := ⟨in5 _ (List.mem_of_getElem? (i := 58) rfl), rfl⟩
theorem mw_1078 : mT (Cond.code yX10_sort cX10_sort 2 (some .int)) := ⟨in7 _ (List.mem_of_getElem? (i := 113) rfl), rfl⟩
theorem mw_1079 : mT (Cond.code yX10_goSort cX10_goSort 10 (some .int)) := ⟨in7 _ (List.mem_of_getElem? (i := 117) rfl), rfl⟩
theorem mw_1080 : mT (Cond.selects RX10 yX10_goSort yX10_goSort) := ⟨in0 _ (List.mem_of_getElem? (i := 58) rfl), rfl⟩
theorem mw_1081 : mT (Cond.instanceMethod yX10_goSort) := ⟨in7 _ (List.mem_of_getElem? (i := 116) rfl), rfl⟩
theorem mw_1082 : mT (Cond.methodLink RX10 309 yX10_goSort) := ⟨in7 _ (List.mem_of_getElem? (i := 114) rfl), rfl⟩
theorem mw_1083 : mT (Cond.code yX10_rank cX10_rank 3 (some .int)) := ⟨in7 _ (List.mem_of_getElem? (i := 121) rfl), rfl⟩
theorem mw_1084 : mT (Cond.selects RX10 yX10_rank yX10_rank) := ⟨in0 _ (List.mem_of_getElem? (i := 59) rfl), rfl⟩
theorem mw_1085 : mT (Cond.instanceMethod yX10_rank) := ⟨in7 _ (List.mem_of_getElem? (i := 120) rfl), rfl⟩
theorem mw_1086 : mT (Cond.methodLink RX10 126 yX10_rank) := ⟨in7 _ (List.mem_of_getElem? (i := 118) rfl), rfl⟩
theorem mw_1087 : mT (Cond.codeWith yL_set cL_set 5 (some .int) [(0, 10, 13, 13)]) := ⟨in5 _ (List.mem_of_getElem? (i := 63) rfl), rfl⟩
theorem mw_1088 : mT (Cond.code yX9_set cX9_set 3 (some .int)) := ⟨in5 _ (List.mem_of_getElem? (i := 67) rfl), rfl⟩
theorem mw_1089 : mT (Cond.selects RX9 yX9_set yX9_set) := ⟨in5 _ (List.mem_of_getElem? (i := 66) rfl), rfl⟩
theorem mw_1090 : mT (Cond.instanceMethod yX9_set) := ⟨in5 _ (List.mem_of_getElem? (i := 65) rfl), rfl⟩
theorem mw_1091 : mT (Cond.methodLink RL 84 yX9_set) := ⟨in5 _ (List.mem_of_getElem? (i := 64) rfl), rfl⟩
theorem mw_1092 : mT (Cond.code yX6_change cX6_change 4 (some .int)) := ⟨in5 _ (List.mem_of_getElem? (i := 71) rfl), rfl⟩
theorem mw_1093 : mT (Cond.selects RX6 yX6_change yX6_change) := ⟨in5 _ (List.mem_of_getElem? (i := 70) rfl), rfl⟩
theorem mw_1094 : mT (Cond.instanceMethod yX6_change) := ⟨in5 _ (List.mem_of_getElem? (i := 69) rfl), rfl⟩
theorem mw_1095 : mT (Cond.methodLink RX9 293 yX6_change) := ⟨in5 _ (List.mem_of_getElem? (i := 68) rfl), rfl⟩
theorem mw_1096 : mT (Cond.code yX10_set cX10_set 3 (some .int)) := ⟨in7 _ (List.mem_of_getElem? (i := 125) rfl), rfl⟩
theorem mw_1097 : mT (Cond.code yX10_goSet cX10_goSet 4 (some .int)) := ⟨in7 _ (List.mem_of_getElem? (i := 128) rfl), rfl⟩
theorem mw_1098 : mT (Cond.static yX10_goSet) := ⟨in7 _ (List.mem_of_getElem? (i := 127) rfl), rfl⟩
theorem mw_1099 : mT (Cond.methodLink RX10 312 yX10_goSet) := ⟨in7 _ (List.mem_of_getElem? (i := 126) rfl), rfl⟩
theorem mw_1100 : mT (Cond.codeWith yL_undo cL_undo 3 (some .int) [(0, 8, 11, 15)]) := ⟨in5 _ (List.mem_of_getElem? (i := 74) rfl), rfl⟩
theorem mw_1101 : mT (Cond.code yX2_recall cX2_recall 4 (some (.object "CordSeals$State"))) := ⟨in5 _ (List.mem_of_getElem? (i := 82) rfl), rfl⟩
theorem mw_1102 : mT (Cond.selects RX2 yX2_recall yX2_recall) := ⟨in5 _ (List.mem_of_getElem? (i := 81) rfl), rfl⟩
theorem mw_1103 : mT (Cond.instanceMethod yX2_recall) := ⟨in5 _ (List.mem_of_getElem? (i := 80) rfl), rfl⟩
theorem mw_1104 : mT (Cond.methodLink RX9 297 yX2_recall) := ⟨in5 _ (List.mem_of_getElem? (i := 79) rfl), rfl⟩
theorem mw_1105 : mT (Cond.fieldLink RX9 296 "CordSeals$Memory" "count" "I") := ⟨in2 _ (List.mem_of_getElem? (i := 62) rfl), rfl⟩
theorem mw_1106 : mT (Cond.code yX9_undo cX9_undo 1 (some .int)) := ⟨in5 _ (List.mem_of_getElem? (i := 78) rfl), rfl⟩
theorem mw_1107 : mT (Cond.selects RX9 yX9_undo yX9_undo) := ⟨in5 _ (List.mem_of_getElem? (i := 77) rfl), rfl⟩
theorem mw_1108 : mT (Cond.instanceMethod yX9_undo) := ⟨in5 _ (List.mem_of_getElem? (i := 76) rfl), rfl⟩
theorem mw_1109 : mT (Cond.methodLink RL 87 yX9_undo) := ⟨in5 _ (List.mem_of_getElem? (i := 75) rfl), rfl⟩
theorem mw_1110 : mT (Cond.code yX10_undo cX10_undo 2 (some .int)) := ⟨in7 _ (List.mem_of_getElem? (i := 132) rfl), rfl⟩
theorem mw_1111 : mT (Cond.codeWith yL_older cL_older 5 (some .int) [(0, 10, 13, 28)]) := ⟨in5 _ (List.mem_of_getElem? (i := 85) rfl), rfl⟩
theorem mw_1112 : mT (Cond.code yX9_older cX9_older 3 (some .int)) := ⟨in5 _ (List.mem_of_getElem? (i := 89) rfl), rfl⟩
theorem mw_1113 : mT (Cond.selects RX9 yX9_older yX9_older) := ⟨in5 _ (List.mem_of_getElem? (i := 88) rfl), rfl⟩
theorem mw_1114 : mT (Cond.instanceMethod yX9_older) := ⟨in5 _ (List.mem_of_getElem? (i := 87) rfl), rfl⟩
theorem mw_1115 : mT (Cond.methodLink RL 90 yX9_older) := ⟨in5 _ (List.mem_of_getElem? (i := 86) rfl), rfl⟩
theorem mw_1116 : mT (Cond.methodLink RX1 133 yX8_last) := ⟨in5 _ (List.mem_of_getElem? (i := 94) rfl), rfl⟩
theorem mw_1117 : mT (Cond.code yX1_isAhead cX1_isAhead 5 (some .boolean)) := ⟨in5 _ (List.mem_of_getElem? (i := 93) rfl), rfl⟩
theorem mw_1118 : mT (Cond.selects RX1 yX1_isAhead yX1_isAhead) := ⟨in5 _ (List.mem_of_getElem? (i := 92) rfl), rfl⟩
theorem mw_1119 : mT (Cond.instanceMethod yX1_isAhead) := ⟨in5 _ (List.mem_of_getElem? (i := 91) rfl), rfl⟩
theorem mw_1120 : mT (Cond.methodLink RX9 311 yX1_isAhead) := ⟨in5 _ (List.mem_of_getElem? (i := 90) rfl), rfl⟩
theorem mw_1121 : mT (Cond.code yX10_older cX10_older 3 (some .int)) := ⟨in7 _ (List.mem_of_getElem? (i := 136) rfl), rfl⟩
theorem mw_1122 : mT (Cond.codeWith yL_decides cL_decides 4 (some .int) [(0, 9, 12, 28)]) := ⟨in5 _ (List.mem_of_getElem? (i := 97) rfl), rfl⟩
theorem mw_1123 : mT (Cond.code yX9_decides cX9_decides 2 (some .int)) := ⟨in5 _ (List.mem_of_getElem? (i := 101) rfl), rfl⟩
theorem mw_1124 : mT (Cond.selects RX9 yX9_decides yX9_decides) := ⟨in5 _ (List.mem_of_getElem? (i := 100) rfl), rfl⟩
theorem mw_1125 : mT (Cond.instanceMethod yX9_decides) := ⟨in5 _ (List.mem_of_getElem? (i := 99) rfl), rfl⟩
theorem mw_1126 : mT (Cond.methodLink RL 93 yX9_decides) := ⟨in5 _ (List.mem_of_getElem? (i := 98) rfl), rfl⟩
theorem mw_1127 : mT (Cond.methodLink RX1 131 yX8_count) := ⟨in5 _ (List.mem_of_getElem? (i := 106) rfl), rfl⟩
theorem mw_1128 : mT (Cond.code yX1_decider cX1_decider 7 (some .int)) := ⟨in5 _ (List.mem_of_getElem? (i := 105) rfl), rfl⟩
theorem mw_1129 : mT (Cond.selects RX1 yX1_decider yX1_decider) := ⟨in5 _ (List.mem_of_getElem? (i := 104) rfl), rfl⟩
theorem mw_1130 : mT (Cond.instanceMethod yX1_decider) := ⟨in5 _ (List.mem_of_getElem? (i := 103) rfl), rfl⟩
theorem mw_1131 : mT (Cond.methodLink RX9 315 yX1_decider) := ⟨in5 _ (List.mem_of_getElem? (i := 102) rfl), rfl⟩
theorem mw_1132 : mT (Cond.code yX10_decides cX10_decides 6 (some .int)) := ⟨in7 _ (List.mem_of_getElem? (i := 140) rfl), rfl⟩
theorem mw_1133 : mT (Cond.codeWith yL_ifCracked cL_ifCracked 5 (some .int) [(0, 10, 13, 28), (0, 10, 17, 13), (0, 10, 21, 15)]) := ⟨in5 _ (List.mem_of_getElem? (i := 109) rfl), rfl⟩
theorem mw_1134 : mT (Cond.code yX9_ifCracked cX9_ifCracked 3 (some .int)) := ⟨in5 _ (List.mem_of_getElem? (i := 113) rfl), rfl⟩
theorem mw_1135 : mT (Cond.selects RX9 yX9_ifCracked yX9_ifCracked) := ⟨in5 _ (List.mem_of_getElem? (i := 112) rfl), rfl⟩
theorem mw_1136 : mT (Cond.instanceMethod yX9_ifCracked) := ⟨in5 _ (List.mem_of_getElem? (i := 111) rfl), rfl⟩
theorem mw_1137 : mT (Cond.methodLink RL 96 yX9_ifCracked) := ⟨in5 _ (List.mem_of_getElem? (i := 110) rfl), rfl⟩
theorem mw_1138 : mT (Cond.code yX1_fakesIn cX1_fakesIn 2 (some .int)) := ⟨in5 _ (List.mem_of_getElem? (i := 117) rfl), rfl⟩
theorem mw_1139 : mT (Cond.selects RX1 yX1_fakesIn yX1_fakesIn) := ⟨in5 _ (List.mem_of_getElem? (i := 116) rfl), rfl⟩
theorem mw_1140 : mT (Cond.instanceMethod yX1_fakesIn) := ⟨in5 _ (List.mem_of_getElem? (i := 115) rfl), rfl⟩
theorem mw_1141 : mT (Cond.methodLink RX9 318 yX1_fakesIn) := ⟨in5 _ (List.mem_of_getElem? (i := 114) rfl), rfl⟩
theorem mw_1142 : mT (Cond.methodLink RX1 139 yX1_fakes) := ⟨in5 _ (List.mem_of_getElem? (i := 118) rfl), rfl⟩
theorem mw_1143 : mT (Cond.code yX10_ifCracked cX10_ifCracked 3 (some .int)) := ⟨in7 _ (List.mem_of_getElem? (i := 144) rfl), rfl⟩
theorem mw_1144 : mT (Cond.codeWith yL_ifHung cL_ifHung 5 (some .int) [(0, 10, 13, 28)]) := ⟨in5 _ (List.mem_of_getElem? (i := 121) rfl), rfl⟩
theorem mw_1145 : mT (Cond.code yX9_ifHung cX9_ifHung 3 (some .int)) := ⟨in5 _ (List.mem_of_getElem? (i := 125) rfl), rfl⟩
theorem mw_1146 : mT (Cond.selects RX9 yX9_ifHung yX9_ifHung) := ⟨in5 _ (List.mem_of_getElem? (i := 124) rfl), rfl⟩
theorem mw_1147 : mT (Cond.instanceMethod yX9_ifHung) := ⟨in5 _ (List.mem_of_getElem? (i := 123) rfl), rfl⟩
theorem mw_1148 : mT (Cond.methodLink RL 99 yX9_ifHung) := ⟨in5 _ (List.mem_of_getElem? (i := 122) rfl), rfl⟩
theorem mw_1149 : mT (Cond.code yX10_ifHung cX10_ifHung 3 (some .int)) := ⟨in7 _ (List.mem_of_getElem? (i := 148) rfl), rfl⟩
theorem mw_1150 : mT (Cond.codeWith yL_inYear cL_inYear 4 (some .int) [(0, 9, 12, 13)]) := ⟨in5 _ (List.mem_of_getElem? (i := 128) rfl), rfl⟩
theorem mw_1151 : mT (Cond.code yX9_inYear cX9_inYear 2 (some .int)) := ⟨in5 _ (List.mem_of_getElem? (i := 132) rfl), rfl⟩
theorem mw_1152 : mT (Cond.selects RX9 yX9_inYear yX9_inYear) := ⟨in5 _ (List.mem_of_getElem? (i := 131) rfl), rfl⟩
theorem mw_1153 : mT (Cond.instanceMethod yX9_inYear) := ⟨in5 _ (List.mem_of_getElem? (i := 130) rfl), rfl⟩
theorem mw_1154 : mT (Cond.methodLink RL 102 yX9_inYear) := ⟨in5 _ (List.mem_of_getElem? (i := 129) rfl), rfl⟩
theorem mw_1155 : mT (Cond.methodLink RX1 146 yX8_contains) := ⟨in5 _ (List.mem_of_getElem? (i := 137) rfl), rfl⟩
theorem mw_1156 : mT (Cond.code yX1_genuineIn cX1_genuineIn 5 (some .int)) := ⟨in5 _ (List.mem_of_getElem? (i := 136) rfl), rfl⟩
theorem mw_1157 : mT (Cond.selects RX1 yX1_genuineIn yX1_genuineIn) := ⟨in5 _ (List.mem_of_getElem? (i := 135) rfl), rfl⟩
theorem mw_1158 : mT (Cond.instanceMethod yX1_genuineIn) := ⟨in5 _ (List.mem_of_getElem? (i := 134) rfl), rfl⟩
theorem mw_1159 : mT (Cond.methodLink RX9 321 yX1_genuineIn) := ⟨in5 _ (List.mem_of_getElem? (i := 133) rfl), rfl⟩
theorem mw_1160 : mT (Cond.code yX10_inYear cX10_inYear 4 (some .int)) := ⟨in7 _ (List.mem_of_getElem? (i := 152) rfl), rfl⟩
theorem mw_1161 : mT (Cond.codeWith yL_leastBubbles cL_leastBubbles 5 (some .int) [(0, 10, 13, 13)]) := ⟨in5 _ (List.mem_of_getElem? (i := 140) rfl), rfl⟩
theorem mw_1162 : mT (Cond.methodLink RX9 324 yX9_isMaterial) := ⟨in5 _ (List.mem_of_getElem? (i := 145) rfl), rfl⟩
theorem mw_1163 : mT (Cond.code yX9_leastBubbles cX9_leastBubbles 4 (some .int)) := ⟨in5 _ (List.mem_of_getElem? (i := 144) rfl), rfl⟩
theorem mw_1164 : mT (Cond.selects RX9 yX9_leastBubbles yX9_leastBubbles) := ⟨in5 _ (List.mem_of_getElem? (i := 143) rfl), rfl⟩
theorem mw_1165 : mT (Cond.instanceMethod yX9_leastBubbles) := ⟨in5 _ (List.mem_of_getElem? (i := 142) rfl), rfl⟩
theorem mw_1166 : mT (Cond.methodLink RL 105 yX9_leastBubbles) := ⟨in5 _ (List.mem_of_getElem? (i := 141) rfl), rfl⟩
theorem mw_1167 : mT (Cond.methodLink RX9 327 yX1_date) := ⟨in5 _ (List.mem_of_getElem? (i := 146) rfl), rfl⟩
theorem mw_1168 : mT (Cond.selects RX9 yX9_mayTellMore yX9_mayTellMore) := ⟨in0 _ (List.mem_of_getElem? (i := 26) rfl), rfl⟩
theorem mw_1169 : mT (Cond.instanceMethod yX9_mayTellMore) := ⟨in5 _ (List.mem_of_getElem? (i := 149) rfl), rfl⟩
theorem mw_1170 : mT (Cond.methodLink RX9 330 yX9_mayTellMore) := ⟨in5 _ (List.mem_of_getElem? (i := 147) rfl), rfl⟩
theorem mw_1171 : mT (Cond.methodLink RX9 343 yX1_blame) := ⟨in5 _ (List.mem_of_getElem? (i := 159) rfl), rfl⟩
theorem mw_1172 : mT (Cond.fieldLink RX9 340 "CordSeals$State" "settings" "[I") := ⟨in2 _ (List.mem_of_getElem? (i := 49) rfl), rfl⟩
theorem mw_1173 : mT (Cond.code yX9_fakesWith cX9_fakesWith 3 (some .int)) := ⟨in5 _ (List.mem_of_getElem? (i := 158) rfl), rfl⟩
theorem mw_1174 : mT (Cond.selects RX9 yX9_fakesWith yX9_fakesWith) := ⟨in0 _ (List.mem_of_getElem? (i := 27) rfl), rfl⟩
theorem mw_1175 : mT (Cond.instanceMethod yX9_fakesWith) := ⟨in5 _ (List.mem_of_getElem? (i := 157) rfl), rfl⟩
theorem mw_1176 : mT (Cond.methodLink RX9 334 yX9_fakesWith) := ⟨in5 _ (List.mem_of_getElem? (i := 155) rfl), rfl⟩
theorem mw_1177 : mT (Cond.code yX4_haveBubbles cX4_haveBubbles 4 (some .boolean)) := ⟨in5 _ (List.mem_of_getElem? (i := 154) rfl), rfl⟩
theorem mw_1178 : mT (Cond.selects RX4 yX4_haveBubbles yX4_haveBubbles) := ⟨in5 _ (List.mem_of_getElem? (i := 153) rfl), rfl⟩
theorem mw_1179 : mT (Cond.instanceMethod yX4_haveBubbles) := ⟨in5 _ (List.mem_of_getElem? (i := 152) rfl), rfl⟩
theorem mw_1180 : mT (Cond.methodLink RX9 337 yX4_haveBubbles) := ⟨in5 _ (List.mem_of_getElem? (i := 151) rfl), rfl⟩
theorem mw_1181 : mT (Cond.code yX9_mayTellMore cX9_mayTellMore 3 (some .boolean)) := ⟨in5 _ (List.mem_of_getElem? (i := 150) rfl), rfl⟩
theorem mw_1182 : mT (Cond.code yX10_leastBubbles cX10_leastBubbles 4 (some .int)) := ⟨in7 _ (List.mem_of_getElem? (i := 156) rfl), rfl⟩
theorem mw_1183 : mT (Cond.codeWith yL_runScript cL_runScript 6 (some .int) [(0, 11, 14, 13)]) := ⟨in5 _ (List.mem_of_getElem? (i := 162) rfl), rfl⟩
theorem mw_1184 : mT (Cond.constantLong RX9 346 (1000000)) := ⟨in5 _ (List.mem_of_getElem? (i := 167) rfl), rfl⟩
theorem mw_1185 : mT (Cond.code yX9_runScript cX9_runScript 7 (some .int)) := ⟨in5 _ (List.mem_of_getElem? (i := 166) rfl), rfl⟩
theorem mw_1186 : mT (Cond.selects RX9 yX9_runScript yX9_runScript) := ⟨in5 _ (List.mem_of_getElem? (i := 165) rfl), rfl⟩
theorem mw_1187 : mT (Cond.instanceMethod yX9_runScript) := ⟨in5 _ (List.mem_of_getElem? (i := 164) rfl), rfl⟩
theorem mw_1188 : mT (Cond.methodLink RL 108 yX9_runScript) := ⟨in5 _ (List.mem_of_getElem? (i := 163) rfl), rfl⟩
theorem mw_1189 : mT (Cond.constant RX9 351 (100000)) := ⟨in5 _ (List.mem_of_getElem? (i := 172) rfl), rfl⟩
theorem mw_1190 : mT (Cond.code yX9_succeeds cX9_succeeds 5 (some .boolean)) := ⟨in5 _ (List.mem_of_getElem? (i := 171) rfl), rfl⟩
theorem mw_1191 : mT (Cond.selects RX9 yX9_succeeds yX9_succeeds) := ⟨in0 _ (List.mem_of_getElem? (i := 28) rfl), rfl⟩
theorem mw_1192 : mT (Cond.instanceMethod yX9_succeeds) := ⟨in5 _ (List.mem_of_getElem? (i := 170) rfl), rfl⟩
theorem mw_1193 : mT (Cond.methodLink RX9 348 yX9_succeeds) := ⟨in5 _ (List.mem_of_getElem? (i := 168) rfl), rfl⟩
theorem mw_1194 : mT (Cond.code yX9_isFakeBy cX9_isFakeBy 3 (some .boolean)) := ⟨in5 _ (List.mem_of_getElem? (i := 176) rfl), rfl⟩
theorem mw_1195 : mT (Cond.selects RX9 yX9_isFakeBy yX9_isFakeBy) := ⟨in0 _ (List.mem_of_getElem? (i := 29) rfl), rfl⟩
theorem mw_1196 : mT (Cond.instanceMethod yX9_isFakeBy) := ⟨in5 _ (List.mem_of_getElem? (i := 175) rfl), rfl⟩
theorem mw_1197 : mT (Cond.methodLink RX9 352 yX9_isFakeBy) := ⟨in5 _ (List.mem_of_getElem? (i := 173) rfl), rfl⟩
theorem mw_1198 : mT (Cond.code yX10_runScript cX10_runScript 5 (some .int)) := ⟨in7 _ (List.mem_of_getElem? (i := 160) rfl), rfl⟩
theorem mw_1199 : mT (Cond.code yX10_command cX10_command 7 (some .boolean)) := ⟨in7 _ (List.mem_of_getElem? (i := 169) rfl), rfl⟩
theorem mw_1200 : mT (Cond.selects RX10 yX10_command yX10_command) := ⟨in0 _ (List.mem_of_getElem? (i := 60) rfl), rfl⟩
theorem mw_1201 : mT (Cond.instanceMethod yX10_command) := ⟨in7 _ (List.mem_of_getElem? (i := 168) rfl), rfl⟩
theorem mw_1202 : mT (Cond.methodLink RX10 343 yX10_command) := ⟨in7 _ (List.mem_of_getElem? (i := 166) rfl), rfl⟩
theorem mw_1203 : mT (Cond.constantLong RX10 43 (10)) := ⟨in7 _ (List.mem_of_getElem? (i := 164) rfl), rfl⟩
theorem mw_1204 : mT (Cond.code yX10_tens cX10_tens 4 (some .long)) := ⟨in7 _ (List.mem_of_getElem? (i := 163) rfl), rfl⟩
theorem mw_1205 : mT (Cond.static yX10_tens) := ⟨in7 _ (List.mem_of_getElem? (i := 162) rfl), rfl⟩
theorem mw_1206 : mT (Cond.methodLink RX10 337 yX10_tens) := ⟨in7 _ (List.mem_of_getElem? (i := 161) rfl), rfl⟩
theorem mw_1207 : mT (Cond.constantLong RX10 341 (1000000)) := ⟨in7 _ (List.mem_of_getElem? (i := 165) rfl), rfl⟩
theorem mw_1208 : mT (Cond.code yX10_runHang cX10_runHang 3 (some .boolean)) := ⟨in7 _ (List.mem_of_getElem? (i := 178) rfl), rfl⟩
theorem mw_1209 : mT (Cond.selects RX10 yX10_runHang yX10_runHang) := ⟨in0 _ (List.mem_of_getElem? (i := 62) rfl), rfl⟩
theorem mw_1210 : mT (Cond.instanceMethod yX10_runHang) := ⟨in7 _ (List.mem_of_getElem? (i := 177) rfl), rfl⟩
theorem mw_1211 : mT (Cond.methodLink RX10 319 yX10_runHang) := ⟨in7 _ (List.mem_of_getElem? (i := 175) rfl), rfl⟩
theorem mw_1212 : mT (Cond.code yX10_runCrack cX10_runCrack 3 (some .boolean)) := ⟨in7 _ (List.mem_of_getElem? (i := 174) rfl), rfl⟩
theorem mw_1213 : mT (Cond.selects RX10 yX10_runCrack yX10_runCrack) := ⟨in0 _ (List.mem_of_getElem? (i := 61) rfl), rfl⟩
theorem mw_1214 : mT (Cond.instanceMethod yX10_runCrack) := ⟨in7 _ (List.mem_of_getElem? (i := 173) rfl), rfl⟩
theorem mw_1215 : mT (Cond.methodLink RX10 316 yX10_runCrack) := ⟨in7 _ (List.mem_of_getElem? (i := 171) rfl), rfl⟩
theorem mw_1216 : mT (Cond.constant RX10 315 (100000)) := ⟨in7 _ (List.mem_of_getElem? (i := 170) rfl), rfl⟩
theorem mw_1217 : mT (Cond.code yX10_runShelve cX10_runShelve 4 (some .boolean)) := ⟨in7 _ (List.mem_of_getElem? (i := 186) rfl), rfl⟩
theorem mw_1218 : mT (Cond.selects RX10 yX10_runShelve yX10_runShelve) := ⟨in0 _ (List.mem_of_getElem? (i := 64) rfl), rfl⟩
theorem mw_1219 : mT (Cond.instanceMethod yX10_runShelve) := ⟨in7 _ (List.mem_of_getElem? (i := 185) rfl), rfl⟩
theorem mw_1220 : mT (Cond.methodLink RX10 325 yX10_runShelve) := ⟨in7 _ (List.mem_of_getElem? (i := 183) rfl), rfl⟩
theorem mw_1221 : mT (Cond.code yX10_runCut cX10_runCut 2 (some .boolean)) := ⟨in7 _ (List.mem_of_getElem? (i := 182) rfl), rfl⟩
theorem mw_1222 : mT (Cond.selects RX10 yX10_runCut yX10_runCut) := ⟨in0 _ (List.mem_of_getElem? (i := 63) rfl), rfl⟩
theorem mw_1223 : mT (Cond.instanceMethod yX10_runCut) := ⟨in7 _ (List.mem_of_getElem? (i := 181) rfl), rfl⟩
theorem mw_1224 : mT (Cond.methodLink RX10 322 yX10_runCut) := ⟨in7 _ (List.mem_of_getElem? (i := 179) rfl), rfl⟩
theorem mw_1225 : mT (Cond.code yX10_runShow cX10_runShow 3 (some .boolean)) := ⟨in7 _ (List.mem_of_getElem? (i := 190) rfl), rfl⟩
theorem mw_1226 : mT (Cond.selects RX10 yX10_runShow yX10_runShow) := ⟨in0 _ (List.mem_of_getElem? (i := 65) rfl), rfl⟩
theorem mw_1227 : mT (Cond.instanceMethod yX10_runShow) := ⟨in7 _ (List.mem_of_getElem? (i := 189) rfl), rfl⟩
theorem mw_1228 : mT (Cond.methodLink RX10 328 yX10_runShow) := ⟨in7 _ (List.mem_of_getElem? (i := 187) rfl), rfl⟩
theorem mw_1229 : mT (Cond.code yX10_runSort cX10_runSort 2 (some .boolean)) := ⟨in7 _ (List.mem_of_getElem? (i := 194) rfl), rfl⟩
theorem mw_1230 : mT (Cond.selects RX10 yX10_runSort yX10_runSort) := ⟨in0 _ (List.mem_of_getElem? (i := 66) rfl), rfl⟩
theorem mw_1231 : mT (Cond.instanceMethod yX10_runSort) := ⟨in7 _ (List.mem_of_getElem? (i := 193) rfl), rfl⟩
theorem mw_1232 : mT (Cond.methodLink RX10 331 yX10_runSort) := ⟨in7 _ (List.mem_of_getElem? (i := 191) rfl), rfl⟩
theorem mw_1233 : mT (Cond.code yX10_runSet cX10_runSet 3 (some .boolean)) := ⟨in7 _ (List.mem_of_getElem? (i := 198) rfl), rfl⟩
theorem mw_1234 : mT (Cond.selects RX10 yX10_runSet yX10_runSet) := ⟨in0 _ (List.mem_of_getElem? (i := 67) rfl), rfl⟩
theorem mw_1235 : mT (Cond.instanceMethod yX10_runSet) := ⟨in7 _ (List.mem_of_getElem? (i := 197) rfl), rfl⟩
theorem mw_1236 : mT (Cond.methodLink RX10 334 yX10_runSet) := ⟨in7 _ (List.mem_of_getElem? (i := 195) rfl), rfl⟩
theorem mw_1237 : mT (Cond.codeWith yL_simulate cL_simulate 6 (some .int) [(0, 11, 14, 13)]) := ⟨in5 _ (List.mem_of_getElem? (i := 179) rfl), rfl⟩
theorem mw_1238 : mT (Cond.constantLong RX9 357 (1442695040888963407)) := ⟨in5 _ (List.mem_of_getElem? (i := 185) rfl), rfl⟩
theorem mw_1239 : mT (Cond.constantLong RX9 355 (6364136223846793005)) := ⟨in5 _ (List.mem_of_getElem? (i := 184) rfl), rfl⟩
theorem mw_1240 : mT (Cond.code yX9_simulate cX9_simulate 8 (some .int)) := ⟨in5 _ (List.mem_of_getElem? (i := 183) rfl), rfl⟩
theorem mw_1241 : mT (Cond.selects RX9 yX9_simulate yX9_simulate) := ⟨in5 _ (List.mem_of_getElem? (i := 182) rfl), rfl⟩
theorem mw_1242 : mT (Cond.instanceMethod yX9_simulate) := ⟨in5 _ (List.mem_of_getElem? (i := 181) rfl), rfl⟩
theorem mw_1243 : mT (Cond.methodLink RL 112 yX9_simulate) := ⟨in5 _ (List.mem_of_getElem? (i := 180) rfl), rfl⟩
theorem mw_1244 : mT (Cond.code yX9_takeTurn cX9_takeTurn 3 (some .int)) := ⟨in5 _ (List.mem_of_getElem? (i := 189) rfl), rfl⟩
theorem mw_1245 : mT (Cond.selects RX9 yX9_takeTurn yX9_takeTurn) := ⟨in0 _ (List.mem_of_getElem? (i := 30) rfl), rfl⟩
theorem mw_1246 : mT (Cond.instanceMethod yX9_takeTurn) := ⟨in5 _ (List.mem_of_getElem? (i := 188) rfl), rfl⟩
theorem mw_1247 : mT (Cond.methodLink RX9 359 yX9_takeTurn) := ⟨in5 _ (List.mem_of_getElem? (i := 186) rfl), rfl⟩
theorem mw_1248 : mT (Cond.code yX10_simulate cX10_simulate 7 (some .int)) := ⟨in7 _ (List.mem_of_getElem? (i := 202) rfl), rfl⟩
theorem mw_1249 : mT (Cond.code yX10_stir cX10_stir 4 none) := ⟨in7 _ (List.mem_of_getElem? (i := 209) rfl), rfl⟩
theorem mw_1250 : mT (Cond.selects RX10 yX10_stir yX10_stir) := ⟨in0 _ (List.mem_of_getElem? (i := 68) rfl), rfl⟩
theorem mw_1251 : mT (Cond.instanceMethod yX10_stir) := ⟨in7 _ (List.mem_of_getElem? (i := 208) rfl), rfl⟩
theorem mw_1252 : mT (Cond.methodLink RX10 352 yX10_stir) := ⟨in7 _ (List.mem_of_getElem? (i := 206) rfl), rfl⟩
theorem mw_1253 : mT (Cond.constantLong RX10 350 (1442695040888963407)) := ⟨in7 _ (List.mem_of_getElem? (i := 205) rfl), rfl⟩
theorem mw_1254 : mT (Cond.constantLong RX10 348 (6364136223846793005)) := ⟨in7 _ (List.mem_of_getElem? (i := 204) rfl), rfl⟩
theorem mw_1255 : mT (Cond.constantLong RX10 346 (60)) := ⟨in7 _ (List.mem_of_getElem? (i := 203) rfl), rfl⟩
theorem mw_1256 : mT (Cond.codeWith yL_save cL_save 4 (some .int) [(0, 9, 12, 28)]) := ⟨in5 _ (List.mem_of_getElem? (i := 192) rfl), rfl⟩
theorem mw_1257 : mT (Cond.code yX9_isSlot cX9_isSlot 1 (some .boolean)) := ⟨in5 _ (List.mem_of_getElem? (i := 199) rfl), rfl⟩
theorem mw_1258 : mT (Cond.static yX9_isSlot) := ⟨in5 _ (List.mem_of_getElem? (i := 198) rfl), rfl⟩
theorem mw_1259 : mT (Cond.methodLink RX9 362 yX9_isSlot) := ⟨in5 _ (List.mem_of_getElem? (i := 197) rfl), rfl⟩
theorem mw_1260 : mT (Cond.code yX9_save cX9_save 2 (some .int)) := ⟨in5 _ (List.mem_of_getElem? (i := 196) rfl), rfl⟩
theorem mw_1261 : mT (Cond.selects RX9 yX9_save yX9_save) := ⟨in5 _ (List.mem_of_getElem? (i := 195) rfl), rfl⟩
theorem mw_1262 : mT (Cond.instanceMethod yX9_save) := ⟨in5 _ (List.mem_of_getElem? (i := 194) rfl), rfl⟩
theorem mw_1263 : mT (Cond.methodLink RL 116 yX9_save) := ⟨in5 _ (List.mem_of_getElem? (i := 193) rfl), rfl⟩
theorem mw_1264 : mT (Cond.code yX10_save cX10_save 3 (some .int)) := ⟨in7 _ (List.mem_of_getElem? (i := 213) rfl), rfl⟩
theorem mw_1265 : mT (Cond.codeWith yL_restore cL_restore 4 (some .int) [(0, 9, 12, 28), (0, 9, 15, 15)]) := ⟨in5 _ (List.mem_of_getElem? (i := 202) rfl), rfl⟩
theorem mw_1266 : mT (Cond.code yX9_restore cX9_restore 2 (some .int)) := ⟨in5 _ (List.mem_of_getElem? (i := 206) rfl), rfl⟩
theorem mw_1267 : mT (Cond.selects RX9 yX9_restore yX9_restore) := ⟨in5 _ (List.mem_of_getElem? (i := 205) rfl), rfl⟩
theorem mw_1268 : mT (Cond.instanceMethod yX9_restore) := ⟨in5 _ (List.mem_of_getElem? (i := 204) rfl), rfl⟩
theorem mw_1269 : mT (Cond.methodLink RL 119 yX9_restore) := ⟨in5 _ (List.mem_of_getElem? (i := 203) rfl), rfl⟩
theorem mw_1270 : mT (Cond.code yX10_restore cX10_restore 3 (some .int)) := ⟨in7 _ (List.mem_of_getElem? (i := 217) rfl), rfl⟩
theorem mw_1271 : mT (Cond.initialized RL) := ⟨in1 _ (List.mem_of_getElem? (i := 0) rfl), rfl⟩
theorem mw_1272 : mT (Cond.static yL_append) := ⟨in2 _ (List.mem_of_getElem? (i := 170) rfl), rfl⟩
theorem mw_1273 : mT (Cond.methodLink RL 126 yL_append) := ⟨in2 _ (List.mem_of_getElem? (i := 169) rfl), rfl⟩
theorem mw_1274 : mT (Cond.selects RX10 yX10_append yX10_append) := ⟨in6 _ (List.mem_of_getElem? (i := 37) rfl), rfl⟩
theorem mw_1275 : mT (Cond.instanceMethod yX10_append) := ⟨in6 _ (List.mem_of_getElem? (i := 36) rfl), rfl⟩
theorem mw_1276 : mT (Cond.methodLink RL 131 yX10_append) := ⟨in6 _ (List.mem_of_getElem? (i := 35) rfl), rfl⟩
theorem mw_1277 : mT (Cond.selects RX10 yX10_thrown yX10_thrown) := ⟨in6 _ (List.mem_of_getElem? (i := 33) rfl), rfl⟩
theorem mw_1278 : mT (Cond.instanceMethod yX10_thrown) := ⟨in6 _ (List.mem_of_getElem? (i := 32) rfl), rfl⟩
theorem mw_1279 : mT (Cond.methodLink RL 132 yX10_thrown) := ⟨in6 _ (List.mem_of_getElem? (i := 31) rfl), rfl⟩
theorem mw_1280 : mT (Cond.selects RX9 yX9_clearText yX9_clearText) := ⟨in2 _ (List.mem_of_getElem? (i := 99) rfl), rfl⟩
theorem mw_1281 : mT (Cond.instanceMethod yX9_clearText) := ⟨in2 _ (List.mem_of_getElem? (i := 98) rfl), rfl⟩
theorem mw_1282 : mT (Cond.methodLink RL 135 yX9_clearText) := ⟨in2 _ (List.mem_of_getElem? (i := 97) rfl), rfl⟩
theorem mw_1283 : mT (Cond.selects RX10 yX10_clearText yX10_clearText) := ⟨in6 _ (List.mem_of_getElem? (i := 49) rfl), rfl⟩
theorem mw_1284 : mT (Cond.instanceMethod yX10_clearText) := ⟨in6 _ (List.mem_of_getElem? (i := 48) rfl), rfl⟩
theorem mw_1285 : mT (Cond.methodLink RL 138 yX10_clearText) := ⟨in6 _ (List.mem_of_getElem? (i := 47) rfl), rfl⟩
theorem mw_1286 : mT (Cond.selects RX9 yX9_errorPosition yX9_errorPosition) := ⟨in2 _ (List.mem_of_getElem? (i := 107) rfl), rfl⟩
theorem mw_1287 : mT (Cond.instanceMethod yX9_errorPosition) := ⟨in2 _ (List.mem_of_getElem? (i := 106) rfl), rfl⟩
theorem mw_1288 : mT (Cond.methodLink RL 139 yX9_errorPosition) := ⟨in2 _ (List.mem_of_getElem? (i := 105) rfl), rfl⟩
theorem mw_1289 : mT (Cond.selects RX10 yX10_errorPosition yX10_errorPosition) := ⟨in6 _ (List.mem_of_getElem? (i := 53) rfl), rfl⟩
theorem mw_1290 : mT (Cond.instanceMethod yX10_errorPosition) := ⟨in6 _ (List.mem_of_getElem? (i := 52) rfl), rfl⟩
theorem mw_1291 : mT (Cond.methodLink RL 142 yX10_errorPosition) := ⟨in6 _ (List.mem_of_getElem? (i := 51) rfl), rfl⟩
theorem mw_1292 : mT (Cond.static yL_load) := ⟨in3 _ (List.mem_of_getElem? (i := 33) rfl), rfl⟩
theorem mw_1293 : mT (Cond.methodLink RL 143 yL_load) := ⟨in3 _ (List.mem_of_getElem? (i := 32) rfl), rfl⟩
theorem mw_1294 : mT (Cond.selects RX10 yX10_load yX10_load) := ⟨in6 _ (List.mem_of_getElem? (i := 146) rfl), rfl⟩
theorem mw_1295 : mT (Cond.instanceMethod yX10_load) := ⟨in6 _ (List.mem_of_getElem? (i := 145) rfl), rfl⟩
theorem mw_1296 : mT (Cond.methodLink RL 146 yX10_load) := ⟨in6 _ (List.mem_of_getElem? (i := 144) rfl), rfl⟩
theorem mw_1297 : mT (Cond.static yL_about) := ⟨in3 _ (List.mem_of_getElem? (i := 115) rfl), rfl⟩
theorem mw_1298 : mT (Cond.methodLink RL 147 yL_about) := ⟨in3 _ (List.mem_of_getElem? (i := 114) rfl), rfl⟩
theorem mw_1299 : mT (Cond.selects RX10 yX10_about yX10_about) := ⟨in6 _ (List.mem_of_getElem? (i := 153) rfl), rfl⟩
theorem mw_1300 : mT (Cond.instanceMethod yX10_about) := ⟨in6 _ (List.mem_of_getElem? (i := 152) rfl), rfl⟩
theorem mw_1301 : mT (Cond.methodLink RL 149 yX10_about) := ⟨in6 _ (List.mem_of_getElem? (i := 151) rfl), rfl⟩
theorem mw_1302 : mT (Cond.static yL_ofReign) := ⟨in3 _ (List.mem_of_getElem? (i := 235) rfl), rfl⟩
theorem mw_1303 : mT (Cond.methodLink RL 150 yL_ofReign) := ⟨in3 _ (List.mem_of_getElem? (i := 234) rfl), rfl⟩
theorem mw_1304 : mT (Cond.selects RX10 yX10_ofReign yX10_ofReign) := ⟨in6 _ (List.mem_of_getElem? (i := 227) rfl), rfl⟩
theorem mw_1305 : mT (Cond.instanceMethod yX10_ofReign) := ⟨in6 _ (List.mem_of_getElem? (i := 226) rfl), rfl⟩
theorem mw_1306 : mT (Cond.methodLink RL 153 yX10_ofReign) := ⟨in6 _ (List.mem_of_getElem? (i := 225) rfl), rfl⟩
theorem mw_1307 : mT (Cond.static yL_ofDie) := ⟨in4 _ (List.mem_of_getElem? (i := 27) rfl), rfl⟩
theorem mw_1308 : mT (Cond.methodLink RL 154 yL_ofDie) := ⟨in4 _ (List.mem_of_getElem? (i := 26) rfl), rfl⟩
theorem mw_1309 : mT (Cond.selects RX10 yX10_ofDie yX10_ofDie) := ⟨in6 _ (List.mem_of_getElem? (i := 235) rfl), rfl⟩
theorem mw_1310 : mT (Cond.instanceMethod yX10_ofDie) := ⟨in6 _ (List.mem_of_getElem? (i := 234) rfl), rfl⟩
theorem mw_1311 : mT (Cond.methodLink RL 156 yX10_ofDie) := ⟨in6 _ (List.mem_of_getElem? (i := 233) rfl), rfl⟩
theorem mw_1312 : mT (Cond.static yL_crackYear) := ⟨in4 _ (List.mem_of_getElem? (i := 43) rfl), rfl⟩
theorem mw_1313 : mT (Cond.methodLink RL 157 yL_crackYear) := ⟨in4 _ (List.mem_of_getElem? (i := 42) rfl), rfl⟩
theorem mw_1314 : mT (Cond.selects RX10 yX10_crackYear yX10_crackYear) := ⟨in7 _ (List.mem_of_getElem? (i := 4) rfl), rfl⟩
theorem mw_1315 : mT (Cond.instanceMethod yX10_crackYear) := ⟨in7 _ (List.mem_of_getElem? (i := 3) rfl), rfl⟩
theorem mw_1316 : mT (Cond.methodLink RL 159 yX10_crackYear) := ⟨in7 _ (List.mem_of_getElem? (i := 2) rfl), rfl⟩
theorem mw_1317 : mT (Cond.static yL_ofSeal) := ⟨in4 _ (List.mem_of_getElem? (i := 51) rfl), rfl⟩
theorem mw_1318 : mT (Cond.methodLink RL 160 yL_ofSeal) := ⟨in4 _ (List.mem_of_getElem? (i := 50) rfl), rfl⟩
theorem mw_1319 : mT (Cond.selects RX10 yX10_ofSeal yX10_ofSeal) := ⟨in7 _ (List.mem_of_getElem? (i := 8) rfl), rfl⟩
theorem mw_1320 : mT (Cond.instanceMethod yX10_ofSeal) := ⟨in7 _ (List.mem_of_getElem? (i := 7) rfl), rfl⟩
theorem mw_1321 : mT (Cond.methodLink RL 162 yX10_ofSeal) := ⟨in7 _ (List.mem_of_getElem? (i := 6) rfl), rfl⟩
theorem mw_1322 : mT (Cond.static yL_dated) := ⟨in4 _ (List.mem_of_getElem? (i := 73) rfl), rfl⟩
theorem mw_1323 : mT (Cond.methodLink RL 163 yL_dated) := ⟨in4 _ (List.mem_of_getElem? (i := 72) rfl), rfl⟩
theorem mw_1324 : mT (Cond.selects RX10 yX10_dated yX10_dated) := ⟨in7 _ (List.mem_of_getElem? (i := 13) rfl), rfl⟩
theorem mw_1325 : mT (Cond.instanceMethod yX10_dated) := ⟨in7 _ (List.mem_of_getElem? (i := 12) rfl), rfl⟩
theorem mw_1326 : mT (Cond.methodLink RL 165 yX10_dated) := ⟨in7 _ (List.mem_of_getElem? (i := 11) rfl), rfl⟩
theorem mw_1327 : mT (Cond.static yL_isPossible) := ⟨in4 _ (List.mem_of_getElem? (i := 88) rfl), rfl⟩
theorem mw_1328 : mT (Cond.methodLink RL 166 yL_isPossible) := ⟨in4 _ (List.mem_of_getElem? (i := 87) rfl), rfl⟩
theorem mw_1329 : mT (Cond.selects RX10 yX10_isPossible yX10_isPossible) := ⟨in7 _ (List.mem_of_getElem? (i := 18) rfl), rfl⟩
theorem mw_1330 : mT (Cond.instanceMethod yX10_isPossible) := ⟨in7 _ (List.mem_of_getElem? (i := 17) rfl), rfl⟩
theorem mw_1331 : mT (Cond.methodLink RL 168 yX10_isPossible) := ⟨in7 _ (List.mem_of_getElem? (i := 16) rfl), rfl⟩
theorem mw_1332 : mT (Cond.static yL_charter) := ⟨in4 _ (List.mem_of_getElem? (i := 104) rfl), rfl⟩
theorem mw_1333 : mT (Cond.methodLink RL 169 yL_charter) := ⟨in4 _ (List.mem_of_getElem? (i := 103) rfl), rfl⟩
theorem mw_1334 : mT (Cond.selects RX10 yX10_charter yX10_charter) := ⟨in7 _ (List.mem_of_getElem? (i := 31) rfl), rfl⟩
theorem mw_1335 : mT (Cond.instanceMethod yX10_charter) := ⟨in7 _ (List.mem_of_getElem? (i := 30) rfl), rfl⟩
theorem mw_1336 : mT (Cond.methodLink RL 171 yX10_charter) := ⟨in7 _ (List.mem_of_getElem? (i := 29) rfl), rfl⟩
theorem mw_1337 : mT (Cond.static yL_onShelf) := ⟨in4 _ (List.mem_of_getElem? (i := 115) rfl), rfl⟩
theorem mw_1338 : mT (Cond.methodLink RL 172 yL_onShelf) := ⟨in4 _ (List.mem_of_getElem? (i := 114) rfl), rfl⟩
theorem mw_1339 : mT (Cond.selects RX10 yX10_onShelf yX10_onShelf) := ⟨in7 _ (List.mem_of_getElem? (i := 39) rfl), rfl⟩
theorem mw_1340 : mT (Cond.instanceMethod yX10_onShelf) := ⟨in7 _ (List.mem_of_getElem? (i := 38) rfl), rfl⟩
theorem mw_1341 : mT (Cond.methodLink RL 174 yX10_onShelf) := ⟨in7 _ (List.mem_of_getElem? (i := 37) rfl), rfl⟩
theorem mw_1342 : mT (Cond.static yL_reign) := ⟨in4 _ (List.mem_of_getElem? (i := 126) rfl), rfl⟩
theorem mw_1343 : mT (Cond.methodLink RL 175 yL_reign) := ⟨in4 _ (List.mem_of_getElem? (i := 125) rfl), rfl⟩
theorem mw_1344 : mT (Cond.selects RX10 yX10_reign yX10_reign) := ⟨in7 _ (List.mem_of_getElem? (i := 46) rfl), rfl⟩
theorem mw_1345 : mT (Cond.instanceMethod yX10_reign) := ⟨in7 _ (List.mem_of_getElem? (i := 45) rfl), rfl⟩
theorem mw_1346 : mT (Cond.methodLink RL 177 yX10_reign) := ⟨in7 _ (List.mem_of_getElem? (i := 44) rfl), rfl⟩
theorem mw_1347 : mT (Cond.static yL_die) := ⟨in4 _ (List.mem_of_getElem? (i := 176) rfl), rfl⟩
theorem mw_1348 : mT (Cond.methodLink RL 178 yL_die) := ⟨in4 _ (List.mem_of_getElem? (i := 175) rfl), rfl⟩
theorem mw_1349 : mT (Cond.selects RX10 yX10_die yX10_die) := ⟨in7 _ (List.mem_of_getElem? (i := 54) rfl), rfl⟩
theorem mw_1350 : mT (Cond.instanceMethod yX10_die) := ⟨in7 _ (List.mem_of_getElem? (i := 53) rfl), rfl⟩
theorem mw_1351 : mT (Cond.methodLink RL 181 yX10_die) := ⟨in7 _ (List.mem_of_getElem? (i := 52) rfl), rfl⟩
theorem mw_1352 : mT (Cond.static yL_crack) := ⟨in4 _ (List.mem_of_getElem? (i := 184) rfl), rfl⟩
theorem mw_1353 : mT (Cond.methodLink RL 182 yL_crack) := ⟨in4 _ (List.mem_of_getElem? (i := 183) rfl), rfl⟩
theorem mw_1354 : mT (Cond.selects RX10 yX10_crack yX10_crack) := ⟨in7 _ (List.mem_of_getElem? (i := 61) rfl), rfl⟩
theorem mw_1355 : mT (Cond.instanceMethod yX10_crack) := ⟨in7 _ (List.mem_of_getElem? (i := 60) rfl), rfl⟩
theorem mw_1356 : mT (Cond.methodLink RL 184 yX10_crack) := ⟨in7 _ (List.mem_of_getElem? (i := 59) rfl), rfl⟩
theorem mw_1357 : mT (Cond.static yL_seal) := ⟨in4 _ (List.mem_of_getElem? (i := 192) rfl), rfl⟩
theorem mw_1358 : mT (Cond.methodLink RL 185 yL_seal) := ⟨in4 _ (List.mem_of_getElem? (i := 191) rfl), rfl⟩
theorem mw_1359 : mT (Cond.selects RX10 yX10_seal yX10_seal) := ⟨in7 _ (List.mem_of_getElem? (i := 65) rfl), rfl⟩
theorem mw_1360 : mT (Cond.instanceMethod yX10_seal) := ⟨in7 _ (List.mem_of_getElem? (i := 64) rfl), rfl⟩
theorem mw_1361 : mT (Cond.methodLink RL 188 yX10_seal) := ⟨in7 _ (List.mem_of_getElem? (i := 63) rfl), rfl⟩
theorem mw_1362 : mT (Cond.static yL_show) := ⟨in4 _ (List.mem_of_getElem? (i := 200) rfl), rfl⟩
theorem mw_1363 : mT (Cond.methodLink RL 189 yL_show) := ⟨in4 _ (List.mem_of_getElem? (i := 199) rfl), rfl⟩
theorem mw_1364 : mT (Cond.selects RX10 yX10_show yX10_show) := ⟨in7 _ (List.mem_of_getElem? (i := 74) rfl), rfl⟩
theorem mw_1365 : mT (Cond.instanceMethod yX10_show) := ⟨in7 _ (List.mem_of_getElem? (i := 73) rfl), rfl⟩
theorem mw_1366 : mT (Cond.methodLink RL 191 yX10_show) := ⟨in7 _ (List.mem_of_getElem? (i := 72) rfl), rfl⟩
theorem mw_1367 : mT (Cond.static yL_hang) := ⟨in4 _ (List.mem_of_getElem? (i := 211) rfl), rfl⟩
theorem mw_1368 : mT (Cond.methodLink RL 192 yL_hang) := ⟨in4 _ (List.mem_of_getElem? (i := 210) rfl), rfl⟩
theorem mw_1369 : mT (Cond.selects RX10 yX10_hang yX10_hang) := ⟨in7 _ (List.mem_of_getElem? (i := 81) rfl), rfl⟩
theorem mw_1370 : mT (Cond.instanceMethod yX10_hang) := ⟨in7 _ (List.mem_of_getElem? (i := 80) rfl), rfl⟩
theorem mw_1371 : mT (Cond.methodLink RL 194 yX10_hang) := ⟨in7 _ (List.mem_of_getElem? (i := 79) rfl), rfl⟩
theorem mw_1372 : mT (Cond.static yL_cut) := ⟨in4 _ (List.mem_of_getElem? (i := 219) rfl), rfl⟩
theorem mw_1373 : mT (Cond.methodLink RL 195 yL_cut) := ⟨in4 _ (List.mem_of_getElem? (i := 218) rfl), rfl⟩
theorem mw_1374 : mT (Cond.selects RX10 yX10_cut yX10_cut) := ⟨in7 _ (List.mem_of_getElem? (i := 85) rfl), rfl⟩
theorem mw_1375 : mT (Cond.instanceMethod yX10_cut) := ⟨in7 _ (List.mem_of_getElem? (i := 84) rfl), rfl⟩
theorem mw_1376 : mT (Cond.methodLink RL 197 yX10_cut) := ⟨in7 _ (List.mem_of_getElem? (i := 83) rfl), rfl⟩
theorem mw_1377 : mT (Cond.static yL_shelve) := ⟨in4 _ (List.mem_of_getElem? (i := 230) rfl), rfl⟩
theorem mw_1378 : mT (Cond.methodLink RL 198 yL_shelve) := ⟨in4 _ (List.mem_of_getElem? (i := 229) rfl), rfl⟩
theorem mw_1379 : mT (Cond.selects RX10 yX10_shelve yX10_shelve) := ⟨in7 _ (List.mem_of_getElem? (i := 92) rfl), rfl⟩
theorem mw_1380 : mT (Cond.instanceMethod yX10_shelve) := ⟨in7 _ (List.mem_of_getElem? (i := 91) rfl), rfl⟩
theorem mw_1381 : mT (Cond.methodLink RL 200 yX10_shelve) := ⟨in7 _ (List.mem_of_getElem? (i := 90) rfl), rfl⟩
theorem mw_1382 : mT (Cond.static yL_take) := ⟨in5 _ (List.mem_of_getElem? (i := 27) rfl), rfl⟩
theorem mw_1383 : mT (Cond.methodLink RL 201 yL_take) := ⟨in5 _ (List.mem_of_getElem? (i := 26) rfl), rfl⟩
theorem mw_1384 : mT (Cond.selects RX10 yX10_take yX10_take) := ⟨in7 _ (List.mem_of_getElem? (i := 108) rfl), rfl⟩
theorem mw_1385 : mT (Cond.instanceMethod yX10_take) := ⟨in7 _ (List.mem_of_getElem? (i := 107) rfl), rfl⟩
theorem mw_1386 : mT (Cond.methodLink RL 203 yX10_take) := ⟨in7 _ (List.mem_of_getElem? (i := 106) rfl), rfl⟩
theorem mw_1387 : mT (Cond.static yL_sort) := ⟨in5 _ (List.mem_of_getElem? (i := 39) rfl), rfl⟩
theorem mw_1388 : mT (Cond.methodLink RL 204 yL_sort) := ⟨in5 _ (List.mem_of_getElem? (i := 38) rfl), rfl⟩
theorem mw_1389 : mT (Cond.selects RX10 yX10_sort yX10_sort) := ⟨in7 _ (List.mem_of_getElem? (i := 112) rfl), rfl⟩
theorem mw_1390 : mT (Cond.instanceMethod yX10_sort) := ⟨in7 _ (List.mem_of_getElem? (i := 111) rfl), rfl⟩
theorem mw_1391 : mT (Cond.methodLink RL 206 yX10_sort) := ⟨in7 _ (List.mem_of_getElem? (i := 110) rfl), rfl⟩
theorem mw_1392 : mT (Cond.static yL_set) := ⟨in5 _ (List.mem_of_getElem? (i := 62) rfl), rfl⟩
theorem mw_1393 : mT (Cond.methodLink RL 207 yL_set) := ⟨in5 _ (List.mem_of_getElem? (i := 61) rfl), rfl⟩
theorem mw_1394 : mT (Cond.selects RX10 yX10_set yX10_set) := ⟨in7 _ (List.mem_of_getElem? (i := 124) rfl), rfl⟩
theorem mw_1395 : mT (Cond.instanceMethod yX10_set) := ⟨in7 _ (List.mem_of_getElem? (i := 123) rfl), rfl⟩
theorem mw_1396 : mT (Cond.methodLink RL 209 yX10_set) := ⟨in7 _ (List.mem_of_getElem? (i := 122) rfl), rfl⟩
theorem mw_1397 : mT (Cond.static yL_undo) := ⟨in5 _ (List.mem_of_getElem? (i := 73) rfl), rfl⟩
theorem mw_1398 : mT (Cond.methodLink RL 210 yL_undo) := ⟨in5 _ (List.mem_of_getElem? (i := 72) rfl), rfl⟩
theorem mw_1399 : mT (Cond.selects RX10 yX10_undo yX10_undo) := ⟨in7 _ (List.mem_of_getElem? (i := 131) rfl), rfl⟩
theorem mw_1400 : mT (Cond.instanceMethod yX10_undo) := ⟨in7 _ (List.mem_of_getElem? (i := 130) rfl), rfl⟩
theorem mw_1401 : mT (Cond.methodLink RL 212 yX10_undo) := ⟨in7 _ (List.mem_of_getElem? (i := 129) rfl), rfl⟩
theorem mw_1402 : mT (Cond.static yL_older) := ⟨in5 _ (List.mem_of_getElem? (i := 84) rfl), rfl⟩
theorem mw_1403 : mT (Cond.methodLink RL 213 yL_older) := ⟨in5 _ (List.mem_of_getElem? (i := 83) rfl), rfl⟩
theorem mw_1404 : mT (Cond.selects RX10 yX10_older yX10_older) := ⟨in7 _ (List.mem_of_getElem? (i := 135) rfl), rfl⟩
theorem mw_1405 : mT (Cond.instanceMethod yX10_older) := ⟨in7 _ (List.mem_of_getElem? (i := 134) rfl), rfl⟩
theorem mw_1406 : mT (Cond.methodLink RL 215 yX10_older) := ⟨in7 _ (List.mem_of_getElem? (i := 133) rfl), rfl⟩
theorem mw_1407 : mT (Cond.static yL_decides) := ⟨in5 _ (List.mem_of_getElem? (i := 96) rfl), rfl⟩
theorem mw_1408 : mT (Cond.methodLink RL 216 yL_decides) := ⟨in5 _ (List.mem_of_getElem? (i := 95) rfl), rfl⟩
theorem mw_1409 : mT (Cond.selects RX10 yX10_decides yX10_decides) := ⟨in7 _ (List.mem_of_getElem? (i := 139) rfl), rfl⟩
theorem mw_1410 : mT (Cond.instanceMethod yX10_decides) := ⟨in7 _ (List.mem_of_getElem? (i := 138) rfl), rfl⟩
theorem mw_1411 : mT (Cond.methodLink RL 218 yX10_decides) := ⟨in7 _ (List.mem_of_getElem? (i := 137) rfl), rfl⟩
theorem mw_1412 : mT (Cond.static yL_ifCracked) := ⟨in5 _ (List.mem_of_getElem? (i := 108) rfl), rfl⟩
theorem mw_1413 : mT (Cond.methodLink RL 219 yL_ifCracked) := ⟨in5 _ (List.mem_of_getElem? (i := 107) rfl), rfl⟩
theorem mw_1414 : mT (Cond.selects RX10 yX10_ifCracked yX10_ifCracked) := ⟨in7 _ (List.mem_of_getElem? (i := 143) rfl), rfl⟩
theorem mw_1415 : mT (Cond.instanceMethod yX10_ifCracked) := ⟨in7 _ (List.mem_of_getElem? (i := 142) rfl), rfl⟩
theorem mw_1416 : mT (Cond.methodLink RL 221 yX10_ifCracked) := ⟨in7 _ (List.mem_of_getElem? (i := 141) rfl), rfl⟩
theorem mw_1417 : mT (Cond.static yL_ifHung) := ⟨in5 _ (List.mem_of_getElem? (i := 120) rfl), rfl⟩
theorem mw_1418 : mT (Cond.methodLink RL 222 yL_ifHung) := ⟨in5 _ (List.mem_of_getElem? (i := 119) rfl), rfl⟩
theorem mw_1419 : mT (Cond.selects RX10 yX10_ifHung yX10_ifHung) := ⟨in7 _ (List.mem_of_getElem? (i := 147) rfl), rfl⟩
theorem mw_1420 : mT (Cond.instanceMethod yX10_ifHung) := ⟨in7 _ (List.mem_of_getElem? (i := 146) rfl), rfl⟩
theorem mw_1421 : mT (Cond.methodLink RL 224 yX10_ifHung) := ⟨in7 _ (List.mem_of_getElem? (i := 145) rfl), rfl⟩
theorem mw_1422 : mT (Cond.static yL_inYear) := ⟨in5 _ (List.mem_of_getElem? (i := 127) rfl), rfl⟩
theorem mw_1423 : mT (Cond.methodLink RL 225 yL_inYear) := ⟨in5 _ (List.mem_of_getElem? (i := 126) rfl), rfl⟩
theorem mw_1424 : mT (Cond.selects RX10 yX10_inYear yX10_inYear) := ⟨in7 _ (List.mem_of_getElem? (i := 151) rfl), rfl⟩
theorem mw_1425 : mT (Cond.instanceMethod yX10_inYear) := ⟨in7 _ (List.mem_of_getElem? (i := 150) rfl), rfl⟩
theorem mw_1426 : mT (Cond.methodLink RL 227 yX10_inYear) := ⟨in7 _ (List.mem_of_getElem? (i := 149) rfl), rfl⟩
theorem mw_1427 : mT (Cond.static yL_leastBubbles) := ⟨in5 _ (List.mem_of_getElem? (i := 139) rfl), rfl⟩
theorem mw_1428 : mT (Cond.methodLink RL 228 yL_leastBubbles) := ⟨in5 _ (List.mem_of_getElem? (i := 138) rfl), rfl⟩
theorem mw_1429 : mT (Cond.selects RX10 yX10_leastBubbles yX10_leastBubbles) := ⟨in7 _ (List.mem_of_getElem? (i := 155) rfl), rfl⟩
theorem mw_1430 : mT (Cond.instanceMethod yX10_leastBubbles) := ⟨in7 _ (List.mem_of_getElem? (i := 154) rfl), rfl⟩
theorem mw_1431 : mT (Cond.methodLink RL 230 yX10_leastBubbles) := ⟨in7 _ (List.mem_of_getElem? (i := 153) rfl), rfl⟩
theorem mw_1432 : mT (Cond.static yL_runScript) := ⟨in5 _ (List.mem_of_getElem? (i := 161) rfl), rfl⟩
theorem mw_1433 : mT (Cond.methodLink RL 233 yL_runScript) := ⟨in5 _ (List.mem_of_getElem? (i := 160) rfl), rfl⟩
theorem mw_1434 : mT (Cond.selects RX10 yX10_runScript yX10_runScript) := ⟨in7 _ (List.mem_of_getElem? (i := 159) rfl), rfl⟩
theorem mw_1435 : mT (Cond.instanceMethod yX10_runScript) := ⟨in7 _ (List.mem_of_getElem? (i := 158) rfl), rfl⟩
theorem mw_1436 : mT (Cond.methodLink RL 236 yX10_runScript) := ⟨in7 _ (List.mem_of_getElem? (i := 157) rfl), rfl⟩
theorem mw_1437 : mT (Cond.static yL_simulate) := ⟨in5 _ (List.mem_of_getElem? (i := 178) rfl), rfl⟩
theorem mw_1438 : mT (Cond.methodLink RL 237 yL_simulate) := ⟨in5 _ (List.mem_of_getElem? (i := 177) rfl), rfl⟩
theorem mw_1439 : mT (Cond.selects RX10 yX10_simulate yX10_simulate) := ⟨in7 _ (List.mem_of_getElem? (i := 201) rfl), rfl⟩
theorem mw_1440 : mT (Cond.instanceMethod yX10_simulate) := ⟨in7 _ (List.mem_of_getElem? (i := 200) rfl), rfl⟩
theorem mw_1441 : mT (Cond.methodLink RL 240 yX10_simulate) := ⟨in7 _ (List.mem_of_getElem? (i := 199) rfl), rfl⟩
theorem mw_1442 : mT (Cond.static yL_save) := ⟨in5 _ (List.mem_of_getElem? (i := 191) rfl), rfl⟩
theorem mw_1443 : mT (Cond.methodLink RL 241 yL_save) := ⟨in5 _ (List.mem_of_getElem? (i := 190) rfl), rfl⟩
theorem mw_1444 : mT (Cond.selects RX10 yX10_save yX10_save) := ⟨in7 _ (List.mem_of_getElem? (i := 212) rfl), rfl⟩
theorem mw_1445 : mT (Cond.instanceMethod yX10_save) := ⟨in7 _ (List.mem_of_getElem? (i := 211) rfl), rfl⟩
theorem mw_1446 : mT (Cond.methodLink RL 243 yX10_save) := ⟨in7 _ (List.mem_of_getElem? (i := 210) rfl), rfl⟩
theorem mw_1447 : mT (Cond.static yL_restore) := ⟨in5 _ (List.mem_of_getElem? (i := 201) rfl), rfl⟩
theorem mw_1448 : mT (Cond.methodLink RL 244 yL_restore) := ⟨in5 _ (List.mem_of_getElem? (i := 200) rfl), rfl⟩
theorem mw_1449 : mT (Cond.selects RX10 yX10_restore yX10_restore) := ⟨in7 _ (List.mem_of_getElem? (i := 216) rfl), rfl⟩
theorem mw_1450 : mT (Cond.instanceMethod yX10_restore) := ⟨in7 _ (List.mem_of_getElem? (i := 215) rfl), rfl⟩
theorem mw_1451 : mT (Cond.methodLink RL 246 yX10_restore) := ⟨in7 _ (List.mem_of_getElem? (i := 214) rfl), rfl⟩
theorem gT_at376 : GoodIn lw_tbl ((vx_atS RX9 376 "java/lang/IllegalArgumentException" ["java/lang/RuntimeException", "java/lang/Exception"]).filter goodWord) := goodIn_sub (by decide +kernel) (by decide +kernel)
theorem gT_at381 : GoodIn lw_tbl ((vx_atS RX9 381 "java/lang/IllegalStateException" ["java/lang/RuntimeException", "java/lang/Exception"]).filter goodWord) := goodIn_sub (by decide +kernel) (by decide +kernel)
theorem gT_at369 : GoodIn lw_tbl ((vx_atS RX9 369 "java/lang/IndexOutOfBoundsException" ["java/lang/RuntimeException", "java/lang/Exception"]).filter goodWord) := goodIn_sub (by decide +kernel) (by decide +kernel)
set_option maxRecDepth 20000 in
theorem gT_wsX9_init_r1 : GoodIn lw_tbl wsX9_init_r1 := gT_c mw_24 (gT_c mw_23 (gT_c mw_22 (gT_c mw_21 (gT_c mw_20 (gT_c mw_19 (gT_c mw_18 (gT_c mw_17 (gT_c mw_16 (gT_c mw_15 (gT_c mw_14 (gT_c mw_13 (gT_c mw_12 (gT_c mw_11 (gT_c mw_10 (gT_c mw_9 (gT_c mw_8 (gT_c mw_7 (gT_c mw_6 (gT_c mw_5 (gT_c mw_4 (gT_c mw_3 (gT_c mw_2 (gT_c mw_1 gT_n)))))))))))))))))))))))
set_option maxRecDepth 20000 in
theorem gT_wsX9_init_r2 : GoodIn lw_tbl wsX9_init_r2 := gT_c mw_48 (gT_c mw_47 (gT_c mw_46 (gT_c mw_45 (gT_c mw_44 (gT_c mw_43 (gT_c mw_42 (gT_c mw_41 (gT_c mw_40 (gT_c mw_39 (gT_c mw_38 (gT_c mw_37 (gT_c mw_36 (gT_c mw_35 (gT_c mw_34 (gT_c mw_33 (gT_c mw_32 (gT_c mw_31 (gT_c mw_30 (gT_c mw_29 (gT_c mw_28 (gT_c mw_27 (gT_c mw_26 (gT_c mw_25 gT_n)))))))))))))))))))))))
set_option maxRecDepth 20000 in
theorem gT_wsX9_init_r3 : GoodIn lw_tbl wsX9_init_r3 := gT_c mw_72 (gT_c mw_71 (gT_c mw_70 (gT_c mw_69 (gT_c mw_68 (gT_c mw_67 (gT_c mw_66 (gT_c mw_65 (gT_c mw_64 (gT_c mw_63 (gT_c mw_62 (gT_c mw_61 (gT_c mw_60 (gT_c mw_59 (gT_c mw_58 (gT_c mw_57 (gT_c mw_56 (gT_c mw_55 (gT_c mw_54 (gT_c mw_53 (gT_c mw_52 (gT_c mw_51 (gT_c mw_50 (gT_c mw_49 gT_n)))))))))))))))))))))))
set_option maxRecDepth 20000 in
theorem gT_wsX9_init_r4 : GoodIn lw_tbl wsX9_init_r4 := gT_c mw_96 (gT_c mw_95 (gT_c mw_94 (gT_c mw_93 (gT_c mw_92 (gT_c mw_91 (gT_c mw_90 (gT_c mw_89 (gT_c mw_88 (gT_c mw_87 (gT_c mw_86 (gT_c mw_85 (gT_c mw_84 (gT_c mw_83 (gT_c mw_82 (gT_c mw_81 (gT_c mw_80 (gT_c mw_79 (gT_c mw_78 (gT_c mw_77 (gT_c mw_76 (gT_c mw_75 (gT_c mw_74 (gT_c mw_73 gT_n)))))))))))))))))))))))
set_option maxRecDepth 20000 in
theorem gT_wsX9_init_r5 : GoodIn lw_tbl wsX9_init_r5 := gT_c mw_111 (gT_c mw_110 (gT_c mw_109 (gT_c mw_108 (gT_c mw_107 (gT_c mw_106 (gT_c mw_105 (gT_c mw_104 (gT_c mw_103 (gT_c mw_102 (gT_c mw_101 (gT_c mw_100 (gT_c mw_99 (gT_c mw_98 (gT_c mw_97 gT_n))))))))))))))
set_option maxRecDepth 20000 in
theorem gT_wsX70 : GoodIn lw_tbl wsX70 := gT_c mw_123 (gT_c mw_122 (gT_c mw_121 (gT_c mw_120 (gT_c mw_119 (gT_c mw_118 (gT_c mw_117 (gT_c mw_116 (gT_c mw_115 (gT_c mw_114 (gT_c mw_113 (gT_c mw_112 gT_n)))))))))))
set_option maxRecDepth 20000 in
theorem gT_wsX90 : GoodIn lw_tbl wsX90 := gT_c mw_130 (gT_c mw_129 (gT_c mw_128 (gT_c mw_127 (gT_c mw_126 (gT_c mw_125 (gT_c mw_124 gT_n))))))
set_option maxRecDepth 20000 in
theorem gT_wsX10 : GoodIn lw_tbl wsX10 := gT_c mw_136 (gT_c mw_135 (gT_c mw_134 (gT_c mw_133 (gT_c mw_132 (gT_c mw_131 gT_n)))))
set_option maxRecDepth 20000 in
theorem gT_wsX20 : GoodIn lw_tbl wsX20 := gT_c mw_139 (gT_c mw_138 (gT_c mw_137 gT_n))
set_option maxRecDepth 20000 in
theorem gT_wsX60 : GoodIn lw_tbl wsX60 := gT_c mw_144 (gT_c mw_143 (gT_c mw_142 (gT_c mw_141 (gT_c mw_140 gT_n))))
set_option maxRecDepth 20000 in
theorem gT_wsX80 : GoodIn lw_tbl wsX80 := gT_c mw_147 (gT_c mw_146 (gT_c mw_145 gT_n))
set_option maxRecDepth 20000 in
theorem gT_wsX30 : GoodIn lw_tbl wsX30 := gT_c mw_150 (gT_c mw_149 (gT_c mw_148 gT_n))
set_option maxRecDepth 20000 in
theorem gT_wsX00 : GoodIn lw_tbl wsX00 := gT_c mw_156 (gT_c mw_155 (gT_c mw_154 (gT_c mw_153 (gT_c mw_152 (gT_c mw_151 gT_n)))))
set_option maxRecDepth 20000 in
theorem gT_wsX40 : GoodIn lw_tbl wsX40 := gT_c mw_163 (gT_c mw_162 (gT_c mw_161 (gT_c mw_160 (gT_c mw_159 (gT_c mw_158 (gT_c mw_157 gT_n))))))
set_option maxRecDepth 20000 in
theorem gT_wsX50 : GoodIn lw_tbl wsX50 := gT_c mw_165 (gT_c mw_164 gT_n)
set_option maxRecDepth 20000 in
theorem gT_wsX9_init : GoodIn lw_tbl wsX9_init := gT_c mw_0 (goodIn_app (goodIn_app (goodIn_app (goodIn_app (goodIn_app (goodIn_app (goodIn_app (goodIn_app (goodIn_app (goodIn_app (goodIn_app (gT_wsX9_init_r1) (goodIn_app (gT_wsX9_init_r2) (goodIn_app (gT_wsX9_init_r3) (goodIn_app (gT_wsX9_init_r4) (gT_wsX9_init_r5))))) (gT_wsX70)) (gT_wsX90)) (gT_wsX10)) (gT_wsX20)) (gT_wsX60)) (gT_wsX80)) (gT_wsX30)) (gT_wsX00)) (gT_wsX40)) (gT_wsX50))
set_option maxRecDepth 20000 in
theorem gT_wsX100 : GoodIn lw_tbl wsX100 := gT_c mw_197 (gT_c mw_196 (gT_c mw_195 (gT_c mw_194 (gT_c mw_193 (gT_c mw_192 (gT_c mw_191 (gT_c mw_190 (gT_c mw_189 (gT_c mw_188 (gT_c mw_187 (gT_c mw_186 (gT_c mw_185 (gT_c mw_184 (gT_c mw_183 (gT_c mw_182 (gT_c mw_181 (gT_c mw_180 gT_n)))))))))))))))))
set_option maxRecDepth 20000 in
theorem gT_wsX10_init : GoodIn lw_tbl wsX10_init := gT_c mw_166 (goodIn_app (gT_c mw_179 (gT_c mw_23 (gT_c mw_22 (gT_c mw_37 (gT_c mw_178 (gT_c mw_177 (gT_c mw_176 (gT_c mw_175 (gT_c mw_174 (gT_c mw_7 (gT_c mw_173 (gT_c mw_172 (gT_c mw_171 (gT_c mw_170 (gT_c mw_169 (gT_c mw_168 (gT_c mw_167 gT_n))))))))))))))))) (gT_wsX100))
set_option maxRecDepth 20000 in
theorem gT_wsL_append_r1 : GoodIn lw_tbl wsL_append_r1 := gT_c mw_220 (gT_c mw_219 (gT_c mw_218 (gT_c mw_217 (gT_c mw_216 (gT_c mw_215 (gT_c mw_214 (gT_c mw_18 (gT_c mw_213 (gT_c mw_212 (gT_c mw_211 (gT_c mw_210 (gT_c mw_209 (gT_c mw_208 (gT_c mw_207 (gT_c mw_206 (gT_c mw_205 (gT_c mw_204 (gT_c mw_203 (gT_c mw_202 (gT_c mw_201 (gT_c mw_200 (gT_c mw_19 (gT_c mw_199 gT_n)))))))))))))))))))))))
set_option maxRecDepth 20000 in
theorem gT_wsL_append_r2 : GoodIn lw_tbl wsL_append_r2 := gT_c mw_221 (gT_c mw_45 gT_n)
set_option maxRecDepth 20000 in
theorem gT_wsL_append : GoodIn lw_tbl wsL_append := gT_c mw_198 (goodIn_app (goodIn_app (goodIn_app (goodIn_app (goodIn_app (gT_wsL_append_r1) (gT_wsL_append_r2)) (gT_wsX90)) (gT_wsX70)) (gT_at376)) (gT_at381))
set_option maxRecDepth 20000 in
theorem gT_wsX10_append : GoodIn lw_tbl wsX10_append := gT_c mw_222 (goodIn_app (gT_c mw_232 (gT_c mw_231 (gT_c mw_172 (gT_c mw_230 (gT_c mw_229 (gT_c mw_168 (gT_c mw_228 (gT_c mw_227 (gT_c mw_226 (gT_c mw_225 (gT_c mw_224 (gT_c mw_223 gT_n)))))))))))) (gT_wsX100))
set_option maxRecDepth 20000 in
theorem gT_wsX10_thrown : GoodIn lw_tbl wsX10_thrown := gT_c mw_233 (goodIn_app (gT_c mw_223 gT_n) (gT_wsX100))
set_option maxRecDepth 20000 in
theorem gT_wsX9_clearText : GoodIn lw_tbl wsX9_clearText := gT_c mw_234 (goodIn_app (goodIn_app (gT_c mw_18 (gT_c mw_238 (gT_c mw_237 (gT_c mw_236 (gT_c mw_19 (gT_c mw_235 (gT_c mw_221 gT_n))))))) (gT_wsX90)) (gT_wsX70))
set_option maxRecDepth 20000 in
theorem gT_wsX10_clearText : GoodIn lw_tbl wsX10_clearText := gT_c mw_239 (goodIn_app (gT_c mw_223 (gT_c mw_231 gT_n)) (gT_wsX100))
set_option maxRecDepth 20000 in
theorem gT_wsX9_errorPosition_r1 : GoodIn lw_tbl wsX9_errorPosition_r1 := gT_c mw_18 (gT_c mw_260 (gT_c mw_259 (gT_c mw_258 (gT_c mw_19 (gT_c mw_257 (gT_c mw_256 (gT_c mw_255 (gT_c mw_254 (gT_c mw_253 (gT_c mw_252 (gT_c mw_251 (gT_c mw_250 (gT_c mw_249 (gT_c mw_248 (gT_c mw_247 (gT_c mw_221 (gT_c mw_246 (gT_c mw_245 (gT_c mw_244 (gT_c mw_243 (gT_c mw_45 (gT_c mw_242 (gT_c mw_241 gT_n)))))))))))))))))))))))
set_option maxRecDepth 20000 in
theorem gT_wsX9_errorPosition_r2 : GoodIn lw_tbl wsX9_errorPosition_r2 := gT_c mw_284 (gT_c mw_283 (gT_c mw_282 (gT_c mw_281 (gT_c mw_280 (gT_c mw_279 (gT_c mw_278 (gT_c mw_277 (gT_c mw_276 (gT_c mw_275 (gT_c mw_274 (gT_c mw_273 (gT_c mw_272 (gT_c mw_271 (gT_c mw_270 (gT_c mw_269 (gT_c mw_268 (gT_c mw_267 (gT_c mw_266 (gT_c mw_265 (gT_c mw_264 (gT_c mw_263 (gT_c mw_262 (gT_c mw_261 gT_n)))))))))))))))))))))))
set_option maxRecDepth 20000 in
theorem gT_wsX9_errorPosition_r3 : GoodIn lw_tbl wsX9_errorPosition_r3 := gT_c mw_308 (gT_c mw_307 (gT_c mw_306 (gT_c mw_305 (gT_c mw_304 (gT_c mw_303 (gT_c mw_302 (gT_c mw_301 (gT_c mw_300 (gT_c mw_299 (gT_c mw_298 (gT_c mw_297 (gT_c mw_296 (gT_c mw_295 (gT_c mw_294 (gT_c mw_293 (gT_c mw_292 (gT_c mw_291 (gT_c mw_290 (gT_c mw_289 (gT_c mw_288 (gT_c mw_287 (gT_c mw_286 (gT_c mw_285 gT_n)))))))))))))))))))))))
set_option maxRecDepth 20000 in
theorem gT_wsX9_errorPosition_r4 : GoodIn lw_tbl wsX9_errorPosition_r4 := gT_c mw_310 (gT_c mw_309 gT_n)
set_option maxRecDepth 20000 in
theorem gT_wsX9_errorPosition : GoodIn lw_tbl wsX9_errorPosition := gT_c mw_240 (goodIn_app (goodIn_app (goodIn_app (gT_wsX9_errorPosition_r1) (goodIn_app (gT_wsX9_errorPosition_r2) (goodIn_app (gT_wsX9_errorPosition_r3) (gT_wsX9_errorPosition_r4)))) (gT_wsX90)) (gT_wsX70))
set_option maxRecDepth 20000 in
theorem gT_wsX10_errorPosition_r1 : GoodIn lw_tbl wsX10_errorPosition_r1 := gT_c mw_223 (gT_c mw_327 (gT_c mw_326 (gT_c mw_325 (gT_c mw_168 (gT_c mw_324 (gT_c mw_323 (gT_c mw_322 (gT_c mw_321 (gT_c mw_176 (gT_c mw_231 (gT_c mw_170 (gT_c mw_169 (gT_c mw_167 (gT_c mw_320 (gT_c mw_319 (gT_c mw_318 (gT_c mw_317 (gT_c mw_316 (gT_c mw_315 (gT_c mw_314 (gT_c mw_313 (gT_c mw_172 (gT_c mw_312 gT_n)))))))))))))))))))))))
set_option maxRecDepth 20000 in
theorem gT_wsX10_errorPosition_r2 : GoodIn lw_tbl wsX10_errorPosition_r2 := gT_c mw_348 (gT_c mw_347 (gT_c mw_346 (gT_c mw_345 (gT_c mw_344 (gT_c mw_343 (gT_c mw_342 (gT_c mw_341 (gT_c mw_340 (gT_c mw_339 (gT_c mw_338 (gT_c mw_337 (gT_c mw_336 (gT_c mw_335 (gT_c mw_334 (gT_c mw_230 (gT_c mw_229 (gT_c mw_228 (gT_c mw_333 (gT_c mw_332 (gT_c mw_331 (gT_c mw_330 (gT_c mw_329 (gT_c mw_328 gT_n)))))))))))))))))))))))
set_option maxRecDepth 20000 in
theorem gT_wsX10_errorPosition_r3 : GoodIn lw_tbl wsX10_errorPosition_r3 := gT_c mw_372 (gT_c mw_371 (gT_c mw_370 (gT_c mw_369 (gT_c mw_368 (gT_c mw_367 (gT_c mw_366 (gT_c mw_365 (gT_c mw_364 (gT_c mw_363 (gT_c mw_362 (gT_c mw_361 (gT_c mw_360 (gT_c mw_359 (gT_c mw_358 (gT_c mw_357 (gT_c mw_356 (gT_c mw_355 (gT_c mw_354 (gT_c mw_353 (gT_c mw_352 (gT_c mw_351 (gT_c mw_350 (gT_c mw_349 gT_n)))))))))))))))))))))))
set_option maxRecDepth 20000 in
theorem gT_wsX10_errorPosition_r4 : GoodIn lw_tbl wsX10_errorPosition_r4 := gT_c mw_396 (gT_c mw_395 (gT_c mw_394 (gT_c mw_393 (gT_c mw_392 (gT_c mw_391 (gT_c mw_390 (gT_c mw_389 (gT_c mw_388 (gT_c mw_387 (gT_c mw_386 (gT_c mw_385 (gT_c mw_384 (gT_c mw_383 (gT_c mw_382 (gT_c mw_381 (gT_c mw_380 (gT_c mw_379 (gT_c mw_378 (gT_c mw_377 (gT_c mw_376 (gT_c mw_375 (gT_c mw_374 (gT_c mw_373 gT_n)))))))))))))))))))))))
set_option maxRecDepth 20000 in
theorem gT_wsX10_errorPosition_r5 : GoodIn lw_tbl wsX10_errorPosition_r5 := gT_c mw_403 (gT_c mw_402 (gT_c mw_401 (gT_c mw_400 (gT_c mw_399 (gT_c mw_398 (gT_c mw_397 gT_n))))))
set_option maxRecDepth 20000 in
theorem gT_wsX10_errorPosition : GoodIn lw_tbl wsX10_errorPosition := gT_c mw_311 (goodIn_app (goodIn_app (gT_wsX10_errorPosition_r1) (goodIn_app (gT_wsX10_errorPosition_r2) (goodIn_app (gT_wsX10_errorPosition_r3) (goodIn_app (gT_wsX10_errorPosition_r4) (gT_wsX10_errorPosition_r5))))) (gT_wsX100))
set_option maxRecDepth 20000 in
theorem gT_wsL_load_r1 : GoodIn lw_tbl wsL_load_r1 := gT_c mw_219 (gT_c mw_408 (gT_c mw_407 (gT_c mw_406 (gT_c mw_215 (gT_c mw_405 (gT_c mw_18 (gT_c mw_3 (gT_c mw_10 (gT_c mw_6 (gT_c mw_260 (gT_c mw_259 (gT_c mw_258 (gT_c mw_19 (gT_c mw_257 (gT_c mw_256 (gT_c mw_255 (gT_c mw_254 (gT_c mw_253 (gT_c mw_252 (gT_c mw_251 (gT_c mw_250 (gT_c mw_249 (gT_c mw_248 gT_n)))))))))))))))))))))))
set_option maxRecDepth 20000 in
theorem gT_wsL_load_r2 : GoodIn lw_tbl wsL_load_r2 := gT_c mw_247 (gT_c mw_221 (gT_c mw_246 (gT_c mw_245 (gT_c mw_244 (gT_c mw_243 (gT_c mw_45 (gT_c mw_242 (gT_c mw_241 (gT_c mw_284 (gT_c mw_283 (gT_c mw_282 (gT_c mw_281 (gT_c mw_280 (gT_c mw_279 (gT_c mw_278 (gT_c mw_277 (gT_c mw_276 (gT_c mw_275 (gT_c mw_274 (gT_c mw_273 (gT_c mw_272 (gT_c mw_271 (gT_c mw_270 gT_n)))))))))))))))))))))))
set_option maxRecDepth 20000 in
theorem gT_wsL_load_r3 : GoodIn lw_tbl wsL_load_r3 := gT_c mw_269 (gT_c mw_268 (gT_c mw_267 (gT_c mw_266 (gT_c mw_265 (gT_c mw_264 (gT_c mw_263 (gT_c mw_262 (gT_c mw_261 (gT_c mw_308 (gT_c mw_307 (gT_c mw_306 (gT_c mw_305 (gT_c mw_304 (gT_c mw_303 (gT_c mw_302 (gT_c mw_301 (gT_c mw_300 (gT_c mw_299 (gT_c mw_298 (gT_c mw_297 (gT_c mw_296 (gT_c mw_295 (gT_c mw_294 gT_n)))))))))))))))))))))))
set_option maxRecDepth 20000 in
theorem gT_wsL_load_r4 : GoodIn lw_tbl wsL_load_r4 := gT_c mw_293 (gT_c mw_292 (gT_c mw_291 (gT_c mw_290 (gT_c mw_289 (gT_c mw_288 (gT_c mw_287 (gT_c mw_286 (gT_c mw_285 (gT_c mw_310 (gT_c mw_309 (gT_c mw_207 (gT_c mw_206 (gT_c mw_205 (gT_c mw_204 (gT_c mw_203 (gT_c mw_409 (gT_c mw_107 (gT_c mw_106 (gT_c mw_4 (gT_c mw_105 (gT_c mw_62 (gT_c mw_104 (gT_c mw_58 gT_n)))))))))))))))))))))))
set_option maxRecDepth 20000 in
theorem gT_wsL_load_r5 : GoodIn lw_tbl wsL_load_r5 := gT_c mw_103 (gT_c mw_54 (gT_c mw_102 (gT_c mw_50 (gT_c mw_49 (gT_c mw_101 (gT_c mw_100 (gT_c mw_99 (gT_c mw_51 (gT_c mw_98 (gT_c mw_110 (gT_c mw_421 (gT_c mw_420 (gT_c mw_419 (gT_c mw_11 (gT_c mw_418 (gT_c mw_417 (gT_c mw_416 (gT_c mw_415 (gT_c mw_414 (gT_c mw_413 (gT_c mw_412 (gT_c mw_411 (gT_c mw_410 gT_n)))))))))))))))))))))))
set_option maxRecDepth 20000 in
theorem gT_wsL_load_r6 : GoodIn lw_tbl wsL_load_r6 := gT_c mw_444 (gT_c mw_443 (gT_c mw_442 (gT_c mw_441 (gT_c mw_440 (gT_c mw_439 (gT_c mw_438 (gT_c mw_437 (gT_c mw_436 (gT_c mw_435 (gT_c mw_434 (gT_c mw_433 (gT_c mw_432 (gT_c mw_431 (gT_c mw_430 (gT_c mw_429 (gT_c mw_428 (gT_c mw_427 (gT_c mw_426 (gT_c mw_425 (gT_c mw_424 (gT_c mw_423 (gT_c mw_63 (gT_c mw_422 gT_n)))))))))))))))))))))))
set_option maxRecDepth 20000 in
theorem gT_wsL_load_r7 : GoodIn lw_tbl wsL_load_r7 := gT_c mw_466 (gT_c mw_93 (gT_c mw_465 (gT_c mw_464 (gT_c mw_463 (gT_c mw_462 (gT_c mw_461 (gT_c mw_460 (gT_c mw_459 (gT_c mw_458 (gT_c mw_457 (gT_c mw_456 (gT_c mw_455 (gT_c mw_454 (gT_c mw_453 (gT_c mw_452 (gT_c mw_451 (gT_c mw_450 (gT_c mw_59 (gT_c mw_449 (gT_c mw_448 (gT_c mw_447 (gT_c mw_446 (gT_c mw_445 gT_n)))))))))))))))))))))))
set_option maxRecDepth 20000 in
theorem gT_wsL_load_r8 : GoodIn lw_tbl wsL_load_r8 := gT_c mw_488 (gT_c mw_85 (gT_c mw_487 (gT_c mw_486 (gT_c mw_485 (gT_c mw_484 (gT_c mw_84 (gT_c mw_483 (gT_c mw_482 (gT_c mw_481 (gT_c mw_480 (gT_c mw_479 (gT_c mw_478 (gT_c mw_477 (gT_c mw_476 (gT_c mw_475 (gT_c mw_474 (gT_c mw_473 (gT_c mw_472 (gT_c mw_471 (gT_c mw_470 (gT_c mw_469 (gT_c mw_468 (gT_c mw_467 gT_n)))))))))))))))))))))))
set_option maxRecDepth 20000 in
theorem gT_wsL_load_r9 : GoodIn lw_tbl wsL_load_r9 := gT_c mw_504 (gT_c mw_503 (gT_c mw_502 (gT_c mw_501 (gT_c mw_500 (gT_c mw_499 (gT_c mw_498 (gT_c mw_497 (gT_c mw_55 (gT_c mw_496 (gT_c mw_495 (gT_c mw_494 (gT_c mw_493 (gT_c mw_492 (gT_c mw_491 (gT_c mw_490 (gT_c mw_489 (gT_c mw_75 gT_n)))))))))))))))))
set_option maxRecDepth 20000 in
theorem gT_wsL_load : GoodIn lw_tbl wsL_load := gT_c mw_404 (goodIn_app (goodIn_app (goodIn_app (goodIn_app (goodIn_app (goodIn_app (goodIn_app (goodIn_app (goodIn_app (goodIn_app (gT_wsL_load_r1) (goodIn_app (gT_wsL_load_r2) (goodIn_app (gT_wsL_load_r3) (goodIn_app (gT_wsL_load_r4) (goodIn_app (gT_wsL_load_r5) (goodIn_app (gT_wsL_load_r6) (goodIn_app (gT_wsL_load_r7) (goodIn_app (gT_wsL_load_r8) (gT_wsL_load_r9))))))))) (gT_wsX90)) (gT_wsX70)) (gT_wsX60)) (gT_wsX30)) (gT_wsX00)) (gT_wsX40)) (gT_wsX50)) (gT_wsX20)) (gT_at381))
set_option maxRecDepth 20000 in
theorem gT_wsX10_load_r1 : GoodIn lw_tbl wsX10_load_r1 := gT_c mw_176 (gT_c mw_178 (gT_c mw_506 (gT_c mw_173 (gT_c mw_321 (gT_c mw_327 (gT_c mw_326 (gT_c mw_325 (gT_c mw_168 (gT_c mw_324 (gT_c mw_323 (gT_c mw_322 (gT_c mw_231 (gT_c mw_170 (gT_c mw_169 (gT_c mw_167 (gT_c mw_320 (gT_c mw_319 (gT_c mw_318 (gT_c mw_317 (gT_c mw_316 (gT_c mw_315 (gT_c mw_314 (gT_c mw_313 gT_n)))))))))))))))))))))))
set_option maxRecDepth 20000 in
theorem gT_wsX10_load_r2 : GoodIn lw_tbl wsX10_load_r2 := gT_c mw_172 (gT_c mw_312 (gT_c mw_348 (gT_c mw_347 (gT_c mw_346 (gT_c mw_345 (gT_c mw_344 (gT_c mw_343 (gT_c mw_342 (gT_c mw_341 (gT_c mw_340 (gT_c mw_339 (gT_c mw_338 (gT_c mw_337 (gT_c mw_336 (gT_c mw_335 (gT_c mw_334 (gT_c mw_230 (gT_c mw_229 (gT_c mw_228 (gT_c mw_333 (gT_c mw_332 (gT_c mw_331 (gT_c mw_330 gT_n)))))))))))))))))))))))
set_option maxRecDepth 20000 in
theorem gT_wsX10_load_r3 : GoodIn lw_tbl wsX10_load_r3 := gT_c mw_329 (gT_c mw_328 (gT_c mw_372 (gT_c mw_371 (gT_c mw_370 (gT_c mw_369 (gT_c mw_368 (gT_c mw_367 (gT_c mw_366 (gT_c mw_365 (gT_c mw_364 (gT_c mw_363 (gT_c mw_362 (gT_c mw_361 (gT_c mw_360 (gT_c mw_359 (gT_c mw_358 (gT_c mw_357 (gT_c mw_356 (gT_c mw_355 (gT_c mw_354 (gT_c mw_353 (gT_c mw_352 (gT_c mw_351 gT_n)))))))))))))))))))))))
set_option maxRecDepth 20000 in
theorem gT_wsX10_load_r4 : GoodIn lw_tbl wsX10_load_r4 := gT_c mw_350 (gT_c mw_349 (gT_c mw_396 (gT_c mw_395 (gT_c mw_394 (gT_c mw_393 (gT_c mw_392 (gT_c mw_391 (gT_c mw_390 (gT_c mw_389 (gT_c mw_388 (gT_c mw_387 (gT_c mw_386 (gT_c mw_385 (gT_c mw_384 (gT_c mw_383 (gT_c mw_382 (gT_c mw_381 (gT_c mw_380 (gT_c mw_379 (gT_c mw_378 (gT_c mw_377 (gT_c mw_376 (gT_c mw_375 gT_n)))))))))))))))))))))))
set_option maxRecDepth 20000 in
theorem gT_wsX10_load_r5 : GoodIn lw_tbl wsX10_load_r5 := gT_c mw_374 (gT_c mw_373 (gT_c mw_403 (gT_c mw_402 (gT_c mw_401 (gT_c mw_400 (gT_c mw_399 (gT_c mw_398 (gT_c mw_397 (gT_c mw_227 (gT_c mw_226 (gT_c mw_225 (gT_c mw_224 (gT_c mw_223 (gT_c mw_509 (gT_c mw_508 (gT_c mw_507 gT_n))))))))))))))))
set_option maxRecDepth 20000 in
theorem gT_wsX10_load : GoodIn lw_tbl wsX10_load := gT_c mw_505 (goodIn_app (goodIn_app (gT_wsX10_load_r1) (goodIn_app (gT_wsX10_load_r2) (goodIn_app (gT_wsX10_load_r3) (goodIn_app (gT_wsX10_load_r4) (gT_wsX10_load_r5))))) (gT_wsX100))
set_option maxRecDepth 20000 in
theorem gT_wsL_about_r1 : GoodIn lw_tbl wsL_about_r1 := gT_c mw_220 (gT_c mw_524 (gT_c mw_523 (gT_c mw_522 (gT_c mw_215 (gT_c mw_521 (gT_c mw_14 (gT_c mw_3 (gT_c mw_520 (gT_c mw_519 (gT_c mw_518 (gT_c mw_517 (gT_c mw_516 (gT_c mw_515 (gT_c mw_514 (gT_c mw_212 (gT_c mw_211 (gT_c mw_210 (gT_c mw_209 (gT_c mw_208 (gT_c mw_513 (gT_c mw_512 (gT_c mw_511 (gT_c mw_15 gT_n)))))))))))))))))))))))
set_option maxRecDepth 20000 in
theorem gT_wsL_about_r2 : GoodIn lw_tbl wsL_about_r2 := gT_c mw_543 (gT_c mw_542 (gT_c mw_541 (gT_c mw_540 (gT_c mw_539 (gT_c mw_538 (gT_c mw_537 (gT_c mw_536 (gT_c mw_535 (gT_c mw_534 (gT_c mw_39 (gT_c mw_533 (gT_c mw_532 (gT_c mw_35 (gT_c mw_531 (gT_c mw_530 (gT_c mw_529 (gT_c mw_59 (gT_c mw_528 (gT_c mw_87 (gT_c mw_85 (gT_c mw_527 (gT_c mw_526 (gT_c mw_525 gT_n)))))))))))))))))))))))
set_option maxRecDepth 20000 in
theorem gT_wsL_about_r3 : GoodIn lw_tbl wsL_about_r3 := gT_c mw_558 (gT_c mw_487 (gT_c mw_486 (gT_c mw_485 (gT_c mw_484 (gT_c mw_84 (gT_c mw_557 (gT_c mw_556 (gT_c mw_555 (gT_c mw_554 (gT_c mw_86 (gT_c mw_553 (gT_c mw_552 (gT_c mw_551 (gT_c mw_550 (gT_c mw_549 (gT_c mw_548 (gT_c mw_63 (gT_c mw_547 (gT_c mw_466 (gT_c mw_92 (gT_c mw_546 (gT_c mw_545 (gT_c mw_544 gT_n)))))))))))))))))))))))
set_option maxRecDepth 20000 in
theorem gT_wsL_about_r4 : GoodIn lw_tbl wsL_about_r4 := gT_c mw_32 (gT_c mw_580 (gT_c mw_579 (gT_c mw_578 (gT_c mw_577 (gT_c mw_576 (gT_c mw_575 (gT_c mw_574 (gT_c mw_573 (gT_c mw_572 (gT_c mw_571 (gT_c mw_570 (gT_c mw_569 (gT_c mw_568 (gT_c mw_567 (gT_c mw_566 (gT_c mw_93 (gT_c mw_565 (gT_c mw_564 (gT_c mw_563 (gT_c mw_562 (gT_c mw_561 (gT_c mw_560 (gT_c mw_559 gT_n)))))))))))))))))))))))
set_option maxRecDepth 20000 in
theorem gT_wsL_about_r5 : GoodIn lw_tbl wsL_about_r5 := gT_c mw_601 (gT_c mw_600 (gT_c mw_599 (gT_c mw_598 (gT_c mw_597 (gT_c mw_36 (gT_c mw_38 (gT_c mw_31 (gT_c mw_596 (gT_c mw_595 (gT_c mw_594 (gT_c mw_593 (gT_c mw_592 (gT_c mw_591 (gT_c mw_590 (gT_c mw_589 (gT_c mw_588 (gT_c mw_587 (gT_c mw_586 (gT_c mw_585 (gT_c mw_584 (gT_c mw_583 (gT_c mw_582 (gT_c mw_581 gT_n)))))))))))))))))))))))
set_option maxRecDepth 20000 in
theorem gT_wsL_about_r6 : GoodIn lw_tbl wsL_about_r6 := gT_c mw_624 (gT_c mw_623 (gT_c mw_622 (gT_c mw_621 (gT_c mw_620 (gT_c mw_619 (gT_c mw_618 (gT_c mw_617 (gT_c mw_616 (gT_c mw_615 (gT_c mw_614 (gT_c mw_613 (gT_c mw_612 (gT_c mw_611 (gT_c mw_610 (gT_c mw_609 (gT_c mw_608 (gT_c mw_607 (gT_c mw_606 (gT_c mw_605 (gT_c mw_604 (gT_c mw_603 (gT_c mw_602 (gT_c mw_55 gT_n)))))))))))))))))))))))
set_option maxRecDepth 20000 in
theorem gT_wsL_about_r7 : GoodIn lw_tbl wsL_about_r7 := gT_c mw_641 (gT_c mw_495 (gT_c mw_640 (gT_c mw_491 (gT_c mw_490 (gT_c mw_489 (gT_c mw_75 (gT_c mw_639 (gT_c mw_638 (gT_c mw_637 (gT_c mw_636 (gT_c mw_635 (gT_c mw_634 (gT_c mw_633 (gT_c mw_632 (gT_c mw_631 (gT_c mw_630 (gT_c mw_629 (gT_c mw_51 (gT_c mw_628 (gT_c mw_110 (gT_c mw_627 (gT_c mw_626 (gT_c mw_625 gT_n)))))))))))))))))))))))
set_option maxRecDepth 20000 in
theorem gT_wsL_about_r8 : GoodIn lw_tbl wsL_about_r8 := gT_c mw_652 (gT_c mw_651 (gT_c mw_650 (gT_c mw_649 (gT_c mw_648 (gT_c mw_647 (gT_c mw_646 (gT_c mw_645 (gT_c mw_644 (gT_c mw_643 (gT_c mw_642 (gT_c mw_109 gT_n)))))))))))
set_option maxRecDepth 20000 in
theorem gT_wsL_about : GoodIn lw_tbl wsL_about := gT_c mw_510 (goodIn_app (goodIn_app (goodIn_app (goodIn_app (goodIn_app (goodIn_app (goodIn_app (goodIn_app (goodIn_app (goodIn_app (gT_wsL_about_r1) (goodIn_app (gT_wsL_about_r2) (goodIn_app (gT_wsL_about_r3) (goodIn_app (gT_wsL_about_r4) (goodIn_app (gT_wsL_about_r5) (goodIn_app (gT_wsL_about_r6) (goodIn_app (gT_wsL_about_r7) (gT_wsL_about_r8)))))))) (gT_wsX90)) (gT_wsX60)) (gT_wsX30)) (gT_wsX00)) (gT_wsX40)) (gT_wsX10)) (gT_wsX80)) (gT_wsX50)) (gT_at376))
set_option maxRecDepth 20000 in
theorem gT_wsX10_about_r1 : GoodIn lw_tbl wsX10_about_r1 := gT_c mw_667 (gT_c mw_178 (gT_c mw_230 (gT_c mw_229 (gT_c mw_168 (gT_c mw_228 (gT_c mw_227 (gT_c mw_226 (gT_c mw_225 (gT_c mw_224 (gT_c mw_223 (gT_c mw_666 (gT_c mw_665 (gT_c mw_664 (gT_c mw_663 (gT_c mw_662 (gT_c mw_661 (gT_c mw_660 (gT_c mw_659 (gT_c mw_658 (gT_c mw_657 (gT_c mw_656 (gT_c mw_655 (gT_c mw_654 gT_n)))))))))))))))))))))))
set_option maxRecDepth 20000 in
theorem gT_wsX10_about_r2 : GoodIn lw_tbl wsX10_about_r2 := gT_c mw_691 (gT_c mw_690 (gT_c mw_689 (gT_c mw_688 (gT_c mw_687 (gT_c mw_686 (gT_c mw_685 (gT_c mw_684 (gT_c mw_683 (gT_c mw_682 (gT_c mw_681 (gT_c mw_680 (gT_c mw_679 (gT_c mw_678 (gT_c mw_677 (gT_c mw_676 (gT_c mw_675 (gT_c mw_674 (gT_c mw_673 (gT_c mw_672 (gT_c mw_671 (gT_c mw_670 (gT_c mw_669 (gT_c mw_668 gT_n)))))))))))))))))))))))
set_option maxRecDepth 20000 in
theorem gT_wsX10_about_r3 : GoodIn lw_tbl wsX10_about_r3 := gT_c mw_715 (gT_c mw_714 (gT_c mw_713 (gT_c mw_712 (gT_c mw_711 (gT_c mw_710 (gT_c mw_709 (gT_c mw_708 (gT_c mw_707 (gT_c mw_706 (gT_c mw_705 (gT_c mw_704 (gT_c mw_703 (gT_c mw_702 (gT_c mw_701 (gT_c mw_700 (gT_c mw_699 (gT_c mw_698 (gT_c mw_697 (gT_c mw_696 (gT_c mw_695 (gT_c mw_694 (gT_c mw_693 (gT_c mw_692 gT_n)))))))))))))))))))))))
set_option maxRecDepth 20000 in
theorem gT_wsX10_about_r4 : GoodIn lw_tbl wsX10_about_r4 := gT_c mw_727 (gT_c mw_726 (gT_c mw_725 (gT_c mw_724 (gT_c mw_723 (gT_c mw_722 (gT_c mw_721 (gT_c mw_720 (gT_c mw_719 (gT_c mw_718 (gT_c mw_717 (gT_c mw_716 gT_n)))))))))))
set_option maxRecDepth 20000 in
theorem gT_wsX10_about : GoodIn lw_tbl wsX10_about := gT_c mw_653 (goodIn_app (goodIn_app (gT_wsX10_about_r1) (goodIn_app (gT_wsX10_about_r2) (goodIn_app (gT_wsX10_about_r3) (gT_wsX10_about_r4)))) (gT_wsX100))
set_option maxRecDepth 20000 in
theorem gT_wsL_ofReign_r1 : GoodIn lw_tbl wsL_ofReign_r1 := gT_c mw_742 (gT_c mw_220 (gT_c mw_741 (gT_c mw_740 (gT_c mw_739 (gT_c mw_215 (gT_c mw_738 (gT_c mw_3 (gT_c mw_520 (gT_c mw_519 (gT_c mw_737 (gT_c mw_736 (gT_c mw_735 (gT_c mw_734 (gT_c mw_733 (gT_c mw_732 (gT_c mw_731 (gT_c mw_212 (gT_c mw_211 (gT_c mw_210 (gT_c mw_209 (gT_c mw_208 (gT_c mw_730 (gT_c mw_729 gT_n)))))))))))))))))))))))
set_option maxRecDepth 20000 in
theorem gT_wsL_ofReign_r2 : GoodIn lw_tbl wsL_ofReign_r2 := gT_c mw_745 (gT_c mw_63 (gT_c mw_744 (gT_c mw_743 (gT_c mw_560 (gT_c mw_559 (gT_c mw_601 (gT_c mw_466 (gT_c mw_93 gT_n))))))))
set_option maxRecDepth 20000 in
theorem gT_wsL_ofReign : GoodIn lw_tbl wsL_ofReign := gT_c mw_728 (goodIn_app (goodIn_app (goodIn_app (goodIn_app (goodIn_app (goodIn_app (gT_wsL_ofReign_r1) (gT_wsL_ofReign_r2)) (gT_wsX90)) (gT_wsX60)) (gT_wsX30)) (gT_at369)) (gT_at376))
set_option maxRecDepth 20000 in
theorem gT_wsX10_ofReign : GoodIn lw_tbl wsX10_ofReign := gT_c mw_746 (goodIn_app (gT_c mw_178 (gT_c mw_750 (gT_c mw_749 (gT_c mw_748 (gT_c mw_168 (gT_c mw_747 (gT_c mw_230 (gT_c mw_229 (gT_c mw_228 (gT_c mw_227 (gT_c mw_226 (gT_c mw_225 (gT_c mw_224 (gT_c mw_223 (gT_c mw_684 (gT_c mw_683 (gT_c mw_682 gT_n))))))))))))))))) (gT_wsX100))
set_option maxRecDepth 20000 in
theorem gT_wsL_ofDie_r1 : GoodIn lw_tbl wsL_ofDie_r1 := gT_c mw_742 (gT_c mw_220 (gT_c mw_760 (gT_c mw_759 (gT_c mw_758 (gT_c mw_215 (gT_c mw_757 (gT_c mw_3 (gT_c mw_518 (gT_c mw_756 (gT_c mw_755 (gT_c mw_754 (gT_c mw_753 (gT_c mw_516 (gT_c mw_14 (gT_c mw_752 (gT_c mw_451 (gT_c mw_450 (gT_c mw_59 (gT_c mw_449 (gT_c mw_448 (gT_c mw_735 (gT_c mw_734 (gT_c mw_733 gT_n)))))))))))))))))))))))
set_option maxRecDepth 20000 in
theorem gT_wsL_ofDie_r2 : GoodIn lw_tbl wsL_ofDie_r2 := gT_c mw_732 (gT_c mw_731 (gT_c mw_212 (gT_c mw_211 (gT_c mw_210 (gT_c mw_209 (gT_c mw_208 (gT_c mw_764 (gT_c mw_763 (gT_c mw_762 (gT_c mw_55 (gT_c mw_761 (gT_c mw_495 (gT_c mw_80 (gT_c mw_513 (gT_c mw_512 (gT_c mw_511 (gT_c mw_15 (gT_c mw_543 (gT_c mw_542 (gT_c mw_541 (gT_c mw_540 (gT_c mw_539 (gT_c mw_538 gT_n)))))))))))))))))))))))
set_option maxRecDepth 20000 in
theorem gT_wsL_ofDie_r3 : GoodIn lw_tbl wsL_ofDie_r3 := gT_c mw_537 (gT_c mw_536 (gT_c mw_535 (gT_c mw_534 (gT_c mw_39 (gT_c mw_533 (gT_c mw_532 (gT_c mw_35 (gT_c mw_531 (gT_c mw_530 (gT_c mw_529 (gT_c mw_528 (gT_c mw_87 (gT_c mw_85 (gT_c mw_527 (gT_c mw_526 (gT_c mw_525 (gT_c mw_558 (gT_c mw_487 (gT_c mw_486 (gT_c mw_485 (gT_c mw_484 (gT_c mw_84 (gT_c mw_557 gT_n)))))))))))))))))))))))
set_option maxRecDepth 20000 in
theorem gT_wsL_ofDie_r4 : GoodIn lw_tbl wsL_ofDie_r4 := gT_c mw_556 (gT_c mw_555 (gT_c mw_554 (gT_c mw_86 (gT_c mw_553 (gT_c mw_552 (gT_c mw_551 (gT_c mw_550 (gT_c mw_549 (gT_c mw_548 (gT_c mw_63 (gT_c mw_547 (gT_c mw_466 (gT_c mw_92 (gT_c mw_546 (gT_c mw_545 (gT_c mw_544 (gT_c mw_32 (gT_c mw_580 (gT_c mw_579 (gT_c mw_578 (gT_c mw_577 (gT_c mw_576 (gT_c mw_575 gT_n)))))))))))))))))))))))
set_option maxRecDepth 20000 in
theorem gT_wsL_ofDie_r5 : GoodIn lw_tbl wsL_ofDie_r5 := gT_c mw_574 (gT_c mw_573 (gT_c mw_572 (gT_c mw_571 (gT_c mw_570 (gT_c mw_569 (gT_c mw_568 (gT_c mw_567 (gT_c mw_566 (gT_c mw_93 (gT_c mw_565 (gT_c mw_564 (gT_c mw_563 (gT_c mw_562 (gT_c mw_561 (gT_c mw_560 (gT_c mw_559 (gT_c mw_601 (gT_c mw_600 (gT_c mw_599 (gT_c mw_598 (gT_c mw_597 (gT_c mw_36 (gT_c mw_38 gT_n)))))))))))))))))))))))
set_option maxRecDepth 20000 in
theorem gT_wsL_ofDie_r6 : GoodIn lw_tbl wsL_ofDie_r6 := gT_c mw_31 (gT_c mw_596 (gT_c mw_595 (gT_c mw_594 (gT_c mw_593 (gT_c mw_592 (gT_c mw_591 (gT_c mw_590 (gT_c mw_589 (gT_c mw_588 (gT_c mw_587 (gT_c mw_586 (gT_c mw_585 (gT_c mw_584 (gT_c mw_583 (gT_c mw_582 (gT_c mw_581 (gT_c mw_624 (gT_c mw_623 (gT_c mw_622 (gT_c mw_621 (gT_c mw_620 (gT_c mw_619 (gT_c mw_618 gT_n)))))))))))))))))))))))
set_option maxRecDepth 20000 in
theorem gT_wsL_ofDie_r7 : GoodIn lw_tbl wsL_ofDie_r7 := gT_c mw_617 (gT_c mw_616 (gT_c mw_615 (gT_c mw_614 (gT_c mw_613 (gT_c mw_768 (gT_c mw_767 (gT_c mw_766 (gT_c mw_765 gT_n))))))))
set_option maxRecDepth 20000 in
theorem gT_wsL_ofDie : GoodIn lw_tbl wsL_ofDie := gT_c mw_751 (goodIn_app (goodIn_app (goodIn_app (goodIn_app (goodIn_app (goodIn_app (goodIn_app (goodIn_app (goodIn_app (goodIn_app (gT_wsL_ofDie_r1) (goodIn_app (gT_wsL_ofDie_r2) (goodIn_app (gT_wsL_ofDie_r3) (goodIn_app (gT_wsL_ofDie_r4) (goodIn_app (gT_wsL_ofDie_r5) (goodIn_app (gT_wsL_ofDie_r6) (gT_wsL_ofDie_r7))))))) (gT_wsX90)) (gT_wsX60)) (gT_wsX00)) (gT_wsX40)) (gT_wsX10)) (gT_wsX30)) (gT_wsX80)) (gT_at369)) (gT_at376))
set_option maxRecDepth 20000 in
theorem gT_wsX10_ofDie_r1 : GoodIn lw_tbl wsX10_ofDie_r1 := gT_c mw_178 (gT_c mw_774 (gT_c mw_349 (gT_c mw_396 (gT_c mw_168 (gT_c mw_395 (gT_c mw_230 (gT_c mw_229 (gT_c mw_228 (gT_c mw_227 (gT_c mw_226 (gT_c mw_225 (gT_c mw_224 (gT_c mw_223 (gT_c mw_773 (gT_c mw_772 (gT_c mw_771 (gT_c mw_770 (gT_c mw_662 (gT_c mw_661 (gT_c mw_660 (gT_c mw_659 (gT_c mw_658 (gT_c mw_657 gT_n)))))))))))))))))))))))
set_option maxRecDepth 20000 in
theorem gT_wsX10_ofDie_r2 : GoodIn lw_tbl wsX10_ofDie_r2 := gT_c mw_656 (gT_c mw_655 (gT_c mw_654 (gT_c mw_691 (gT_c mw_690 (gT_c mw_689 (gT_c mw_688 (gT_c mw_687 (gT_c mw_686 (gT_c mw_685 (gT_c mw_684 (gT_c mw_683 (gT_c mw_682 (gT_c mw_681 (gT_c mw_680 (gT_c mw_679 (gT_c mw_678 (gT_c mw_677 (gT_c mw_676 (gT_c mw_675 (gT_c mw_674 (gT_c mw_673 (gT_c mw_672 (gT_c mw_671 gT_n)))))))))))))))))))))))
set_option maxRecDepth 20000 in
theorem gT_wsX10_ofDie_r3 : GoodIn lw_tbl wsX10_ofDie_r3 := gT_c mw_670 (gT_c mw_669 (gT_c mw_668 (gT_c mw_715 (gT_c mw_714 (gT_c mw_713 (gT_c mw_712 (gT_c mw_711 (gT_c mw_710 (gT_c mw_709 (gT_c mw_708 (gT_c mw_707 (gT_c mw_706 gT_n))))))))))))
set_option maxRecDepth 20000 in
theorem gT_wsX10_ofDie : GoodIn lw_tbl wsX10_ofDie := gT_c mw_769 (goodIn_app (goodIn_app (gT_wsX10_ofDie_r1) (goodIn_app (gT_wsX10_ofDie_r2) (gT_wsX10_ofDie_r3))) (gT_wsX100))
set_option maxRecDepth 20000 in
theorem gT_wsL_crackYear_r1 : GoodIn lw_tbl wsL_crackYear_r1 := gT_c mw_742 (gT_c mw_780 (gT_c mw_779 (gT_c mw_778 (gT_c mw_215 (gT_c mw_777 (gT_c mw_3 (gT_c mw_518 (gT_c mw_753 (gT_c mw_752 (gT_c mw_451 (gT_c mw_450 (gT_c mw_59 (gT_c mw_449 (gT_c mw_448 (gT_c mw_735 (gT_c mw_734 (gT_c mw_733 (gT_c mw_732 (gT_c mw_731 (gT_c mw_776 (gT_c mw_486 (gT_c mw_485 (gT_c mw_484 gT_n)))))))))))))))))))))))
set_option maxRecDepth 20000 in
theorem gT_wsL_crackYear_r2 : GoodIn lw_tbl wsL_crackYear_r2 := gT_c mw_84 gT_n
set_option maxRecDepth 20000 in
theorem gT_wsL_crackYear : GoodIn lw_tbl wsL_crackYear := gT_c mw_775 (goodIn_app (goodIn_app (goodIn_app (goodIn_app (goodIn_app (gT_wsL_crackYear_r1) (gT_wsL_crackYear_r2)) (gT_wsX90)) (gT_wsX60)) (gT_wsX00)) (gT_at369))
set_option maxRecDepth 20000 in
theorem gT_wsX10_crackYear : GoodIn lw_tbl wsX10_crackYear := gT_c mw_781 (goodIn_app (gT_c mw_178 (gT_c mw_349 (gT_c mw_396 (gT_c mw_168 (gT_c mw_395 (gT_c mw_230 (gT_c mw_229 (gT_c mw_228 (gT_c mw_227 (gT_c mw_226 (gT_c mw_225 (gT_c mw_224 (gT_c mw_223 gT_n))))))))))))) (gT_wsX100))
set_option maxRecDepth 20000 in
theorem gT_wsL_ofSeal_r1 : GoodIn lw_tbl wsL_ofSeal_r1 := gT_c mw_742 (gT_c mw_220 (gT_c mw_793 (gT_c mw_792 (gT_c mw_791 (gT_c mw_215 (gT_c mw_790 (gT_c mw_3 (gT_c mw_516 (gT_c mw_789 (gT_c mw_788 (gT_c mw_787 (gT_c mw_786 (gT_c mw_785 (gT_c mw_784 (gT_c mw_514 (gT_c mw_783 (gT_c mw_498 (gT_c mw_497 (gT_c mw_55 (gT_c mw_496 (gT_c mw_495 (gT_c mw_735 (gT_c mw_734 gT_n)))))))))))))))))))))))
set_option maxRecDepth 20000 in
theorem gT_wsL_ofSeal_r2 : GoodIn lw_tbl wsL_ofSeal_r2 := gT_c mw_733 (gT_c mw_732 (gT_c mw_731 (gT_c mw_212 (gT_c mw_211 (gT_c mw_210 (gT_c mw_209 (gT_c mw_208 (gT_c mw_803 (gT_c mw_802 (gT_c mw_801 (gT_c mw_51 (gT_c mw_800 (gT_c mw_799 (gT_c mw_798 (gT_c mw_797 (gT_c mw_796 (gT_c mw_110 (gT_c mw_795 (gT_c mw_644 (gT_c mw_643 (gT_c mw_642 (gT_c mw_109 (gT_c mw_794 gT_n)))))))))))))))))))))))
set_option maxRecDepth 20000 in
theorem gT_wsL_ofSeal_r3 : GoodIn lw_tbl wsL_ofSeal_r3 := gT_c mw_807 (gT_c mw_806 (gT_c mw_805 (gT_c mw_804 gT_n)))
set_option maxRecDepth 20000 in
theorem gT_wsL_ofSeal : GoodIn lw_tbl wsL_ofSeal := gT_c mw_782 (goodIn_app (goodIn_app (goodIn_app (goodIn_app (goodIn_app (goodIn_app (goodIn_app (gT_wsL_ofSeal_r1) (goodIn_app (gT_wsL_ofSeal_r2) (gT_wsL_ofSeal_r3))) (gT_wsX90)) (gT_wsX60)) (gT_wsX40)) (gT_wsX50)) (gT_at369)) (gT_at376))
set_option maxRecDepth 20000 in
theorem gT_wsX10_ofSeal : GoodIn lw_tbl wsX10_ofSeal := gT_c mw_808 (goodIn_app (gT_c mw_178 (gT_c mw_809 (gT_c mw_384 (gT_c mw_383 (gT_c mw_168 (gT_c mw_382 (gT_c mw_230 (gT_c mw_229 (gT_c mw_228 (gT_c mw_227 (gT_c mw_226 (gT_c mw_225 (gT_c mw_224 (gT_c mw_223 (gT_c mw_721 (gT_c mw_720 (gT_c mw_719 (gT_c mw_718 (gT_c mw_717 (gT_c mw_716 gT_n)))))))))))))))))))) (gT_wsX100))
set_option maxRecDepth 20000 in
theorem gT_wsL_dated_r1 : GoodIn lw_tbl wsL_dated_r1 := gT_c mw_742 (gT_c mw_220 (gT_c mw_817 (gT_c mw_816 (gT_c mw_815 (gT_c mw_215 (gT_c mw_814 (gT_c mw_3 (gT_c mw_516 (gT_c mw_14 (gT_c mw_813 (gT_c mw_812 (gT_c mw_520 (gT_c mw_811 (gT_c mw_783 (gT_c mw_498 (gT_c mw_497 (gT_c mw_55 (gT_c mw_496 (gT_c mw_495 (gT_c mw_735 (gT_c mw_734 (gT_c mw_733 (gT_c mw_732 gT_n)))))))))))))))))))))))
set_option maxRecDepth 20000 in
theorem gT_wsL_dated_r2 : GoodIn lw_tbl wsL_dated_r2 := gT_c mw_731 (gT_c mw_212 (gT_c mw_211 (gT_c mw_210 (gT_c mw_209 (gT_c mw_208 (gT_c mw_513 (gT_c mw_512 (gT_c mw_511 (gT_c mw_15 (gT_c mw_543 (gT_c mw_542 (gT_c mw_541 (gT_c mw_540 (gT_c mw_539 (gT_c mw_538 (gT_c mw_537 (gT_c mw_536 (gT_c mw_535 (gT_c mw_534 (gT_c mw_39 (gT_c mw_533 (gT_c mw_532 (gT_c mw_35 gT_n)))))))))))))))))))))))
set_option maxRecDepth 20000 in
theorem gT_wsL_dated_r3 : GoodIn lw_tbl wsL_dated_r3 := gT_c mw_531 (gT_c mw_530 (gT_c mw_529 (gT_c mw_59 (gT_c mw_528 (gT_c mw_87 (gT_c mw_85 (gT_c mw_527 (gT_c mw_526 (gT_c mw_525 (gT_c mw_558 (gT_c mw_487 (gT_c mw_486 (gT_c mw_485 (gT_c mw_484 (gT_c mw_84 (gT_c mw_557 (gT_c mw_556 (gT_c mw_555 (gT_c mw_554 (gT_c mw_86 (gT_c mw_553 (gT_c mw_552 (gT_c mw_551 gT_n)))))))))))))))))))))))
set_option maxRecDepth 20000 in
theorem gT_wsL_dated_r4 : GoodIn lw_tbl wsL_dated_r4 := gT_c mw_550 (gT_c mw_549 (gT_c mw_548 (gT_c mw_63 (gT_c mw_547 (gT_c mw_466 (gT_c mw_92 (gT_c mw_546 (gT_c mw_545 (gT_c mw_544 (gT_c mw_32 (gT_c mw_580 (gT_c mw_579 (gT_c mw_578 (gT_c mw_577 (gT_c mw_576 (gT_c mw_575 (gT_c mw_574 (gT_c mw_573 (gT_c mw_572 (gT_c mw_571 (gT_c mw_570 (gT_c mw_569 (gT_c mw_568 gT_n)))))))))))))))))))))))
set_option maxRecDepth 20000 in
theorem gT_wsL_dated_r5 : GoodIn lw_tbl wsL_dated_r5 := gT_c mw_567 (gT_c mw_566 (gT_c mw_93 (gT_c mw_565 (gT_c mw_564 (gT_c mw_563 (gT_c mw_562 (gT_c mw_561 (gT_c mw_560 (gT_c mw_559 (gT_c mw_601 (gT_c mw_600 (gT_c mw_599 (gT_c mw_598 (gT_c mw_597 (gT_c mw_36 (gT_c mw_38 (gT_c mw_31 (gT_c mw_596 (gT_c mw_595 (gT_c mw_594 (gT_c mw_593 (gT_c mw_592 (gT_c mw_591 gT_n)))))))))))))))))))))))
set_option maxRecDepth 20000 in
theorem gT_wsL_dated_r6 : GoodIn lw_tbl wsL_dated_r6 := gT_c mw_590 (gT_c mw_589 (gT_c mw_588 (gT_c mw_587 (gT_c mw_586 (gT_c mw_585 (gT_c mw_584 (gT_c mw_583 (gT_c mw_582 (gT_c mw_581 (gT_c mw_624 (gT_c mw_623 (gT_c mw_622 (gT_c mw_621 (gT_c mw_620 (gT_c mw_619 (gT_c mw_618 (gT_c mw_617 (gT_c mw_616 (gT_c mw_615 (gT_c mw_614 (gT_c mw_613 (gT_c mw_819 (gT_c mw_818 gT_n)))))))))))))))))))))))
set_option maxRecDepth 20000 in
theorem gT_wsL_dated_r7 : GoodIn lw_tbl wsL_dated_r7 := gT_c mw_825 (gT_c mw_824 (gT_c mw_823 (gT_c mw_822 (gT_c mw_821 (gT_c mw_820 gT_n)))))
set_option maxRecDepth 20000 in
theorem gT_wsL_dated : GoodIn lw_tbl wsL_dated := gT_c mw_810 (goodIn_app (goodIn_app (goodIn_app (goodIn_app (goodIn_app (goodIn_app (goodIn_app (goodIn_app (goodIn_app (goodIn_app (gT_wsL_dated_r1) (goodIn_app (gT_wsL_dated_r2) (goodIn_app (gT_wsL_dated_r3) (goodIn_app (gT_wsL_dated_r4) (goodIn_app (gT_wsL_dated_r5) (goodIn_app (gT_wsL_dated_r6) (gT_wsL_dated_r7))))))) (gT_wsX90)) (gT_wsX60)) (gT_wsX10)) (gT_wsX40)) (gT_wsX00)) (gT_wsX30)) (gT_wsX80)) (gT_at369)) (gT_at376))
set_option maxRecDepth 20000 in
theorem gT_wsX10_dated_r1 : GoodIn lw_tbl wsX10_dated_r1 := gT_c mw_178 (gT_c mw_827 (gT_c mw_384 (gT_c mw_383 (gT_c mw_168 (gT_c mw_382 (gT_c mw_230 (gT_c mw_229 (gT_c mw_228 (gT_c mw_227 (gT_c mw_226 (gT_c mw_225 (gT_c mw_224 (gT_c mw_223 (gT_c mw_662 (gT_c mw_661 (gT_c mw_660 (gT_c mw_659 (gT_c mw_658 (gT_c mw_657 (gT_c mw_656 (gT_c mw_655 (gT_c mw_654 (gT_c mw_691 gT_n)))))))))))))))))))))))
set_option maxRecDepth 20000 in
theorem gT_wsX10_dated_r2 : GoodIn lw_tbl wsX10_dated_r2 := gT_c mw_690 (gT_c mw_689 (gT_c mw_688 (gT_c mw_687 (gT_c mw_686 (gT_c mw_685 (gT_c mw_684 (gT_c mw_683 (gT_c mw_682 (gT_c mw_681 (gT_c mw_680 (gT_c mw_679 (gT_c mw_678 (gT_c mw_677 (gT_c mw_676 (gT_c mw_675 (gT_c mw_674 (gT_c mw_673 (gT_c mw_672 (gT_c mw_671 (gT_c mw_670 (gT_c mw_669 (gT_c mw_668 (gT_c mw_715 gT_n)))))))))))))))))))))))
set_option maxRecDepth 20000 in
theorem gT_wsX10_dated_r3 : GoodIn lw_tbl wsX10_dated_r3 := gT_c mw_714 (gT_c mw_713 (gT_c mw_712 (gT_c mw_711 (gT_c mw_710 (gT_c mw_709 (gT_c mw_708 (gT_c mw_707 (gT_c mw_706 gT_n))))))))
set_option maxRecDepth 20000 in
theorem gT_wsX10_dated : GoodIn lw_tbl wsX10_dated := gT_c mw_826 (goodIn_app (goodIn_app (gT_wsX10_dated_r1) (goodIn_app (gT_wsX10_dated_r2) (gT_wsX10_dated_r3))) (gT_wsX100))
set_option maxRecDepth 20000 in
theorem gT_wsL_isPossible_r1 : GoodIn lw_tbl wsL_isPossible_r1 := gT_c mw_742 (gT_c mw_220 (gT_c mw_833 (gT_c mw_832 (gT_c mw_831 (gT_c mw_215 (gT_c mw_830 (gT_c mw_3 (gT_c mw_516 (gT_c mw_14 (gT_c mw_812 (gT_c mw_520 (gT_c mw_783 (gT_c mw_498 (gT_c mw_497 (gT_c mw_55 (gT_c mw_496 (gT_c mw_495 (gT_c mw_735 (gT_c mw_734 (gT_c mw_733 (gT_c mw_732 (gT_c mw_731 (gT_c mw_829 gT_n)))))))))))))))))))))))
set_option maxRecDepth 20000 in
theorem gT_wsL_isPossible_r2 : GoodIn lw_tbl wsL_isPossible_r2 := gT_c mw_427 (gT_c mw_426 (gT_c mw_212 (gT_c mw_211 (gT_c mw_210 (gT_c mw_209 (gT_c mw_208 (gT_c mw_513 (gT_c mw_512 (gT_c mw_511 (gT_c mw_15 (gT_c mw_543 (gT_c mw_542 (gT_c mw_541 (gT_c mw_540 (gT_c mw_539 (gT_c mw_538 (gT_c mw_537 (gT_c mw_536 (gT_c mw_535 (gT_c mw_534 (gT_c mw_39 (gT_c mw_533 (gT_c mw_532 gT_n)))))))))))))))))))))))
set_option maxRecDepth 20000 in
theorem gT_wsL_isPossible_r3 : GoodIn lw_tbl wsL_isPossible_r3 := gT_c mw_35 (gT_c mw_531 (gT_c mw_530 (gT_c mw_529 (gT_c mw_59 (gT_c mw_528 (gT_c mw_87 (gT_c mw_85 (gT_c mw_527 (gT_c mw_526 (gT_c mw_525 (gT_c mw_558 (gT_c mw_487 (gT_c mw_486 (gT_c mw_485 (gT_c mw_484 (gT_c mw_84 (gT_c mw_557 (gT_c mw_556 (gT_c mw_555 (gT_c mw_554 (gT_c mw_86 (gT_c mw_553 (gT_c mw_552 gT_n)))))))))))))))))))))))
set_option maxRecDepth 20000 in
theorem gT_wsL_isPossible_r4 : GoodIn lw_tbl wsL_isPossible_r4 := gT_c mw_551 (gT_c mw_550 (gT_c mw_549 (gT_c mw_548 (gT_c mw_63 (gT_c mw_547 (gT_c mw_466 (gT_c mw_92 (gT_c mw_546 (gT_c mw_545 (gT_c mw_544 (gT_c mw_32 (gT_c mw_580 (gT_c mw_579 (gT_c mw_578 (gT_c mw_577 (gT_c mw_576 (gT_c mw_575 (gT_c mw_574 (gT_c mw_573 (gT_c mw_572 (gT_c mw_571 (gT_c mw_570 (gT_c mw_569 gT_n)))))))))))))))))))))))
set_option maxRecDepth 20000 in
theorem gT_wsL_isPossible_r5 : GoodIn lw_tbl wsL_isPossible_r5 := gT_c mw_568 (gT_c mw_567 (gT_c mw_566 (gT_c mw_93 (gT_c mw_565 (gT_c mw_564 (gT_c mw_563 (gT_c mw_562 (gT_c mw_561 (gT_c mw_560 (gT_c mw_559 (gT_c mw_601 (gT_c mw_600 (gT_c mw_599 (gT_c mw_598 (gT_c mw_597 (gT_c mw_36 (gT_c mw_38 (gT_c mw_31 (gT_c mw_596 (gT_c mw_595 (gT_c mw_594 (gT_c mw_593 (gT_c mw_592 gT_n)))))))))))))))))))))))
set_option maxRecDepth 20000 in
theorem gT_wsL_isPossible_r6 : GoodIn lw_tbl wsL_isPossible_r6 := gT_c mw_591 (gT_c mw_590 (gT_c mw_589 (gT_c mw_588 (gT_c mw_587 (gT_c mw_586 (gT_c mw_585 (gT_c mw_584 (gT_c mw_583 (gT_c mw_582 (gT_c mw_581 (gT_c mw_624 (gT_c mw_623 (gT_c mw_622 (gT_c mw_621 (gT_c mw_620 (gT_c mw_619 (gT_c mw_618 (gT_c mw_617 (gT_c mw_616 (gT_c mw_615 (gT_c mw_614 (gT_c mw_613 (gT_c mw_834 gT_n)))))))))))))))))))))))
set_option maxRecDepth 20000 in
theorem gT_wsL_isPossible_r7 : GoodIn lw_tbl wsL_isPossible_r7 := gT_c mw_841 (gT_c mw_840 (gT_c mw_839 (gT_c mw_838 (gT_c mw_837 (gT_c mw_836 (gT_c mw_835 gT_n))))))
set_option maxRecDepth 20000 in
theorem gT_wsL_isPossible : GoodIn lw_tbl wsL_isPossible := gT_c mw_828 (goodIn_app (goodIn_app (goodIn_app (goodIn_app (goodIn_app (goodIn_app (goodIn_app (goodIn_app (goodIn_app (goodIn_app (gT_wsL_isPossible_r1) (goodIn_app (gT_wsL_isPossible_r2) (goodIn_app (gT_wsL_isPossible_r3) (goodIn_app (gT_wsL_isPossible_r4) (goodIn_app (gT_wsL_isPossible_r5) (goodIn_app (gT_wsL_isPossible_r6) (gT_wsL_isPossible_r7))))))) (gT_wsX90)) (gT_wsX60)) (gT_wsX10)) (gT_wsX40)) (gT_wsX00)) (gT_wsX30)) (gT_wsX80)) (gT_at369)) (gT_at376))
set_option maxRecDepth 20000 in
theorem gT_wsX10_isPossible_r1 : GoodIn lw_tbl wsX10_isPossible_r1 := gT_c mw_178 (gT_c mw_384 (gT_c mw_383 (gT_c mw_168 (gT_c mw_382 (gT_c mw_230 (gT_c mw_229 (gT_c mw_228 (gT_c mw_851 (gT_c mw_850 (gT_c mw_849 (gT_c mw_848 (gT_c mw_847 (gT_c mw_227 (gT_c mw_226 (gT_c mw_225 (gT_c mw_224 (gT_c mw_223 (gT_c mw_846 (gT_c mw_845 (gT_c mw_844 (gT_c mw_843 (gT_c mw_678 (gT_c mw_677 gT_n)))))))))))))))))))))))
set_option maxRecDepth 20000 in
theorem gT_wsX10_isPossible_r2 : GoodIn lw_tbl wsX10_isPossible_r2 := gT_c mw_676 (gT_c mw_675 (gT_c mw_674 (gT_c mw_673 (gT_c mw_672 (gT_c mw_671 (gT_c mw_670 (gT_c mw_690 (gT_c mw_689 (gT_c mw_688 (gT_c mw_687 (gT_c mw_686 (gT_c mw_685 (gT_c mw_684 (gT_c mw_683 (gT_c mw_682 gT_n)))))))))))))))
set_option maxRecDepth 20000 in
theorem gT_wsX10_isPossible : GoodIn lw_tbl wsX10_isPossible := gT_c mw_842 (goodIn_app (goodIn_app (gT_wsX10_isPossible_r1) (gT_wsX10_isPossible_r2)) (gT_wsX100))
set_option maxRecDepth 20000 in
theorem gT_wsL_charter_r1 : GoodIn lw_tbl wsL_charter_r1 := gT_c mw_742 (gT_c mw_220 (gT_c mw_858 (gT_c mw_857 (gT_c mw_856 (gT_c mw_215 (gT_c mw_855 (gT_c mw_14 (gT_c mw_3 (gT_c mw_516 (gT_c mw_854 (gT_c mw_520 (gT_c mw_853 (gT_c mw_494 (gT_c mw_493 (gT_c mw_735 (gT_c mw_734 (gT_c mw_733 (gT_c mw_732 (gT_c mw_731 (gT_c mw_212 (gT_c mw_211 (gT_c mw_210 (gT_c mw_209 gT_n)))))))))))))))))))))))
set_option maxRecDepth 20000 in
theorem gT_wsL_charter_r2 : GoodIn lw_tbl wsL_charter_r2 := gT_c mw_208 (gT_c mw_513 (gT_c mw_512 (gT_c mw_511 (gT_c mw_15 (gT_c mw_543 (gT_c mw_542 (gT_c mw_541 (gT_c mw_540 (gT_c mw_539 (gT_c mw_538 (gT_c mw_537 (gT_c mw_536 (gT_c mw_535 (gT_c mw_534 (gT_c mw_39 (gT_c mw_533 (gT_c mw_532 (gT_c mw_35 (gT_c mw_531 (gT_c mw_530 (gT_c mw_529 (gT_c mw_59 (gT_c mw_528 gT_n)))))))))))))))))))))))
set_option maxRecDepth 20000 in
theorem gT_wsL_charter_r3 : GoodIn lw_tbl wsL_charter_r3 := gT_c mw_87 (gT_c mw_85 (gT_c mw_527 (gT_c mw_526 (gT_c mw_525 (gT_c mw_558 (gT_c mw_487 (gT_c mw_486 (gT_c mw_485 (gT_c mw_484 (gT_c mw_84 (gT_c mw_557 (gT_c mw_556 (gT_c mw_555 (gT_c mw_554 (gT_c mw_86 (gT_c mw_553 (gT_c mw_552 (gT_c mw_551 (gT_c mw_550 (gT_c mw_549 (gT_c mw_548 (gT_c mw_63 (gT_c mw_547 gT_n)))))))))))))))))))))))
set_option maxRecDepth 20000 in
theorem gT_wsL_charter_r4 : GoodIn lw_tbl wsL_charter_r4 := gT_c mw_466 (gT_c mw_92 (gT_c mw_546 (gT_c mw_545 (gT_c mw_544 (gT_c mw_32 (gT_c mw_580 (gT_c mw_579 (gT_c mw_578 (gT_c mw_577 (gT_c mw_576 (gT_c mw_575 (gT_c mw_574 (gT_c mw_573 (gT_c mw_572 (gT_c mw_571 (gT_c mw_570 (gT_c mw_569 (gT_c mw_568 (gT_c mw_567 (gT_c mw_566 (gT_c mw_93 (gT_c mw_565 (gT_c mw_564 gT_n)))))))))))))))))))))))
set_option maxRecDepth 20000 in
theorem gT_wsL_charter_r5 : GoodIn lw_tbl wsL_charter_r5 := gT_c mw_563 (gT_c mw_562 (gT_c mw_561 (gT_c mw_560 (gT_c mw_559 (gT_c mw_601 (gT_c mw_600 (gT_c mw_599 (gT_c mw_598 (gT_c mw_597 (gT_c mw_36 (gT_c mw_38 (gT_c mw_31 (gT_c mw_596 (gT_c mw_595 (gT_c mw_594 (gT_c mw_593 (gT_c mw_592 (gT_c mw_591 (gT_c mw_590 (gT_c mw_589 (gT_c mw_588 (gT_c mw_587 (gT_c mw_586 gT_n)))))))))))))))))))))))
set_option maxRecDepth 20000 in
theorem gT_wsL_charter_r6 : GoodIn lw_tbl wsL_charter_r6 := gT_c mw_585 (gT_c mw_584 (gT_c mw_583 (gT_c mw_582 (gT_c mw_581 (gT_c mw_624 (gT_c mw_623 (gT_c mw_622 (gT_c mw_621 (gT_c mw_620 (gT_c mw_619 (gT_c mw_618 (gT_c mw_617 (gT_c mw_616 (gT_c mw_615 (gT_c mw_614 (gT_c mw_613 (gT_c mw_859 (gT_c mw_491 (gT_c mw_490 (gT_c mw_55 (gT_c mw_489 (gT_c mw_495 (gT_c mw_75 gT_n)))))))))))))))))))))))
set_option maxRecDepth 20000 in
theorem gT_wsL_charter_r7 : GoodIn lw_tbl wsL_charter_r7 := gT_c mw_861 (gT_c mw_819 (gT_c mw_818 (gT_c mw_825 (gT_c mw_824 (gT_c mw_823 (gT_c mw_822 (gT_c mw_821 (gT_c mw_820 (gT_c mw_860 (gT_c mw_634 (gT_c mw_633 (gT_c mw_632 gT_n))))))))))))
set_option maxRecDepth 20000 in
theorem gT_wsL_charter : GoodIn lw_tbl wsL_charter := gT_c mw_852 (goodIn_app (goodIn_app (goodIn_app (goodIn_app (goodIn_app (goodIn_app (goodIn_app (goodIn_app (goodIn_app (goodIn_app (gT_wsL_charter_r1) (goodIn_app (gT_wsL_charter_r2) (goodIn_app (gT_wsL_charter_r3) (goodIn_app (gT_wsL_charter_r4) (goodIn_app (gT_wsL_charter_r5) (goodIn_app (gT_wsL_charter_r6) (gT_wsL_charter_r7))))))) (gT_wsX90)) (gT_wsX60)) (gT_wsX10)) (gT_wsX40)) (gT_wsX00)) (gT_wsX30)) (gT_wsX80)) (gT_at369)) (gT_at376))
set_option maxRecDepth 20000 in
theorem gT_wsX10_charter_r1 : GoodIn lw_tbl wsX10_charter_r1 := gT_c mw_866 (gT_c mw_178 (gT_c mw_865 (gT_c mw_864 (gT_c mw_168 (gT_c mw_863 (gT_c mw_774 (gT_c mw_230 (gT_c mw_229 (gT_c mw_228 (gT_c mw_227 (gT_c mw_226 (gT_c mw_225 (gT_c mw_224 (gT_c mw_223 (gT_c mw_378 (gT_c mw_377 (gT_c mw_376 (gT_c mw_701 (gT_c mw_700 (gT_c mw_699 (gT_c mw_698 (gT_c mw_662 (gT_c mw_661 gT_n)))))))))))))))))))))))
set_option maxRecDepth 20000 in
theorem gT_wsX10_charter_r2 : GoodIn lw_tbl wsX10_charter_r2 := gT_c mw_660 (gT_c mw_659 (gT_c mw_658 (gT_c mw_657 (gT_c mw_656 (gT_c mw_655 (gT_c mw_654 (gT_c mw_691 (gT_c mw_690 (gT_c mw_689 (gT_c mw_688 (gT_c mw_687 (gT_c mw_686 (gT_c mw_685 (gT_c mw_684 (gT_c mw_683 (gT_c mw_682 (gT_c mw_681 (gT_c mw_680 (gT_c mw_679 (gT_c mw_678 (gT_c mw_677 (gT_c mw_676 (gT_c mw_675 gT_n)))))))))))))))))))))))
set_option maxRecDepth 20000 in
theorem gT_wsX10_charter_r3 : GoodIn lw_tbl wsX10_charter_r3 := gT_c mw_674 (gT_c mw_673 (gT_c mw_672 (gT_c mw_671 (gT_c mw_670 (gT_c mw_669 (gT_c mw_668 (gT_c mw_715 (gT_c mw_714 (gT_c mw_713 (gT_c mw_712 (gT_c mw_711 (gT_c mw_710 (gT_c mw_709 (gT_c mw_708 (gT_c mw_707 (gT_c mw_706 gT_n))))))))))))))))
set_option maxRecDepth 20000 in
theorem gT_wsX10_charter : GoodIn lw_tbl wsX10_charter := gT_c mw_862 (goodIn_app (goodIn_app (gT_wsX10_charter_r1) (goodIn_app (gT_wsX10_charter_r2) (gT_wsX10_charter_r3))) (gT_wsX100))
set_option maxRecDepth 20000 in
theorem gT_wsL_onShelf_r1 : GoodIn lw_tbl wsL_onShelf_r1 := gT_c mw_742 (gT_c mw_220 (gT_c mw_876 (gT_c mw_875 (gT_c mw_874 (gT_c mw_215 (gT_c mw_873 (gT_c mw_3 (gT_c mw_514 (gT_c mw_872 (gT_c mw_871 (gT_c mw_870 (gT_c mw_869 (gT_c mw_735 (gT_c mw_734 (gT_c mw_733 (gT_c mw_732 (gT_c mw_731 (gT_c mw_212 (gT_c mw_211 (gT_c mw_210 (gT_c mw_209 (gT_c mw_208 (gT_c mw_868 gT_n)))))))))))))))))))))))
set_option maxRecDepth 20000 in
theorem gT_wsL_onShelf_r2 : GoodIn lw_tbl wsL_onShelf_r2 := gT_c mw_644 (gT_c mw_643 (gT_c mw_51 (gT_c mw_642 (gT_c mw_109 gT_n))))
set_option maxRecDepth 20000 in
theorem gT_wsL_onShelf : GoodIn lw_tbl wsL_onShelf := gT_c mw_867 (goodIn_app (goodIn_app (goodIn_app (goodIn_app (goodIn_app (goodIn_app (gT_wsL_onShelf_r1) (gT_wsL_onShelf_r2)) (gT_wsX90)) (gT_wsX60)) (gT_wsX50)) (gT_at369)) (gT_at376))
set_option maxRecDepth 20000 in
theorem gT_wsX10_onShelf : GoodIn lw_tbl wsX10_onShelf := gT_c mw_877 (goodIn_app (gT_c mw_178 (gT_c mw_880 (gT_c mw_879 (gT_c mw_168 (gT_c mw_878 (gT_c mw_774 (gT_c mw_230 (gT_c mw_229 (gT_c mw_228 (gT_c mw_227 (gT_c mw_226 (gT_c mw_225 (gT_c mw_224 (gT_c mw_223 gT_n)))))))))))))) (gT_wsX100))
set_option maxRecDepth 20000 in
theorem gT_wsL_reign_r1 : GoodIn lw_tbl wsL_reign_r1 := gT_c mw_220 (gT_c mw_219 (gT_c mw_894 (gT_c mw_893 (gT_c mw_892 (gT_c mw_215 (gT_c mw_891 (gT_c mw_890 (gT_c mw_889 (gT_c mw_888 (gT_c mw_887 (gT_c mw_2 (gT_c mw_3 (gT_c mw_886 (gT_c mw_885 (gT_c mw_884 (gT_c mw_4 (gT_c mw_883 (gT_c mw_62 (gT_c mw_58 (gT_c mw_54 (gT_c mw_50 (gT_c mw_49 (gT_c mw_882 gT_n)))))))))))))))))))))))
set_option maxRecDepth 20000 in
theorem gT_wsL_reign_r2 : GoodIn lw_tbl wsL_reign_r2 := gT_c mw_907 (gT_c mw_906 (gT_c mw_905 (gT_c mw_904 (gT_c mw_903 (gT_c mw_902 (gT_c mw_63 (gT_c mw_901 (gT_c mw_466 (gT_c mw_93 (gT_c mw_900 (gT_c mw_92 (gT_c mw_899 (gT_c mw_898 (gT_c mw_897 (gT_c mw_59 (gT_c mw_896 (gT_c mw_448 (gT_c mw_88 (gT_c mw_895 (gT_c mw_87 (gT_c mw_86 (gT_c mw_85 (gT_c mw_84 gT_n)))))))))))))))))))))))
set_option maxRecDepth 20000 in
theorem gT_wsL_reign_r3 : GoodIn lw_tbl wsL_reign_r3 := gT_c mw_918 (gT_c mw_917 (gT_c mw_916 (gT_c mw_55 (gT_c mw_915 (gT_c mw_495 (gT_c mw_80 (gT_c mw_914 (gT_c mw_79 (gT_c mw_78 (gT_c mw_77 (gT_c mw_76 (gT_c mw_75 (gT_c mw_913 (gT_c mw_912 (gT_c mw_911 (gT_c mw_51 (gT_c mw_910 (gT_c mw_110 (gT_c mw_909 (gT_c mw_109 (gT_c mw_908 (gT_c mw_432 (gT_c mw_431 gT_n)))))))))))))))))))))))
set_option maxRecDepth 20000 in
theorem gT_wsL_reign_r4 : GoodIn lw_tbl wsL_reign_r4 := gT_c mw_430 (gT_c mw_104 (gT_c mw_429 (gT_c mw_428 (gT_c mw_427 (gT_c mw_426 (gT_c mw_425 (gT_c mw_424 (gT_c mw_423 (gT_c mw_422 (gT_c mw_925 (gT_c mw_924 (gT_c mw_923 (gT_c mw_922 (gT_c mw_10 (gT_c mw_921 (gT_c mw_920 (gT_c mw_919 (gT_c mw_735 (gT_c mw_734 (gT_c mw_733 (gT_c mw_732 (gT_c mw_731 (gT_c mw_212 gT_n)))))))))))))))))))))))
set_option maxRecDepth 20000 in
theorem gT_wsL_reign_r5 : GoodIn lw_tbl wsL_reign_r5 := gT_c mw_211 (gT_c mw_210 (gT_c mw_209 (gT_c mw_208 (gT_c mw_207 (gT_c mw_206 (gT_c mw_205 (gT_c mw_204 (gT_c mw_203 (gT_c mw_930 (gT_c mw_929 (gT_c mw_928 (gT_c mw_11 (gT_c mw_927 (gT_c mw_926 (gT_c mw_417 (gT_c mw_70 gT_n))))))))))))))))
set_option maxRecDepth 20000 in
theorem gT_wsL_reign : GoodIn lw_tbl wsL_reign := gT_c mw_881 (goodIn_app (goodIn_app (goodIn_app (goodIn_app (goodIn_app (goodIn_app (goodIn_app (goodIn_app (goodIn_app (goodIn_app (goodIn_app (gT_wsL_reign_r1) (goodIn_app (gT_wsL_reign_r2) (goodIn_app (gT_wsL_reign_r3) (goodIn_app (gT_wsL_reign_r4) (gT_wsL_reign_r5))))) (gT_wsX90)) (gT_wsX60)) (gT_wsX30)) (gT_wsX00)) (gT_wsX40)) (gT_wsX50)) (gT_wsX20)) (gT_at369)) (gT_at376)) (gT_at381))
set_option maxRecDepth 20000 in
theorem gT_wsX10_reign_r1 : GoodIn lw_tbl wsX10_reign_r1 := gT_c mw_232 (gT_c mw_178 (gT_c mw_851 (gT_c mw_850 (gT_c mw_168 (gT_c mw_849 (gT_c mw_848 (gT_c mw_847 (gT_c mw_230 (gT_c mw_229 (gT_c mw_228 (gT_c mw_329 (gT_c mw_328 (gT_c mw_372 (gT_c mw_227 (gT_c mw_226 (gT_c mw_225 (gT_c mw_224 (gT_c mw_223 (gT_c mw_935 (gT_c mw_934 (gT_c mw_933 (gT_c mw_932 (gT_c mw_506 gT_n)))))))))))))))))))))))
set_option maxRecDepth 20000 in
theorem gT_wsX10_reign_r2 : GoodIn lw_tbl wsX10_reign_r2 := gT_c mw_175 (gT_c mw_367 (gT_c mw_366 (gT_c mw_365 gT_n)))
set_option maxRecDepth 20000 in
theorem gT_wsX10_reign : GoodIn lw_tbl wsX10_reign := gT_c mw_931 (goodIn_app (goodIn_app (gT_wsX10_reign_r1) (gT_wsX10_reign_r2)) (gT_wsX100))
set_option maxRecDepth 20000 in
theorem gT_wsL_die_r1 : GoodIn lw_tbl wsL_die_r1 := gT_c mw_220 (gT_c mw_219 (gT_c mw_940 (gT_c mw_939 (gT_c mw_938 (gT_c mw_215 (gT_c mw_937 (gT_c mw_890 (gT_c mw_889 (gT_c mw_888 (gT_c mw_887 (gT_c mw_2 (gT_c mw_3 (gT_c mw_886 (gT_c mw_885 (gT_c mw_884 (gT_c mw_4 (gT_c mw_883 (gT_c mw_62 (gT_c mw_58 (gT_c mw_54 (gT_c mw_50 (gT_c mw_49 (gT_c mw_882 gT_n)))))))))))))))))))))))
set_option maxRecDepth 20000 in
theorem gT_wsL_die_r2 : GoodIn lw_tbl wsL_die_r2 := gT_c mw_907 (gT_c mw_906 (gT_c mw_905 (gT_c mw_904 (gT_c mw_903 (gT_c mw_902 (gT_c mw_63 (gT_c mw_901 (gT_c mw_466 (gT_c mw_93 (gT_c mw_900 (gT_c mw_92 (gT_c mw_899 (gT_c mw_898 (gT_c mw_897 (gT_c mw_59 (gT_c mw_896 (gT_c mw_448 (gT_c mw_88 (gT_c mw_895 (gT_c mw_87 (gT_c mw_86 (gT_c mw_85 (gT_c mw_84 gT_n)))))))))))))))))))))))
set_option maxRecDepth 20000 in
theorem gT_wsL_die_r3 : GoodIn lw_tbl wsL_die_r3 := gT_c mw_918 (gT_c mw_917 (gT_c mw_916 (gT_c mw_55 (gT_c mw_915 (gT_c mw_495 (gT_c mw_80 (gT_c mw_914 (gT_c mw_79 (gT_c mw_78 (gT_c mw_77 (gT_c mw_76 (gT_c mw_75 (gT_c mw_913 (gT_c mw_912 (gT_c mw_911 (gT_c mw_51 (gT_c mw_910 (gT_c mw_110 (gT_c mw_909 (gT_c mw_109 (gT_c mw_941 (gT_c mw_464 (gT_c mw_463 gT_n)))))))))))))))))))))))
set_option maxRecDepth 20000 in
theorem gT_wsL_die_r4 : GoodIn lw_tbl wsL_die_r4 := gT_c mw_462 (gT_c mw_103 (gT_c mw_461 (gT_c mw_460 (gT_c mw_459 (gT_c mw_458 (gT_c mw_427 (gT_c mw_426 (gT_c mw_925 (gT_c mw_924 (gT_c mw_923 (gT_c mw_922 (gT_c mw_10 (gT_c mw_921 (gT_c mw_920 (gT_c mw_919 (gT_c mw_735 (gT_c mw_734 (gT_c mw_733 (gT_c mw_732 (gT_c mw_731 (gT_c mw_212 (gT_c mw_211 (gT_c mw_210 gT_n)))))))))))))))))))))))
set_option maxRecDepth 20000 in
theorem gT_wsL_die_r5 : GoodIn lw_tbl wsL_die_r5 := gT_c mw_209 (gT_c mw_208 (gT_c mw_207 (gT_c mw_206 (gT_c mw_205 (gT_c mw_204 (gT_c mw_203 (gT_c mw_930 (gT_c mw_929 (gT_c mw_928 (gT_c mw_11 (gT_c mw_927 (gT_c mw_926 (gT_c mw_417 (gT_c mw_70 gT_n))))))))))))))
set_option maxRecDepth 20000 in
theorem gT_wsL_die : GoodIn lw_tbl wsL_die := gT_c mw_936 (goodIn_app (goodIn_app (goodIn_app (goodIn_app (goodIn_app (goodIn_app (goodIn_app (goodIn_app (goodIn_app (goodIn_app (goodIn_app (gT_wsL_die_r1) (goodIn_app (gT_wsL_die_r2) (goodIn_app (gT_wsL_die_r3) (goodIn_app (gT_wsL_die_r4) (gT_wsL_die_r5))))) (gT_wsX90)) (gT_wsX60)) (gT_wsX30)) (gT_wsX00)) (gT_wsX40)) (gT_wsX50)) (gT_wsX20)) (gT_at369)) (gT_at376)) (gT_at381))
set_option maxRecDepth 20000 in
theorem gT_wsX10_die_r1 : GoodIn lw_tbl wsX10_die_r1 := gT_c mw_774 (gT_c mw_178 (gT_c mw_230 (gT_c mw_229 (gT_c mw_168 (gT_c mw_228 (gT_c mw_945 (gT_c mw_944 (gT_c mw_943 (gT_c mw_847 (gT_c mw_851 (gT_c mw_850 (gT_c mw_849 (gT_c mw_848 (gT_c mw_227 (gT_c mw_226 (gT_c mw_225 (gT_c mw_224 (gT_c mw_223 (gT_c mw_935 (gT_c mw_934 (gT_c mw_933 (gT_c mw_932 (gT_c mw_506 gT_n)))))))))))))))))))))))
set_option maxRecDepth 20000 in
theorem gT_wsX10_die_r2 : GoodIn lw_tbl wsX10_die_r2 := gT_c mw_175 (gT_c mw_356 (gT_c mw_355 (gT_c mw_354 gT_n)))
set_option maxRecDepth 20000 in
theorem gT_wsX10_die : GoodIn lw_tbl wsX10_die := gT_c mw_942 (goodIn_app (goodIn_app (gT_wsX10_die_r1) (gT_wsX10_die_r2)) (gT_wsX100))
set_option maxRecDepth 20000 in
theorem gT_wsL_crack_r1 : GoodIn lw_tbl wsL_crack_r1 := gT_c mw_742 (gT_c mw_220 (gT_c mw_219 (gT_c mw_950 (gT_c mw_949 (gT_c mw_948 (gT_c mw_215 (gT_c mw_947 (gT_c mw_890 (gT_c mw_889 (gT_c mw_888 (gT_c mw_887 (gT_c mw_2 (gT_c mw_3 (gT_c mw_886 (gT_c mw_885 (gT_c mw_884 (gT_c mw_4 (gT_c mw_883 (gT_c mw_62 (gT_c mw_58 (gT_c mw_54 (gT_c mw_50 (gT_c mw_49 gT_n)))))))))))))))))))))))
set_option maxRecDepth 20000 in
theorem gT_wsL_crack_r2 : GoodIn lw_tbl wsL_crack_r2 := gT_c mw_882 (gT_c mw_907 (gT_c mw_906 (gT_c mw_905 (gT_c mw_904 (gT_c mw_903 (gT_c mw_902 (gT_c mw_63 (gT_c mw_901 (gT_c mw_466 (gT_c mw_93 (gT_c mw_900 (gT_c mw_92 (gT_c mw_899 (gT_c mw_898 (gT_c mw_897 (gT_c mw_59 (gT_c mw_896 (gT_c mw_448 (gT_c mw_88 (gT_c mw_895 (gT_c mw_87 (gT_c mw_86 (gT_c mw_85 gT_n)))))))))))))))))))))))
set_option maxRecDepth 20000 in
theorem gT_wsL_crack_r3 : GoodIn lw_tbl wsL_crack_r3 := gT_c mw_84 (gT_c mw_918 (gT_c mw_917 (gT_c mw_916 (gT_c mw_55 (gT_c mw_915 (gT_c mw_495 (gT_c mw_80 (gT_c mw_914 (gT_c mw_79 (gT_c mw_78 (gT_c mw_77 (gT_c mw_76 (gT_c mw_75 (gT_c mw_913 (gT_c mw_912 (gT_c mw_911 (gT_c mw_51 (gT_c mw_910 (gT_c mw_110 (gT_c mw_909 (gT_c mw_109 (gT_c mw_951 (gT_c mw_456 gT_n)))))))))))))))))))))))
set_option maxRecDepth 20000 in
theorem gT_wsL_crack_r4 : GoodIn lw_tbl wsL_crack_r4 := gT_c mw_455 (gT_c mw_454 (gT_c mw_458 (gT_c mw_453 (gT_c mw_452 (gT_c mw_451 (gT_c mw_450 (gT_c mw_449 (gT_c mw_427 (gT_c mw_426 (gT_c mw_447 (gT_c mw_446 (gT_c mw_445 (gT_c mw_488 (gT_c mw_487 (gT_c mw_486 (gT_c mw_485 (gT_c mw_484 (gT_c mw_925 (gT_c mw_924 (gT_c mw_923 (gT_c mw_922 (gT_c mw_10 (gT_c mw_921 gT_n)))))))))))))))))))))))
set_option maxRecDepth 20000 in
theorem gT_wsL_crack_r5 : GoodIn lw_tbl wsL_crack_r5 := gT_c mw_920 (gT_c mw_919 (gT_c mw_735 (gT_c mw_734 (gT_c mw_733 (gT_c mw_732 (gT_c mw_731 (gT_c mw_212 (gT_c mw_211 (gT_c mw_210 (gT_c mw_209 (gT_c mw_208 (gT_c mw_207 (gT_c mw_206 (gT_c mw_205 (gT_c mw_204 (gT_c mw_203 (gT_c mw_930 (gT_c mw_929 (gT_c mw_928 (gT_c mw_11 (gT_c mw_927 (gT_c mw_926 (gT_c mw_417 gT_n)))))))))))))))))))))))
set_option maxRecDepth 20000 in
theorem gT_wsL_crack_r6 : GoodIn lw_tbl wsL_crack_r6 := gT_c mw_70 gT_n
set_option maxRecDepth 20000 in
theorem gT_wsL_crack : GoodIn lw_tbl wsL_crack := gT_c mw_946 (goodIn_app (goodIn_app (goodIn_app (goodIn_app (goodIn_app (goodIn_app (goodIn_app (goodIn_app (goodIn_app (goodIn_app (goodIn_app (gT_wsL_crack_r1) (goodIn_app (gT_wsL_crack_r2) (goodIn_app (gT_wsL_crack_r3) (goodIn_app (gT_wsL_crack_r4) (goodIn_app (gT_wsL_crack_r5) (gT_wsL_crack_r6)))))) (gT_wsX90)) (gT_wsX60)) (gT_wsX30)) (gT_wsX00)) (gT_wsX40)) (gT_wsX50)) (gT_wsX20)) (gT_at369)) (gT_at376)) (gT_at381))
set_option maxRecDepth 20000 in
theorem gT_wsX10_crack_r1 : GoodIn lw_tbl wsX10_crack_r1 := gT_c mw_178 (gT_c mw_349 (gT_c mw_396 (gT_c mw_168 (gT_c mw_395 (gT_c mw_230 (gT_c mw_229 (gT_c mw_228 (gT_c mw_851 (gT_c mw_850 (gT_c mw_849 (gT_c mw_848 (gT_c mw_847 (gT_c mw_394 (gT_c mw_393 (gT_c mw_392 (gT_c mw_227 (gT_c mw_226 (gT_c mw_225 (gT_c mw_224 (gT_c mw_223 (gT_c mw_935 (gT_c mw_934 (gT_c mw_933 gT_n)))))))))))))))))))))))
set_option maxRecDepth 20000 in
theorem gT_wsX10_crack_r2 : GoodIn lw_tbl wsX10_crack_r2 := gT_c mw_932 (gT_c mw_506 (gT_c mw_175 (gT_c mw_391 (gT_c mw_390 (gT_c mw_389 gT_n)))))
set_option maxRecDepth 20000 in
theorem gT_wsX10_crack : GoodIn lw_tbl wsX10_crack := gT_c mw_952 (goodIn_app (goodIn_app (gT_wsX10_crack_r1) (gT_wsX10_crack_r2)) (gT_wsX100))
set_option maxRecDepth 20000 in
theorem gT_wsL_seal_r1 : GoodIn lw_tbl wsL_seal_r1 := gT_c mw_742 (gT_c mw_220 (gT_c mw_219 (gT_c mw_957 (gT_c mw_956 (gT_c mw_955 (gT_c mw_215 (gT_c mw_954 (gT_c mw_890 (gT_c mw_889 (gT_c mw_888 (gT_c mw_887 (gT_c mw_2 (gT_c mw_3 (gT_c mw_886 (gT_c mw_885 (gT_c mw_884 (gT_c mw_4 (gT_c mw_883 (gT_c mw_62 (gT_c mw_58 (gT_c mw_54 (gT_c mw_50 (gT_c mw_49 gT_n)))))))))))))))))))))))
set_option maxRecDepth 20000 in
theorem gT_wsL_seal_r2 : GoodIn lw_tbl wsL_seal_r2 := gT_c mw_882 (gT_c mw_907 (gT_c mw_906 (gT_c mw_905 (gT_c mw_904 (gT_c mw_903 (gT_c mw_902 (gT_c mw_63 (gT_c mw_901 (gT_c mw_466 (gT_c mw_93 (gT_c mw_900 (gT_c mw_92 (gT_c mw_899 (gT_c mw_898 (gT_c mw_897 (gT_c mw_59 (gT_c mw_896 (gT_c mw_448 (gT_c mw_88 (gT_c mw_895 (gT_c mw_87 (gT_c mw_86 (gT_c mw_85 gT_n)))))))))))))))))))))))
set_option maxRecDepth 20000 in
theorem gT_wsL_seal_r3 : GoodIn lw_tbl wsL_seal_r3 := gT_c mw_84 (gT_c mw_918 (gT_c mw_917 (gT_c mw_916 (gT_c mw_55 (gT_c mw_915 (gT_c mw_495 (gT_c mw_80 (gT_c mw_914 (gT_c mw_79 (gT_c mw_78 (gT_c mw_77 (gT_c mw_76 (gT_c mw_75 (gT_c mw_913 (gT_c mw_912 (gT_c mw_911 (gT_c mw_51 (gT_c mw_910 (gT_c mw_110 (gT_c mw_909 (gT_c mw_109 (gT_c mw_958 (gT_c mw_482 gT_n)))))))))))))))))))))))
set_option maxRecDepth 20000 in
theorem gT_wsL_seal_r4 : GoodIn lw_tbl wsL_seal_r4 := gT_c mw_481 (gT_c mw_480 (gT_c mw_102 (gT_c mw_479 (gT_c mw_478 (gT_c mw_477 (gT_c mw_476 (gT_c mw_475 (gT_c mw_474 (gT_c mw_452 (gT_c mw_451 (gT_c mw_450 (gT_c mw_449 (gT_c mw_473 (gT_c mw_472 (gT_c mw_471 (gT_c mw_470 (gT_c mw_469 (gT_c mw_468 (gT_c mw_467 (gT_c mw_504 (gT_c mw_925 (gT_c mw_924 (gT_c mw_923 gT_n)))))))))))))))))))))))
set_option maxRecDepth 20000 in
theorem gT_wsL_seal_r5 : GoodIn lw_tbl wsL_seal_r5 := gT_c mw_922 (gT_c mw_10 (gT_c mw_921 (gT_c mw_920 (gT_c mw_919 (gT_c mw_735 (gT_c mw_734 (gT_c mw_733 (gT_c mw_732 (gT_c mw_731 (gT_c mw_212 (gT_c mw_211 (gT_c mw_210 (gT_c mw_209 (gT_c mw_208 (gT_c mw_207 (gT_c mw_206 (gT_c mw_205 (gT_c mw_204 (gT_c mw_203 (gT_c mw_930 (gT_c mw_929 (gT_c mw_928 (gT_c mw_11 gT_n)))))))))))))))))))))))
set_option maxRecDepth 20000 in
theorem gT_wsL_seal_r6 : GoodIn lw_tbl wsL_seal_r6 := gT_c mw_927 (gT_c mw_926 (gT_c mw_417 (gT_c mw_70 gT_n)))
set_option maxRecDepth 20000 in
theorem gT_wsL_seal : GoodIn lw_tbl wsL_seal := gT_c mw_953 (goodIn_app (goodIn_app (goodIn_app (goodIn_app (goodIn_app (goodIn_app (goodIn_app (goodIn_app (goodIn_app (goodIn_app (goodIn_app (gT_wsL_seal_r1) (goodIn_app (gT_wsL_seal_r2) (goodIn_app (gT_wsL_seal_r3) (goodIn_app (gT_wsL_seal_r4) (goodIn_app (gT_wsL_seal_r5) (gT_wsL_seal_r6)))))) (gT_wsX90)) (gT_wsX60)) (gT_wsX30)) (gT_wsX00)) (gT_wsX40)) (gT_wsX50)) (gT_wsX20)) (gT_at369)) (gT_at376)) (gT_at381))
set_option maxRecDepth 20000 in
theorem gT_wsX10_seal_r1 : GoodIn lw_tbl wsX10_seal_r1 := gT_c mw_178 (gT_c mw_349 (gT_c mw_396 (gT_c mw_168 (gT_c mw_395 (gT_c mw_230 (gT_c mw_229 (gT_c mw_228 (gT_c mw_964 (gT_c mw_963 (gT_c mw_962 (gT_c mw_961 (gT_c mw_809 (gT_c mw_960 (gT_c mw_402 (gT_c mw_401 (gT_c mw_400 (gT_c mw_227 (gT_c mw_226 (gT_c mw_225 (gT_c mw_224 (gT_c mw_223 (gT_c mw_935 (gT_c mw_934 gT_n)))))))))))))))))))))))
set_option maxRecDepth 20000 in
theorem gT_wsX10_seal_r2 : GoodIn lw_tbl wsX10_seal_r2 := gT_c mw_933 (gT_c mw_932 (gT_c mw_506 (gT_c mw_175 (gT_c mw_399 (gT_c mw_398 (gT_c mw_397 gT_n))))))
set_option maxRecDepth 20000 in
theorem gT_wsX10_seal : GoodIn lw_tbl wsX10_seal := gT_c mw_959 (goodIn_app (goodIn_app (gT_wsX10_seal_r1) (gT_wsX10_seal_r2)) (gT_wsX100))
set_option maxRecDepth 20000 in
theorem gT_wsL_show_r1 : GoodIn lw_tbl wsL_show_r1 := gT_c mw_742 (gT_c mw_220 (gT_c mw_969 (gT_c mw_968 (gT_c mw_967 (gT_c mw_215 (gT_c mw_966 (gT_c mw_890 (gT_c mw_889 (gT_c mw_888 (gT_c mw_887 (gT_c mw_2 (gT_c mw_3 (gT_c mw_886 (gT_c mw_885 (gT_c mw_884 (gT_c mw_4 (gT_c mw_883 (gT_c mw_62 (gT_c mw_58 (gT_c mw_54 (gT_c mw_50 (gT_c mw_49 (gT_c mw_882 gT_n)))))))))))))))))))))))
set_option maxRecDepth 20000 in
theorem gT_wsL_show_r2 : GoodIn lw_tbl wsL_show_r2 := gT_c mw_907 (gT_c mw_906 (gT_c mw_905 (gT_c mw_904 (gT_c mw_903 (gT_c mw_902 (gT_c mw_63 (gT_c mw_901 (gT_c mw_466 (gT_c mw_93 (gT_c mw_900 (gT_c mw_92 (gT_c mw_899 (gT_c mw_898 (gT_c mw_897 (gT_c mw_59 (gT_c mw_896 (gT_c mw_448 (gT_c mw_88 (gT_c mw_895 (gT_c mw_87 (gT_c mw_86 (gT_c mw_85 (gT_c mw_84 gT_n)))))))))))))))))))))))
set_option maxRecDepth 20000 in
theorem gT_wsL_show_r3 : GoodIn lw_tbl wsL_show_r3 := gT_c mw_918 (gT_c mw_917 (gT_c mw_916 (gT_c mw_55 (gT_c mw_915 (gT_c mw_495 (gT_c mw_80 (gT_c mw_914 (gT_c mw_79 (gT_c mw_78 (gT_c mw_77 (gT_c mw_76 (gT_c mw_75 (gT_c mw_913 (gT_c mw_912 (gT_c mw_911 (gT_c mw_51 (gT_c mw_910 (gT_c mw_110 (gT_c mw_909 (gT_c mw_109 (gT_c mw_972 (gT_c mw_971 (gT_c mw_970 gT_n)))))))))))))))))))))))
set_option maxRecDepth 20000 in
theorem gT_wsL_show_r4 : GoodIn lw_tbl wsL_show_r4 := gT_c mw_973 (gT_c mw_479 (gT_c mw_475 (gT_c mw_499 (gT_c mw_498 (gT_c mw_497 (gT_c mw_496 (gT_c mw_469 (gT_c mw_468 (gT_c mw_467 (gT_c mw_504 (gT_c mw_925 (gT_c mw_924 (gT_c mw_923 (gT_c mw_922 (gT_c mw_10 (gT_c mw_921 (gT_c mw_920 (gT_c mw_919 (gT_c mw_735 (gT_c mw_734 (gT_c mw_733 (gT_c mw_732 (gT_c mw_731 gT_n)))))))))))))))))))))))
set_option maxRecDepth 20000 in
theorem gT_wsL_show_r5 : GoodIn lw_tbl wsL_show_r5 := gT_c mw_212 (gT_c mw_211 (gT_c mw_210 (gT_c mw_209 (gT_c mw_208 (gT_c mw_207 (gT_c mw_206 (gT_c mw_205 (gT_c mw_204 (gT_c mw_203 (gT_c mw_930 (gT_c mw_929 (gT_c mw_928 (gT_c mw_11 (gT_c mw_927 (gT_c mw_926 (gT_c mw_417 (gT_c mw_70 gT_n)))))))))))))))))
set_option maxRecDepth 20000 in
theorem gT_wsL_show : GoodIn lw_tbl wsL_show := gT_c mw_965 (goodIn_app (goodIn_app (goodIn_app (goodIn_app (goodIn_app (goodIn_app (goodIn_app (goodIn_app (goodIn_app (goodIn_app (goodIn_app (gT_wsL_show_r1) (goodIn_app (gT_wsL_show_r2) (goodIn_app (gT_wsL_show_r3) (goodIn_app (gT_wsL_show_r4) (gT_wsL_show_r5))))) (gT_wsX90)) (gT_wsX60)) (gT_wsX30)) (gT_wsX00)) (gT_wsX40)) (gT_wsX50)) (gT_wsX20)) (gT_at369)) (gT_at376)) (gT_at381))
set_option maxRecDepth 20000 in
theorem gT_wsX10_show_r1 : GoodIn lw_tbl wsX10_show_r1 := gT_c mw_178 (gT_c mw_384 (gT_c mw_383 (gT_c mw_168 (gT_c mw_382 (gT_c mw_230 (gT_c mw_229 (gT_c mw_228 (gT_c mw_402 (gT_c mw_401 (gT_c mw_400 (gT_c mw_227 (gT_c mw_226 (gT_c mw_225 (gT_c mw_224 (gT_c mw_223 (gT_c mw_935 (gT_c mw_934 (gT_c mw_933 (gT_c mw_932 (gT_c mw_506 (gT_c mw_175 (gT_c mw_976 (gT_c mw_975 gT_n)))))))))))))))))))))))
set_option maxRecDepth 20000 in
theorem gT_wsX10_show_r2 : GoodIn lw_tbl wsX10_show_r2 := gT_c mw_977 gT_n
set_option maxRecDepth 20000 in
theorem gT_wsX10_show : GoodIn lw_tbl wsX10_show := gT_c mw_974 (goodIn_app (goodIn_app (gT_wsX10_show_r1) (gT_wsX10_show_r2)) (gT_wsX100))
set_option maxRecDepth 20000 in
theorem gT_wsL_hang_r1 : GoodIn lw_tbl wsL_hang_r1 := gT_c mw_742 (gT_c mw_982 (gT_c mw_981 (gT_c mw_980 (gT_c mw_215 (gT_c mw_979 (gT_c mw_890 (gT_c mw_889 (gT_c mw_888 (gT_c mw_887 (gT_c mw_2 (gT_c mw_3 (gT_c mw_886 (gT_c mw_885 (gT_c mw_884 (gT_c mw_4 (gT_c mw_883 (gT_c mw_62 (gT_c mw_58 (gT_c mw_54 (gT_c mw_50 (gT_c mw_49 (gT_c mw_882 (gT_c mw_907 gT_n)))))))))))))))))))))))
set_option maxRecDepth 20000 in
theorem gT_wsL_hang_r2 : GoodIn lw_tbl wsL_hang_r2 := gT_c mw_906 (gT_c mw_905 (gT_c mw_904 (gT_c mw_903 (gT_c mw_902 (gT_c mw_63 (gT_c mw_901 (gT_c mw_466 (gT_c mw_93 (gT_c mw_900 (gT_c mw_92 (gT_c mw_899 (gT_c mw_898 (gT_c mw_897 (gT_c mw_59 (gT_c mw_896 (gT_c mw_448 (gT_c mw_88 (gT_c mw_895 (gT_c mw_87 (gT_c mw_86 (gT_c mw_85 (gT_c mw_84 (gT_c mw_918 gT_n)))))))))))))))))))))))
set_option maxRecDepth 20000 in
theorem gT_wsL_hang_r3 : GoodIn lw_tbl wsL_hang_r3 := gT_c mw_917 (gT_c mw_916 (gT_c mw_55 (gT_c mw_915 (gT_c mw_495 (gT_c mw_80 (gT_c mw_914 (gT_c mw_79 (gT_c mw_78 (gT_c mw_77 (gT_c mw_76 (gT_c mw_75 (gT_c mw_913 (gT_c mw_912 (gT_c mw_911 (gT_c mw_51 (gT_c mw_910 (gT_c mw_110 (gT_c mw_909 (gT_c mw_109 (gT_c mw_983 (gT_c mw_502 (gT_c mw_501 (gT_c mw_500 gT_n)))))))))))))))))))))))
set_option maxRecDepth 20000 in
theorem gT_wsL_hang_r4 : GoodIn lw_tbl wsL_hang_r4 := gT_c mw_474 (gT_c mw_499 (gT_c mw_498 (gT_c mw_497 (gT_c mw_496 (gT_c mw_494 (gT_c mw_493 (gT_c mw_492 (gT_c mw_491 (gT_c mw_490 (gT_c mw_489 (gT_c mw_925 (gT_c mw_924 (gT_c mw_923 (gT_c mw_922 (gT_c mw_10 (gT_c mw_921 (gT_c mw_920 (gT_c mw_919 (gT_c mw_735 (gT_c mw_734 (gT_c mw_733 (gT_c mw_732 (gT_c mw_731 gT_n)))))))))))))))))))))))
set_option maxRecDepth 20000 in
theorem gT_wsL_hang_r5 : GoodIn lw_tbl wsL_hang_r5 := gT_c mw_212 (gT_c mw_211 (gT_c mw_210 (gT_c mw_209 (gT_c mw_208 (gT_c mw_207 (gT_c mw_206 (gT_c mw_205 (gT_c mw_204 (gT_c mw_203 (gT_c mw_930 (gT_c mw_929 (gT_c mw_928 (gT_c mw_11 (gT_c mw_927 (gT_c mw_926 (gT_c mw_417 (gT_c mw_70 gT_n)))))))))))))))))
set_option maxRecDepth 20000 in
theorem gT_wsL_hang : GoodIn lw_tbl wsL_hang := gT_c mw_978 (goodIn_app (goodIn_app (goodIn_app (goodIn_app (goodIn_app (goodIn_app (goodIn_app (goodIn_app (goodIn_app (goodIn_app (goodIn_app (gT_wsL_hang_r1) (goodIn_app (gT_wsL_hang_r2) (goodIn_app (gT_wsL_hang_r3) (goodIn_app (gT_wsL_hang_r4) (gT_wsL_hang_r5))))) (gT_wsX90)) (gT_wsX60)) (gT_wsX30)) (gT_wsX00)) (gT_wsX40)) (gT_wsX50)) (gT_wsX20)) (gT_at369)) (gT_at376)) (gT_at381))
set_option maxRecDepth 20000 in
theorem gT_wsX10_hang_r1 : GoodIn lw_tbl wsX10_hang_r1 := gT_c mw_178 (gT_c mw_384 (gT_c mw_383 (gT_c mw_168 (gT_c mw_382 (gT_c mw_230 (gT_c mw_229 (gT_c mw_228 (gT_c mw_865 (gT_c mw_864 (gT_c mw_863 (gT_c mw_774 (gT_c mw_227 (gT_c mw_226 (gT_c mw_225 (gT_c mw_224 (gT_c mw_223 (gT_c mw_935 (gT_c mw_934 (gT_c mw_933 (gT_c mw_932 (gT_c mw_506 (gT_c mw_175 (gT_c mw_381 gT_n)))))))))))))))))))))))
set_option maxRecDepth 20000 in
theorem gT_wsX10_hang_r2 : GoodIn lw_tbl wsX10_hang_r2 := gT_c mw_380 (gT_c mw_379 (gT_c mw_378 (gT_c mw_377 (gT_c mw_376 gT_n))))
set_option maxRecDepth 20000 in
theorem gT_wsX10_hang : GoodIn lw_tbl wsX10_hang := gT_c mw_984 (goodIn_app (goodIn_app (gT_wsX10_hang_r1) (gT_wsX10_hang_r2)) (gT_wsX100))
set_option maxRecDepth 20000 in
theorem gT_wsL_cut_r1 : GoodIn lw_tbl wsL_cut_r1 := gT_c mw_742 (gT_c mw_219 (gT_c mw_989 (gT_c mw_988 (gT_c mw_987 (gT_c mw_215 (gT_c mw_986 (gT_c mw_890 (gT_c mw_889 (gT_c mw_888 (gT_c mw_887 (gT_c mw_2 (gT_c mw_3 (gT_c mw_886 (gT_c mw_885 (gT_c mw_884 (gT_c mw_4 (gT_c mw_883 (gT_c mw_62 (gT_c mw_58 (gT_c mw_54 (gT_c mw_50 (gT_c mw_49 (gT_c mw_882 gT_n)))))))))))))))))))))))
set_option maxRecDepth 20000 in
theorem gT_wsL_cut_r2 : GoodIn lw_tbl wsL_cut_r2 := gT_c mw_907 (gT_c mw_906 (gT_c mw_905 (gT_c mw_904 (gT_c mw_903 (gT_c mw_902 (gT_c mw_63 (gT_c mw_901 (gT_c mw_466 (gT_c mw_93 (gT_c mw_900 (gT_c mw_92 (gT_c mw_899 (gT_c mw_898 (gT_c mw_897 (gT_c mw_59 (gT_c mw_896 (gT_c mw_448 (gT_c mw_88 (gT_c mw_895 (gT_c mw_87 (gT_c mw_86 (gT_c mw_85 (gT_c mw_84 gT_n)))))))))))))))))))))))
set_option maxRecDepth 20000 in
theorem gT_wsL_cut_r3 : GoodIn lw_tbl wsL_cut_r3 := gT_c mw_918 (gT_c mw_917 (gT_c mw_916 (gT_c mw_55 (gT_c mw_915 (gT_c mw_495 (gT_c mw_80 (gT_c mw_914 (gT_c mw_79 (gT_c mw_78 (gT_c mw_77 (gT_c mw_76 (gT_c mw_75 (gT_c mw_913 (gT_c mw_912 (gT_c mw_911 (gT_c mw_51 (gT_c mw_910 (gT_c mw_110 (gT_c mw_909 (gT_c mw_109 (gT_c mw_992 (gT_c mw_991 (gT_c mw_990 gT_n)))))))))))))))))))))))
set_option maxRecDepth 20000 in
theorem gT_wsL_cut_r4 : GoodIn lw_tbl wsL_cut_r4 := gT_c mw_993 (gT_c mw_474 (gT_c mw_499 (gT_c mw_498 (gT_c mw_497 (gT_c mw_496 (gT_c mw_925 (gT_c mw_924 (gT_c mw_923 (gT_c mw_922 (gT_c mw_10 (gT_c mw_921 (gT_c mw_920 (gT_c mw_919 (gT_c mw_735 (gT_c mw_734 (gT_c mw_733 (gT_c mw_732 (gT_c mw_731 (gT_c mw_212 (gT_c mw_211 (gT_c mw_210 (gT_c mw_209 (gT_c mw_208 gT_n)))))))))))))))))))))))
set_option maxRecDepth 20000 in
theorem gT_wsL_cut_r5 : GoodIn lw_tbl wsL_cut_r5 := gT_c mw_207 (gT_c mw_206 (gT_c mw_205 (gT_c mw_204 (gT_c mw_203 (gT_c mw_930 (gT_c mw_929 (gT_c mw_928 (gT_c mw_11 (gT_c mw_927 (gT_c mw_926 (gT_c mw_417 (gT_c mw_70 gT_n))))))))))))
set_option maxRecDepth 20000 in
theorem gT_wsL_cut : GoodIn lw_tbl wsL_cut := gT_c mw_985 (goodIn_app (goodIn_app (goodIn_app (goodIn_app (goodIn_app (goodIn_app (goodIn_app (goodIn_app (goodIn_app (goodIn_app (goodIn_app (gT_wsL_cut_r1) (goodIn_app (gT_wsL_cut_r2) (goodIn_app (gT_wsL_cut_r3) (goodIn_app (gT_wsL_cut_r4) (gT_wsL_cut_r5))))) (gT_wsX90)) (gT_wsX60)) (gT_wsX30)) (gT_wsX00)) (gT_wsX40)) (gT_wsX50)) (gT_wsX20)) (gT_at369)) (gT_at376)) (gT_at381))
set_option maxRecDepth 20000 in
theorem gT_wsX10_cut : GoodIn lw_tbl wsX10_cut := gT_c mw_994 (goodIn_app (gT_c mw_178 (gT_c mw_384 (gT_c mw_383 (gT_c mw_168 (gT_c mw_382 (gT_c mw_230 (gT_c mw_229 (gT_c mw_228 (gT_c mw_227 (gT_c mw_226 (gT_c mw_225 (gT_c mw_224 (gT_c mw_223 (gT_c mw_935 (gT_c mw_934 (gT_c mw_933 (gT_c mw_932 (gT_c mw_506 (gT_c mw_175 (gT_c mw_997 (gT_c mw_996 (gT_c mw_995 gT_n)))))))))))))))))))))) (gT_wsX100))
set_option maxRecDepth 20000 in
theorem gT_wsL_shelve_r1 : GoodIn lw_tbl wsL_shelve_r1 := gT_c mw_742 (gT_c mw_220 (gT_c mw_219 (gT_c mw_1002 (gT_c mw_1001 (gT_c mw_1000 (gT_c mw_215 (gT_c mw_999 (gT_c mw_890 (gT_c mw_889 (gT_c mw_888 (gT_c mw_887 (gT_c mw_2 (gT_c mw_3 (gT_c mw_886 (gT_c mw_885 (gT_c mw_884 (gT_c mw_4 (gT_c mw_883 (gT_c mw_62 (gT_c mw_58 (gT_c mw_54 (gT_c mw_50 (gT_c mw_49 gT_n)))))))))))))))))))))))
set_option maxRecDepth 20000 in
theorem gT_wsL_shelve_r2 : GoodIn lw_tbl wsL_shelve_r2 := gT_c mw_882 (gT_c mw_907 (gT_c mw_906 (gT_c mw_905 (gT_c mw_904 (gT_c mw_903 (gT_c mw_902 (gT_c mw_63 (gT_c mw_901 (gT_c mw_466 (gT_c mw_93 (gT_c mw_900 (gT_c mw_92 (gT_c mw_899 (gT_c mw_898 (gT_c mw_897 (gT_c mw_59 (gT_c mw_896 (gT_c mw_448 (gT_c mw_88 (gT_c mw_895 (gT_c mw_87 (gT_c mw_86 (gT_c mw_85 gT_n)))))))))))))))))))))))
set_option maxRecDepth 20000 in
theorem gT_wsL_shelve_r3 : GoodIn lw_tbl wsL_shelve_r3 := gT_c mw_84 (gT_c mw_918 (gT_c mw_917 (gT_c mw_916 (gT_c mw_55 (gT_c mw_915 (gT_c mw_495 (gT_c mw_80 (gT_c mw_914 (gT_c mw_79 (gT_c mw_78 (gT_c mw_77 (gT_c mw_76 (gT_c mw_75 (gT_c mw_913 (gT_c mw_912 (gT_c mw_911 (gT_c mw_51 (gT_c mw_910 (gT_c mw_110 (gT_c mw_909 (gT_c mw_109 (gT_c mw_1004 (gT_c mw_1003 gT_n)))))))))))))))))))))))
set_option maxRecDepth 20000 in
theorem gT_wsL_shelve_r4 : GoodIn lw_tbl wsL_shelve_r4 := gT_c mw_1014 (gT_c mw_1013 (gT_c mw_1012 (gT_c mw_499 (gT_c mw_498 (gT_c mw_497 (gT_c mw_496 (gT_c mw_870 (gT_c mw_869 (gT_c mw_1011 (gT_c mw_1010 (gT_c mw_1009 (gT_c mw_1008 (gT_c mw_799 (gT_c mw_798 (gT_c mw_797 (gT_c mw_796 (gT_c mw_795 (gT_c mw_644 (gT_c mw_643 (gT_c mw_642 (gT_c mw_1007 (gT_c mw_1006 (gT_c mw_1005 gT_n)))))))))))))))))))))))
set_option maxRecDepth 20000 in
theorem gT_wsL_shelve_r5 : GoodIn lw_tbl wsL_shelve_r5 := gT_c mw_1032 (gT_c mw_1031 (gT_c mw_1030 (gT_c mw_1029 (gT_c mw_1028 (gT_c mw_1027 (gT_c mw_461 (gT_c mw_479 (gT_c mw_1026 (gT_c mw_1025 (gT_c mw_1024 (gT_c mw_1023 (gT_c mw_804 (gT_c mw_802 (gT_c mw_801 (gT_c mw_800 (gT_c mw_1022 (gT_c mw_1021 (gT_c mw_1020 (gT_c mw_1019 (gT_c mw_1018 (gT_c mw_1017 (gT_c mw_1016 (gT_c mw_1015 gT_n)))))))))))))))))))))))
set_option maxRecDepth 20000 in
theorem gT_wsL_shelve_r6 : GoodIn lw_tbl wsL_shelve_r6 := gT_c mw_925 (gT_c mw_924 (gT_c mw_923 (gT_c mw_922 (gT_c mw_10 (gT_c mw_921 (gT_c mw_920 (gT_c mw_919 (gT_c mw_735 (gT_c mw_734 (gT_c mw_733 (gT_c mw_732 (gT_c mw_731 (gT_c mw_212 (gT_c mw_211 (gT_c mw_210 (gT_c mw_209 (gT_c mw_208 (gT_c mw_207 (gT_c mw_206 (gT_c mw_205 (gT_c mw_204 (gT_c mw_203 (gT_c mw_930 gT_n)))))))))))))))))))))))
set_option maxRecDepth 20000 in
theorem gT_wsL_shelve_r7 : GoodIn lw_tbl wsL_shelve_r7 := gT_c mw_929 (gT_c mw_928 (gT_c mw_11 (gT_c mw_927 (gT_c mw_926 (gT_c mw_417 (gT_c mw_70 gT_n))))))
set_option maxRecDepth 20000 in
theorem gT_wsL_shelve : GoodIn lw_tbl wsL_shelve := gT_c mw_998 (goodIn_app (goodIn_app (goodIn_app (goodIn_app (goodIn_app (goodIn_app (goodIn_app (goodIn_app (goodIn_app (goodIn_app (goodIn_app (gT_wsL_shelve_r1) (goodIn_app (gT_wsL_shelve_r2) (goodIn_app (gT_wsL_shelve_r3) (goodIn_app (gT_wsL_shelve_r4) (goodIn_app (gT_wsL_shelve_r5) (goodIn_app (gT_wsL_shelve_r6) (gT_wsL_shelve_r7))))))) (gT_wsX90)) (gT_wsX60)) (gT_wsX30)) (gT_wsX00)) (gT_wsX40)) (gT_wsX50)) (gT_wsX20)) (gT_at369)) (gT_at376)) (gT_at381))
set_option maxRecDepth 20000 in
theorem gT_wsX10_shelve_r1 : GoodIn lw_tbl wsX10_shelve_r1 := gT_c mw_178 (gT_c mw_384 (gT_c mw_383 (gT_c mw_168 (gT_c mw_382 (gT_c mw_230 (gT_c mw_229 (gT_c mw_228 (gT_c mw_880 (gT_c mw_879 (gT_c mw_878 (gT_c mw_774 (gT_c mw_1039 (gT_c mw_1038 (gT_c mw_1037 (gT_c mw_721 (gT_c mw_720 (gT_c mw_719 (gT_c mw_718 (gT_c mw_717 (gT_c mw_716 (gT_c mw_1036 (gT_c mw_1035 (gT_c mw_1034 gT_n)))))))))))))))))))))))
set_option maxRecDepth 20000 in
theorem gT_wsX10_shelve_r2 : GoodIn lw_tbl wsX10_shelve_r2 := gT_c mw_227 (gT_c mw_226 (gT_c mw_225 (gT_c mw_224 (gT_c mw_223 (gT_c mw_935 (gT_c mw_934 (gT_c mw_933 (gT_c mw_932 (gT_c mw_506 (gT_c mw_175 (gT_c mw_1045 (gT_c mw_1044 (gT_c mw_1043 (gT_c mw_1042 (gT_c mw_1041 (gT_c mw_1040 gT_n))))))))))))))))
set_option maxRecDepth 20000 in
theorem gT_wsX10_shelve : GoodIn lw_tbl wsX10_shelve := gT_c mw_1033 (goodIn_app (goodIn_app (gT_wsX10_shelve_r1) (gT_wsX10_shelve_r2)) (gT_wsX100))
set_option maxRecDepth 20000 in
theorem gT_wsL_take_r1 : GoodIn lw_tbl wsL_take_r1 := gT_c mw_742 (gT_c mw_219 (gT_c mw_1050 (gT_c mw_1049 (gT_c mw_1048 (gT_c mw_215 (gT_c mw_1047 (gT_c mw_890 (gT_c mw_889 (gT_c mw_888 (gT_c mw_887 (gT_c mw_2 (gT_c mw_3 (gT_c mw_886 (gT_c mw_885 (gT_c mw_884 (gT_c mw_4 (gT_c mw_883 (gT_c mw_62 (gT_c mw_58 (gT_c mw_54 (gT_c mw_50 (gT_c mw_49 (gT_c mw_882 gT_n)))))))))))))))))))))))
set_option maxRecDepth 20000 in
theorem gT_wsL_take_r2 : GoodIn lw_tbl wsL_take_r2 := gT_c mw_907 (gT_c mw_906 (gT_c mw_905 (gT_c mw_904 (gT_c mw_903 (gT_c mw_902 (gT_c mw_63 (gT_c mw_901 (gT_c mw_466 (gT_c mw_93 (gT_c mw_900 (gT_c mw_92 (gT_c mw_899 (gT_c mw_898 (gT_c mw_897 (gT_c mw_59 (gT_c mw_896 (gT_c mw_448 (gT_c mw_88 (gT_c mw_895 (gT_c mw_87 (gT_c mw_86 (gT_c mw_85 (gT_c mw_84 gT_n)))))))))))))))))))))))
set_option maxRecDepth 20000 in
theorem gT_wsL_take_r3 : GoodIn lw_tbl wsL_take_r3 := gT_c mw_918 (gT_c mw_917 (gT_c mw_916 (gT_c mw_55 (gT_c mw_915 (gT_c mw_495 (gT_c mw_80 (gT_c mw_914 (gT_c mw_79 (gT_c mw_78 (gT_c mw_77 (gT_c mw_76 (gT_c mw_75 (gT_c mw_913 (gT_c mw_912 (gT_c mw_911 (gT_c mw_51 (gT_c mw_910 (gT_c mw_110 (gT_c mw_909 (gT_c mw_109 (gT_c mw_1053 (gT_c mw_1052 (gT_c mw_1051 gT_n)))))))))))))))))))))))
set_option maxRecDepth 20000 in
theorem gT_wsL_take_r4 : GoodIn lw_tbl wsL_take_r4 := gT_c mw_1055 (gT_c mw_499 (gT_c mw_498 (gT_c mw_497 (gT_c mw_496 (gT_c mw_1054 (gT_c mw_802 (gT_c mw_801 (gT_c mw_800 (gT_c mw_799 (gT_c mw_798 (gT_c mw_797 (gT_c mw_796 (gT_c mw_795 (gT_c mw_644 (gT_c mw_643 (gT_c mw_642 (gT_c mw_1026 (gT_c mw_1025 (gT_c mw_1024 (gT_c mw_1023 (gT_c mw_804 (gT_c mw_1022 (gT_c mw_1021 gT_n)))))))))))))))))))))))
set_option maxRecDepth 20000 in
theorem gT_wsL_take_r5 : GoodIn lw_tbl wsL_take_r5 := gT_c mw_1020 (gT_c mw_1019 (gT_c mw_925 (gT_c mw_924 (gT_c mw_923 (gT_c mw_922 (gT_c mw_10 (gT_c mw_921 (gT_c mw_920 (gT_c mw_919 (gT_c mw_735 (gT_c mw_734 (gT_c mw_733 (gT_c mw_732 (gT_c mw_731 (gT_c mw_212 (gT_c mw_211 (gT_c mw_210 (gT_c mw_209 (gT_c mw_208 (gT_c mw_207 (gT_c mw_206 (gT_c mw_205 (gT_c mw_204 gT_n)))))))))))))))))))))))
set_option maxRecDepth 20000 in
theorem gT_wsL_take_r6 : GoodIn lw_tbl wsL_take_r6 := gT_c mw_203 (gT_c mw_930 (gT_c mw_929 (gT_c mw_928 (gT_c mw_11 (gT_c mw_927 (gT_c mw_926 (gT_c mw_417 (gT_c mw_70 gT_n))))))))
set_option maxRecDepth 20000 in
theorem gT_wsL_take : GoodIn lw_tbl wsL_take := gT_c mw_1046 (goodIn_app (goodIn_app (goodIn_app (goodIn_app (goodIn_app (goodIn_app (goodIn_app (goodIn_app (goodIn_app (goodIn_app (goodIn_app (gT_wsL_take_r1) (goodIn_app (gT_wsL_take_r2) (goodIn_app (gT_wsL_take_r3) (goodIn_app (gT_wsL_take_r4) (goodIn_app (gT_wsL_take_r5) (gT_wsL_take_r6)))))) (gT_wsX90)) (gT_wsX60)) (gT_wsX30)) (gT_wsX00)) (gT_wsX40)) (gT_wsX50)) (gT_wsX20)) (gT_at369)) (gT_at376)) (gT_at381))
set_option maxRecDepth 20000 in
theorem gT_wsX10_take_r1 : GoodIn lw_tbl wsX10_take_r1 := gT_c mw_178 (gT_c mw_384 (gT_c mw_383 (gT_c mw_168 (gT_c mw_382 (gT_c mw_230 (gT_c mw_229 (gT_c mw_228 (gT_c mw_721 (gT_c mw_720 (gT_c mw_719 (gT_c mw_718 (gT_c mw_717 (gT_c mw_716 (gT_c mw_227 (gT_c mw_226 (gT_c mw_225 (gT_c mw_224 (gT_c mw_223 (gT_c mw_935 (gT_c mw_934 (gT_c mw_933 (gT_c mw_932 (gT_c mw_506 gT_n)))))))))))))))))))))))
set_option maxRecDepth 20000 in
theorem gT_wsX10_take_r2 : GoodIn lw_tbl wsX10_take_r2 := gT_c mw_175 (gT_c mw_1042 (gT_c mw_1041 (gT_c mw_1040 gT_n)))
set_option maxRecDepth 20000 in
theorem gT_wsX10_take : GoodIn lw_tbl wsX10_take := gT_c mw_1056 (goodIn_app (goodIn_app (gT_wsX10_take_r1) (gT_wsX10_take_r2)) (gT_wsX100))
set_option maxRecDepth 20000 in
theorem gT_wsL_sort_r1 : GoodIn lw_tbl wsL_sort_r1 := gT_c mw_742 (gT_c mw_1061 (gT_c mw_1060 (gT_c mw_1059 (gT_c mw_215 (gT_c mw_1058 (gT_c mw_14 (gT_c mw_890 (gT_c mw_889 (gT_c mw_888 (gT_c mw_887 (gT_c mw_2 (gT_c mw_3 (gT_c mw_886 (gT_c mw_885 (gT_c mw_884 (gT_c mw_4 (gT_c mw_883 (gT_c mw_62 (gT_c mw_58 (gT_c mw_54 (gT_c mw_50 (gT_c mw_49 (gT_c mw_882 gT_n)))))))))))))))))))))))
set_option maxRecDepth 20000 in
theorem gT_wsL_sort_r2 : GoodIn lw_tbl wsL_sort_r2 := gT_c mw_907 (gT_c mw_906 (gT_c mw_905 (gT_c mw_904 (gT_c mw_903 (gT_c mw_902 (gT_c mw_63 (gT_c mw_901 (gT_c mw_466 (gT_c mw_93 (gT_c mw_900 (gT_c mw_92 (gT_c mw_899 (gT_c mw_898 (gT_c mw_897 (gT_c mw_59 (gT_c mw_896 (gT_c mw_448 (gT_c mw_88 (gT_c mw_895 (gT_c mw_87 (gT_c mw_86 (gT_c mw_85 (gT_c mw_84 gT_n)))))))))))))))))))))))
set_option maxRecDepth 20000 in
theorem gT_wsL_sort_r3 : GoodIn lw_tbl wsL_sort_r3 := gT_c mw_918 (gT_c mw_917 (gT_c mw_916 (gT_c mw_55 (gT_c mw_915 (gT_c mw_495 (gT_c mw_80 (gT_c mw_914 (gT_c mw_79 (gT_c mw_78 (gT_c mw_77 (gT_c mw_76 (gT_c mw_75 (gT_c mw_913 (gT_c mw_912 (gT_c mw_911 (gT_c mw_51 (gT_c mw_910 (gT_c mw_110 (gT_c mw_909 (gT_c mw_109 (gT_c mw_1064 (gT_c mw_1063 (gT_c mw_1062 gT_n)))))))))))))))))))))))
set_option maxRecDepth 20000 in
theorem gT_wsL_sort_r4 : GoodIn lw_tbl wsL_sort_r4 := gT_c mw_15 (gT_c mw_1068 (gT_c mw_647 (gT_c mw_1067 (gT_c mw_34 (gT_c mw_1066 (gT_c mw_646 (gT_c mw_870 (gT_c mw_869 (gT_c mw_1065 (gT_c mw_512 (gT_c mw_511 (gT_c mw_543 (gT_c mw_542 (gT_c mw_541 (gT_c mw_540 (gT_c mw_539 (gT_c mw_538 (gT_c mw_537 (gT_c mw_536 (gT_c mw_535 (gT_c mw_534 (gT_c mw_39 (gT_c mw_533 gT_n)))))))))))))))))))))))
set_option maxRecDepth 20000 in
theorem gT_wsL_sort_r5 : GoodIn lw_tbl wsL_sort_r5 := gT_c mw_532 (gT_c mw_35 (gT_c mw_531 (gT_c mw_530 (gT_c mw_529 (gT_c mw_528 (gT_c mw_527 (gT_c mw_526 (gT_c mw_525 (gT_c mw_558 (gT_c mw_487 (gT_c mw_486 (gT_c mw_485 (gT_c mw_484 (gT_c mw_557 (gT_c mw_556 (gT_c mw_555 (gT_c mw_554 (gT_c mw_553 (gT_c mw_552 (gT_c mw_551 (gT_c mw_550 (gT_c mw_549 (gT_c mw_548 gT_n)))))))))))))))))))))))
set_option maxRecDepth 20000 in
theorem gT_wsL_sort_r6 : GoodIn lw_tbl wsL_sort_r6 := gT_c mw_547 (gT_c mw_546 (gT_c mw_545 (gT_c mw_544 (gT_c mw_32 (gT_c mw_580 (gT_c mw_579 (gT_c mw_578 (gT_c mw_577 (gT_c mw_576 (gT_c mw_575 (gT_c mw_574 (gT_c mw_573 (gT_c mw_572 (gT_c mw_571 (gT_c mw_570 (gT_c mw_569 (gT_c mw_568 (gT_c mw_567 (gT_c mw_566 (gT_c mw_565 (gT_c mw_564 (gT_c mw_563 (gT_c mw_562 gT_n)))))))))))))))))))))))
set_option maxRecDepth 20000 in
theorem gT_wsL_sort_r7 : GoodIn lw_tbl wsL_sort_r7 := gT_c mw_561 (gT_c mw_560 (gT_c mw_559 (gT_c mw_601 (gT_c mw_600 (gT_c mw_599 (gT_c mw_598 (gT_c mw_597 (gT_c mw_36 (gT_c mw_38 (gT_c mw_31 (gT_c mw_596 (gT_c mw_595 (gT_c mw_594 (gT_c mw_593 (gT_c mw_592 (gT_c mw_591 (gT_c mw_590 (gT_c mw_589 (gT_c mw_588 (gT_c mw_587 (gT_c mw_586 (gT_c mw_585 (gT_c mw_584 gT_n)))))))))))))))))))))))
set_option maxRecDepth 20000 in
theorem gT_wsL_sort_r8 : GoodIn lw_tbl wsL_sort_r8 := gT_c mw_583 (gT_c mw_582 (gT_c mw_581 (gT_c mw_624 (gT_c mw_623 (gT_c mw_622 (gT_c mw_621 (gT_c mw_620 (gT_c mw_619 (gT_c mw_618 (gT_c mw_617 (gT_c mw_616 (gT_c mw_615 (gT_c mw_614 (gT_c mw_613 (gT_c mw_1073 (gT_c mw_1072 (gT_c mw_1071 (gT_c mw_1070 (gT_c mw_645 (gT_c mw_644 (gT_c mw_643 (gT_c mw_642 (gT_c mw_1069 gT_n)))))))))))))))))))))))
set_option maxRecDepth 20000 in
theorem gT_wsL_sort_r9 : GoodIn lw_tbl wsL_sort_r9 := gT_c mw_1077 (gT_c mw_1076 (gT_c mw_1075 (gT_c mw_1074 (gT_c mw_1021 (gT_c mw_1020 (gT_c mw_1019 (gT_c mw_925 (gT_c mw_924 (gT_c mw_923 (gT_c mw_922 (gT_c mw_10 (gT_c mw_921 (gT_c mw_920 (gT_c mw_919 (gT_c mw_735 (gT_c mw_734 (gT_c mw_733 (gT_c mw_732 (gT_c mw_731 (gT_c mw_212 (gT_c mw_211 (gT_c mw_210 (gT_c mw_209 gT_n)))))))))))))))))))))))
set_option maxRecDepth 20000 in
theorem gT_wsL_sort_r10 : GoodIn lw_tbl wsL_sort_r10 := gT_c mw_208 (gT_c mw_207 (gT_c mw_206 (gT_c mw_205 (gT_c mw_204 (gT_c mw_203 (gT_c mw_930 (gT_c mw_929 (gT_c mw_928 (gT_c mw_11 (gT_c mw_927 (gT_c mw_926 (gT_c mw_417 (gT_c mw_70 gT_n)))))))))))))
set_option maxRecDepth 20000 in
theorem gT_wsL_sort : GoodIn lw_tbl wsL_sort := gT_c mw_1057 (goodIn_app (goodIn_app (goodIn_app (goodIn_app (goodIn_app (goodIn_app (goodIn_app (goodIn_app (goodIn_app (goodIn_app (goodIn_app (goodIn_app (goodIn_app (gT_wsL_sort_r1) (goodIn_app (gT_wsL_sort_r2) (goodIn_app (gT_wsL_sort_r3) (goodIn_app (gT_wsL_sort_r4) (goodIn_app (gT_wsL_sort_r5) (goodIn_app (gT_wsL_sort_r6) (goodIn_app (gT_wsL_sort_r7) (goodIn_app (gT_wsL_sort_r8) (goodIn_app (gT_wsL_sort_r9) (gT_wsL_sort_r10)))))))))) (gT_wsX90)) (gT_wsX60)) (gT_wsX30)) (gT_wsX00)) (gT_wsX40)) (gT_wsX50)) (gT_wsX10)) (gT_wsX80)) (gT_wsX20)) (gT_at369)) (gT_at376)) (gT_at381))
set_option maxRecDepth 20000 in
theorem gT_wsX10_sort_r1 : GoodIn lw_tbl wsX10_sort_r1 := gT_c mw_178 (gT_c mw_880 (gT_c mw_879 (gT_c mw_168 (gT_c mw_878 (gT_c mw_774 (gT_c mw_230 (gT_c mw_229 (gT_c mw_228 (gT_c mw_227 (gT_c mw_226 (gT_c mw_225 (gT_c mw_224 (gT_c mw_223 (gT_c mw_935 (gT_c mw_934 (gT_c mw_933 (gT_c mw_932 (gT_c mw_506 (gT_c mw_175 (gT_c mw_1082 (gT_c mw_1081 (gT_c mw_1080 (gT_c mw_1079 gT_n)))))))))))))))))))))))
set_option maxRecDepth 20000 in
theorem gT_wsX10_sort_r2 : GoodIn lw_tbl wsX10_sort_r2 := gT_c mw_171 (gT_c mw_1086 (gT_c mw_1085 (gT_c mw_1084 (gT_c mw_1083 (gT_c mw_662 (gT_c mw_661 (gT_c mw_660 (gT_c mw_659 (gT_c mw_658 (gT_c mw_657 (gT_c mw_656 (gT_c mw_655 (gT_c mw_654 (gT_c mw_691 (gT_c mw_690 (gT_c mw_689 (gT_c mw_688 (gT_c mw_687 (gT_c mw_686 (gT_c mw_685 (gT_c mw_684 (gT_c mw_683 (gT_c mw_682 gT_n)))))))))))))))))))))))
set_option maxRecDepth 20000 in
theorem gT_wsX10_sort_r3 : GoodIn lw_tbl wsX10_sort_r3 := gT_c mw_681 (gT_c mw_680 (gT_c mw_679 (gT_c mw_678 (gT_c mw_677 (gT_c mw_676 (gT_c mw_675 (gT_c mw_674 (gT_c mw_673 (gT_c mw_672 (gT_c mw_671 (gT_c mw_670 (gT_c mw_669 (gT_c mw_668 (gT_c mw_715 (gT_c mw_714 (gT_c mw_713 (gT_c mw_712 (gT_c mw_711 (gT_c mw_710 (gT_c mw_709 (gT_c mw_708 (gT_c mw_707 (gT_c mw_706 gT_n)))))))))))))))))))))))
set_option maxRecDepth 20000 in
theorem gT_wsX10_sort : GoodIn lw_tbl wsX10_sort := gT_c mw_1078 (goodIn_app (goodIn_app (gT_wsX10_sort_r1) (goodIn_app (gT_wsX10_sort_r2) (gT_wsX10_sort_r3))) (gT_wsX100))
set_option maxRecDepth 20000 in
theorem gT_wsL_set_r1 : GoodIn lw_tbl wsL_set_r1 := gT_c mw_220 (gT_c mw_1091 (gT_c mw_1090 (gT_c mw_1089 (gT_c mw_215 (gT_c mw_1088 (gT_c mw_890 (gT_c mw_889 (gT_c mw_888 (gT_c mw_887 (gT_c mw_2 (gT_c mw_3 (gT_c mw_886 (gT_c mw_885 (gT_c mw_884 (gT_c mw_4 (gT_c mw_883 (gT_c mw_62 (gT_c mw_58 (gT_c mw_54 (gT_c mw_50 (gT_c mw_49 (gT_c mw_882 (gT_c mw_907 gT_n)))))))))))))))))))))))
set_option maxRecDepth 20000 in
theorem gT_wsL_set_r2 : GoodIn lw_tbl wsL_set_r2 := gT_c mw_906 (gT_c mw_905 (gT_c mw_904 (gT_c mw_903 (gT_c mw_902 (gT_c mw_63 (gT_c mw_901 (gT_c mw_466 (gT_c mw_93 (gT_c mw_900 (gT_c mw_92 (gT_c mw_899 (gT_c mw_898 (gT_c mw_897 (gT_c mw_59 (gT_c mw_896 (gT_c mw_448 (gT_c mw_88 (gT_c mw_895 (gT_c mw_87 (gT_c mw_86 (gT_c mw_85 (gT_c mw_84 (gT_c mw_918 gT_n)))))))))))))))))))))))
set_option maxRecDepth 20000 in
theorem gT_wsL_set_r3 : GoodIn lw_tbl wsL_set_r3 := gT_c mw_917 (gT_c mw_916 (gT_c mw_55 (gT_c mw_915 (gT_c mw_495 (gT_c mw_80 (gT_c mw_914 (gT_c mw_79 (gT_c mw_78 (gT_c mw_77 (gT_c mw_76 (gT_c mw_75 (gT_c mw_913 (gT_c mw_912 (gT_c mw_911 (gT_c mw_51 (gT_c mw_910 (gT_c mw_110 (gT_c mw_909 (gT_c mw_109 (gT_c mw_1095 (gT_c mw_1094 (gT_c mw_1093 (gT_c mw_1092 gT_n)))))))))))))))))))))))
set_option maxRecDepth 20000 in
theorem gT_wsL_set_r4 : GoodIn lw_tbl wsL_set_r4 := gT_c mw_473 (gT_c mw_472 (gT_c mw_471 (gT_c mw_470 (gT_c mw_925 (gT_c mw_924 (gT_c mw_923 (gT_c mw_922 (gT_c mw_10 (gT_c mw_921 (gT_c mw_920 (gT_c mw_919 (gT_c mw_735 (gT_c mw_734 (gT_c mw_733 (gT_c mw_732 (gT_c mw_731 (gT_c mw_212 (gT_c mw_211 (gT_c mw_210 (gT_c mw_209 (gT_c mw_208 (gT_c mw_207 (gT_c mw_206 gT_n)))))))))))))))))))))))
set_option maxRecDepth 20000 in
theorem gT_wsL_set_r5 : GoodIn lw_tbl wsL_set_r5 := gT_c mw_205 (gT_c mw_204 (gT_c mw_203 (gT_c mw_930 (gT_c mw_929 (gT_c mw_928 (gT_c mw_11 (gT_c mw_927 (gT_c mw_926 (gT_c mw_417 (gT_c mw_70 gT_n))))))))))
set_option maxRecDepth 20000 in
theorem gT_wsL_set : GoodIn lw_tbl wsL_set := gT_c mw_1087 (goodIn_app (goodIn_app (goodIn_app (goodIn_app (goodIn_app (goodIn_app (goodIn_app (goodIn_app (goodIn_app (goodIn_app (goodIn_app (gT_wsL_set_r1) (goodIn_app (gT_wsL_set_r2) (goodIn_app (gT_wsL_set_r3) (goodIn_app (gT_wsL_set_r4) (gT_wsL_set_r5))))) (gT_wsX90)) (gT_wsX60)) (gT_wsX30)) (gT_wsX00)) (gT_wsX40)) (gT_wsX50)) (gT_wsX20)) (gT_at369)) (gT_at376)) (gT_at381))
set_option maxRecDepth 20000 in
theorem gT_wsX10_set : GoodIn lw_tbl wsX10_set := gT_c mw_1096 (goodIn_app (gT_c mw_960 (gT_c mw_178 (gT_c mw_230 (gT_c mw_229 (gT_c mw_168 (gT_c mw_228 (gT_c mw_227 (gT_c mw_226 (gT_c mw_225 (gT_c mw_224 (gT_c mw_223 (gT_c mw_935 (gT_c mw_934 (gT_c mw_933 (gT_c mw_932 (gT_c mw_506 (gT_c mw_175 (gT_c mw_1099 (gT_c mw_1098 (gT_c mw_1097 gT_n)))))))))))))))))))) (gT_wsX100))
set_option maxRecDepth 20000 in
theorem gT_wsL_undo : GoodIn lw_tbl wsL_undo := gT_c mw_1100 (goodIn_app (goodIn_app (goodIn_app (gT_c mw_219 (gT_c mw_1109 (gT_c mw_1108 (gT_c mw_1107 (gT_c mw_215 (gT_c mw_1106 (gT_c mw_10 (gT_c mw_1105 (gT_c mw_3 (gT_c mw_207 (gT_c mw_206 (gT_c mw_205 (gT_c mw_204 (gT_c mw_203 (gT_c mw_1104 (gT_c mw_1103 (gT_c mw_1102 (gT_c mw_11 (gT_c mw_1101 (gT_c mw_417 (gT_c mw_926 (gT_c mw_70 gT_n)))))))))))))))))))))) (gT_wsX90)) (gT_wsX20)) (gT_at381))
set_option maxRecDepth 20000 in
theorem gT_wsX10_undo : GoodIn lw_tbl wsX10_undo := gT_c mw_1110 (goodIn_app (gT_c mw_506 (gT_c mw_178 (gT_c mw_175 (gT_c mw_227 (gT_c mw_226 (gT_c mw_225 (gT_c mw_168 (gT_c mw_224 (gT_c mw_223 gT_n))))))))) (gT_wsX100))
set_option maxRecDepth 20000 in
theorem gT_wsL_older_r1 : GoodIn lw_tbl wsL_older_r1 := gT_c mw_742 (gT_c mw_1115 (gT_c mw_1114 (gT_c mw_1113 (gT_c mw_215 (gT_c mw_1112 (gT_c mw_3 (gT_c mw_516 (gT_c mw_14 (gT_c mw_783 (gT_c mw_498 (gT_c mw_497 (gT_c mw_55 (gT_c mw_496 (gT_c mw_495 (gT_c mw_735 (gT_c mw_734 (gT_c mw_733 (gT_c mw_732 (gT_c mw_731 (gT_c mw_513 (gT_c mw_512 (gT_c mw_511 (gT_c mw_15 gT_n)))))))))))))))))))))))
set_option maxRecDepth 20000 in
theorem gT_wsL_older_r2 : GoodIn lw_tbl wsL_older_r2 := gT_c mw_543 (gT_c mw_542 (gT_c mw_541 (gT_c mw_540 (gT_c mw_539 (gT_c mw_538 (gT_c mw_537 (gT_c mw_536 (gT_c mw_535 (gT_c mw_534 (gT_c mw_39 (gT_c mw_533 (gT_c mw_532 (gT_c mw_35 (gT_c mw_531 (gT_c mw_530 (gT_c mw_529 (gT_c mw_59 (gT_c mw_528 (gT_c mw_87 (gT_c mw_85 (gT_c mw_527 (gT_c mw_526 (gT_c mw_525 gT_n)))))))))))))))))))))))
set_option maxRecDepth 20000 in
theorem gT_wsL_older_r3 : GoodIn lw_tbl wsL_older_r3 := gT_c mw_558 (gT_c mw_487 (gT_c mw_486 (gT_c mw_485 (gT_c mw_484 (gT_c mw_84 (gT_c mw_557 (gT_c mw_556 (gT_c mw_555 (gT_c mw_554 (gT_c mw_86 (gT_c mw_553 (gT_c mw_552 (gT_c mw_551 (gT_c mw_550 (gT_c mw_549 (gT_c mw_548 (gT_c mw_63 (gT_c mw_547 (gT_c mw_466 (gT_c mw_92 (gT_c mw_546 (gT_c mw_545 (gT_c mw_544 gT_n)))))))))))))))))))))))
set_option maxRecDepth 20000 in
theorem gT_wsL_older_r4 : GoodIn lw_tbl wsL_older_r4 := gT_c mw_32 (gT_c mw_580 (gT_c mw_579 (gT_c mw_578 (gT_c mw_577 (gT_c mw_576 (gT_c mw_575 (gT_c mw_574 (gT_c mw_573 (gT_c mw_572 (gT_c mw_571 (gT_c mw_570 (gT_c mw_569 (gT_c mw_568 (gT_c mw_567 (gT_c mw_566 (gT_c mw_93 (gT_c mw_565 (gT_c mw_564 (gT_c mw_563 (gT_c mw_562 (gT_c mw_561 (gT_c mw_560 (gT_c mw_559 gT_n)))))))))))))))))))))))
set_option maxRecDepth 20000 in
theorem gT_wsL_older_r5 : GoodIn lw_tbl wsL_older_r5 := gT_c mw_601 (gT_c mw_600 (gT_c mw_599 (gT_c mw_598 (gT_c mw_597 (gT_c mw_36 (gT_c mw_38 (gT_c mw_31 (gT_c mw_596 (gT_c mw_595 (gT_c mw_594 (gT_c mw_593 (gT_c mw_592 (gT_c mw_591 (gT_c mw_590 (gT_c mw_589 (gT_c mw_588 (gT_c mw_587 (gT_c mw_586 (gT_c mw_585 (gT_c mw_584 (gT_c mw_583 (gT_c mw_582 (gT_c mw_581 gT_n)))))))))))))))))))))))
set_option maxRecDepth 20000 in
theorem gT_wsL_older_r6 : GoodIn lw_tbl wsL_older_r6 := gT_c mw_624 (gT_c mw_623 (gT_c mw_622 (gT_c mw_621 (gT_c mw_620 (gT_c mw_619 (gT_c mw_618 (gT_c mw_617 (gT_c mw_616 (gT_c mw_615 (gT_c mw_614 (gT_c mw_613 (gT_c mw_1120 (gT_c mw_1119 (gT_c mw_1118 (gT_c mw_1117 (gT_c mw_1116 (gT_c mw_818 (gT_c mw_825 (gT_c mw_824 gT_n)))))))))))))))))))
set_option maxRecDepth 20000 in
theorem gT_wsL_older : GoodIn lw_tbl wsL_older := gT_c mw_1111 (goodIn_app (goodIn_app (goodIn_app (goodIn_app (goodIn_app (goodIn_app (goodIn_app (goodIn_app (goodIn_app (gT_wsL_older_r1) (goodIn_app (gT_wsL_older_r2) (goodIn_app (gT_wsL_older_r3) (goodIn_app (gT_wsL_older_r4) (goodIn_app (gT_wsL_older_r5) (gT_wsL_older_r6)))))) (gT_wsX90)) (gT_wsX60)) (gT_wsX40)) (gT_wsX10)) (gT_wsX00)) (gT_wsX30)) (gT_wsX80)) (gT_at369))
set_option maxRecDepth 20000 in
theorem gT_wsX10_older_r1 : GoodIn lw_tbl wsX10_older_r1 := gT_c mw_178 (gT_c mw_384 (gT_c mw_383 (gT_c mw_168 (gT_c mw_382 (gT_c mw_230 (gT_c mw_229 (gT_c mw_228 (gT_c mw_227 (gT_c mw_226 (gT_c mw_225 (gT_c mw_224 (gT_c mw_223 (gT_c mw_681 (gT_c mw_680 (gT_c mw_679 (gT_c mw_678 (gT_c mw_677 (gT_c mw_676 (gT_c mw_675 (gT_c mw_674 (gT_c mw_673 (gT_c mw_672 (gT_c mw_671 gT_n)))))))))))))))))))))))
set_option maxRecDepth 20000 in
theorem gT_wsX10_older_r2 : GoodIn lw_tbl wsX10_older_r2 := gT_c mw_670 (gT_c mw_690 (gT_c mw_689 (gT_c mw_688 (gT_c mw_687 (gT_c mw_686 (gT_c mw_685 (gT_c mw_684 (gT_c mw_683 (gT_c mw_682 gT_n)))))))))
set_option maxRecDepth 20000 in
theorem gT_wsX10_older : GoodIn lw_tbl wsX10_older := gT_c mw_1121 (goodIn_app (goodIn_app (gT_wsX10_older_r1) (gT_wsX10_older_r2)) (gT_wsX100))
set_option maxRecDepth 20000 in
theorem gT_wsL_decides_r1 : GoodIn lw_tbl wsL_decides_r1 := gT_c mw_742 (gT_c mw_1126 (gT_c mw_1125 (gT_c mw_1124 (gT_c mw_215 (gT_c mw_1123 (gT_c mw_14 (gT_c mw_3 (gT_c mw_853 (gT_c mw_494 (gT_c mw_493 (gT_c mw_735 (gT_c mw_734 (gT_c mw_733 (gT_c mw_732 (gT_c mw_731 (gT_c mw_513 (gT_c mw_512 (gT_c mw_511 (gT_c mw_15 (gT_c mw_543 (gT_c mw_542 (gT_c mw_541 (gT_c mw_540 gT_n)))))))))))))))))))))))
set_option maxRecDepth 20000 in
theorem gT_wsL_decides_r2 : GoodIn lw_tbl wsL_decides_r2 := gT_c mw_539 (gT_c mw_538 (gT_c mw_537 (gT_c mw_536 (gT_c mw_535 (gT_c mw_534 (gT_c mw_39 (gT_c mw_533 (gT_c mw_532 (gT_c mw_35 (gT_c mw_531 (gT_c mw_530 (gT_c mw_529 (gT_c mw_59 (gT_c mw_528 (gT_c mw_87 (gT_c mw_85 (gT_c mw_527 (gT_c mw_526 (gT_c mw_525 (gT_c mw_558 (gT_c mw_487 (gT_c mw_486 (gT_c mw_485 gT_n)))))))))))))))))))))))
set_option maxRecDepth 20000 in
theorem gT_wsL_decides_r3 : GoodIn lw_tbl wsL_decides_r3 := gT_c mw_484 (gT_c mw_84 (gT_c mw_557 (gT_c mw_556 (gT_c mw_555 (gT_c mw_554 (gT_c mw_86 (gT_c mw_553 (gT_c mw_552 (gT_c mw_551 (gT_c mw_550 (gT_c mw_549 (gT_c mw_548 (gT_c mw_63 (gT_c mw_547 (gT_c mw_466 (gT_c mw_92 (gT_c mw_546 (gT_c mw_545 (gT_c mw_544 (gT_c mw_32 (gT_c mw_580 (gT_c mw_579 (gT_c mw_578 gT_n)))))))))))))))))))))))
set_option maxRecDepth 20000 in
theorem gT_wsL_decides_r4 : GoodIn lw_tbl wsL_decides_r4 := gT_c mw_577 (gT_c mw_576 (gT_c mw_575 (gT_c mw_574 (gT_c mw_573 (gT_c mw_572 (gT_c mw_571 (gT_c mw_570 (gT_c mw_569 (gT_c mw_568 (gT_c mw_567 (gT_c mw_566 (gT_c mw_93 (gT_c mw_565 (gT_c mw_564 (gT_c mw_563 (gT_c mw_562 (gT_c mw_561 (gT_c mw_560 (gT_c mw_559 (gT_c mw_601 (gT_c mw_600 (gT_c mw_599 (gT_c mw_598 gT_n)))))))))))))))))))))))
set_option maxRecDepth 20000 in
theorem gT_wsL_decides_r5 : GoodIn lw_tbl wsL_decides_r5 := gT_c mw_597 (gT_c mw_36 (gT_c mw_38 (gT_c mw_31 (gT_c mw_596 (gT_c mw_595 (gT_c mw_594 (gT_c mw_593 (gT_c mw_592 (gT_c mw_591 (gT_c mw_590 (gT_c mw_589 (gT_c mw_588 (gT_c mw_587 (gT_c mw_586 (gT_c mw_585 (gT_c mw_584 (gT_c mw_583 (gT_c mw_582 (gT_c mw_581 (gT_c mw_624 (gT_c mw_623 (gT_c mw_622 (gT_c mw_621 gT_n)))))))))))))))))))))))
set_option maxRecDepth 20000 in
theorem gT_wsL_decides_r6 : GoodIn lw_tbl wsL_decides_r6 := gT_c mw_620 (gT_c mw_619 (gT_c mw_618 (gT_c mw_617 (gT_c mw_616 (gT_c mw_615 (gT_c mw_614 (gT_c mw_613 (gT_c mw_1131 (gT_c mw_1130 (gT_c mw_1129 (gT_c mw_1128 (gT_c mw_1127 (gT_c mw_822 (gT_c mw_821 (gT_c mw_820 gT_n)))))))))))))))
set_option maxRecDepth 20000 in
theorem gT_wsL_decides : GoodIn lw_tbl wsL_decides := gT_c mw_1122 (goodIn_app (goodIn_app (goodIn_app (goodIn_app (goodIn_app (goodIn_app (goodIn_app (goodIn_app (goodIn_app (gT_wsL_decides_r1) (goodIn_app (gT_wsL_decides_r2) (goodIn_app (gT_wsL_decides_r3) (goodIn_app (gT_wsL_decides_r4) (goodIn_app (gT_wsL_decides_r5) (gT_wsL_decides_r6)))))) (gT_wsX90)) (gT_wsX60)) (gT_wsX40)) (gT_wsX10)) (gT_wsX00)) (gT_wsX30)) (gT_wsX80)) (gT_at369))
set_option maxRecDepth 20000 in
theorem gT_wsX10_decides_r1 : GoodIn lw_tbl wsX10_decides_r1 := gT_c mw_178 (gT_c mw_865 (gT_c mw_864 (gT_c mw_168 (gT_c mw_863 (gT_c mw_774 (gT_c mw_230 (gT_c mw_229 (gT_c mw_228 (gT_c mw_227 (gT_c mw_226 (gT_c mw_225 (gT_c mw_224 (gT_c mw_223 (gT_c mw_658 (gT_c mw_657 (gT_c mw_656 (gT_c mw_655 (gT_c mw_654 (gT_c mw_691 (gT_c mw_690 (gT_c mw_689 (gT_c mw_688 (gT_c mw_687 gT_n)))))))))))))))))))))))
set_option maxRecDepth 20000 in
theorem gT_wsX10_decides_r2 : GoodIn lw_tbl wsX10_decides_r2 := gT_c mw_686 (gT_c mw_685 (gT_c mw_684 (gT_c mw_683 (gT_c mw_682 (gT_c mw_681 (gT_c mw_680 (gT_c mw_679 (gT_c mw_678 (gT_c mw_677 (gT_c mw_676 (gT_c mw_675 (gT_c mw_674 (gT_c mw_673 (gT_c mw_672 (gT_c mw_671 (gT_c mw_670 (gT_c mw_669 (gT_c mw_668 (gT_c mw_715 (gT_c mw_714 (gT_c mw_713 (gT_c mw_712 (gT_c mw_711 gT_n)))))))))))))))))))))))
set_option maxRecDepth 20000 in
theorem gT_wsX10_decides_r3 : GoodIn lw_tbl wsX10_decides_r3 := gT_c mw_710 (gT_c mw_709 (gT_c mw_708 (gT_c mw_707 (gT_c mw_706 gT_n))))
set_option maxRecDepth 20000 in
theorem gT_wsX10_decides : GoodIn lw_tbl wsX10_decides := gT_c mw_1132 (goodIn_app (goodIn_app (gT_wsX10_decides_r1) (goodIn_app (gT_wsX10_decides_r2) (gT_wsX10_decides_r3))) (gT_wsX100))
set_option maxRecDepth 20000 in
theorem gT_wsL_ifCracked_r1 : GoodIn lw_tbl wsL_ifCracked_r1 := gT_c mw_742 (gT_c mw_220 (gT_c mw_219 (gT_c mw_1137 (gT_c mw_1136 (gT_c mw_1135 (gT_c mw_215 (gT_c mw_1134 (gT_c mw_14 (gT_c mw_2 (gT_c mw_3 (gT_c mw_890 (gT_c mw_889 (gT_c mw_888 (gT_c mw_887 (gT_c mw_886 (gT_c mw_885 (gT_c mw_884 (gT_c mw_4 (gT_c mw_883 (gT_c mw_62 (gT_c mw_58 (gT_c mw_54 (gT_c mw_50 gT_n)))))))))))))))))))))))
set_option maxRecDepth 20000 in
theorem gT_wsL_ifCracked_r2 : GoodIn lw_tbl wsL_ifCracked_r2 := gT_c mw_49 (gT_c mw_882 (gT_c mw_907 (gT_c mw_906 (gT_c mw_905 (gT_c mw_904 (gT_c mw_903 (gT_c mw_902 (gT_c mw_63 (gT_c mw_901 (gT_c mw_466 (gT_c mw_93 (gT_c mw_900 (gT_c mw_92 (gT_c mw_899 (gT_c mw_898 (gT_c mw_897 (gT_c mw_59 (gT_c mw_896 (gT_c mw_448 (gT_c mw_88 (gT_c mw_895 (gT_c mw_87 (gT_c mw_86 gT_n)))))))))))))))))))))))
set_option maxRecDepth 20000 in
theorem gT_wsL_ifCracked_r3 : GoodIn lw_tbl wsL_ifCracked_r3 := gT_c mw_85 (gT_c mw_84 (gT_c mw_918 (gT_c mw_917 (gT_c mw_916 (gT_c mw_55 (gT_c mw_915 (gT_c mw_495 (gT_c mw_80 (gT_c mw_914 (gT_c mw_79 (gT_c mw_78 (gT_c mw_77 (gT_c mw_76 (gT_c mw_75 (gT_c mw_913 (gT_c mw_912 (gT_c mw_911 (gT_c mw_51 (gT_c mw_910 (gT_c mw_110 (gT_c mw_909 (gT_c mw_109 (gT_c mw_951 gT_n)))))))))))))))))))))))
set_option maxRecDepth 20000 in
theorem gT_wsL_ifCracked_r4 : GoodIn lw_tbl wsL_ifCracked_r4 := gT_c mw_456 (gT_c mw_455 (gT_c mw_454 (gT_c mw_458 (gT_c mw_453 (gT_c mw_452 (gT_c mw_451 (gT_c mw_450 (gT_c mw_449 (gT_c mw_427 (gT_c mw_426 (gT_c mw_447 (gT_c mw_446 (gT_c mw_445 (gT_c mw_488 (gT_c mw_487 (gT_c mw_486 (gT_c mw_485 (gT_c mw_484 (gT_c mw_921 (gT_c mw_920 (gT_c mw_919 (gT_c mw_735 (gT_c mw_734 gT_n)))))))))))))))))))))))
set_option maxRecDepth 20000 in
theorem gT_wsL_ifCracked_r5 : GoodIn lw_tbl wsL_ifCracked_r5 := gT_c mw_733 (gT_c mw_732 (gT_c mw_731 (gT_c mw_212 (gT_c mw_211 (gT_c mw_210 (gT_c mw_209 (gT_c mw_208 (gT_c mw_207 (gT_c mw_206 (gT_c mw_205 (gT_c mw_204 (gT_c mw_203 (gT_c mw_1141 (gT_c mw_1140 (gT_c mw_1139 (gT_c mw_15 (gT_c mw_1138 (gT_c mw_1065 (gT_c mw_512 (gT_c mw_511 (gT_c mw_543 (gT_c mw_542 (gT_c mw_541 gT_n)))))))))))))))))))))))
set_option maxRecDepth 20000 in
theorem gT_wsL_ifCracked_r6 : GoodIn lw_tbl wsL_ifCracked_r6 := gT_c mw_540 (gT_c mw_539 (gT_c mw_538 (gT_c mw_537 (gT_c mw_536 (gT_c mw_535 (gT_c mw_534 (gT_c mw_39 (gT_c mw_533 (gT_c mw_532 (gT_c mw_35 (gT_c mw_531 (gT_c mw_530 (gT_c mw_529 (gT_c mw_528 (gT_c mw_527 (gT_c mw_526 (gT_c mw_525 (gT_c mw_558 (gT_c mw_557 (gT_c mw_556 (gT_c mw_555 (gT_c mw_554 (gT_c mw_553 gT_n)))))))))))))))))))))))
set_option maxRecDepth 20000 in
theorem gT_wsL_ifCracked_r7 : GoodIn lw_tbl wsL_ifCracked_r7 := gT_c mw_552 (gT_c mw_551 (gT_c mw_550 (gT_c mw_549 (gT_c mw_548 (gT_c mw_547 (gT_c mw_546 (gT_c mw_545 (gT_c mw_544 (gT_c mw_32 (gT_c mw_580 (gT_c mw_579 (gT_c mw_578 (gT_c mw_577 (gT_c mw_576 (gT_c mw_575 (gT_c mw_574 (gT_c mw_573 (gT_c mw_572 (gT_c mw_571 (gT_c mw_570 (gT_c mw_569 (gT_c mw_568 (gT_c mw_567 gT_n)))))))))))))))))))))))
set_option maxRecDepth 20000 in
theorem gT_wsL_ifCracked_r8 : GoodIn lw_tbl wsL_ifCracked_r8 := gT_c mw_566 (gT_c mw_565 (gT_c mw_564 (gT_c mw_563 (gT_c mw_562 (gT_c mw_561 (gT_c mw_560 (gT_c mw_559 (gT_c mw_601 (gT_c mw_600 (gT_c mw_599 (gT_c mw_598 (gT_c mw_597 (gT_c mw_36 (gT_c mw_38 (gT_c mw_31 (gT_c mw_596 (gT_c mw_595 (gT_c mw_594 (gT_c mw_593 (gT_c mw_592 (gT_c mw_591 (gT_c mw_590 (gT_c mw_589 gT_n)))))))))))))))))))))))
set_option maxRecDepth 20000 in
theorem gT_wsL_ifCracked_r9 : GoodIn lw_tbl wsL_ifCracked_r9 := gT_c mw_588 (gT_c mw_587 (gT_c mw_586 (gT_c mw_585 (gT_c mw_584 (gT_c mw_583 (gT_c mw_582 (gT_c mw_581 (gT_c mw_624 (gT_c mw_623 (gT_c mw_622 (gT_c mw_621 (gT_c mw_620 (gT_c mw_619 (gT_c mw_618 (gT_c mw_617 (gT_c mw_616 (gT_c mw_615 (gT_c mw_614 (gT_c mw_613 (gT_c mw_1142 (gT_c mw_611 (gT_c mw_610 (gT_c mw_609 gT_n)))))))))))))))))))))))
set_option maxRecDepth 20000 in
theorem gT_wsL_ifCracked : GoodIn lw_tbl wsL_ifCracked := gT_c mw_1133 (goodIn_app (goodIn_app (goodIn_app (goodIn_app (goodIn_app (goodIn_app (goodIn_app (goodIn_app (goodIn_app (goodIn_app (goodIn_app (goodIn_app (gT_wsL_ifCracked_r1) (goodIn_app (gT_wsL_ifCracked_r2) (goodIn_app (gT_wsL_ifCracked_r3) (goodIn_app (gT_wsL_ifCracked_r4) (goodIn_app (gT_wsL_ifCracked_r5) (goodIn_app (gT_wsL_ifCracked_r6) (goodIn_app (gT_wsL_ifCracked_r7) (goodIn_app (gT_wsL_ifCracked_r8) (gT_wsL_ifCracked_r9))))))))) (gT_wsX90)) (gT_wsX60)) (gT_wsX30)) (gT_wsX00)) (gT_wsX40)) (gT_wsX50)) (gT_wsX10)) (gT_wsX80)) (gT_at369)) (gT_at376)) (gT_at381))
set_option maxRecDepth 20000 in
theorem gT_wsX10_ifCracked_r1 : GoodIn lw_tbl wsX10_ifCracked_r1 := gT_c mw_178 (gT_c mw_177 (gT_c mw_349 (gT_c mw_396 (gT_c mw_168 (gT_c mw_395 (gT_c mw_230 (gT_c mw_229 (gT_c mw_228 (gT_c mw_851 (gT_c mw_850 (gT_c mw_849 (gT_c mw_848 (gT_c mw_847 (gT_c mw_394 (gT_c mw_393 (gT_c mw_392 (gT_c mw_227 (gT_c mw_226 (gT_c mw_225 (gT_c mw_224 (gT_c mw_223 (gT_c mw_509 (gT_c mw_508 gT_n)))))))))))))))))))))))
set_option maxRecDepth 20000 in
theorem gT_wsX10_ifCracked_r2 : GoodIn lw_tbl wsX10_ifCracked_r2 := gT_c mw_507 (gT_c mw_391 (gT_c mw_390 (gT_c mw_389 (gT_c mw_666 (gT_c mw_665 (gT_c mw_664 (gT_c mw_663 (gT_c mw_662 (gT_c mw_661 (gT_c mw_660 (gT_c mw_659 (gT_c mw_658 (gT_c mw_657 (gT_c mw_656 (gT_c mw_655 (gT_c mw_654 (gT_c mw_691 (gT_c mw_690 (gT_c mw_689 (gT_c mw_688 (gT_c mw_687 (gT_c mw_686 (gT_c mw_685 gT_n)))))))))))))))))))))))
set_option maxRecDepth 20000 in
theorem gT_wsX10_ifCracked_r3 : GoodIn lw_tbl wsX10_ifCracked_r3 := gT_c mw_684 (gT_c mw_683 (gT_c mw_682 (gT_c mw_681 (gT_c mw_680 (gT_c mw_679 (gT_c mw_678 (gT_c mw_677 (gT_c mw_676 (gT_c mw_675 (gT_c mw_674 (gT_c mw_673 (gT_c mw_672 (gT_c mw_671 (gT_c mw_670 (gT_c mw_669 (gT_c mw_668 (gT_c mw_715 (gT_c mw_714 (gT_c mw_713 (gT_c mw_712 (gT_c mw_711 (gT_c mw_710 (gT_c mw_709 gT_n)))))))))))))))))))))))
set_option maxRecDepth 20000 in
theorem gT_wsX10_ifCracked_r4 : GoodIn lw_tbl wsX10_ifCracked_r4 := gT_c mw_708 (gT_c mw_707 (gT_c mw_706 gT_n))
set_option maxRecDepth 20000 in
theorem gT_wsX10_ifCracked : GoodIn lw_tbl wsX10_ifCracked := gT_c mw_1143 (goodIn_app (goodIn_app (gT_wsX10_ifCracked_r1) (goodIn_app (gT_wsX10_ifCracked_r2) (goodIn_app (gT_wsX10_ifCracked_r3) (gT_wsX10_ifCracked_r4)))) (gT_wsX100))
set_option maxRecDepth 20000 in
theorem gT_wsL_ifHung_r1 : GoodIn lw_tbl wsL_ifHung_r1 := gT_c mw_742 (gT_c mw_1148 (gT_c mw_1147 (gT_c mw_1146 (gT_c mw_215 (gT_c mw_1145 (gT_c mw_14 (gT_c mw_2 (gT_c mw_854 (gT_c mw_520 (gT_c mw_890 (gT_c mw_889 (gT_c mw_888 (gT_c mw_887 (gT_c mw_3 (gT_c mw_886 (gT_c mw_885 (gT_c mw_884 (gT_c mw_4 (gT_c mw_883 (gT_c mw_62 (gT_c mw_58 (gT_c mw_54 (gT_c mw_50 gT_n)))))))))))))))))))))))
set_option maxRecDepth 20000 in
theorem gT_wsL_ifHung_r2 : GoodIn lw_tbl wsL_ifHung_r2 := gT_c mw_49 (gT_c mw_882 (gT_c mw_907 (gT_c mw_906 (gT_c mw_905 (gT_c mw_904 (gT_c mw_903 (gT_c mw_902 (gT_c mw_63 (gT_c mw_901 (gT_c mw_466 (gT_c mw_93 (gT_c mw_900 (gT_c mw_92 (gT_c mw_899 (gT_c mw_898 (gT_c mw_897 (gT_c mw_59 (gT_c mw_896 (gT_c mw_448 (gT_c mw_88 (gT_c mw_895 (gT_c mw_87 (gT_c mw_86 gT_n)))))))))))))))))))))))
set_option maxRecDepth 20000 in
theorem gT_wsL_ifHung_r3 : GoodIn lw_tbl wsL_ifHung_r3 := gT_c mw_85 (gT_c mw_84 (gT_c mw_918 (gT_c mw_917 (gT_c mw_916 (gT_c mw_55 (gT_c mw_915 (gT_c mw_495 (gT_c mw_80 (gT_c mw_914 (gT_c mw_79 (gT_c mw_78 (gT_c mw_77 (gT_c mw_76 (gT_c mw_75 (gT_c mw_913 (gT_c mw_912 (gT_c mw_911 (gT_c mw_51 (gT_c mw_910 (gT_c mw_110 (gT_c mw_909 (gT_c mw_109 (gT_c mw_983 gT_n)))))))))))))))))))))))
set_option maxRecDepth 20000 in
theorem gT_wsL_ifHung_r4 : GoodIn lw_tbl wsL_ifHung_r4 := gT_c mw_502 (gT_c mw_501 (gT_c mw_500 (gT_c mw_474 (gT_c mw_499 (gT_c mw_498 (gT_c mw_497 (gT_c mw_496 (gT_c mw_494 (gT_c mw_493 (gT_c mw_492 (gT_c mw_491 (gT_c mw_490 (gT_c mw_489 (gT_c mw_921 (gT_c mw_920 (gT_c mw_919 (gT_c mw_735 (gT_c mw_734 (gT_c mw_733 (gT_c mw_732 (gT_c mw_731 (gT_c mw_212 (gT_c mw_211 gT_n)))))))))))))))))))))))
set_option maxRecDepth 20000 in
theorem gT_wsL_ifHung_r5 : GoodIn lw_tbl wsL_ifHung_r5 := gT_c mw_210 (gT_c mw_209 (gT_c mw_208 (gT_c mw_207 (gT_c mw_206 (gT_c mw_205 (gT_c mw_204 (gT_c mw_203 (gT_c mw_513 (gT_c mw_512 (gT_c mw_511 (gT_c mw_15 (gT_c mw_543 (gT_c mw_542 (gT_c mw_541 (gT_c mw_540 (gT_c mw_539 (gT_c mw_538 (gT_c mw_537 (gT_c mw_536 (gT_c mw_535 (gT_c mw_534 (gT_c mw_39 (gT_c mw_533 gT_n)))))))))))))))))))))))
set_option maxRecDepth 20000 in
theorem gT_wsL_ifHung_r6 : GoodIn lw_tbl wsL_ifHung_r6 := gT_c mw_532 (gT_c mw_35 (gT_c mw_531 (gT_c mw_530 (gT_c mw_529 (gT_c mw_528 (gT_c mw_527 (gT_c mw_526 (gT_c mw_525 (gT_c mw_558 (gT_c mw_487 (gT_c mw_486 (gT_c mw_485 (gT_c mw_484 (gT_c mw_557 (gT_c mw_556 (gT_c mw_555 (gT_c mw_554 (gT_c mw_553 (gT_c mw_552 (gT_c mw_551 (gT_c mw_550 (gT_c mw_549 (gT_c mw_548 gT_n)))))))))))))))))))))))
set_option maxRecDepth 20000 in
theorem gT_wsL_ifHung_r7 : GoodIn lw_tbl wsL_ifHung_r7 := gT_c mw_547 (gT_c mw_546 (gT_c mw_545 (gT_c mw_544 (gT_c mw_32 (gT_c mw_580 (gT_c mw_579 (gT_c mw_578 (gT_c mw_577 (gT_c mw_576 (gT_c mw_575 (gT_c mw_574 (gT_c mw_573 (gT_c mw_572 (gT_c mw_571 (gT_c mw_570 (gT_c mw_569 (gT_c mw_568 (gT_c mw_567 (gT_c mw_566 (gT_c mw_565 (gT_c mw_564 (gT_c mw_563 (gT_c mw_562 gT_n)))))))))))))))))))))))
set_option maxRecDepth 20000 in
theorem gT_wsL_ifHung_r8 : GoodIn lw_tbl wsL_ifHung_r8 := gT_c mw_561 (gT_c mw_560 (gT_c mw_559 (gT_c mw_601 (gT_c mw_600 (gT_c mw_599 (gT_c mw_598 (gT_c mw_597 (gT_c mw_36 (gT_c mw_38 (gT_c mw_31 (gT_c mw_596 (gT_c mw_595 (gT_c mw_594 (gT_c mw_593 (gT_c mw_592 (gT_c mw_591 (gT_c mw_590 (gT_c mw_589 (gT_c mw_588 (gT_c mw_587 (gT_c mw_586 (gT_c mw_585 (gT_c mw_584 gT_n)))))))))))))))))))))))
set_option maxRecDepth 20000 in
theorem gT_wsL_ifHung_r9 : GoodIn lw_tbl wsL_ifHung_r9 := gT_c mw_583 (gT_c mw_582 (gT_c mw_581 (gT_c mw_624 (gT_c mw_623 (gT_c mw_622 (gT_c mw_621 (gT_c mw_620 (gT_c mw_619 (gT_c mw_618 (gT_c mw_617 (gT_c mw_616 (gT_c mw_615 (gT_c mw_614 (gT_c mw_613 (gT_c mw_823 (gT_c mw_822 (gT_c mw_821 (gT_c mw_820 gT_n))))))))))))))))))
set_option maxRecDepth 20000 in
theorem gT_wsL_ifHung : GoodIn lw_tbl wsL_ifHung := gT_c mw_1144 (goodIn_app (goodIn_app (goodIn_app (goodIn_app (goodIn_app (goodIn_app (goodIn_app (goodIn_app (goodIn_app (goodIn_app (goodIn_app (goodIn_app (gT_wsL_ifHung_r1) (goodIn_app (gT_wsL_ifHung_r2) (goodIn_app (gT_wsL_ifHung_r3) (goodIn_app (gT_wsL_ifHung_r4) (goodIn_app (gT_wsL_ifHung_r5) (goodIn_app (gT_wsL_ifHung_r6) (goodIn_app (gT_wsL_ifHung_r7) (goodIn_app (gT_wsL_ifHung_r8) (gT_wsL_ifHung_r9))))))))) (gT_wsX90)) (gT_wsX10)) (gT_wsX60)) (gT_wsX30)) (gT_wsX00)) (gT_wsX40)) (gT_wsX50)) (gT_wsX80)) (gT_at369)) (gT_at376)) (gT_at381))
set_option maxRecDepth 20000 in
theorem gT_wsX10_ifHung_r1 : GoodIn lw_tbl wsX10_ifHung_r1 := gT_c mw_178 (gT_c mw_177 (gT_c mw_384 (gT_c mw_383 (gT_c mw_168 (gT_c mw_382 (gT_c mw_230 (gT_c mw_229 (gT_c mw_228 (gT_c mw_865 (gT_c mw_864 (gT_c mw_863 (gT_c mw_774 (gT_c mw_227 (gT_c mw_226 (gT_c mw_225 (gT_c mw_224 (gT_c mw_223 (gT_c mw_509 (gT_c mw_508 (gT_c mw_507 (gT_c mw_381 (gT_c mw_380 (gT_c mw_379 gT_n)))))))))))))))))))))))
set_option maxRecDepth 20000 in
theorem gT_wsX10_ifHung_r2 : GoodIn lw_tbl wsX10_ifHung_r2 := gT_c mw_378 (gT_c mw_377 (gT_c mw_376 (gT_c mw_669 (gT_c mw_668 (gT_c mw_715 (gT_c mw_714 (gT_c mw_713 (gT_c mw_712 (gT_c mw_711 (gT_c mw_710 (gT_c mw_709 (gT_c mw_708 (gT_c mw_707 (gT_c mw_706 (gT_c mw_658 (gT_c mw_657 (gT_c mw_656 (gT_c mw_655 (gT_c mw_654 (gT_c mw_691 (gT_c mw_690 (gT_c mw_689 (gT_c mw_688 gT_n)))))))))))))))))))))))
set_option maxRecDepth 20000 in
theorem gT_wsX10_ifHung_r3 : GoodIn lw_tbl wsX10_ifHung_r3 := gT_c mw_687 (gT_c mw_686 (gT_c mw_685 (gT_c mw_684 (gT_c mw_683 (gT_c mw_682 (gT_c mw_681 (gT_c mw_680 (gT_c mw_679 (gT_c mw_678 (gT_c mw_677 (gT_c mw_676 (gT_c mw_675 (gT_c mw_674 (gT_c mw_673 (gT_c mw_672 (gT_c mw_671 (gT_c mw_670 gT_n)))))))))))))))))
set_option maxRecDepth 20000 in
theorem gT_wsX10_ifHung : GoodIn lw_tbl wsX10_ifHung := gT_c mw_1149 (goodIn_app (goodIn_app (gT_wsX10_ifHung_r1) (goodIn_app (gT_wsX10_ifHung_r2) (gT_wsX10_ifHung_r3))) (gT_wsX100))
set_option maxRecDepth 20000 in
theorem gT_wsL_inYear_r1 : GoodIn lw_tbl wsL_inYear_r1 := gT_c mw_220 (gT_c mw_1154 (gT_c mw_1153 (gT_c mw_1152 (gT_c mw_215 (gT_c mw_1151 (gT_c mw_14 (gT_c mw_3 (gT_c mw_829 (gT_c mw_427 (gT_c mw_426 (gT_c mw_212 (gT_c mw_211 (gT_c mw_210 (gT_c mw_209 (gT_c mw_208 (gT_c mw_513 (gT_c mw_512 (gT_c mw_511 (gT_c mw_15 (gT_c mw_543 (gT_c mw_542 (gT_c mw_541 (gT_c mw_540 gT_n)))))))))))))))))))))))
set_option maxRecDepth 20000 in
theorem gT_wsL_inYear_r2 : GoodIn lw_tbl wsL_inYear_r2 := gT_c mw_539 (gT_c mw_538 (gT_c mw_537 (gT_c mw_536 (gT_c mw_535 (gT_c mw_534 (gT_c mw_39 (gT_c mw_533 (gT_c mw_532 (gT_c mw_35 (gT_c mw_531 (gT_c mw_530 (gT_c mw_529 (gT_c mw_59 (gT_c mw_528 (gT_c mw_87 (gT_c mw_85 (gT_c mw_527 (gT_c mw_526 (gT_c mw_525 (gT_c mw_558 (gT_c mw_487 (gT_c mw_486 (gT_c mw_485 gT_n)))))))))))))))))))))))
set_option maxRecDepth 20000 in
theorem gT_wsL_inYear_r3 : GoodIn lw_tbl wsL_inYear_r3 := gT_c mw_484 (gT_c mw_84 (gT_c mw_557 (gT_c mw_556 (gT_c mw_555 (gT_c mw_554 (gT_c mw_86 (gT_c mw_553 (gT_c mw_552 (gT_c mw_551 (gT_c mw_550 (gT_c mw_549 (gT_c mw_548 (gT_c mw_63 (gT_c mw_547 (gT_c mw_466 (gT_c mw_92 (gT_c mw_546 (gT_c mw_545 (gT_c mw_544 (gT_c mw_32 (gT_c mw_580 (gT_c mw_579 (gT_c mw_578 gT_n)))))))))))))))))))))))
set_option maxRecDepth 20000 in
theorem gT_wsL_inYear_r4 : GoodIn lw_tbl wsL_inYear_r4 := gT_c mw_577 (gT_c mw_576 (gT_c mw_575 (gT_c mw_574 (gT_c mw_573 (gT_c mw_572 (gT_c mw_571 (gT_c mw_570 (gT_c mw_569 (gT_c mw_568 (gT_c mw_567 (gT_c mw_566 (gT_c mw_93 (gT_c mw_565 (gT_c mw_564 (gT_c mw_563 (gT_c mw_562 (gT_c mw_561 (gT_c mw_560 (gT_c mw_559 (gT_c mw_601 (gT_c mw_600 (gT_c mw_599 (gT_c mw_598 gT_n)))))))))))))))))))))))
set_option maxRecDepth 20000 in
theorem gT_wsL_inYear_r5 : GoodIn lw_tbl wsL_inYear_r5 := gT_c mw_597 (gT_c mw_36 (gT_c mw_38 (gT_c mw_31 (gT_c mw_596 (gT_c mw_595 (gT_c mw_594 (gT_c mw_593 (gT_c mw_592 (gT_c mw_591 (gT_c mw_590 (gT_c mw_589 (gT_c mw_588 (gT_c mw_587 (gT_c mw_586 (gT_c mw_585 (gT_c mw_584 (gT_c mw_583 (gT_c mw_582 (gT_c mw_581 (gT_c mw_624 (gT_c mw_623 (gT_c mw_622 (gT_c mw_621 gT_n)))))))))))))))))))))))
set_option maxRecDepth 20000 in
theorem gT_wsL_inYear_r6 : GoodIn lw_tbl wsL_inYear_r6 := gT_c mw_620 (gT_c mw_619 (gT_c mw_618 (gT_c mw_617 (gT_c mw_616 (gT_c mw_615 (gT_c mw_614 (gT_c mw_613 (gT_c mw_1159 (gT_c mw_1158 (gT_c mw_1157 (gT_c mw_1156 (gT_c mw_1155 (gT_c mw_841 (gT_c mw_840 (gT_c mw_839 (gT_c mw_838 (gT_c mw_837 (gT_c mw_836 (gT_c mw_835 gT_n)))))))))))))))))))
set_option maxRecDepth 20000 in
theorem gT_wsL_inYear : GoodIn lw_tbl wsL_inYear := gT_c mw_1150 (goodIn_app (goodIn_app (goodIn_app (goodIn_app (goodIn_app (goodIn_app (goodIn_app (goodIn_app (goodIn_app (gT_wsL_inYear_r1) (goodIn_app (gT_wsL_inYear_r2) (goodIn_app (gT_wsL_inYear_r3) (goodIn_app (gT_wsL_inYear_r4) (goodIn_app (gT_wsL_inYear_r5) (gT_wsL_inYear_r6)))))) (gT_wsX90)) (gT_wsX60)) (gT_wsX40)) (gT_wsX10)) (gT_wsX00)) (gT_wsX30)) (gT_wsX80)) (gT_at376))
set_option maxRecDepth 20000 in
theorem gT_wsX10_inYear_r1 : GoodIn lw_tbl wsX10_inYear_r1 := gT_c mw_178 (gT_c mw_851 (gT_c mw_850 (gT_c mw_168 (gT_c mw_849 (gT_c mw_848 (gT_c mw_847 (gT_c mw_230 (gT_c mw_229 (gT_c mw_228 (gT_c mw_227 (gT_c mw_226 (gT_c mw_225 (gT_c mw_224 (gT_c mw_223 (gT_c mw_662 (gT_c mw_661 (gT_c mw_660 (gT_c mw_659 (gT_c mw_658 (gT_c mw_657 (gT_c mw_656 (gT_c mw_655 (gT_c mw_654 gT_n)))))))))))))))))))))))
set_option maxRecDepth 20000 in
theorem gT_wsX10_inYear_r2 : GoodIn lw_tbl wsX10_inYear_r2 := gT_c mw_691 (gT_c mw_690 (gT_c mw_689 (gT_c mw_688 (gT_c mw_687 (gT_c mw_686 (gT_c mw_685 (gT_c mw_684 (gT_c mw_683 (gT_c mw_682 (gT_c mw_681 (gT_c mw_680 (gT_c mw_679 (gT_c mw_678 (gT_c mw_677 (gT_c mw_676 (gT_c mw_675 (gT_c mw_674 (gT_c mw_673 (gT_c mw_672 (gT_c mw_671 (gT_c mw_670 (gT_c mw_669 (gT_c mw_668 gT_n)))))))))))))))))))))))
set_option maxRecDepth 20000 in
theorem gT_wsX10_inYear_r3 : GoodIn lw_tbl wsX10_inYear_r3 := gT_c mw_715 (gT_c mw_714 (gT_c mw_713 (gT_c mw_712 (gT_c mw_711 (gT_c mw_710 (gT_c mw_709 (gT_c mw_708 (gT_c mw_707 (gT_c mw_706 (gT_c mw_846 (gT_c mw_845 (gT_c mw_844 (gT_c mw_843 gT_n)))))))))))))
set_option maxRecDepth 20000 in
theorem gT_wsX10_inYear : GoodIn lw_tbl wsX10_inYear := gT_c mw_1160 (goodIn_app (goodIn_app (gT_wsX10_inYear_r1) (goodIn_app (gT_wsX10_inYear_r2) (gT_wsX10_inYear_r3))) (gT_wsX100))
set_option maxRecDepth 20000 in
theorem gT_wsL_leastBubbles_r1 : GoodIn lw_tbl wsL_leastBubbles_r1 := gT_c mw_220 (gT_c mw_1166 (gT_c mw_1165 (gT_c mw_1164 (gT_c mw_215 (gT_c mw_1163 (gT_c mw_14 (gT_c mw_2 (gT_c mw_1162 (gT_c mw_473 (gT_c mw_472 (gT_c mw_212 (gT_c mw_211 (gT_c mw_210 (gT_c mw_209 (gT_c mw_208 (gT_c mw_890 (gT_c mw_889 (gT_c mw_888 (gT_c mw_887 (gT_c mw_3 (gT_c mw_886 (gT_c mw_885 (gT_c mw_884 gT_n)))))))))))))))))))))))
set_option maxRecDepth 20000 in
theorem gT_wsL_leastBubbles_r2 : GoodIn lw_tbl wsL_leastBubbles_r2 := gT_c mw_4 (gT_c mw_883 (gT_c mw_62 (gT_c mw_58 (gT_c mw_54 (gT_c mw_50 (gT_c mw_49 (gT_c mw_882 (gT_c mw_907 (gT_c mw_906 (gT_c mw_905 (gT_c mw_904 (gT_c mw_903 (gT_c mw_902 (gT_c mw_63 (gT_c mw_901 (gT_c mw_466 (gT_c mw_93 (gT_c mw_900 (gT_c mw_92 (gT_c mw_899 (gT_c mw_898 (gT_c mw_897 (gT_c mw_59 gT_n)))))))))))))))))))))))
set_option maxRecDepth 20000 in
theorem gT_wsL_leastBubbles_r3 : GoodIn lw_tbl wsL_leastBubbles_r3 := gT_c mw_896 (gT_c mw_448 (gT_c mw_88 (gT_c mw_895 (gT_c mw_87 (gT_c mw_86 (gT_c mw_85 (gT_c mw_84 (gT_c mw_918 (gT_c mw_917 (gT_c mw_916 (gT_c mw_55 (gT_c mw_915 (gT_c mw_495 (gT_c mw_80 (gT_c mw_914 (gT_c mw_79 (gT_c mw_78 (gT_c mw_77 (gT_c mw_76 (gT_c mw_75 (gT_c mw_913 (gT_c mw_912 (gT_c mw_911 gT_n)))))))))))))))))))))))
set_option maxRecDepth 20000 in
theorem gT_wsL_leastBubbles_r4 : GoodIn lw_tbl wsL_leastBubbles_r4 := gT_c mw_51 (gT_c mw_910 (gT_c mw_110 (gT_c mw_909 (gT_c mw_109 (gT_c mw_1167 (gT_c mw_541 (gT_c mw_540 (gT_c mw_15 (gT_c mw_539 (gT_c mw_538 (gT_c mw_537 (gT_c mw_536 (gT_c mw_535 (gT_c mw_534 (gT_c mw_39 (gT_c mw_533 (gT_c mw_532 (gT_c mw_35 (gT_c mw_531 (gT_c mw_530 (gT_c mw_529 (gT_c mw_528 (gT_c mw_527 gT_n)))))))))))))))))))))))
set_option maxRecDepth 20000 in
theorem gT_wsL_leastBubbles_r5 : GoodIn lw_tbl wsL_leastBubbles_r5 := gT_c mw_526 (gT_c mw_525 (gT_c mw_558 (gT_c mw_487 (gT_c mw_486 (gT_c mw_485 (gT_c mw_484 (gT_c mw_557 (gT_c mw_556 (gT_c mw_555 (gT_c mw_554 (gT_c mw_553 (gT_c mw_552 (gT_c mw_551 (gT_c mw_550 (gT_c mw_549 (gT_c mw_548 (gT_c mw_547 (gT_c mw_546 (gT_c mw_545 (gT_c mw_544 (gT_c mw_32 (gT_c mw_580 (gT_c mw_579 gT_n)))))))))))))))))))))))
set_option maxRecDepth 20000 in
theorem gT_wsL_leastBubbles_r6 : GoodIn lw_tbl wsL_leastBubbles_r6 := gT_c mw_578 (gT_c mw_577 (gT_c mw_576 (gT_c mw_575 (gT_c mw_574 (gT_c mw_573 (gT_c mw_572 (gT_c mw_571 (gT_c mw_570 (gT_c mw_569 (gT_c mw_568 (gT_c mw_567 (gT_c mw_566 (gT_c mw_565 (gT_c mw_564 (gT_c mw_563 (gT_c mw_562 (gT_c mw_561 (gT_c mw_560 (gT_c mw_559 (gT_c mw_601 (gT_c mw_1170 (gT_c mw_1169 (gT_c mw_1168 gT_n)))))))))))))))))))))))
set_option maxRecDepth 20000 in
theorem gT_wsL_leastBubbles_r7 : GoodIn lw_tbl wsL_leastBubbles_r7 := gT_c mw_1181 (gT_c mw_516 (gT_c mw_1180 (gT_c mw_1179 (gT_c mw_1178 (gT_c mw_1177 (gT_c mw_1176 (gT_c mw_1175 (gT_c mw_1174 (gT_c mw_1173 (gT_c mw_1172 (gT_c mw_1171 (gT_c mw_599 (gT_c mw_598 (gT_c mw_597 (gT_c mw_36 (gT_c mw_38 (gT_c mw_31 (gT_c mw_596 (gT_c mw_595 (gT_c mw_594 (gT_c mw_593 (gT_c mw_592 (gT_c mw_591 gT_n)))))))))))))))))))))))
set_option maxRecDepth 20000 in
theorem gT_wsL_leastBubbles_r8 : GoodIn lw_tbl wsL_leastBubbles_r8 := gT_c mw_590 (gT_c mw_589 (gT_c mw_588 (gT_c mw_587 (gT_c mw_586 (gT_c mw_585 (gT_c mw_584 (gT_c mw_583 (gT_c mw_582 (gT_c mw_581 (gT_c mw_624 (gT_c mw_623 (gT_c mw_622 (gT_c mw_621 (gT_c mw_620 (gT_c mw_619 (gT_c mw_618 (gT_c mw_617 (gT_c mw_616 (gT_c mw_615 (gT_c mw_614 (gT_c mw_613 (gT_c mw_612 (gT_c mw_611 gT_n)))))))))))))))))))))))
set_option maxRecDepth 20000 in
theorem gT_wsL_leastBubbles_r9 : GoodIn lw_tbl wsL_leastBubbles_r9 := gT_c mw_610 (gT_c mw_609 gT_n)
set_option maxRecDepth 20000 in
theorem gT_wsL_leastBubbles : GoodIn lw_tbl wsL_leastBubbles := gT_c mw_1161 (goodIn_app (goodIn_app (goodIn_app (goodIn_app (goodIn_app (goodIn_app (goodIn_app (goodIn_app (goodIn_app (goodIn_app (gT_wsL_leastBubbles_r1) (goodIn_app (gT_wsL_leastBubbles_r2) (goodIn_app (gT_wsL_leastBubbles_r3) (goodIn_app (gT_wsL_leastBubbles_r4) (goodIn_app (gT_wsL_leastBubbles_r5) (goodIn_app (gT_wsL_leastBubbles_r6) (goodIn_app (gT_wsL_leastBubbles_r7) (goodIn_app (gT_wsL_leastBubbles_r8) (gT_wsL_leastBubbles_r9))))))))) (gT_wsX90)) (gT_wsX60)) (gT_wsX30)) (gT_wsX00)) (gT_wsX40)) (gT_wsX50)) (gT_wsX10)) (gT_wsX80)) (gT_at376))
set_option maxRecDepth 20000 in
theorem gT_wsX10_leastBubbles_r1 : GoodIn lw_tbl wsX10_leastBubbles_r1 := gT_c mw_178 (gT_c mw_177 (gT_c mw_230 (gT_c mw_229 (gT_c mw_168 (gT_c mw_228 (gT_c mw_227 (gT_c mw_226 (gT_c mw_225 (gT_c mw_224 (gT_c mw_223 (gT_c mw_509 (gT_c mw_508 (gT_c mw_507 (gT_c mw_666 (gT_c mw_665 (gT_c mw_664 (gT_c mw_663 (gT_c mw_662 (gT_c mw_661 (gT_c mw_660 (gT_c mw_659 (gT_c mw_658 (gT_c mw_657 gT_n)))))))))))))))))))))))
set_option maxRecDepth 20000 in
theorem gT_wsX10_leastBubbles_r2 : GoodIn lw_tbl wsX10_leastBubbles_r2 := gT_c mw_656 (gT_c mw_655 (gT_c mw_654 (gT_c mw_691 (gT_c mw_690 (gT_c mw_689 (gT_c mw_688 (gT_c mw_687 (gT_c mw_686 (gT_c mw_685 (gT_c mw_684 (gT_c mw_683 (gT_c mw_682 (gT_c mw_681 (gT_c mw_680 (gT_c mw_679 (gT_c mw_678 (gT_c mw_677 (gT_c mw_676 (gT_c mw_675 (gT_c mw_674 (gT_c mw_673 (gT_c mw_672 (gT_c mw_671 gT_n)))))))))))))))))))))))
set_option maxRecDepth 20000 in
theorem gT_wsX10_leastBubbles_r3 : GoodIn lw_tbl wsX10_leastBubbles_r3 := gT_c mw_670 (gT_c mw_669 (gT_c mw_668 (gT_c mw_715 (gT_c mw_714 (gT_c mw_713 (gT_c mw_712 (gT_c mw_711 (gT_c mw_710 (gT_c mw_709 (gT_c mw_708 (gT_c mw_707 (gT_c mw_706 gT_n))))))))))))
set_option maxRecDepth 20000 in
theorem gT_wsX10_leastBubbles : GoodIn lw_tbl wsX10_leastBubbles := gT_c mw_1182 (goodIn_app (goodIn_app (gT_wsX10_leastBubbles_r1) (goodIn_app (gT_wsX10_leastBubbles_r2) (gT_wsX10_leastBubbles_r3))) (gT_wsX100))
set_option maxRecDepth 20000 in
theorem gT_wsL_runScript_r1 : GoodIn lw_tbl wsL_runScript_r1 := gT_c mw_220 (gT_c mw_1188 (gT_c mw_1187 (gT_c mw_1186 (gT_c mw_215 (gT_c mw_1185 (gT_c mw_1184 (gT_c mw_212 (gT_c mw_211 (gT_c mw_210 (gT_c mw_209 (gT_c mw_208 (gT_c mw_890 (gT_c mw_889 (gT_c mw_888 (gT_c mw_887 (gT_c mw_2 (gT_c mw_3 (gT_c mw_886 (gT_c mw_885 (gT_c mw_884 (gT_c mw_4 (gT_c mw_883 (gT_c mw_62 gT_n)))))))))))))))))))))))
set_option maxRecDepth 20000 in
theorem gT_wsL_runScript_r2 : GoodIn lw_tbl wsL_runScript_r2 := gT_c mw_58 (gT_c mw_54 (gT_c mw_50 (gT_c mw_49 (gT_c mw_882 (gT_c mw_907 (gT_c mw_906 (gT_c mw_905 (gT_c mw_904 (gT_c mw_903 (gT_c mw_902 (gT_c mw_63 (gT_c mw_901 (gT_c mw_466 (gT_c mw_93 (gT_c mw_900 (gT_c mw_92 (gT_c mw_899 (gT_c mw_898 (gT_c mw_897 (gT_c mw_59 (gT_c mw_896 (gT_c mw_448 (gT_c mw_88 gT_n)))))))))))))))))))))))
set_option maxRecDepth 20000 in
theorem gT_wsL_runScript_r3 : GoodIn lw_tbl wsL_runScript_r3 := gT_c mw_895 (gT_c mw_87 (gT_c mw_86 (gT_c mw_85 (gT_c mw_84 (gT_c mw_918 (gT_c mw_917 (gT_c mw_916 (gT_c mw_55 (gT_c mw_915 (gT_c mw_495 (gT_c mw_80 (gT_c mw_914 (gT_c mw_79 (gT_c mw_78 (gT_c mw_77 (gT_c mw_76 (gT_c mw_75 (gT_c mw_913 (gT_c mw_912 (gT_c mw_911 (gT_c mw_51 (gT_c mw_910 (gT_c mw_110 gT_n)))))))))))))))))))))))
set_option maxRecDepth 20000 in
theorem gT_wsL_runScript_r4 : GoodIn lw_tbl wsL_runScript_r4 := gT_c mw_909 (gT_c mw_109 (gT_c mw_1193 (gT_c mw_1192 (gT_c mw_1191 (gT_c mw_1190 (gT_c mw_1189 (gT_c mw_14 (gT_c mw_951 (gT_c mw_456 (gT_c mw_455 (gT_c mw_454 (gT_c mw_458 (gT_c mw_453 (gT_c mw_452 (gT_c mw_451 (gT_c mw_450 (gT_c mw_449 (gT_c mw_427 (gT_c mw_426 (gT_c mw_447 (gT_c mw_446 (gT_c mw_445 (gT_c mw_488 gT_n)))))))))))))))))))))))
set_option maxRecDepth 20000 in
theorem gT_wsL_runScript_r5 : GoodIn lw_tbl wsL_runScript_r5 := gT_c mw_487 (gT_c mw_486 (gT_c mw_485 (gT_c mw_484 (gT_c mw_983 (gT_c mw_502 (gT_c mw_501 (gT_c mw_500 (gT_c mw_474 (gT_c mw_499 (gT_c mw_498 (gT_c mw_497 (gT_c mw_496 (gT_c mw_494 (gT_c mw_493 (gT_c mw_492 (gT_c mw_491 (gT_c mw_490 (gT_c mw_489 (gT_c mw_992 (gT_c mw_991 (gT_c mw_990 (gT_c mw_993 (gT_c mw_1004 gT_n)))))))))))))))))))))))
set_option maxRecDepth 20000 in
theorem gT_wsL_runScript_r6 : GoodIn lw_tbl wsL_runScript_r6 := gT_c mw_1003 (gT_c mw_1014 (gT_c mw_1013 (gT_c mw_1012 (gT_c mw_870 (gT_c mw_869 (gT_c mw_1011 (gT_c mw_1010 (gT_c mw_1009 (gT_c mw_1008 (gT_c mw_799 (gT_c mw_798 (gT_c mw_797 (gT_c mw_796 (gT_c mw_795 (gT_c mw_644 (gT_c mw_643 (gT_c mw_642 (gT_c mw_1007 (gT_c mw_1006 (gT_c mw_1005 (gT_c mw_1032 (gT_c mw_1031 (gT_c mw_1030 gT_n)))))))))))))))))))))))
set_option maxRecDepth 20000 in
theorem gT_wsL_runScript_r7 : GoodIn lw_tbl wsL_runScript_r7 := gT_c mw_1029 (gT_c mw_1028 (gT_c mw_1027 (gT_c mw_461 (gT_c mw_479 (gT_c mw_1026 (gT_c mw_1025 (gT_c mw_1024 (gT_c mw_1023 (gT_c mw_804 (gT_c mw_802 (gT_c mw_801 (gT_c mw_800 (gT_c mw_1022 (gT_c mw_1021 (gT_c mw_1020 (gT_c mw_1019 (gT_c mw_1018 (gT_c mw_1017 (gT_c mw_1016 (gT_c mw_1015 (gT_c mw_972 (gT_c mw_971 (gT_c mw_970 gT_n)))))))))))))))))))))))
set_option maxRecDepth 20000 in
theorem gT_wsL_runScript_r8 : GoodIn lw_tbl wsL_runScript_r8 := gT_c mw_973 (gT_c mw_475 (gT_c mw_469 (gT_c mw_468 (gT_c mw_467 (gT_c mw_504 (gT_c mw_1064 (gT_c mw_1063 (gT_c mw_1062 (gT_c mw_15 (gT_c mw_1068 (gT_c mw_647 (gT_c mw_1067 (gT_c mw_34 (gT_c mw_1066 (gT_c mw_646 (gT_c mw_1065 (gT_c mw_512 (gT_c mw_511 (gT_c mw_543 (gT_c mw_542 (gT_c mw_541 (gT_c mw_540 (gT_c mw_539 gT_n)))))))))))))))))))))))
set_option maxRecDepth 20000 in
theorem gT_wsL_runScript_r9 : GoodIn lw_tbl wsL_runScript_r9 := gT_c mw_538 (gT_c mw_537 (gT_c mw_536 (gT_c mw_535 (gT_c mw_534 (gT_c mw_39 (gT_c mw_533 (gT_c mw_532 (gT_c mw_35 (gT_c mw_531 (gT_c mw_530 (gT_c mw_529 (gT_c mw_528 (gT_c mw_527 (gT_c mw_526 (gT_c mw_525 (gT_c mw_558 (gT_c mw_557 (gT_c mw_556 (gT_c mw_555 (gT_c mw_554 (gT_c mw_553 (gT_c mw_552 (gT_c mw_551 gT_n)))))))))))))))))))))))
set_option maxRecDepth 20000 in
theorem gT_wsL_runScript_r10 : GoodIn lw_tbl wsL_runScript_r10 := gT_c mw_550 (gT_c mw_549 (gT_c mw_548 (gT_c mw_547 (gT_c mw_546 (gT_c mw_545 (gT_c mw_544 (gT_c mw_32 (gT_c mw_580 (gT_c mw_579 (gT_c mw_578 (gT_c mw_577 (gT_c mw_576 (gT_c mw_575 (gT_c mw_574 (gT_c mw_573 (gT_c mw_572 (gT_c mw_571 (gT_c mw_570 (gT_c mw_569 (gT_c mw_568 (gT_c mw_567 (gT_c mw_566 (gT_c mw_565 gT_n)))))))))))))))))))))))
set_option maxRecDepth 20000 in
theorem gT_wsL_runScript_r11 : GoodIn lw_tbl wsL_runScript_r11 := gT_c mw_564 (gT_c mw_563 (gT_c mw_562 (gT_c mw_561 (gT_c mw_560 (gT_c mw_559 (gT_c mw_601 (gT_c mw_600 (gT_c mw_599 (gT_c mw_598 (gT_c mw_597 (gT_c mw_36 (gT_c mw_38 (gT_c mw_31 (gT_c mw_596 (gT_c mw_595 (gT_c mw_594 (gT_c mw_593 (gT_c mw_592 (gT_c mw_591 (gT_c mw_590 (gT_c mw_589 (gT_c mw_588 (gT_c mw_587 gT_n)))))))))))))))))))))))
set_option maxRecDepth 20000 in
theorem gT_wsL_runScript_r12 : GoodIn lw_tbl wsL_runScript_r12 := gT_c mw_586 (gT_c mw_585 (gT_c mw_584 (gT_c mw_583 (gT_c mw_582 (gT_c mw_581 (gT_c mw_624 (gT_c mw_623 (gT_c mw_622 (gT_c mw_621 (gT_c mw_620 (gT_c mw_619 (gT_c mw_618 (gT_c mw_617 (gT_c mw_616 (gT_c mw_615 (gT_c mw_614 (gT_c mw_613 (gT_c mw_1073 (gT_c mw_1072 (gT_c mw_1071 (gT_c mw_1070 (gT_c mw_645 (gT_c mw_1069 gT_n)))))))))))))))))))))))
set_option maxRecDepth 20000 in
theorem gT_wsL_runScript_r13 : GoodIn lw_tbl wsL_runScript_r13 := gT_c mw_1077 (gT_c mw_1076 (gT_c mw_1075 (gT_c mw_1074 (gT_c mw_1095 (gT_c mw_1094 (gT_c mw_1093 (gT_c mw_1092 (gT_c mw_473 (gT_c mw_472 (gT_c mw_471 (gT_c mw_470 (gT_c mw_1141 (gT_c mw_1140 (gT_c mw_1139 (gT_c mw_1138 (gT_c mw_1142 (gT_c mw_611 (gT_c mw_610 (gT_c mw_609 (gT_c mw_1197 (gT_c mw_1196 (gT_c mw_1195 (gT_c mw_1194 gT_n)))))))))))))))))))))))
set_option maxRecDepth 20000 in
theorem gT_wsL_runScript_r14 : GoodIn lw_tbl wsL_runScript_r14 := gT_c mw_516 (gT_c mw_811 (gT_c mw_783 (gT_c mw_513 gT_n)))
set_option maxRecDepth 20000 in
theorem gT_wsL_runScript : GoodIn lw_tbl wsL_runScript := gT_c mw_1183 (goodIn_app (goodIn_app (goodIn_app (goodIn_app (goodIn_app (goodIn_app (goodIn_app (goodIn_app (goodIn_app (goodIn_app (gT_wsL_runScript_r1) (goodIn_app (gT_wsL_runScript_r2) (goodIn_app (gT_wsL_runScript_r3) (goodIn_app (gT_wsL_runScript_r4) (goodIn_app (gT_wsL_runScript_r5) (goodIn_app (gT_wsL_runScript_r6) (goodIn_app (gT_wsL_runScript_r7) (goodIn_app (gT_wsL_runScript_r8) (goodIn_app (gT_wsL_runScript_r9) (goodIn_app (gT_wsL_runScript_r10) (goodIn_app (gT_wsL_runScript_r11) (goodIn_app (gT_wsL_runScript_r12) (goodIn_app (gT_wsL_runScript_r13) (gT_wsL_runScript_r14)))))))))))))) (gT_wsX90)) (gT_wsX60)) (gT_wsX30)) (gT_wsX00)) (gT_wsX40)) (gT_wsX50)) (gT_wsX10)) (gT_wsX80)) (gT_at376))
set_option maxRecDepth 20000 in
theorem gT_wsX10_runScript_r1 : GoodIn lw_tbl wsX10_runScript_r1 := gT_c mw_827 (gT_c mw_178 (gT_c mw_177 (gT_c mw_1207 (gT_c mw_230 (gT_c mw_229 (gT_c mw_168 (gT_c mw_228 (gT_c mw_1206 (gT_c mw_1205 (gT_c mw_1204 (gT_c mw_1203 (gT_c mw_227 (gT_c mw_226 (gT_c mw_225 (gT_c mw_224 (gT_c mw_223 (gT_c mw_509 (gT_c mw_508 (gT_c mw_507 (gT_c mw_1202 (gT_c mw_1201 (gT_c mw_1200 (gT_c mw_1199 gT_n)))))))))))))))))))))))
set_option maxRecDepth 20000 in
theorem gT_wsX10_runScript_r2 : GoodIn lw_tbl wsX10_runScript_r2 := gT_c mw_1216 (gT_c mw_1215 (gT_c mw_1214 (gT_c mw_1213 (gT_c mw_1212 (gT_c mw_349 (gT_c mw_396 (gT_c mw_395 (gT_c mw_851 (gT_c mw_850 (gT_c mw_849 (gT_c mw_848 (gT_c mw_847 (gT_c mw_394 (gT_c mw_393 (gT_c mw_392 (gT_c mw_391 (gT_c mw_390 (gT_c mw_389 (gT_c mw_1211 (gT_c mw_1210 (gT_c mw_1209 (gT_c mw_1208 (gT_c mw_384 gT_n)))))))))))))))))))))))
set_option maxRecDepth 20000 in
theorem gT_wsX10_runScript_r3 : GoodIn lw_tbl wsX10_runScript_r3 := gT_c mw_383 (gT_c mw_382 (gT_c mw_865 (gT_c mw_864 (gT_c mw_863 (gT_c mw_774 (gT_c mw_381 (gT_c mw_380 (gT_c mw_379 (gT_c mw_378 (gT_c mw_377 (gT_c mw_376 (gT_c mw_1224 (gT_c mw_1223 (gT_c mw_1222 (gT_c mw_1221 (gT_c mw_997 (gT_c mw_996 (gT_c mw_995 (gT_c mw_1220 (gT_c mw_1219 (gT_c mw_1218 (gT_c mw_1217 (gT_c mw_880 gT_n)))))))))))))))))))))))
set_option maxRecDepth 20000 in
theorem gT_wsX10_runScript_r4 : GoodIn lw_tbl wsX10_runScript_r4 := gT_c mw_879 (gT_c mw_878 (gT_c mw_1039 (gT_c mw_1038 (gT_c mw_1037 (gT_c mw_721 (gT_c mw_720 (gT_c mw_719 (gT_c mw_718 (gT_c mw_717 (gT_c mw_716 (gT_c mw_1036 (gT_c mw_1035 (gT_c mw_1034 (gT_c mw_1045 (gT_c mw_1044 (gT_c mw_1043 (gT_c mw_1042 (gT_c mw_1041 (gT_c mw_1040 (gT_c mw_1228 (gT_c mw_1227 (gT_c mw_1226 (gT_c mw_1225 gT_n)))))))))))))))))))))))
set_option maxRecDepth 20000 in
theorem gT_wsX10_runScript_r5 : GoodIn lw_tbl wsX10_runScript_r5 := gT_c mw_402 (gT_c mw_401 (gT_c mw_400 (gT_c mw_976 (gT_c mw_975 (gT_c mw_977 (gT_c mw_1232 (gT_c mw_1231 (gT_c mw_1230 (gT_c mw_1229 (gT_c mw_1082 (gT_c mw_1081 (gT_c mw_1080 (gT_c mw_1079 (gT_c mw_171 (gT_c mw_1086 (gT_c mw_1085 (gT_c mw_1084 (gT_c mw_1083 (gT_c mw_662 (gT_c mw_661 (gT_c mw_660 (gT_c mw_659 (gT_c mw_658 gT_n)))))))))))))))))))))))
set_option maxRecDepth 20000 in
theorem gT_wsX10_runScript_r6 : GoodIn lw_tbl wsX10_runScript_r6 := gT_c mw_657 (gT_c mw_656 (gT_c mw_655 (gT_c mw_654 (gT_c mw_691 (gT_c mw_690 (gT_c mw_689 (gT_c mw_688 (gT_c mw_687 (gT_c mw_686 (gT_c mw_685 (gT_c mw_684 (gT_c mw_683 (gT_c mw_682 (gT_c mw_681 (gT_c mw_680 (gT_c mw_679 (gT_c mw_678 (gT_c mw_677 (gT_c mw_676 (gT_c mw_675 (gT_c mw_674 (gT_c mw_673 (gT_c mw_672 gT_n)))))))))))))))))))))))
set_option maxRecDepth 20000 in
theorem gT_wsX10_runScript_r7 : GoodIn lw_tbl wsX10_runScript_r7 := gT_c mw_671 (gT_c mw_670 (gT_c mw_669 (gT_c mw_668 (gT_c mw_715 (gT_c mw_714 (gT_c mw_713 (gT_c mw_712 (gT_c mw_711 (gT_c mw_710 (gT_c mw_709 (gT_c mw_708 (gT_c mw_707 (gT_c mw_706 (gT_c mw_1236 (gT_c mw_1235 (gT_c mw_1234 (gT_c mw_1233 (gT_c mw_1099 (gT_c mw_1098 (gT_c mw_1097 (gT_c mw_666 (gT_c mw_665 (gT_c mw_664 gT_n)))))))))))))))))))))))
set_option maxRecDepth 20000 in
theorem gT_wsX10_runScript_r8 : GoodIn lw_tbl wsX10_runScript_r8 := gT_c mw_663 gT_n
set_option maxRecDepth 20000 in
theorem gT_wsX10_runScript : GoodIn lw_tbl wsX10_runScript := gT_c mw_1198 (goodIn_app (goodIn_app (gT_wsX10_runScript_r1) (goodIn_app (gT_wsX10_runScript_r2) (goodIn_app (gT_wsX10_runScript_r3) (goodIn_app (gT_wsX10_runScript_r4) (goodIn_app (gT_wsX10_runScript_r5) (goodIn_app (gT_wsX10_runScript_r6) (goodIn_app (gT_wsX10_runScript_r7) (gT_wsX10_runScript_r8)))))))) (gT_wsX100))
set_option maxRecDepth 20000 in
theorem gT_wsL_simulate_r1 : GoodIn lw_tbl wsL_simulate_r1 := gT_c mw_220 (gT_c mw_1243 (gT_c mw_1242 (gT_c mw_1241 (gT_c mw_215 (gT_c mw_1240 (gT_c mw_1239 (gT_c mw_1238 (gT_c mw_14 (gT_c mw_2 (gT_c mw_516 (gT_c mw_515 (gT_c mw_212 (gT_c mw_211 (gT_c mw_210 (gT_c mw_209 (gT_c mw_208 (gT_c mw_890 (gT_c mw_889 (gT_c mw_888 (gT_c mw_887 (gT_c mw_3 (gT_c mw_886 (gT_c mw_885 gT_n)))))))))))))))))))))))
set_option maxRecDepth 20000 in
theorem gT_wsL_simulate_r2 : GoodIn lw_tbl wsL_simulate_r2 := gT_c mw_884 (gT_c mw_4 (gT_c mw_883 (gT_c mw_62 (gT_c mw_58 (gT_c mw_54 (gT_c mw_50 (gT_c mw_49 (gT_c mw_882 (gT_c mw_907 (gT_c mw_906 (gT_c mw_905 (gT_c mw_904 (gT_c mw_903 (gT_c mw_902 (gT_c mw_63 (gT_c mw_901 (gT_c mw_466 (gT_c mw_93 (gT_c mw_900 (gT_c mw_92 (gT_c mw_899 (gT_c mw_898 (gT_c mw_897 gT_n)))))))))))))))))))))))
set_option maxRecDepth 20000 in
theorem gT_wsL_simulate_r3 : GoodIn lw_tbl wsL_simulate_r3 := gT_c mw_59 (gT_c mw_896 (gT_c mw_448 (gT_c mw_88 (gT_c mw_895 (gT_c mw_87 (gT_c mw_86 (gT_c mw_85 (gT_c mw_84 (gT_c mw_918 (gT_c mw_917 (gT_c mw_916 (gT_c mw_55 (gT_c mw_915 (gT_c mw_495 (gT_c mw_80 (gT_c mw_914 (gT_c mw_79 (gT_c mw_78 (gT_c mw_77 (gT_c mw_76 (gT_c mw_75 (gT_c mw_913 (gT_c mw_912 gT_n)))))))))))))))))))))))
set_option maxRecDepth 20000 in
theorem gT_wsL_simulate_r4 : GoodIn lw_tbl wsL_simulate_r4 := gT_c mw_911 (gT_c mw_51 (gT_c mw_910 (gT_c mw_110 (gT_c mw_909 (gT_c mw_109 (gT_c mw_1247 (gT_c mw_1246 (gT_c mw_1245 (gT_c mw_1244 (gT_c mw_951 (gT_c mw_456 (gT_c mw_455 (gT_c mw_454 (gT_c mw_458 (gT_c mw_453 (gT_c mw_452 (gT_c mw_451 (gT_c mw_450 (gT_c mw_449 (gT_c mw_427 (gT_c mw_426 (gT_c mw_447 (gT_c mw_446 gT_n)))))))))))))))))))))))
set_option maxRecDepth 20000 in
theorem gT_wsL_simulate_r5 : GoodIn lw_tbl wsL_simulate_r5 := gT_c mw_445 (gT_c mw_488 (gT_c mw_487 (gT_c mw_486 (gT_c mw_485 (gT_c mw_484 (gT_c mw_972 (gT_c mw_971 (gT_c mw_970 (gT_c mw_973 (gT_c mw_479 (gT_c mw_475 (gT_c mw_499 (gT_c mw_498 (gT_c mw_497 (gT_c mw_496 (gT_c mw_469 (gT_c mw_468 (gT_c mw_467 (gT_c mw_504 (gT_c mw_983 (gT_c mw_502 (gT_c mw_501 (gT_c mw_500 gT_n)))))))))))))))))))))))
set_option maxRecDepth 20000 in
theorem gT_wsL_simulate_r6 : GoodIn lw_tbl wsL_simulate_r6 := gT_c mw_474 (gT_c mw_494 (gT_c mw_493 (gT_c mw_492 (gT_c mw_491 (gT_c mw_490 (gT_c mw_489 (gT_c mw_1004 (gT_c mw_1003 (gT_c mw_1014 (gT_c mw_1013 (gT_c mw_1012 (gT_c mw_870 (gT_c mw_869 (gT_c mw_1011 (gT_c mw_1010 (gT_c mw_1009 (gT_c mw_1008 (gT_c mw_799 (gT_c mw_798 (gT_c mw_797 (gT_c mw_796 (gT_c mw_795 (gT_c mw_644 gT_n)))))))))))))))))))))))
set_option maxRecDepth 20000 in
theorem gT_wsL_simulate_r7 : GoodIn lw_tbl wsL_simulate_r7 := gT_c mw_643 (gT_c mw_642 (gT_c mw_1007 (gT_c mw_1006 (gT_c mw_1005 (gT_c mw_1032 (gT_c mw_1031 (gT_c mw_1030 (gT_c mw_1029 (gT_c mw_1028 (gT_c mw_1027 (gT_c mw_461 (gT_c mw_1026 (gT_c mw_1025 (gT_c mw_1024 (gT_c mw_1023 (gT_c mw_804 (gT_c mw_802 (gT_c mw_801 (gT_c mw_800 (gT_c mw_1022 (gT_c mw_1021 (gT_c mw_1020 (gT_c mw_1019 gT_n)))))))))))))))))))))))
set_option maxRecDepth 20000 in
theorem gT_wsL_simulate_r8 : GoodIn lw_tbl wsL_simulate_r8 := gT_c mw_1018 (gT_c mw_1017 (gT_c mw_1016 (gT_c mw_1015 (gT_c mw_992 (gT_c mw_991 (gT_c mw_990 (gT_c mw_993 (gT_c mw_1064 (gT_c mw_1063 (gT_c mw_1062 (gT_c mw_15 (gT_c mw_1068 (gT_c mw_647 (gT_c mw_1067 (gT_c mw_34 (gT_c mw_1066 (gT_c mw_646 (gT_c mw_1065 (gT_c mw_512 (gT_c mw_511 (gT_c mw_543 (gT_c mw_542 (gT_c mw_541 gT_n)))))))))))))))))))))))
set_option maxRecDepth 20000 in
theorem gT_wsL_simulate_r9 : GoodIn lw_tbl wsL_simulate_r9 := gT_c mw_540 (gT_c mw_539 (gT_c mw_538 (gT_c mw_537 (gT_c mw_536 (gT_c mw_535 (gT_c mw_534 (gT_c mw_39 (gT_c mw_533 (gT_c mw_532 (gT_c mw_35 (gT_c mw_531 (gT_c mw_530 (gT_c mw_529 (gT_c mw_528 (gT_c mw_527 (gT_c mw_526 (gT_c mw_525 (gT_c mw_558 (gT_c mw_557 (gT_c mw_556 (gT_c mw_555 (gT_c mw_554 (gT_c mw_553 gT_n)))))))))))))))))))))))
set_option maxRecDepth 20000 in
theorem gT_wsL_simulate_r10 : GoodIn lw_tbl wsL_simulate_r10 := gT_c mw_552 (gT_c mw_551 (gT_c mw_550 (gT_c mw_549 (gT_c mw_548 (gT_c mw_547 (gT_c mw_546 (gT_c mw_545 (gT_c mw_544 (gT_c mw_32 (gT_c mw_580 (gT_c mw_579 (gT_c mw_578 (gT_c mw_577 (gT_c mw_576 (gT_c mw_575 (gT_c mw_574 (gT_c mw_573 (gT_c mw_572 (gT_c mw_571 (gT_c mw_570 (gT_c mw_569 (gT_c mw_568 (gT_c mw_567 gT_n)))))))))))))))))))))))
set_option maxRecDepth 20000 in
theorem gT_wsL_simulate_r11 : GoodIn lw_tbl wsL_simulate_r11 := gT_c mw_566 (gT_c mw_565 (gT_c mw_564 (gT_c mw_563 (gT_c mw_562 (gT_c mw_561 (gT_c mw_560 (gT_c mw_559 (gT_c mw_601 (gT_c mw_600 (gT_c mw_599 (gT_c mw_598 (gT_c mw_597 (gT_c mw_36 (gT_c mw_38 (gT_c mw_31 (gT_c mw_596 (gT_c mw_595 (gT_c mw_594 (gT_c mw_593 (gT_c mw_592 (gT_c mw_591 (gT_c mw_590 (gT_c mw_589 gT_n)))))))))))))))))))))))
set_option maxRecDepth 20000 in
theorem gT_wsL_simulate_r12 : GoodIn lw_tbl wsL_simulate_r12 := gT_c mw_588 (gT_c mw_587 (gT_c mw_586 (gT_c mw_585 (gT_c mw_584 (gT_c mw_583 (gT_c mw_582 (gT_c mw_581 (gT_c mw_624 (gT_c mw_623 (gT_c mw_622 (gT_c mw_621 (gT_c mw_620 (gT_c mw_619 (gT_c mw_618 (gT_c mw_617 (gT_c mw_616 (gT_c mw_615 (gT_c mw_614 (gT_c mw_613 (gT_c mw_1073 (gT_c mw_1072 (gT_c mw_1071 (gT_c mw_1070 gT_n)))))))))))))))))))))))
set_option maxRecDepth 20000 in
theorem gT_wsL_simulate_r13 : GoodIn lw_tbl wsL_simulate_r13 := gT_c mw_645 (gT_c mw_1069 (gT_c mw_1077 (gT_c mw_1076 (gT_c mw_1075 (gT_c mw_1074 (gT_c mw_958 (gT_c mw_482 (gT_c mw_481 (gT_c mw_480 (gT_c mw_102 (gT_c mw_478 (gT_c mw_477 (gT_c mw_476 (gT_c mw_473 (gT_c mw_472 (gT_c mw_471 (gT_c mw_470 (gT_c mw_513 (gT_c mw_612 (gT_c mw_611 (gT_c mw_610 (gT_c mw_609 (gT_c mw_627 gT_n)))))))))))))))))))))))
set_option maxRecDepth 20000 in
theorem gT_wsL_simulate_r14 : GoodIn lw_tbl wsL_simulate_r14 := gT_c mw_626 (gT_c mw_625 (gT_c mw_652 (gT_c mw_651 (gT_c mw_650 (gT_c mw_649 (gT_c mw_648 gT_n))))))
set_option maxRecDepth 20000 in
theorem gT_wsL_simulate : GoodIn lw_tbl wsL_simulate := gT_c mw_1237 (goodIn_app (goodIn_app (goodIn_app (goodIn_app (goodIn_app (goodIn_app (goodIn_app (goodIn_app (goodIn_app (goodIn_app (gT_wsL_simulate_r1) (goodIn_app (gT_wsL_simulate_r2) (goodIn_app (gT_wsL_simulate_r3) (goodIn_app (gT_wsL_simulate_r4) (goodIn_app (gT_wsL_simulate_r5) (goodIn_app (gT_wsL_simulate_r6) (goodIn_app (gT_wsL_simulate_r7) (goodIn_app (gT_wsL_simulate_r8) (goodIn_app (gT_wsL_simulate_r9) (goodIn_app (gT_wsL_simulate_r10) (goodIn_app (gT_wsL_simulate_r11) (goodIn_app (gT_wsL_simulate_r12) (goodIn_app (gT_wsL_simulate_r13) (gT_wsL_simulate_r14)))))))))))))) (gT_wsX90)) (gT_wsX60)) (gT_wsX40)) (gT_wsX30)) (gT_wsX00)) (gT_wsX50)) (gT_wsX10)) (gT_wsX80)) (gT_at376))
set_option maxRecDepth 20000 in
theorem gT_wsX10_simulate_r1 : GoodIn lw_tbl wsX10_simulate_r1 := gT_c mw_1255 (gT_c mw_178 (gT_c mw_177 (gT_c mw_1254 (gT_c mw_1253 (gT_c mw_230 (gT_c mw_229 (gT_c mw_168 (gT_c mw_228 (gT_c mw_227 (gT_c mw_226 (gT_c mw_225 (gT_c mw_224 (gT_c mw_223 (gT_c mw_509 (gT_c mw_508 (gT_c mw_507 (gT_c mw_1252 (gT_c mw_1251 (gT_c mw_1250 (gT_c mw_1249 (gT_c mw_349 (gT_c mw_396 (gT_c mw_395 gT_n)))))))))))))))))))))))
set_option maxRecDepth 20000 in
theorem gT_wsX10_simulate_r2 : GoodIn lw_tbl wsX10_simulate_r2 := gT_c mw_399 (gT_c mw_398 (gT_c mw_397 (gT_c mw_1215 (gT_c mw_1214 (gT_c mw_1213 (gT_c mw_1212 (gT_c mw_851 (gT_c mw_850 (gT_c mw_849 (gT_c mw_848 (gT_c mw_847 (gT_c mw_394 (gT_c mw_393 (gT_c mw_392 (gT_c mw_391 (gT_c mw_390 (gT_c mw_389 (gT_c mw_1228 (gT_c mw_1227 (gT_c mw_1226 (gT_c mw_1225 (gT_c mw_384 (gT_c mw_383 gT_n)))))))))))))))))))))))
set_option maxRecDepth 20000 in
theorem gT_wsX10_simulate_r3 : GoodIn lw_tbl wsX10_simulate_r3 := gT_c mw_382 (gT_c mw_402 (gT_c mw_401 (gT_c mw_400 (gT_c mw_976 (gT_c mw_975 (gT_c mw_977 (gT_c mw_1211 (gT_c mw_1210 (gT_c mw_1209 (gT_c mw_1208 (gT_c mw_865 (gT_c mw_864 (gT_c mw_863 (gT_c mw_774 (gT_c mw_381 (gT_c mw_380 (gT_c mw_379 (gT_c mw_378 (gT_c mw_377 (gT_c mw_376 (gT_c mw_1220 (gT_c mw_1219 (gT_c mw_1218 gT_n)))))))))))))))))))))))
set_option maxRecDepth 20000 in
theorem gT_wsX10_simulate_r4 : GoodIn lw_tbl wsX10_simulate_r4 := gT_c mw_1217 (gT_c mw_880 (gT_c mw_879 (gT_c mw_878 (gT_c mw_1039 (gT_c mw_1038 (gT_c mw_1037 (gT_c mw_721 (gT_c mw_720 (gT_c mw_719 (gT_c mw_718 (gT_c mw_717 (gT_c mw_716 (gT_c mw_1036 (gT_c mw_1035 (gT_c mw_1034 (gT_c mw_1045 (gT_c mw_1044 (gT_c mw_1043 (gT_c mw_1042 (gT_c mw_1041 (gT_c mw_1040 (gT_c mw_1224 (gT_c mw_1223 gT_n)))))))))))))))))))))))
set_option maxRecDepth 20000 in
theorem gT_wsX10_simulate_r5 : GoodIn lw_tbl wsX10_simulate_r5 := gT_c mw_1222 (gT_c mw_1221 (gT_c mw_997 (gT_c mw_996 (gT_c mw_995 (gT_c mw_1232 (gT_c mw_1231 (gT_c mw_1230 (gT_c mw_1229 (gT_c mw_1082 (gT_c mw_1081 (gT_c mw_1080 (gT_c mw_1079 (gT_c mw_171 (gT_c mw_1086 (gT_c mw_1085 (gT_c mw_1084 (gT_c mw_1083 (gT_c mw_662 (gT_c mw_661 (gT_c mw_660 (gT_c mw_659 (gT_c mw_658 (gT_c mw_657 gT_n)))))))))))))))))))))))
set_option maxRecDepth 20000 in
theorem gT_wsX10_simulate_r6 : GoodIn lw_tbl wsX10_simulate_r6 := gT_c mw_656 (gT_c mw_655 (gT_c mw_654 (gT_c mw_691 (gT_c mw_690 (gT_c mw_689 (gT_c mw_688 (gT_c mw_687 (gT_c mw_686 (gT_c mw_685 (gT_c mw_684 (gT_c mw_683 (gT_c mw_682 (gT_c mw_681 (gT_c mw_680 (gT_c mw_679 (gT_c mw_678 (gT_c mw_677 (gT_c mw_676 (gT_c mw_675 (gT_c mw_674 (gT_c mw_673 (gT_c mw_672 (gT_c mw_671 gT_n)))))))))))))))))))))))
set_option maxRecDepth 20000 in
theorem gT_wsX10_simulate_r7 : GoodIn lw_tbl wsX10_simulate_r7 := gT_c mw_670 (gT_c mw_669 (gT_c mw_668 (gT_c mw_715 (gT_c mw_714 (gT_c mw_713 (gT_c mw_712 (gT_c mw_711 (gT_c mw_710 (gT_c mw_709 (gT_c mw_708 (gT_c mw_707 (gT_c mw_706 (gT_c mw_666 (gT_c mw_665 (gT_c mw_664 (gT_c mw_663 (gT_c mw_697 (gT_c mw_696 (gT_c mw_695 (gT_c mw_694 (gT_c mw_693 (gT_c mw_692 (gT_c mw_727 gT_n)))))))))))))))))))))))
set_option maxRecDepth 20000 in
theorem gT_wsX10_simulate_r8 : GoodIn lw_tbl wsX10_simulate_r8 := gT_c mw_726 gT_n
set_option maxRecDepth 20000 in
theorem gT_wsX10_simulate : GoodIn lw_tbl wsX10_simulate := gT_c mw_1248 (goodIn_app (goodIn_app (gT_wsX10_simulate_r1) (goodIn_app (gT_wsX10_simulate_r2) (goodIn_app (gT_wsX10_simulate_r3) (goodIn_app (gT_wsX10_simulate_r4) (goodIn_app (gT_wsX10_simulate_r5) (goodIn_app (gT_wsX10_simulate_r6) (goodIn_app (gT_wsX10_simulate_r7) (gT_wsX10_simulate_r8)))))))) (gT_wsX100))
set_option maxRecDepth 20000 in
theorem gT_wsL_save_r1 : GoodIn lw_tbl wsL_save_r1 := gT_c mw_742 (gT_c mw_1263 (gT_c mw_1262 (gT_c mw_1261 (gT_c mw_215 (gT_c mw_1260 (gT_c mw_8 (gT_c mw_3 (gT_c mw_6 (gT_c mw_516 (gT_c mw_515 (gT_c mw_1259 (gT_c mw_1258 (gT_c mw_1257 (gT_c mw_735 (gT_c mw_734 (gT_c mw_733 (gT_c mw_732 (gT_c mw_731 (gT_c mw_886 (gT_c mw_885 (gT_c mw_884 (gT_c mw_4 (gT_c mw_883 gT_n)))))))))))))))))))))))
set_option maxRecDepth 20000 in
theorem gT_wsL_save_r2 : GoodIn lw_tbl wsL_save_r2 := gT_c mw_62 (gT_c mw_58 (gT_c mw_54 (gT_c mw_50 (gT_c mw_49 (gT_c mw_882 (gT_c mw_907 (gT_c mw_906 (gT_c mw_905 (gT_c mw_904 (gT_c mw_903 (gT_c mw_902 (gT_c mw_63 (gT_c mw_901 (gT_c mw_466 (gT_c mw_93 (gT_c mw_900 (gT_c mw_92 (gT_c mw_899 (gT_c mw_898 (gT_c mw_897 (gT_c mw_59 (gT_c mw_896 (gT_c mw_448 gT_n)))))))))))))))))))))))
set_option maxRecDepth 20000 in
theorem gT_wsL_save_r3 : GoodIn lw_tbl wsL_save_r3 := gT_c mw_88 (gT_c mw_895 (gT_c mw_87 (gT_c mw_86 (gT_c mw_85 (gT_c mw_84 (gT_c mw_918 (gT_c mw_917 (gT_c mw_916 (gT_c mw_55 (gT_c mw_915 (gT_c mw_495 (gT_c mw_80 (gT_c mw_914 (gT_c mw_79 (gT_c mw_78 (gT_c mw_77 (gT_c mw_76 (gT_c mw_75 (gT_c mw_913 (gT_c mw_912 (gT_c mw_911 (gT_c mw_51 (gT_c mw_910 gT_n)))))))))))))))))))))))
set_option maxRecDepth 20000 in
theorem gT_wsL_save_r4 : GoodIn lw_tbl wsL_save_r4 := gT_c mw_110 (gT_c mw_909 (gT_c mw_109 gT_n))
set_option maxRecDepth 20000 in
theorem gT_wsL_save : GoodIn lw_tbl wsL_save := gT_c mw_1256 (goodIn_app (goodIn_app (goodIn_app (goodIn_app (goodIn_app (goodIn_app (goodIn_app (goodIn_app (gT_wsL_save_r1) (goodIn_app (gT_wsL_save_r2) (goodIn_app (gT_wsL_save_r3) (gT_wsL_save_r4)))) (gT_wsX90)) (gT_wsX60)) (gT_wsX40)) (gT_wsX30)) (gT_wsX00)) (gT_wsX50)) (gT_at369))
set_option maxRecDepth 20000 in
theorem gT_wsX10_save : GoodIn lw_tbl wsX10_save := gT_c mw_1264 (goodIn_app (gT_c mw_174 (gT_c mw_178 (gT_c mw_173 (gT_c mw_230 (gT_c mw_229 (gT_c mw_168 (gT_c mw_228 (gT_c mw_227 (gT_c mw_226 (gT_c mw_225 (gT_c mw_224 (gT_c mw_223 gT_n)))))))))))) (gT_wsX100))
set_option maxRecDepth 20000 in
theorem gT_wsL_restore_r1 : GoodIn lw_tbl wsL_restore_r1 := gT_c mw_742 (gT_c mw_219 (gT_c mw_1269 (gT_c mw_1268 (gT_c mw_1267 (gT_c mw_215 (gT_c mw_1266 (gT_c mw_6 (gT_c mw_3 (gT_c mw_8 (gT_c mw_10 (gT_c mw_516 (gT_c mw_515 (gT_c mw_1259 (gT_c mw_1258 (gT_c mw_1257 (gT_c mw_735 (gT_c mw_734 (gT_c mw_733 (gT_c mw_732 (gT_c mw_731 (gT_c mw_207 (gT_c mw_206 (gT_c mw_205 gT_n)))))))))))))))))))))))
set_option maxRecDepth 20000 in
theorem gT_wsL_restore_r2 : GoodIn lw_tbl wsL_restore_r2 := gT_c mw_204 (gT_c mw_203 (gT_c mw_886 (gT_c mw_885 (gT_c mw_884 (gT_c mw_4 (gT_c mw_883 (gT_c mw_62 (gT_c mw_58 (gT_c mw_54 (gT_c mw_50 (gT_c mw_49 (gT_c mw_882 (gT_c mw_907 (gT_c mw_906 (gT_c mw_905 (gT_c mw_904 (gT_c mw_903 (gT_c mw_902 (gT_c mw_63 (gT_c mw_901 (gT_c mw_466 (gT_c mw_93 (gT_c mw_900 gT_n)))))))))))))))))))))))
set_option maxRecDepth 20000 in
theorem gT_wsL_restore_r3 : GoodIn lw_tbl wsL_restore_r3 := gT_c mw_92 (gT_c mw_899 (gT_c mw_898 (gT_c mw_897 (gT_c mw_59 (gT_c mw_896 (gT_c mw_448 (gT_c mw_88 (gT_c mw_895 (gT_c mw_87 (gT_c mw_86 (gT_c mw_85 (gT_c mw_84 (gT_c mw_918 (gT_c mw_917 (gT_c mw_916 (gT_c mw_55 (gT_c mw_915 (gT_c mw_495 (gT_c mw_80 (gT_c mw_914 (gT_c mw_79 (gT_c mw_78 (gT_c mw_77 gT_n)))))))))))))))))))))))
set_option maxRecDepth 20000 in
theorem gT_wsL_restore_r4 : GoodIn lw_tbl wsL_restore_r4 := gT_c mw_76 (gT_c mw_75 (gT_c mw_913 (gT_c mw_912 (gT_c mw_911 (gT_c mw_51 (gT_c mw_910 (gT_c mw_110 (gT_c mw_909 (gT_c mw_109 (gT_c mw_421 (gT_c mw_420 (gT_c mw_419 (gT_c mw_11 (gT_c mw_418 (gT_c mw_417 gT_n)))))))))))))))
set_option maxRecDepth 20000 in
theorem gT_wsL_restore : GoodIn lw_tbl wsL_restore := gT_c mw_1265 (goodIn_app (goodIn_app (goodIn_app (goodIn_app (goodIn_app (goodIn_app (goodIn_app (goodIn_app (goodIn_app (goodIn_app (gT_wsL_restore_r1) (goodIn_app (gT_wsL_restore_r2) (goodIn_app (gT_wsL_restore_r3) (gT_wsL_restore_r4)))) (gT_wsX90)) (gT_wsX60)) (gT_wsX40)) (gT_wsX30)) (gT_wsX00)) (gT_wsX50)) (gT_wsX20)) (gT_at369)) (gT_at381))
set_option maxRecDepth 20000 in
theorem gT_wsX10_restore : GoodIn lw_tbl wsX10_restore := gT_c mw_1270 (goodIn_app (gT_c mw_173 (gT_c mw_178 (gT_c mw_174 (gT_c mw_506 (gT_c mw_230 (gT_c mw_229 (gT_c mw_168 (gT_c mw_228 (gT_c mw_227 (gT_c mw_226 (gT_c mw_225 (gT_c mw_224 (gT_c mw_223 gT_n))))))))))))) (gT_wsX100))
set_option maxRecDepth 20000 in
theorem gl_L_append : GoodIn lw_tbl (va_wsS RL 126 yL_append wsL_append) := goodIn_app (gT_c mw_1273 (gT_c mw_1272 (gT_c mw_1271 gT_n))) (gT_wsL_append)
set_option maxRecDepth 20000 in
theorem gl_X10_append : GoodIn lw_tbl (wsV RL 131 RX10 yX10_append wsX10_append) := goodIn_app (gT_c mw_1276 (gT_c mw_1275 (gT_c mw_1274 (gT_c mw_168 gT_n)))) (gT_wsX10_append)
set_option maxRecDepth 20000 in
theorem gl_X10_thrown : GoodIn lw_tbl (wsV RL 132 RX10 yX10_thrown wsX10_thrown) := goodIn_app (gT_c mw_1279 (gT_c mw_1278 (gT_c mw_1277 (gT_c mw_168 gT_n)))) (gT_wsX10_thrown)
set_option maxRecDepth 20000 in
theorem gl_X9_clearText : GoodIn lw_tbl (wsV RL 135 RX9 yX9_clearText wsX9_clearText) := goodIn_app (gT_c mw_1282 (gT_c mw_1281 (gT_c mw_1280 (gT_c mw_215 gT_n)))) (gT_wsX9_clearText)
set_option maxRecDepth 20000 in
theorem gl_X10_clearText : GoodIn lw_tbl (wsV RL 138 RX10 yX10_clearText wsX10_clearText) := goodIn_app (gT_c mw_1285 (gT_c mw_1284 (gT_c mw_1283 (gT_c mw_168 gT_n)))) (gT_wsX10_clearText)
set_option maxRecDepth 20000 in
theorem gl_X9_errorPosition : GoodIn lw_tbl (wsV RL 139 RX9 yX9_errorPosition wsX9_errorPosition) := goodIn_app (gT_c mw_1288 (gT_c mw_1287 (gT_c mw_1286 (gT_c mw_215 gT_n)))) (gT_wsX9_errorPosition)
set_option maxRecDepth 20000 in
theorem gl_X10_errorPosition : GoodIn lw_tbl (wsV RL 142 RX10 yX10_errorPosition wsX10_errorPosition) := goodIn_app (gT_c mw_1291 (gT_c mw_1290 (gT_c mw_1289 (gT_c mw_168 gT_n)))) (gT_wsX10_errorPosition)
set_option maxRecDepth 20000 in
theorem gl_L_load : GoodIn lw_tbl (va_wsS RL 143 yL_load wsL_load) := goodIn_app (gT_c mw_1293 (gT_c mw_1292 (gT_c mw_1271 gT_n))) (gT_wsL_load)
set_option maxRecDepth 20000 in
theorem gl_X10_load : GoodIn lw_tbl (wsV RL 146 RX10 yX10_load wsX10_load) := goodIn_app (gT_c mw_1296 (gT_c mw_1295 (gT_c mw_1294 (gT_c mw_168 gT_n)))) (gT_wsX10_load)
set_option maxRecDepth 20000 in
theorem gl_L_about : GoodIn lw_tbl (va_wsS RL 147 yL_about wsL_about) := goodIn_app (gT_c mw_1298 (gT_c mw_1297 (gT_c mw_1271 gT_n))) (gT_wsL_about)
set_option maxRecDepth 20000 in
theorem gl_X10_about : GoodIn lw_tbl (wsV RL 149 RX10 yX10_about wsX10_about) := goodIn_app (gT_c mw_1301 (gT_c mw_1300 (gT_c mw_1299 (gT_c mw_168 gT_n)))) (gT_wsX10_about)
set_option maxRecDepth 20000 in
theorem gl_L_ofReign : GoodIn lw_tbl (va_wsS RL 150 yL_ofReign wsL_ofReign) := goodIn_app (gT_c mw_1303 (gT_c mw_1302 (gT_c mw_1271 gT_n))) (gT_wsL_ofReign)
set_option maxRecDepth 20000 in
theorem gl_X10_ofReign : GoodIn lw_tbl (wsV RL 153 RX10 yX10_ofReign wsX10_ofReign) := goodIn_app (gT_c mw_1306 (gT_c mw_1305 (gT_c mw_1304 (gT_c mw_168 gT_n)))) (gT_wsX10_ofReign)
set_option maxRecDepth 20000 in
theorem gl_L_ofDie : GoodIn lw_tbl (va_wsS RL 154 yL_ofDie wsL_ofDie) := goodIn_app (gT_c mw_1308 (gT_c mw_1307 (gT_c mw_1271 gT_n))) (gT_wsL_ofDie)
set_option maxRecDepth 20000 in
theorem gl_X10_ofDie : GoodIn lw_tbl (wsV RL 156 RX10 yX10_ofDie wsX10_ofDie) := goodIn_app (gT_c mw_1311 (gT_c mw_1310 (gT_c mw_1309 (gT_c mw_168 gT_n)))) (gT_wsX10_ofDie)
set_option maxRecDepth 20000 in
theorem gl_L_crackYear : GoodIn lw_tbl (va_wsS RL 157 yL_crackYear wsL_crackYear) := goodIn_app (gT_c mw_1313 (gT_c mw_1312 (gT_c mw_1271 gT_n))) (gT_wsL_crackYear)
set_option maxRecDepth 20000 in
theorem gl_X10_crackYear : GoodIn lw_tbl (wsV RL 159 RX10 yX10_crackYear wsX10_crackYear) := goodIn_app (gT_c mw_1316 (gT_c mw_1315 (gT_c mw_1314 (gT_c mw_168 gT_n)))) (gT_wsX10_crackYear)
set_option maxRecDepth 20000 in
theorem gl_L_ofSeal : GoodIn lw_tbl (va_wsS RL 160 yL_ofSeal wsL_ofSeal) := goodIn_app (gT_c mw_1318 (gT_c mw_1317 (gT_c mw_1271 gT_n))) (gT_wsL_ofSeal)
set_option maxRecDepth 20000 in
theorem gl_X10_ofSeal : GoodIn lw_tbl (wsV RL 162 RX10 yX10_ofSeal wsX10_ofSeal) := goodIn_app (gT_c mw_1321 (gT_c mw_1320 (gT_c mw_1319 (gT_c mw_168 gT_n)))) (gT_wsX10_ofSeal)
set_option maxRecDepth 20000 in
theorem gl_L_dated : GoodIn lw_tbl (va_wsS RL 163 yL_dated wsL_dated) := goodIn_app (gT_c mw_1323 (gT_c mw_1322 (gT_c mw_1271 gT_n))) (gT_wsL_dated)
set_option maxRecDepth 20000 in
theorem gl_X10_dated : GoodIn lw_tbl (wsV RL 165 RX10 yX10_dated wsX10_dated) := goodIn_app (gT_c mw_1326 (gT_c mw_1325 (gT_c mw_1324 (gT_c mw_168 gT_n)))) (gT_wsX10_dated)
set_option maxRecDepth 20000 in
theorem gl_L_isPossible : GoodIn lw_tbl (va_wsS RL 166 yL_isPossible wsL_isPossible) := goodIn_app (gT_c mw_1328 (gT_c mw_1327 (gT_c mw_1271 gT_n))) (gT_wsL_isPossible)
set_option maxRecDepth 20000 in
theorem gl_X10_isPossible : GoodIn lw_tbl (wsV RL 168 RX10 yX10_isPossible wsX10_isPossible) := goodIn_app (gT_c mw_1331 (gT_c mw_1330 (gT_c mw_1329 (gT_c mw_168 gT_n)))) (gT_wsX10_isPossible)
set_option maxRecDepth 20000 in
theorem gl_L_charter : GoodIn lw_tbl (va_wsS RL 169 yL_charter wsL_charter) := goodIn_app (gT_c mw_1333 (gT_c mw_1332 (gT_c mw_1271 gT_n))) (gT_wsL_charter)
set_option maxRecDepth 20000 in
theorem gl_X10_charter : GoodIn lw_tbl (wsV RL 171 RX10 yX10_charter wsX10_charter) := goodIn_app (gT_c mw_1336 (gT_c mw_1335 (gT_c mw_1334 (gT_c mw_168 gT_n)))) (gT_wsX10_charter)
set_option maxRecDepth 20000 in
theorem gl_L_onShelf : GoodIn lw_tbl (va_wsS RL 172 yL_onShelf wsL_onShelf) := goodIn_app (gT_c mw_1338 (gT_c mw_1337 (gT_c mw_1271 gT_n))) (gT_wsL_onShelf)
set_option maxRecDepth 20000 in
theorem gl_X10_onShelf : GoodIn lw_tbl (wsV RL 174 RX10 yX10_onShelf wsX10_onShelf) := goodIn_app (gT_c mw_1341 (gT_c mw_1340 (gT_c mw_1339 (gT_c mw_168 gT_n)))) (gT_wsX10_onShelf)
set_option maxRecDepth 20000 in
theorem gl_L_reign : GoodIn lw_tbl (va_wsS RL 175 yL_reign wsL_reign) := goodIn_app (gT_c mw_1343 (gT_c mw_1342 (gT_c mw_1271 gT_n))) (gT_wsL_reign)
set_option maxRecDepth 20000 in
theorem gl_X10_reign : GoodIn lw_tbl (wsV RL 177 RX10 yX10_reign wsX10_reign) := goodIn_app (gT_c mw_1346 (gT_c mw_1345 (gT_c mw_1344 (gT_c mw_168 gT_n)))) (gT_wsX10_reign)
set_option maxRecDepth 20000 in
theorem gl_L_die : GoodIn lw_tbl (va_wsS RL 178 yL_die wsL_die) := goodIn_app (gT_c mw_1348 (gT_c mw_1347 (gT_c mw_1271 gT_n))) (gT_wsL_die)
set_option maxRecDepth 20000 in
theorem gl_X10_die : GoodIn lw_tbl (wsV RL 181 RX10 yX10_die wsX10_die) := goodIn_app (gT_c mw_1351 (gT_c mw_1350 (gT_c mw_1349 (gT_c mw_168 gT_n)))) (gT_wsX10_die)
set_option maxRecDepth 20000 in
theorem gl_L_crack : GoodIn lw_tbl (va_wsS RL 182 yL_crack wsL_crack) := goodIn_app (gT_c mw_1353 (gT_c mw_1352 (gT_c mw_1271 gT_n))) (gT_wsL_crack)
set_option maxRecDepth 20000 in
theorem gl_X10_crack : GoodIn lw_tbl (wsV RL 184 RX10 yX10_crack wsX10_crack) := goodIn_app (gT_c mw_1356 (gT_c mw_1355 (gT_c mw_1354 (gT_c mw_168 gT_n)))) (gT_wsX10_crack)
set_option maxRecDepth 20000 in
theorem gl_L_seal : GoodIn lw_tbl (va_wsS RL 185 yL_seal wsL_seal) := goodIn_app (gT_c mw_1358 (gT_c mw_1357 (gT_c mw_1271 gT_n))) (gT_wsL_seal)
set_option maxRecDepth 20000 in
theorem gl_X10_seal : GoodIn lw_tbl (wsV RL 188 RX10 yX10_seal wsX10_seal) := goodIn_app (gT_c mw_1361 (gT_c mw_1360 (gT_c mw_1359 (gT_c mw_168 gT_n)))) (gT_wsX10_seal)
set_option maxRecDepth 20000 in
theorem gl_L_show : GoodIn lw_tbl (va_wsS RL 189 yL_show wsL_show) := goodIn_app (gT_c mw_1363 (gT_c mw_1362 (gT_c mw_1271 gT_n))) (gT_wsL_show)
set_option maxRecDepth 20000 in
theorem gl_X10_show : GoodIn lw_tbl (wsV RL 191 RX10 yX10_show wsX10_show) := goodIn_app (gT_c mw_1366 (gT_c mw_1365 (gT_c mw_1364 (gT_c mw_168 gT_n)))) (gT_wsX10_show)
set_option maxRecDepth 20000 in
theorem gl_L_hang : GoodIn lw_tbl (va_wsS RL 192 yL_hang wsL_hang) := goodIn_app (gT_c mw_1368 (gT_c mw_1367 (gT_c mw_1271 gT_n))) (gT_wsL_hang)
set_option maxRecDepth 20000 in
theorem gl_X10_hang : GoodIn lw_tbl (wsV RL 194 RX10 yX10_hang wsX10_hang) := goodIn_app (gT_c mw_1371 (gT_c mw_1370 (gT_c mw_1369 (gT_c mw_168 gT_n)))) (gT_wsX10_hang)
set_option maxRecDepth 20000 in
theorem gl_L_cut : GoodIn lw_tbl (va_wsS RL 195 yL_cut wsL_cut) := goodIn_app (gT_c mw_1373 (gT_c mw_1372 (gT_c mw_1271 gT_n))) (gT_wsL_cut)
set_option maxRecDepth 20000 in
theorem gl_X10_cut : GoodIn lw_tbl (wsV RL 197 RX10 yX10_cut wsX10_cut) := goodIn_app (gT_c mw_1376 (gT_c mw_1375 (gT_c mw_1374 (gT_c mw_168 gT_n)))) (gT_wsX10_cut)
set_option maxRecDepth 20000 in
theorem gl_L_shelve : GoodIn lw_tbl (va_wsS RL 198 yL_shelve wsL_shelve) := goodIn_app (gT_c mw_1378 (gT_c mw_1377 (gT_c mw_1271 gT_n))) (gT_wsL_shelve)
set_option maxRecDepth 20000 in
theorem gl_X10_shelve : GoodIn lw_tbl (wsV RL 200 RX10 yX10_shelve wsX10_shelve) := goodIn_app (gT_c mw_1381 (gT_c mw_1380 (gT_c mw_1379 (gT_c mw_168 gT_n)))) (gT_wsX10_shelve)
set_option maxRecDepth 20000 in
theorem gl_L_take : GoodIn lw_tbl (va_wsS RL 201 yL_take wsL_take) := goodIn_app (gT_c mw_1383 (gT_c mw_1382 (gT_c mw_1271 gT_n))) (gT_wsL_take)
set_option maxRecDepth 20000 in
theorem gl_X10_take : GoodIn lw_tbl (wsV RL 203 RX10 yX10_take wsX10_take) := goodIn_app (gT_c mw_1386 (gT_c mw_1385 (gT_c mw_1384 (gT_c mw_168 gT_n)))) (gT_wsX10_take)
set_option maxRecDepth 20000 in
theorem gl_L_sort : GoodIn lw_tbl (va_wsS RL 204 yL_sort wsL_sort) := goodIn_app (gT_c mw_1388 (gT_c mw_1387 (gT_c mw_1271 gT_n))) (gT_wsL_sort)
set_option maxRecDepth 20000 in
theorem gl_X10_sort : GoodIn lw_tbl (wsV RL 206 RX10 yX10_sort wsX10_sort) := goodIn_app (gT_c mw_1391 (gT_c mw_1390 (gT_c mw_1389 (gT_c mw_168 gT_n)))) (gT_wsX10_sort)
set_option maxRecDepth 20000 in
theorem gl_L_set : GoodIn lw_tbl (va_wsS RL 207 yL_set wsL_set) := goodIn_app (gT_c mw_1393 (gT_c mw_1392 (gT_c mw_1271 gT_n))) (gT_wsL_set)
set_option maxRecDepth 20000 in
theorem gl_X10_set : GoodIn lw_tbl (wsV RL 209 RX10 yX10_set wsX10_set) := goodIn_app (gT_c mw_1396 (gT_c mw_1395 (gT_c mw_1394 (gT_c mw_168 gT_n)))) (gT_wsX10_set)
set_option maxRecDepth 20000 in
theorem gl_L_undo : GoodIn lw_tbl (va_wsS RL 210 yL_undo wsL_undo) := goodIn_app (gT_c mw_1398 (gT_c mw_1397 (gT_c mw_1271 gT_n))) (gT_wsL_undo)
set_option maxRecDepth 20000 in
theorem gl_X10_undo : GoodIn lw_tbl (wsV RL 212 RX10 yX10_undo wsX10_undo) := goodIn_app (gT_c mw_1401 (gT_c mw_1400 (gT_c mw_1399 (gT_c mw_168 gT_n)))) (gT_wsX10_undo)
set_option maxRecDepth 20000 in
theorem gl_L_older : GoodIn lw_tbl (va_wsS RL 213 yL_older wsL_older) := goodIn_app (gT_c mw_1403 (gT_c mw_1402 (gT_c mw_1271 gT_n))) (gT_wsL_older)
set_option maxRecDepth 20000 in
theorem gl_X10_older : GoodIn lw_tbl (wsV RL 215 RX10 yX10_older wsX10_older) := goodIn_app (gT_c mw_1406 (gT_c mw_1405 (gT_c mw_1404 (gT_c mw_168 gT_n)))) (gT_wsX10_older)
set_option maxRecDepth 20000 in
theorem gl_L_decides : GoodIn lw_tbl (va_wsS RL 216 yL_decides wsL_decides) := goodIn_app (gT_c mw_1408 (gT_c mw_1407 (gT_c mw_1271 gT_n))) (gT_wsL_decides)
set_option maxRecDepth 20000 in
theorem gl_X10_decides : GoodIn lw_tbl (wsV RL 218 RX10 yX10_decides wsX10_decides) := goodIn_app (gT_c mw_1411 (gT_c mw_1410 (gT_c mw_1409 (gT_c mw_168 gT_n)))) (gT_wsX10_decides)
set_option maxRecDepth 20000 in
theorem gl_L_ifCracked : GoodIn lw_tbl (va_wsS RL 219 yL_ifCracked wsL_ifCracked) := goodIn_app (gT_c mw_1413 (gT_c mw_1412 (gT_c mw_1271 gT_n))) (gT_wsL_ifCracked)
set_option maxRecDepth 20000 in
theorem gl_X10_ifCracked : GoodIn lw_tbl (wsV RL 221 RX10 yX10_ifCracked wsX10_ifCracked) := goodIn_app (gT_c mw_1416 (gT_c mw_1415 (gT_c mw_1414 (gT_c mw_168 gT_n)))) (gT_wsX10_ifCracked)
set_option maxRecDepth 20000 in
theorem gl_L_ifHung : GoodIn lw_tbl (va_wsS RL 222 yL_ifHung wsL_ifHung) := goodIn_app (gT_c mw_1418 (gT_c mw_1417 (gT_c mw_1271 gT_n))) (gT_wsL_ifHung)
set_option maxRecDepth 20000 in
theorem gl_X10_ifHung : GoodIn lw_tbl (wsV RL 224 RX10 yX10_ifHung wsX10_ifHung) := goodIn_app (gT_c mw_1421 (gT_c mw_1420 (gT_c mw_1419 (gT_c mw_168 gT_n)))) (gT_wsX10_ifHung)
set_option maxRecDepth 20000 in
theorem gl_L_inYear : GoodIn lw_tbl (va_wsS RL 225 yL_inYear wsL_inYear) := goodIn_app (gT_c mw_1423 (gT_c mw_1422 (gT_c mw_1271 gT_n))) (gT_wsL_inYear)
set_option maxRecDepth 20000 in
theorem gl_X10_inYear : GoodIn lw_tbl (wsV RL 227 RX10 yX10_inYear wsX10_inYear) := goodIn_app (gT_c mw_1426 (gT_c mw_1425 (gT_c mw_1424 (gT_c mw_168 gT_n)))) (gT_wsX10_inYear)
set_option maxRecDepth 20000 in
theorem gl_L_leastBubbles : GoodIn lw_tbl (va_wsS RL 228 yL_leastBubbles wsL_leastBubbles) := goodIn_app (gT_c mw_1428 (gT_c mw_1427 (gT_c mw_1271 gT_n))) (gT_wsL_leastBubbles)
set_option maxRecDepth 20000 in
theorem gl_X10_leastBubbles : GoodIn lw_tbl (wsV RL 230 RX10 yX10_leastBubbles wsX10_leastBubbles) := goodIn_app (gT_c mw_1431 (gT_c mw_1430 (gT_c mw_1429 (gT_c mw_168 gT_n)))) (gT_wsX10_leastBubbles)
set_option maxRecDepth 20000 in
theorem gl_L_runScript : GoodIn lw_tbl (va_wsS RL 233 yL_runScript wsL_runScript) := goodIn_app (gT_c mw_1433 (gT_c mw_1432 (gT_c mw_1271 gT_n))) (gT_wsL_runScript)
set_option maxRecDepth 20000 in
theorem gl_X10_runScript : GoodIn lw_tbl (wsV RL 236 RX10 yX10_runScript wsX10_runScript) := goodIn_app (gT_c mw_1436 (gT_c mw_1435 (gT_c mw_1434 (gT_c mw_168 gT_n)))) (gT_wsX10_runScript)
set_option maxRecDepth 20000 in
theorem gl_L_simulate : GoodIn lw_tbl (va_wsS RL 237 yL_simulate wsL_simulate) := goodIn_app (gT_c mw_1438 (gT_c mw_1437 (gT_c mw_1271 gT_n))) (gT_wsL_simulate)
set_option maxRecDepth 20000 in
theorem gl_X10_simulate : GoodIn lw_tbl (wsV RL 240 RX10 yX10_simulate wsX10_simulate) := goodIn_app (gT_c mw_1441 (gT_c mw_1440 (gT_c mw_1439 (gT_c mw_168 gT_n)))) (gT_wsX10_simulate)
set_option maxRecDepth 20000 in
theorem gl_L_save : GoodIn lw_tbl (va_wsS RL 241 yL_save wsL_save) := goodIn_app (gT_c mw_1443 (gT_c mw_1442 (gT_c mw_1271 gT_n))) (gT_wsL_save)
set_option maxRecDepth 20000 in
theorem gl_X10_save : GoodIn lw_tbl (wsV RL 243 RX10 yX10_save wsX10_save) := goodIn_app (gT_c mw_1446 (gT_c mw_1445 (gT_c mw_1444 (gT_c mw_168 gT_n)))) (gT_wsX10_save)
set_option maxRecDepth 20000 in
theorem gl_L_restore : GoodIn lw_tbl (va_wsS RL 244 yL_restore wsL_restore) := goodIn_app (gT_c mw_1448 (gT_c mw_1447 (gT_c mw_1271 gT_n))) (gT_wsL_restore)
set_option maxRecDepth 20000 in
theorem gl_X10_restore : GoodIn lw_tbl (wsV RL 246 RX10 yX10_restore wsX10_restore) := goodIn_app (gT_c mw_1451 (gT_c mw_1450 (gT_c mw_1449 (gT_c mw_168 gT_n)))) (gT_wsX10_restore)
