theorem wq0 : Cond.code yJ7_fill_53178 cJ7_fill_53178 4 none ∈ TB := tbm (tb1 (List.mem_of_getElem? (i := 45) rfl)) rfl
theorem wq1 : Cond.code yX1_init cX1_init 1 none ∈ TB := tbm (tb1 (List.mem_of_getElem? (i := 41) rfl)) rfl
theorem wq2 : Cond.methodLink RX1 3 objectInit ∈ TB := tbm (tb1 (List.mem_of_getElem? (i := 42) rfl)) rfl
theorem wq3 : Cond.instanceMethod objectInit ∈ TB := tbm (tb1 (List.mem_of_getElem? (i := 23) rfl)) rfl
theorem wq4 : Cond.code objectInit ⟨#[0xb1]⟩ 1 none ∈ TB := tbm (tb1 (List.mem_of_getElem? (i := 24) rfl)) rfl
theorem wq5 : Cond.fieldLink RX1 9 "SafeClears$Junction" "safety" "I" ∈ TB := tbm (tb1 (List.mem_of_getElem? (i := 49) rfl)) rfl
theorem wq6 : Cond.fieldLink RX1 15 "SafeClears$Junction" "kinds" "[I" ∈ TB := tbm (tb1 (List.mem_of_getElem? (i := 52) rfl)) rfl
theorem wq7 : Cond.fieldLink RX1 19 "SafeClears$Junction" "lengths" "[I" ∈ TB := tbm (tb1 (List.mem_of_getElem? (i := 55) rfl)) rfl
theorem wq8 : Cond.fieldLink RX1 22 "SafeClears$Junction" "ways" "[I" ∈ TB := tbm (tb1 (List.mem_of_getElem? (i := 58) rfl)) rfl
theorem wq9 : Cond.fieldLink RX1 25 "SafeClears$Junction" "bareClears" "[I" ∈ TB := tbm (tb1 (List.mem_of_getElem? (i := 59) rfl)) rfl
theorem wq10 : Cond.fieldLink RX1 28 "SafeClears$Junction" "narrows" "[I" ∈ TB := tbm (tb1 (List.mem_of_getElem? (i := 60) rfl)) rfl
theorem wq11 : Cond.methodLink RX1 31 yJ7_fill_53178 ∈ TB := tbm (tb1 (List.mem_of_getElem? (i := 43) rfl)) rfl
theorem wq12 : Cond.static yJ7_fill_53178 ∈ TB := tbm (tb1 (List.mem_of_getElem? (i := 44) rfl)) rfl
theorem wq13 : Cond.initialized RJ7 ∈ TB := tbm (tb1 (List.mem_of_getElem? (i := 5) rfl)) rfl
theorem wq14 : Cond.code yX5_init cX5_init 2 none ∈ TB := tbm (tb1 (List.mem_of_getElem? (i := 82) rfl)) rfl
theorem wq15 : Cond.methodLink RX5 3 objectInit ∈ TB := tbm (tb1 (List.mem_of_getElem? (i := 83) rfl)) rfl
theorem wq16 : Cond.fieldLink RX5 9 "SafeClears$Signals" "rules" "[I" ∈ TB := tbm (tb1 (List.mem_of_getElem? (i := 88) rfl)) rfl
theorem wq17 : Cond.fieldLink RX5 15 "SafeClears$Signals" "queue" "[I" ∈ TB := tbm (tb1 (List.mem_of_getElem? (i := 90) rfl)) rfl
theorem wq18 : Cond.fieldLink RX5 18 "SafeClears$Signals" "seen" "[I" ∈ TB := tbm (tb1 (List.mem_of_getElem? (i := 93) rfl)) rfl
theorem wq19 : Cond.fieldLink RX5 21 "SafeClears$Signals" "served" "[I" ∈ TB := tbm (tb1 (List.mem_of_getElem? (i := 95) rfl)) rfl
theorem wq20 : Cond.fieldLink RX5 24 "SafeClears$Signals" "began" "[I" ∈ TB := tbm (tb1 (List.mem_of_getElem? (i := 97) rfl)) rfl
theorem wq21 : Cond.fieldLink RX5 27 "SafeClears$Signals" "ended" "[I" ∈ TB := tbm (tb1 (List.mem_of_getElem? (i := 99) rfl)) rfl
theorem wq22 : Cond.fieldLink RX5 30 "SafeClears$Signals" "begun" "[I" ∈ TB := tbm (tb1 (List.mem_of_getElem? (i := 101) rfl)) rfl
theorem wq23 : Cond.methodLink RX5 33 yJ7_fill_53178 ∈ TB := tbm (tb1 (List.mem_of_getElem? (i := 84) rfl)) rfl
theorem wq24 : Cond.code yX2_init cX2_init 1 none ∈ TB := tbm (tb1 (List.mem_of_getElem? (i := 124) rfl)) rfl
theorem wq25 : Cond.methodLink RX2 3 objectInit ∈ TB := tbm (tb1 (List.mem_of_getElem? (i := 125) rfl)) rfl
theorem wq26 : Cond.fieldLink RX2 9 "SafeClears$Phases" "sets" "[I" ∈ TB := tbm (tb1 (List.mem_of_getElem? (i := 129) rfl)) rfl
theorem wq27 : Cond.fieldLink RX2 15 "SafeClears$Phases" "forces" "[I" ∈ TB := tbm (tb1 (List.mem_of_getElem? (i := 132) rfl)) rfl
theorem wq28 : Cond.fieldLink RX2 18 "SafeClears$Phases" "comings" "[I" ∈ TB := tbm (tb1 (List.mem_of_getElem? (i := 135) rfl)) rfl
theorem wq29 : Cond.code yX4_init cX4_init 2 none ∈ TB := tbm (tb1 (List.mem_of_getElem? (i := 151) rfl)) rfl
theorem wq30 : Cond.methodLink RX4 1 objectInit ∈ TB := tbm (tb1 (List.mem_of_getElem? (i := 152) rfl)) rfl
theorem wq31 : Cond.fieldLink RX4 7 "SafeClears$Rows" "most" "I" ∈ TB := tbm (tb1 (List.mem_of_getElem? (i := 157) rfl)) rfl
theorem wq32 : Cond.fieldLink RX4 13 "SafeClears$Rows" "items" "[I" ∈ TB := tbm (tb1 (List.mem_of_getElem? (i := 158) rfl)) rfl
theorem wq33 : Cond.methodLink RX0 3 objectInit ∈ TB := tbm (tb1 (List.mem_of_getElem? (i := 36) rfl)) rfl
theorem wq34 : Cond.classLink RX0 9 RX1 ∈ TB := tbm (tb1 (List.mem_of_getElem? (i := 37) rfl)) rfl
theorem wq35 : Cond.instantiable RX1 7 ∈ TB := tbm (tb1 (List.mem_of_getElem? (i := 38) rfl)) rfl
theorem wq36 : Cond.initialized RX1 ∈ TB := tbm (tb1 (List.mem_of_getElem? (i := 4) rfl)) rfl
theorem wq37 : Cond.fieldLink RX0 12 "SafeClears$Control" "junction" "LSafeClears$Junction;" ∈ TB := tbm (tb1 (List.mem_of_getElem? (i := 166) rfl)) rfl
theorem wq38 : Cond.classLink RX0 18 RX5 ∈ TB := tbm (tb1 (List.mem_of_getElem? (i := 78) rfl)) rfl
theorem wq39 : Cond.instantiable RX5 8 ∈ TB := tbm (tb1 (List.mem_of_getElem? (i := 79) rfl)) rfl
theorem wq40 : Cond.initialized RX5 ∈ TB := tbm (tb1 (List.mem_of_getElem? (i := 6) rfl)) rfl
theorem wq41 : Cond.fieldLink RX0 21 "SafeClears$Control" "signals" "LSafeClears$Signals;" ∈ TB := tbm (tb1 (List.mem_of_getElem? (i := 169) rfl)) rfl
theorem wq42 : Cond.classLink RX0 25 RX2 ∈ TB := tbm (tb1 (List.mem_of_getElem? (i := 120) rfl)) rfl
theorem wq43 : Cond.instantiable RX2 4 ∈ TB := tbm (tb1 (List.mem_of_getElem? (i := 121) rfl)) rfl
theorem wq44 : Cond.initialized RX2 ∈ TB := tbm (tb1 (List.mem_of_getElem? (i := 7) rfl)) rfl
theorem wq45 : Cond.fieldLink RX0 28 "SafeClears$Control" "phases" "LSafeClears$Phases;" ∈ TB := tbm (tb1 (List.mem_of_getElem? (i := 171) rfl)) rfl
theorem wq46 : Cond.classLink RX0 32 RX4 ∈ TB := tbm (tb1 (List.mem_of_getElem? (i := 147) rfl)) rfl
theorem wq47 : Cond.instantiable RX4 3 ∈ TB := tbm (tb1 (List.mem_of_getElem? (i := 148) rfl)) rfl
theorem wq48 : Cond.initialized RX4 ∈ TB := tbm (tb1 (List.mem_of_getElem? (i := 8) rfl)) rfl
theorem wq49 : Cond.fieldLink RX0 37 "SafeClears$Control" "record" "LSafeClears$Rows;" ∈ TB := tbm (tb1 (List.mem_of_getElem? (i := 173) rfl)) rfl
theorem wq50 : Cond.fieldLink RX0 41 "SafeClears$Control" "current" "I" ∈ TB := tbm (tb1 (List.mem_of_getElem? (i := 180) rfl)) rfl
theorem wq51 : Cond.fieldLink RX0 45 "SafeClears$Control" "cut" "I" ∈ TB := tbm (tb1 (List.mem_of_getElem? (i := 181) rfl)) rfl
theorem wq52 : Cond.fieldLink RX0 48 "SafeClears$Control" "emergency" "I" ∈ TB := tbm (tb1 (List.mem_of_getElem? (i := 182) rfl)) rfl
theorem wq53 : Cond.fieldLink RX0 51 "SafeClears$Control" "seed" "I" ∈ TB := tbm (tb1 (List.mem_of_getElem? (i := 190) rfl)) rfl
theorem wq54 : Cond.methodLink RX0 11 yX1_init ∈ TB := tbm (tb1 (List.mem_of_getElem? (i := 39) rfl)) rfl
theorem wq55 : Cond.instanceMethod yX1_init ∈ TB := tbm (tb1 (List.mem_of_getElem? (i := 40) rfl)) rfl
theorem wq56 : Cond.methodLink RX0 20 yX5_init ∈ TB := tbm (tb1 (List.mem_of_getElem? (i := 80) rfl)) rfl
theorem wq57 : Cond.instanceMethod yX5_init ∈ TB := tbm (tb1 (List.mem_of_getElem? (i := 81) rfl)) rfl
theorem wq58 : Cond.instanceMethod yX2_init ∈ TB := tbm (tb1 (List.mem_of_getElem? (i := 123) rfl)) rfl
theorem wq59 : Cond.methodLink RX0 34 yX4_init ∈ TB := tbm (tb1 (List.mem_of_getElem? (i := 149) rfl)) rfl
theorem wq60 : Cond.instanceMethod yX4_init ∈ TB := tbm (tb1 (List.mem_of_getElem? (i := 150) rfl)) rfl
theorem wq61 : Cond.code yX0_init cX0_init 1 none ∈ TB := tbm (tb1 (List.mem_of_getElem? (i := 35) rfl)) rfl
theorem wq62 : Cond.code yX1_copyFrom cX1_copyFrom 2 none ∈ TB := tbm (tb5 (List.mem_of_getElem? (i := 20) rfl)) rfl
theorem wq63 : Cond.fieldLink RX1 37 "SafeClears$Junction" "number" "I" ∈ TB := tbm (tb1 (List.mem_of_getElem? (i := 46) rfl)) rfl
theorem wq64 : Cond.methodLink RX1 40 arraycopyName ∈ TB := tbm (tb5 (List.mem_of_getElem? (i := 21) rfl)) rfl
theorem wq65 : Cond.native arraycopyName ∈ TB := tbm (tb3 (List.mem_of_getElem? (i := 151) rfl)) rfl
theorem wq66 : Cond.static arraycopyName ∈ TB := tbm (tb3 (List.mem_of_getElem? (i := 150) rfl)) rfl
theorem wq67 : Cond.initialized "java/lang/System" ∈ TB := tbm (tb1 (List.mem_of_getElem? (i := 14) rfl)) rfl
theorem wq68 : Cond.code yX5_copyFrom cX5_copyFrom 2 none ∈ TB := tbm (tb5 (List.mem_of_getElem? (i := 25) rfl)) rfl
theorem wq69 : Cond.fieldLink RX5 39 "SafeClears$Signals" "green" "I" ∈ TB := tbm (tb1 (List.mem_of_getElem? (i := 85) rfl)) rfl
theorem wq70 : Cond.methodLink RX5 43 arraycopyName ∈ TB := tbm (tb5 (List.mem_of_getElem? (i := 26) rfl)) rfl
theorem wq71 : Cond.code yX2_copyFrom cX2_copyFrom 2 none ∈ TB := tbm (tb5 (List.mem_of_getElem? (i := 30) rfl)) rfl
theorem wq72 : Cond.fieldLink RX2 21 "SafeClears$Phases" "number" "I" ∈ TB := tbm (tb1 (List.mem_of_getElem? (i := 126) rfl)) rfl
theorem wq73 : Cond.methodLink RX2 25 arraycopyName ∈ TB := tbm (tb5 (List.mem_of_getElem? (i := 31) rfl)) rfl
theorem wq74 : Cond.code yX4_copyFrom cX4_copyFrom 2 none ∈ TB := tbm (tb5 (List.mem_of_getElem? (i := 35) rfl)) rfl
theorem wq75 : Cond.fieldLink RX4 17 "SafeClears$Rows" "number" "I" ∈ TB := tbm (tb1 (List.mem_of_getElem? (i := 153) rfl)) rfl
theorem wq76 : Cond.methodLink RX4 20 Lib.Math.min.name ∈ TB := tbm (tb5 (List.mem_of_getElem? (i := 36) rfl)) rfl
theorem wq77 : Cond.static Lib.Math.min.name ∈ TB := tbm (tb2 (List.mem_of_getElem? (i := 209) rfl)) rfl
theorem wq78 : Cond.initialized "java/lang/Math" ∈ TB := tbm (tb1 (List.mem_of_getElem? (i := 13) rfl)) rfl
theorem wq79 : Cond.code Lib.Math.min.name Lib.Math.min.code 2 (some .int) ∈ TB := tbm (tb2 (List.mem_of_getElem? (i := 210) rfl)) rfl
theorem wq80 : Cond.methodLink RX4 26 arraycopyName ∈ TB := tbm (tb3 (List.mem_of_getElem? (i := 149) rfl)) rfl
theorem wq81 : Cond.fieldLink RX0 67 "SafeClears$Control" "started" "Z" ∈ TB := tbm (tb1 (List.mem_of_getElem? (i := 177) rfl)) rfl
theorem wq82 : Cond.fieldLink RX0 71 "SafeClears$Control" "second" "I" ∈ TB := tbm (tb1 (List.mem_of_getElem? (i := 178) rfl)) rfl
theorem wq83 : Cond.fieldLink RX0 74 "SafeClears$Control" "waited" "I" ∈ TB := tbm (tb1 (List.mem_of_getElem? (i := 184) rfl)) rfl
theorem wq84 : Cond.fieldLink RX0 77 "SafeClears$Control" "served" "I" ∈ TB := tbm (tb1 (List.mem_of_getElem? (i := 186) rfl)) rfl
theorem wq85 : Cond.fieldLink RX0 80 "SafeClears$Control" "lost" "I" ∈ TB := tbm (tb1 (List.mem_of_getElem? (i := 188) rfl)) rfl
theorem wq86 : Cond.fieldLink RX0 83 "SafeClears$Control" "cycle" "I" ∈ TB := tbm (tb1 (List.mem_of_getElem? (i := 192) rfl)) rfl
theorem wq87 : Cond.fieldLink RX0 86 "SafeClears$Control" "offset" "I" ∈ TB := tbm (tb1 (List.mem_of_getElem? (i := 194) rfl)) rfl
theorem wq88 : Cond.fieldLink RX0 89 "SafeClears$Control" "split" "I" ∈ TB := tbm (tb1 (List.mem_of_getElem? (i := 196) rfl)) rfl
theorem wq89 : Cond.methodLink RX0 54 yX1_copyFrom ∈ TB := tbm (tb5 (List.mem_of_getElem? (i := 17) rfl)) rfl
theorem wq90 : Cond.instanceMethod yX1_copyFrom ∈ TB := tbm (tb5 (List.mem_of_getElem? (i := 18) rfl)) rfl
theorem wq91 : Cond.selects RX1 yX1_copyFrom yX1_copyFrom ∈ TB := tbm (tb5 (List.mem_of_getElem? (i := 19) rfl)) rfl
theorem wq92 : Cond.methodLink RX0 58 yX5_copyFrom ∈ TB := tbm (tb5 (List.mem_of_getElem? (i := 22) rfl)) rfl
theorem wq93 : Cond.instanceMethod yX5_copyFrom ∈ TB := tbm (tb5 (List.mem_of_getElem? (i := 23) rfl)) rfl
theorem wq94 : Cond.selects RX5 yX5_copyFrom yX5_copyFrom ∈ TB := tbm (tb5 (List.mem_of_getElem? (i := 24) rfl)) rfl
theorem wq95 : Cond.methodLink RX0 61 yX2_copyFrom ∈ TB := tbm (tb5 (List.mem_of_getElem? (i := 27) rfl)) rfl
theorem wq96 : Cond.instanceMethod yX2_copyFrom ∈ TB := tbm (tb5 (List.mem_of_getElem? (i := 28) rfl)) rfl
theorem wq97 : Cond.selects RX2 yX2_copyFrom yX2_copyFrom ∈ TB := tbm (tb5 (List.mem_of_getElem? (i := 29) rfl)) rfl
theorem wq98 : Cond.methodLink RX0 64 yX4_copyFrom ∈ TB := tbm (tb5 (List.mem_of_getElem? (i := 32) rfl)) rfl
theorem wq99 : Cond.instanceMethod yX4_copyFrom ∈ TB := tbm (tb5 (List.mem_of_getElem? (i := 33) rfl)) rfl
theorem wq100 : Cond.selects RX4 yX4_copyFrom yX4_copyFrom ∈ TB := tbm (tb5 (List.mem_of_getElem? (i := 34) rfl)) rfl
theorem wq101 : Cond.code yX0_copyFrom cX0_copyFrom 2 none ∈ TB := tbm (tb5 (List.mem_of_getElem? (i := 16) rfl)) rfl
theorem wq102 : Cond.code yX0_comeOn cX0_comeOn 2 none ∈ TB := tbm (tb3 (List.mem_of_getElem? (i := 62) rfl)) rfl
theorem wq103 : Cond.fieldLink RX0 95 "SafeClears$Phases" "comings" "[I" ∈ TB := tbm (tb1 (List.mem_of_getElem? (i := 136) rfl)) rfl
theorem wq104 : Cond.code yX0_begin cX0_begin 1 none ∈ TB := tbm (tb3 (List.mem_of_getElem? (i := 58) rfl)) rfl
theorem wq105 : Cond.methodLink RX0 92 yX0_comeOn ∈ TB := tbm (tb3 (List.mem_of_getElem? (i := 59) rfl)) rfl
theorem wq106 : Cond.instanceMethod yX0_comeOn ∈ TB := tbm (tb3 (List.mem_of_getElem? (i := 61) rfl)) rfl
theorem wq107 : Cond.selects RX0 yX0_comeOn yX0_comeOn ∈ TB := tbm (List.mem_append_left _ (k2_sel_in (lwp1 (List.mem_of_getElem? (i := 11) rfl)))) rfl
theorem wq108 : Cond.initialized RX0 ∈ TB := tbm (tb1 (List.mem_of_getElem? (i := 3) rfl)) rfl
theorem wq109 : Cond.code yX9_isIn cX9_isIn 2 (some .boolean) ∈ TB := tbm (tb3 (List.mem_of_getElem? (i := 38) rfl)) rfl
theorem wq110 : Cond.code yX2_firstWith cX2_firstWith 3 (some .int) ∈ TB := tbm (tb3 (List.mem_of_getElem? (i := 90) rfl)) rfl
theorem wq111 : Cond.static yX9_isIn ∈ TB := tbm (tb3 (List.mem_of_getElem? (i := 37) rfl)) rfl
theorem wq112 : Cond.initialized RX9 ∈ TB := tbm (tb1 (List.mem_of_getElem? (i := 1) rfl)) rfl
theorem wq113 : Cond.code yX0_declare cX0_declare 2 (some .boolean) ∈ TB := tbm (tb3 (List.mem_of_getElem? (i := 86) rfl)) rfl
theorem wq114 : Cond.methodLink RX0 99 yX2_firstWith ∈ TB := tbm (tb3 (List.mem_of_getElem? (i := 87) rfl)) rfl
theorem wq115 : Cond.instanceMethod yX2_firstWith ∈ TB := tbm (tb3 (List.mem_of_getElem? (i := 88) rfl)) rfl
theorem wq116 : Cond.selects RX2 yX2_firstWith yX2_firstWith ∈ TB := tbm (tb3 (List.mem_of_getElem? (i := 89) rfl)) rfl
theorem wq117 : Cond.code yX5_rule cX5_rule 3 (some .int) ∈ TB := tbm (tb2 (List.mem_of_getElem? (i := 203) rfl)) rfl
theorem wq118 : Cond.code yX0_drawBelow60 cX0_drawBelow60 1 (some .int) ∈ TB := tbm (tb3 (List.mem_of_getElem? (i := 121) rfl)) rfl
theorem wq119 : Cond.constant RX0 148 (1103515245) ∈ TB := tbm (tb3 (List.mem_of_getElem? (i := 122) rfl)) rfl
theorem wq120 : Cond.code yX5_join cX5_join 4 (some .int) ∈ TB := tbm (tb3 (List.mem_of_getElem? (i := 74) rfl)) rfl
theorem wq121 : Cond.methodLink RX5 53 Lib.Math.min.name ∈ TB := tbm (tb2 (List.mem_of_getElem? (i := 208) rfl)) rfl
theorem wq122 : Cond.fieldLink RX0 132 "SafeClears$Junction" "number" "I" ∈ TB := tbm (tb1 (List.mem_of_getElem? (i := 48) rfl)) rfl
theorem wq123 : Cond.fieldLink RX0 110 "SafeClears$Signals" "queue" "[I" ∈ TB := tbm (tb1 (List.mem_of_getElem? (i := 91) rfl)) rfl
theorem wq124 : Cond.fieldLink RX0 145 "SafeClears$Signals" "seen" "[I" ∈ TB := tbm (tb1 (List.mem_of_getElem? (i := 94) rfl)) rfl
theorem wq125 : Cond.methodLink RX0 135 yX5_rule ∈ TB := tbm (tb3 (List.mem_of_getElem? (i := 117) rfl)) rfl
theorem wq126 : Cond.instanceMethod yX5_rule ∈ TB := tbm (tb2 (List.mem_of_getElem? (i := 201) rfl)) rfl
theorem wq127 : Cond.selects RX5 yX5_rule yX5_rule ∈ TB := tbm (tb2 (List.mem_of_getElem? (i := 202) rfl)) rfl
theorem wq128 : Cond.methodLink RX0 139 yX0_drawBelow60 ∈ TB := tbm (tb3 (List.mem_of_getElem? (i := 118) rfl)) rfl
theorem wq129 : Cond.instanceMethod yX0_drawBelow60 ∈ TB := tbm (tb3 (List.mem_of_getElem? (i := 120) rfl)) rfl
theorem wq130 : Cond.selects RX0 yX0_drawBelow60 yX0_drawBelow60 ∈ TB := tbm (List.mem_append_left _ (k2_sel_in (lwp1 (List.mem_of_getElem? (i := 15) rfl)))) rfl
theorem wq131 : Cond.methodLink RX0 142 yX5_join ∈ TB := tbm (tb3 (List.mem_of_getElem? (i := 123) rfl)) rfl
theorem wq132 : Cond.instanceMethod yX5_join ∈ TB := tbm (tb3 (List.mem_of_getElem? (i := 72) rfl)) rfl
theorem wq133 : Cond.selects RX5 yX5_join yX5_join ∈ TB := tbm (tb3 (List.mem_of_getElem? (i := 73) rfl)) rfl
theorem wq134 : Cond.code yX0_letCome cX0_letCome 3 none ∈ TB := tbm (tb3 (List.mem_of_getElem? (i := 116) rfl)) rfl
theorem wq135 : Cond.code yX5_isGreen cX5_isGreen 2 (some .boolean) ∈ TB := tbm (tb3 (List.mem_of_getElem? (i := 136) rfl)) rfl
theorem wq136 : Cond.code yX0_isOneTooFreshToCut cX0_isOneTooFreshToCut 3 (some .boolean) ∈ TB := tbm (tb3 (List.mem_of_getElem? (i := 132) rfl)) rfl
theorem wq137 : Cond.fieldLink RX0 166 "SafeClears$Signals" "began" "[I" ∈ TB := tbm (tb1 (List.mem_of_getElem? (i := 98) rfl)) rfl
theorem wq138 : Cond.methodLink RX0 163 yX5_isGreen ∈ TB := tbm (tb3 (List.mem_of_getElem? (i := 133) rfl)) rfl
theorem wq139 : Cond.instanceMethod yX5_isGreen ∈ TB := tbm (tb3 (List.mem_of_getElem? (i := 134) rfl)) rfl
theorem wq140 : Cond.selects RX5 yX5_isGreen yX5_isGreen ∈ TB := tbm (tb3 (List.mem_of_getElem? (i := 135) rfl)) rfl
theorem wq141 : Cond.code yX5_endGreen cX5_endGreen 3 none ∈ TB := tbm (tb3 (List.mem_of_getElem? (i := 144) rfl)) rfl
theorem wq142 : Cond.code yX4_add cX4_add 5 (some .boolean) ∈ TB := tbm (tb3 (List.mem_of_getElem? (i := 155) rfl)) rfl
theorem wq143 : Cond.code yX4_addAsLatest cX4_addAsLatest 4 none ∈ TB := tbm (tb3 (List.mem_of_getElem? (i := 148) rfl)) rfl
theorem wq144 : Cond.methodLink RX4 32 yX4_add ∈ TB := tbm (tb3 (List.mem_of_getElem? (i := 152) rfl)) rfl
theorem wq145 : Cond.instanceMethod yX4_add ∈ TB := tbm (tb3 (List.mem_of_getElem? (i := 153) rfl)) rfl
theorem wq146 : Cond.selects RX4 yX4_add yX4_add ∈ TB := tbm (tb3 (List.mem_of_getElem? (i := 154) rfl)) rfl
theorem wq147 : Cond.fieldLink RX0 149 "SafeClears$Phases" "sets" "[I" ∈ TB := tbm (tb1 (List.mem_of_getElem? (i := 130) rfl)) rfl
theorem wq148 : Cond.methodLink RX0 203 yX5_endGreen ∈ TB := tbm (tb3 (List.mem_of_getElem? (i := 141) rfl)) rfl
theorem wq149 : Cond.instanceMethod yX5_endGreen ∈ TB := tbm (tb3 (List.mem_of_getElem? (i := 142) rfl)) rfl
theorem wq150 : Cond.selects RX5 yX5_endGreen yX5_endGreen ∈ TB := tbm (tb3 (List.mem_of_getElem? (i := 143) rfl)) rfl
theorem wq151 : Cond.methodLink RX0 207 yX4_addAsLatest ∈ TB := tbm (tb3 (List.mem_of_getElem? (i := 145) rfl)) rfl
theorem wq152 : Cond.instanceMethod yX4_addAsLatest ∈ TB := tbm (tb3 (List.mem_of_getElem? (i := 146) rfl)) rfl
theorem wq153 : Cond.selects RX4 yX4_addAsLatest yX4_addAsLatest ∈ TB := tbm (tb3 (List.mem_of_getElem? (i := 147) rfl)) rfl
theorem wq154 : Cond.code yX0_changeTo cX0_changeTo 3 none ∈ TB := tbm (tb3 (List.mem_of_getElem? (i := 140) rfl)) rfl
theorem wq155 : Cond.methodLink RX0 156 yX0_isOneTooFreshToCut ∈ TB := tbm (tb3 (List.mem_of_getElem? (i := 129) rfl)) rfl
theorem wq156 : Cond.instanceMethod yX0_isOneTooFreshToCut ∈ TB := tbm (tb3 (List.mem_of_getElem? (i := 131) rfl)) rfl
theorem wq157 : Cond.selects RX0 yX0_isOneTooFreshToCut yX0_isOneTooFreshToCut ∈ TB := tbm (List.mem_append_left _ (k2_sel_in (lwp2 (List.mem_of_getElem? (i := 1) rfl)))) rfl
theorem wq158 : Cond.methodLink RX0 160 yX0_changeTo ∈ TB := tbm (tb3 (List.mem_of_getElem? (i := 137) rfl)) rfl
theorem wq159 : Cond.instanceMethod yX0_changeTo ∈ TB := tbm (tb3 (List.mem_of_getElem? (i := 139) rfl)) rfl
theorem wq160 : Cond.selects RX0 yX0_changeTo yX0_changeTo ∈ TB := tbm (List.mem_append_left _ (k2_sel_in (lwp2 (List.mem_of_getElem? (i := 2) rfl)))) rfl
theorem wq161 : Cond.code yX0_changeForEmergency cX0_changeForEmergency 2 none ∈ TB := tbm (tb3 (List.mem_of_getElem? (i := 127) rfl)) rfl
theorem wq162 : Cond.code yJ9_floorMod_7cf53 cJ9_floorMod_7cf53 3 (some .int) ∈ TB := tbm (tb3 (List.mem_of_getElem? (i := 170) rfl)) rfl
theorem wq163 : Cond.code yX0_local cX0_local 1 (some .int) ∈ TB := tbm (tb3 (List.mem_of_getElem? (i := 167) rfl)) rfl
theorem wq164 : Cond.methodLink RX0 237 yJ9_floorMod_7cf53 ∈ TB := tbm (tb3 (List.mem_of_getElem? (i := 168) rfl)) rfl
theorem wq165 : Cond.static yJ9_floorMod_7cf53 ∈ TB := tbm (tb3 (List.mem_of_getElem? (i := 169) rfl)) rfl
theorem wq166 : Cond.code yX0_isHeld cX0_isHeld 1 (some .boolean) ∈ TB := tbm (tb3 (List.mem_of_getElem? (i := 163) rfl)) rfl
theorem wq167 : Cond.methodLink RX0 191 yX0_local ∈ TB := tbm (tb3 (List.mem_of_getElem? (i := 164) rfl)) rfl
theorem wq168 : Cond.instanceMethod yX0_local ∈ TB := tbm (tb3 (List.mem_of_getElem? (i := 166) rfl)) rfl
theorem wq169 : Cond.selects RX0 yX0_local yX0_local ∈ TB := tbm (List.mem_append_left _ (k2_sel_in (lwp2 (List.mem_of_getElem? (i := 5) rfl)))) rfl
theorem wq170 : Cond.code yX0_isInPhase cX0_isInPhase 2 (some .boolean) ∈ TB := tbm (tb3 (List.mem_of_getElem? (i := 178) rfl)) rfl
theorem wq171 : Cond.code yX0_isGreenFor cX0_isGreenFor 3 (some .boolean) ∈ TB := tbm (tb3 (List.mem_of_getElem? (i := 182) rfl)) rfl
theorem wq172 : Cond.methodLink RX0 197 yX0_isInPhase ∈ TB := tbm (tb3 (List.mem_of_getElem? (i := 175) rfl)) rfl
theorem wq173 : Cond.instanceMethod yX0_isInPhase ∈ TB := tbm (tb3 (List.mem_of_getElem? (i := 177) rfl)) rfl
theorem wq174 : Cond.selects RX0 yX0_isInPhase yX0_isInPhase ∈ TB := tbm (List.mem_append_left _ (k2_sel_in (lwp2 (List.mem_of_getElem? (i := 7) rfl)))) rfl
theorem wq175 : Cond.methodLink RX0 200 yX0_isGreenFor ∈ TB := tbm (tb3 (List.mem_of_getElem? (i := 179) rfl)) rfl
theorem wq176 : Cond.instanceMethod yX0_isGreenFor ∈ TB := tbm (tb3 (List.mem_of_getElem? (i := 181) rfl)) rfl
theorem wq177 : Cond.selects RX0 yX0_isGreenFor yX0_isGreenFor ∈ TB := tbm (List.mem_append_left _ (k2_sel_in (lwp2 (List.mem_of_getElem? (i := 8) rfl)))) rfl
theorem wq178 : Cond.code yX0_areAllGreenForLeast cX0_areAllGreenForLeast 2 (some .boolean) ∈ TB := tbm (tb3 (List.mem_of_getElem? (i := 174) rfl)) rfl
theorem wq179 : Cond.code yX5_calling cX5_calling 3 (some .int) ∈ TB := tbm (tb3 (List.mem_of_getElem? (i := 190) rfl)) rfl
theorem wq180 : Cond.methodLink RX5 58 yX5_isGreen ∈ TB := tbm (tb3 (List.mem_of_getElem? (i := 191) rfl)) rfl
theorem wq181 : Cond.code yX0_calledPhases cX0_calledPhases 5 (some .int) ∈ TB := tbm (tb3 (List.mem_of_getElem? (i := 186) rfl)) rfl
theorem wq182 : Cond.fieldLink RX0 190 "SafeClears$Phases" "number" "I" ∈ TB := tbm (tb1 (List.mem_of_getElem? (i := 128) rfl)) rfl
theorem wq183 : Cond.methodLink RX0 234 yX5_calling ∈ TB := tbm (tb3 (List.mem_of_getElem? (i := 187) rfl)) rfl
theorem wq184 : Cond.instanceMethod yX5_calling ∈ TB := tbm (tb3 (List.mem_of_getElem? (i := 188) rfl)) rfl
theorem wq185 : Cond.selects RX5 yX5_calling yX5_calling ∈ TB := tbm (tb3 (List.mem_of_getElem? (i := 189) rfl)) rfl
theorem wq186 : Cond.code yX0_isForced cX0_isForced 1 (some .boolean) ∈ TB := tbm (tb3 (List.mem_of_getElem? (i := 195) rfl)) rfl
theorem wq187 : Cond.fieldLink RX0 194 "SafeClears$Phases" "forces" "[I" ∈ TB := tbm (tb1 (List.mem_of_getElem? (i := 133) rfl)) rfl
theorem wq188 : Cond.code yX0_isOneGreenForMost cX0_isOneGreenForMost 2 (some .boolean) ∈ TB := tbm (tb3 (List.mem_of_getElem? (i := 199) rfl)) rfl
theorem wq189 : Cond.code yX0_areAllGapsOver cX0_areAllGapsOver 3 (some .boolean) ∈ TB := tbm (tb3 (List.mem_of_getElem? (i := 203) rfl)) rfl
theorem wq190 : Cond.code yX0_nextOf cX0_nextOf 3 (some .int) ∈ TB := tbm (tb3 (List.mem_of_getElem? (i := 207) rfl)) rfl
theorem wq191 : Cond.methodLink RX0 169 yX0_isHeld ∈ TB := tbm (tb3 (List.mem_of_getElem? (i := 160) rfl)) rfl
theorem wq192 : Cond.instanceMethod yX0_isHeld ∈ TB := tbm (tb3 (List.mem_of_getElem? (i := 162) rfl)) rfl
theorem wq193 : Cond.selects RX0 yX0_isHeld yX0_isHeld ∈ TB := tbm (List.mem_append_left _ (k2_sel_in (lwp2 (List.mem_of_getElem? (i := 4) rfl)))) rfl
theorem wq194 : Cond.methodLink RX0 172 yX0_areAllGreenForLeast ∈ TB := tbm (tb3 (List.mem_of_getElem? (i := 171) rfl)) rfl
theorem wq195 : Cond.instanceMethod yX0_areAllGreenForLeast ∈ TB := tbm (tb3 (List.mem_of_getElem? (i := 173) rfl)) rfl
theorem wq196 : Cond.selects RX0 yX0_areAllGreenForLeast yX0_areAllGreenForLeast ∈ TB := tbm (List.mem_append_left _ (k2_sel_in (lwp2 (List.mem_of_getElem? (i := 6) rfl)))) rfl
theorem wq197 : Cond.methodLink RX0 175 yX0_calledPhases ∈ TB := tbm (tb3 (List.mem_of_getElem? (i := 183) rfl)) rfl
theorem wq198 : Cond.instanceMethod yX0_calledPhases ∈ TB := tbm (tb3 (List.mem_of_getElem? (i := 184) rfl)) rfl
theorem wq199 : Cond.selects RX0 yX0_calledPhases yX0_calledPhases ∈ TB := tbm (tb3 (List.mem_of_getElem? (i := 185) rfl)) rfl
theorem wq200 : Cond.methodLink RX0 178 yX0_isForced ∈ TB := tbm (tb3 (List.mem_of_getElem? (i := 192) rfl)) rfl
theorem wq201 : Cond.instanceMethod yX0_isForced ∈ TB := tbm (tb3 (List.mem_of_getElem? (i := 194) rfl)) rfl
theorem wq202 : Cond.selects RX0 yX0_isForced yX0_isForced ∈ TB := tbm (List.mem_append_left _ (k2_sel_in (lwp2 (List.mem_of_getElem? (i := 9) rfl)))) rfl
theorem wq203 : Cond.methodLink RX0 181 yX0_isOneGreenForMost ∈ TB := tbm (tb3 (List.mem_of_getElem? (i := 196) rfl)) rfl
theorem wq204 : Cond.instanceMethod yX0_isOneGreenForMost ∈ TB := tbm (tb3 (List.mem_of_getElem? (i := 198) rfl)) rfl
theorem wq205 : Cond.selects RX0 yX0_isOneGreenForMost yX0_isOneGreenForMost ∈ TB := tbm (List.mem_append_left _ (k2_sel_in (lwp2 (List.mem_of_getElem? (i := 10) rfl)))) rfl
theorem wq206 : Cond.methodLink RX0 184 yX0_areAllGapsOver ∈ TB := tbm (tb3 (List.mem_of_getElem? (i := 200) rfl)) rfl
theorem wq207 : Cond.instanceMethod yX0_areAllGapsOver ∈ TB := tbm (tb3 (List.mem_of_getElem? (i := 202) rfl)) rfl
theorem wq208 : Cond.selects RX0 yX0_areAllGapsOver yX0_areAllGapsOver ∈ TB := tbm (List.mem_append_left _ (k2_sel_in (lwp2 (List.mem_of_getElem? (i := 11) rfl)))) rfl
theorem wq209 : Cond.methodLink RX0 187 yX0_nextOf ∈ TB := tbm (tb3 (List.mem_of_getElem? (i := 204) rfl)) rfl
theorem wq210 : Cond.instanceMethod yX0_nextOf ∈ TB := tbm (tb3 (List.mem_of_getElem? (i := 206) rfl)) rfl
theorem wq211 : Cond.selects RX0 yX0_nextOf yX0_nextOf ∈ TB := tbm (List.mem_append_left _ (k2_sel_in (lwp2 (List.mem_of_getElem? (i := 12) rfl)))) rfl
theorem wq212 : Cond.code yX0_changeByCalls cX0_changeByCalls 3 none ∈ TB := tbm (tb3 (List.mem_of_getElem? (i := 159) rfl)) rfl
theorem wq213 : Cond.code yX1_meet cX1_meet 3 (some .boolean) ∈ TB := tbm (tb3 (List.mem_of_getElem? (i := 46) rfl)) rfl
theorem wq214 : Cond.code yX1_clearOf cX1_clearOf 3 (some .int) ∈ TB := tbm (tb3 (List.mem_of_getElem? (i := 220) rfl)) rfl
theorem wq215 : Cond.code yX0_isClearFor cX0_isClearFor 4 (some .boolean) ∈ TB := tbm (tb3 (List.mem_of_getElem? (i := 215) rfl)) rfl
theorem wq216 : Cond.fieldLink RX0 217 "SafeClears$Signals" "ended" "[I" ∈ TB := tbm (tb1 (List.mem_of_getElem? (i := 100) rfl)) rfl
theorem wq217 : Cond.methodLink RX0 220 yX1_meet ∈ TB := tbm (tb3 (List.mem_of_getElem? (i := 216) rfl)) rfl
theorem wq218 : Cond.instanceMethod yX1_meet ∈ TB := tbm (tb3 (List.mem_of_getElem? (i := 44) rfl)) rfl
theorem wq219 : Cond.selects RX1 yX1_meet yX1_meet ∈ TB := tbm (tb3 (List.mem_of_getElem? (i := 45) rfl)) rfl
theorem wq220 : Cond.methodLink RX0 223 yX1_clearOf ∈ TB := tbm (tb3 (List.mem_of_getElem? (i := 217) rfl)) rfl
theorem wq221 : Cond.instanceMethod yX1_clearOf ∈ TB := tbm (tb3 (List.mem_of_getElem? (i := 218) rfl)) rfl
theorem wq222 : Cond.selects RX1 yX1_clearOf yX1_clearOf ∈ TB := tbm (tb3 (List.mem_of_getElem? (i := 219) rfl)) rfl
theorem wq223 : Cond.code yX5_beginGreen cX5_beginGreen 3 none ∈ TB := tbm (tb3 (List.mem_of_getElem? (i := 224) rfl)) rfl
theorem wq224 : Cond.methodLink RX0 211 yX0_isClearFor ∈ TB := tbm (tb3 (List.mem_of_getElem? (i := 212) rfl)) rfl
theorem wq225 : Cond.instanceMethod yX0_isClearFor ∈ TB := tbm (tb3 (List.mem_of_getElem? (i := 214) rfl)) rfl
theorem wq226 : Cond.selects RX0 yX0_isClearFor yX0_isClearFor ∈ TB := tbm (List.mem_append_left _ (k2_sel_in (lwp2 (List.mem_of_getElem? (i := 14) rfl)))) rfl
theorem wq227 : Cond.methodLink RX0 214 yX5_beginGreen ∈ TB := tbm (tb3 (List.mem_of_getElem? (i := 221) rfl)) rfl
theorem wq228 : Cond.instanceMethod yX5_beginGreen ∈ TB := tbm (tb3 (List.mem_of_getElem? (i := 222) rfl)) rfl
theorem wq229 : Cond.selects RX5 yX5_beginGreen yX5_beginGreen ∈ TB := tbm (tb3 (List.mem_of_getElem? (i := 223) rfl)) rfl
theorem wq230 : Cond.code yX0_turnGreen cX0_turnGreen 2 none ∈ TB := tbm (tb3 (List.mem_of_getElem? (i := 211) rfl)) rfl
theorem wq231 : Cond.code yX0_goersOf cX0_goersOf 3 (some .int) ∈ TB := tbm (tb3 (List.mem_of_getElem? (i := 232) rfl)) rfl
theorem wq232 : Cond.fieldLink RX0 231 "SafeClears$Junction" "kinds" "[I" ∈ TB := tbm (tb1 (List.mem_of_getElem? (i := 53) rfl)) rfl
theorem wq233 : Cond.code yX0_letGo cX0_letGo 3 none ∈ TB := tbm (tb3 (List.mem_of_getElem? (i := 228) rfl)) rfl
theorem wq234 : Cond.fieldLink RX0 229 "SafeClears$Signals" "served" "[I" ∈ TB := tbm (tb1 (List.mem_of_getElem? (i := 96) rfl)) rfl
theorem wq235 : Cond.methodLink RX0 226 yX0_goersOf ∈ TB := tbm (tb3 (List.mem_of_getElem? (i := 229) rfl)) rfl
theorem wq236 : Cond.instanceMethod yX0_goersOf ∈ TB := tbm (tb3 (List.mem_of_getElem? (i := 231) rfl)) rfl
theorem wq237 : Cond.selects RX0 yX0_goersOf yX0_goersOf ∈ TB := tbm (List.mem_append_left _ (k2_sel_in (lwp3 (List.mem_of_getElem? (i := 0) rfl)))) rfl
theorem wq238 : Cond.code yX5_allQueues cX5_allQueues 3 (some .int) ∈ TB := tbm (tb3 (List.mem_of_getElem? (i := 236) rfl)) rfl
theorem wq239 : Cond.methodLink RX0 113 yX0_letCome ∈ TB := tbm (tb3 (List.mem_of_getElem? (i := 113) rfl)) rfl
theorem wq240 : Cond.instanceMethod yX0_letCome ∈ TB := tbm (tb3 (List.mem_of_getElem? (i := 115) rfl)) rfl
theorem wq241 : Cond.selects RX0 yX0_letCome yX0_letCome ∈ TB := tbm (List.mem_append_left _ (k2_sel_in (lwp1 (List.mem_of_getElem? (i := 14) rfl)))) rfl
theorem wq242 : Cond.methodLink RX0 116 yX0_changeForEmergency ∈ TB := tbm (tb3 (List.mem_of_getElem? (i := 124) rfl)) rfl
theorem wq243 : Cond.instanceMethod yX0_changeForEmergency ∈ TB := tbm (tb3 (List.mem_of_getElem? (i := 126) rfl)) rfl
theorem wq244 : Cond.selects RX0 yX0_changeForEmergency yX0_changeForEmergency ∈ TB := tbm (List.mem_append_left _ (k2_sel_in (lwp2 (List.mem_of_getElem? (i := 0) rfl)))) rfl
theorem wq245 : Cond.methodLink RX0 119 yX0_changeByCalls ∈ TB := tbm (tb3 (List.mem_of_getElem? (i := 156) rfl)) rfl
theorem wq246 : Cond.instanceMethod yX0_changeByCalls ∈ TB := tbm (tb3 (List.mem_of_getElem? (i := 158) rfl)) rfl
theorem wq247 : Cond.selects RX0 yX0_changeByCalls yX0_changeByCalls ∈ TB := tbm (List.mem_append_left _ (k2_sel_in (lwp2 (List.mem_of_getElem? (i := 3) rfl)))) rfl
theorem wq248 : Cond.methodLink RX0 122 yX0_turnGreen ∈ TB := tbm (tb3 (List.mem_of_getElem? (i := 208) rfl)) rfl
theorem wq249 : Cond.instanceMethod yX0_turnGreen ∈ TB := tbm (tb3 (List.mem_of_getElem? (i := 210) rfl)) rfl
theorem wq250 : Cond.selects RX0 yX0_turnGreen yX0_turnGreen ∈ TB := tbm (List.mem_append_left _ (k2_sel_in (lwp2 (List.mem_of_getElem? (i := 13) rfl)))) rfl
theorem wq251 : Cond.methodLink RX0 125 yX0_letGo ∈ TB := tbm (tb3 (List.mem_of_getElem? (i := 225) rfl)) rfl
theorem wq252 : Cond.instanceMethod yX0_letGo ∈ TB := tbm (tb3 (List.mem_of_getElem? (i := 227) rfl)) rfl
theorem wq253 : Cond.selects RX0 yX0_letGo yX0_letGo ∈ TB := tbm (List.mem_append_left _ (k2_sel_in (lwp2 (List.mem_of_getElem? (i := 15) rfl)))) rfl
theorem wq254 : Cond.methodLink RX0 128 yX5_allQueues ∈ TB := tbm (tb3 (List.mem_of_getElem? (i := 233) rfl)) rfl
theorem wq255 : Cond.instanceMethod yX5_allQueues ∈ TB := tbm (tb3 (List.mem_of_getElem? (i := 234) rfl)) rfl
theorem wq256 : Cond.selects RX5 yX5_allQueues yX5_allQueues ∈ TB := tbm (tb3 (List.mem_of_getElem? (i := 235) rfl)) rfl
theorem wq257 : Cond.code yX0_passSeconds cX0_passSeconds 3 none ∈ TB := tbm (tb3 (List.mem_of_getElem? (i := 112) rfl)) rfl
theorem wq258 : Cond.methodLink RX0 103 yX0_passSeconds ∈ TB := tbm (tb5 (List.mem_of_getElem? (i := 110) rfl)) rfl
theorem wq259 : Cond.instanceMethod yX0_passSeconds ∈ TB := tbm (tb3 (List.mem_of_getElem? (i := 110) rfl)) rfl
theorem wq260 : Cond.selects RX0 yX0_passSeconds yX0_passSeconds ∈ TB := tbm (tb3 (List.mem_of_getElem? (i := 111) rfl)) rfl
theorem wq261 : Cond.methodLink RX0 106 yX0_declare ∈ TB := tbm (tb5 (List.mem_of_getElem? (i := 111) rfl)) rfl
theorem wq262 : Cond.instanceMethod yX0_declare ∈ TB := tbm (tb3 (List.mem_of_getElem? (i := 84) rfl)) rfl
theorem wq263 : Cond.selects RX0 yX0_declare yX0_declare ∈ TB := tbm (tb3 (List.mem_of_getElem? (i := 85) rfl)) rfl
theorem wq264 : Cond.code yX0_obey cX0_obey 3 none ∈ TB := tbm (tb5 (List.mem_of_getElem? (i := 109) rfl)) rfl
theorem wq265 : Cond.code yX1_amber cX1_amber 2 (some .int) ∈ TB := tbm (tb2 (List.mem_of_getElem? (i := 166) rfl)) rfl
theorem wq266 : Cond.code yX0_lightOf cX0_lightOf 3 (some .int) ∈ TB := tbm (tb4 (List.mem_of_getElem? (i := 12) rfl)) rfl
theorem wq267 : Cond.methodLink RX0 242 yX1_amber ∈ TB := tbm (tb4 (List.mem_of_getElem? (i := 13) rfl)) rfl
theorem wq268 : Cond.instanceMethod yX1_amber ∈ TB := tbm (tb2 (List.mem_of_getElem? (i := 164) rfl)) rfl
theorem wq269 : Cond.selects RX1 yX1_amber yX1_amber ∈ TB := tbm (tb2 (List.mem_of_getElem? (i := 165) rfl)) rfl
theorem wq270 : Cond.code yX0_amberSignals cX0_amberSignals 3 (some .int) ∈ TB := tbm (tb4 (List.mem_of_getElem? (i := 8) rfl)) rfl
theorem wq271 : Cond.methodLink RX0 245 yX0_lightOf ∈ TB := tbm (tb4 (List.mem_of_getElem? (i := 9) rfl)) rfl
theorem wq272 : Cond.instanceMethod yX0_lightOf ∈ TB := tbm (tb4 (List.mem_of_getElem? (i := 10) rfl)) rfl
theorem wq273 : Cond.selects RX0 yX0_lightOf yX0_lightOf ∈ TB := tbm (tb4 (List.mem_of_getElem? (i := 11) rfl)) rfl
theorem wq274 : Cond.fieldLink RX0 248 "SafeClears$Signals" "green" "I" ∈ TB := tbm (tb1 (List.mem_of_getElem? (i := 86) rfl)) rfl
theorem wq275 : Cond.fieldLink RX0 254 "SafeClears$Junction" "safety" "I" ∈ TB := tbm (tb1 (List.mem_of_getElem? (i := 51) rfl)) rfl
theorem wq276 : Cond.methodLink RX0 251 yX0_amberSignals ∈ TB := tbm (tb4 (List.mem_of_getElem? (i := 5) rfl)) rfl
theorem wq277 : Cond.instanceMethod yX0_amberSignals ∈ TB := tbm (tb4 (List.mem_of_getElem? (i := 7) rfl)) rfl
theorem wq278 : Cond.selects RX0 yX0_amberSignals yX0_amberSignals ∈ TB := tbm (List.mem_append_left _ (k2_sel_in (lwp3 (List.mem_of_getElem? (i := 1) rfl)))) rfl
theorem wq279 : Cond.code yX0_fact cX0_fact 2 (some .int) ∈ TB := tbm (tb4 (List.mem_of_getElem? (i := 4) rfl)) rfl
theorem wq280 : Cond.code yX1_meetersOf cX1_meetersOf 4 (some .int) ∈ TB := tbm (tb3 (List.mem_of_getElem? (i := 42) rfl)) rfl
theorem wq281 : Cond.methodLink RX1 85 yX1_meet ∈ TB := tbm (tb3 (List.mem_of_getElem? (i := 43) rfl)) rfl
theorem wq282 : Cond.fieldLink RX0 257 "SafeClears$Junction" "lengths" "[I" ∈ TB := tbm (tb1 (List.mem_of_getElem? (i := 57) rfl)) rfl
theorem wq283 : Cond.fieldLink RX0 263 "SafeClears$Signals" "begun" "[I" ∈ TB := tbm (tb1 (List.mem_of_getElem? (i := 102) rfl)) rfl
theorem wq284 : Cond.methodLink RX0 260 yX1_meetersOf ∈ TB := tbm (tb4 (List.mem_of_getElem? (i := 22) rfl)) rfl
theorem wq285 : Cond.instanceMethod yX1_meetersOf ∈ TB := tbm (tb3 (List.mem_of_getElem? (i := 40) rfl)) rfl
theorem wq286 : Cond.selects RX1 yX1_meetersOf yX1_meetersOf ∈ TB := tbm (tb3 (List.mem_of_getElem? (i := 41) rfl)) rfl
theorem wq287 : Cond.code yX0_factOf cX0_factOf 3 (some .int) ∈ TB := tbm (tb4 (List.mem_of_getElem? (i := 21) rfl)) rfl
theorem wq288 : Cond.code yX4_at cX4_at 3 (some .int) ∈ TB := tbm (tb4 (List.mem_of_getElem? (i := 85) rfl)) rfl
theorem wq289 : Cond.code yX0_recordedGreens cX0_recordedGreens 4 (some .int) ∈ TB := tbm (tb4 (List.mem_of_getElem? (i := 93) rfl)) rfl
theorem wq290 : Cond.fieldLink RX0 266 "SafeClears$Rows" "number" "I" ∈ TB := tbm (tb1 (List.mem_of_getElem? (i := 156) rfl)) rfl
theorem wq291 : Cond.methodLink RX0 267 yX4_at ∈ TB := tbm (tb4 (List.mem_of_getElem? (i := 94) rfl)) rfl
theorem wq292 : Cond.instanceMethod yX4_at ∈ TB := tbm (tb4 (List.mem_of_getElem? (i := 83) rfl)) rfl
theorem wq293 : Cond.selects RX4 yX4_at yX4_at ∈ TB := tbm (tb4 (List.mem_of_getElem? (i := 84) rfl)) rfl
theorem wq294 : Cond.code yX0_recordedLength cX0_recordedLength 2 (some .int) ∈ TB := tbm (tb4 (List.mem_of_getElem? (i := 102) rfl)) rfl
theorem wq295 : Cond.code yX0_recordedTime cX0_recordedTime 4 (some .int) ∈ TB := tbm (tb4 (List.mem_of_getElem? (i := 98) rfl)) rfl
theorem wq296 : Cond.methodLink RX0 270 yX0_recordedLength ∈ TB := tbm (tb4 (List.mem_of_getElem? (i := 99) rfl)) rfl
theorem wq297 : Cond.instanceMethod yX0_recordedLength ∈ TB := tbm (tb4 (List.mem_of_getElem? (i := 101) rfl)) rfl
theorem wq298 : Cond.selects RX0 yX0_recordedLength yX0_recordedLength ∈ TB := tbm (List.mem_append_left _ (k2_sel_in (lwp3 (List.mem_of_getElem? (i := 3) rfl)))) rfl
theorem wq299 : Cond.code yX0_shortestGreen cX0_shortestGreen 4 (some .int) ∈ TB := tbm (tb4 (List.mem_of_getElem? (i := 106) rfl)) rfl
theorem wq300 : Cond.code yX0_longestGreen cX0_longestGreen 4 (some .int) ∈ TB := tbm (tb4 (List.mem_of_getElem? (i := 110) rfl)) rfl
theorem wq301 : Cond.methodLink RX0 273 Lib.Math.max.name ∈ TB := tbm (tb4 (List.mem_of_getElem? (i := 111) rfl)) rfl
theorem wq302 : Cond.static Lib.Math.max.name ∈ TB := tbm (tb2 (List.mem_of_getElem? (i := 180) rfl)) rfl
theorem wq303 : Cond.code Lib.Math.max.name Lib.Math.max.code 2 (some .int) ∈ TB := tbm (tb2 (List.mem_of_getElem? (i := 181) rfl)) rfl
theorem wq304 : Cond.code yX1_cellAt cX1_cellAt 3 (some .int) ∈ TB := tbm (tb2 (List.mem_of_getElem? (i := 154) rfl)) rfl
theorem wq305 : Cond.code yX1_placeOf cX1_placeOf 4 (some .int) ∈ TB := tbm (tb2 (List.mem_of_getElem? (i := 158) rfl)) rfl
theorem wq306 : Cond.methodLink RX1 54 yX1_cellAt ∈ TB := tbm (tb2 (List.mem_of_getElem? (i := 151) rfl)) rfl
theorem wq307 : Cond.instanceMethod yX1_cellAt ∈ TB := tbm (tb2 (List.mem_of_getElem? (i := 152) rfl)) rfl
theorem wq308 : Cond.selects RX1 yX1_cellAt yX1_cellAt ∈ TB := tbm (tb2 (List.mem_of_getElem? (i := 153) rfl)) rfl
theorem wq309 : Cond.code yX1_pace cX1_pace 2 (some .int) ∈ TB := tbm (tb2 (List.mem_of_getElem? (i := 172) rfl)) rfl
theorem wq310 : Cond.code yX1_reaches cX1_reaches 4 (some .int) ∈ TB := tbm (tb2 (List.mem_of_getElem? (i := 178) rfl)) rfl
theorem wq311 : Cond.methodLink RX1 82 yX1_pace ∈ TB := tbm (tb2 (List.mem_of_getElem? (i := 169) rfl)) rfl
theorem wq312 : Cond.instanceMethod yX1_pace ∈ TB := tbm (tb2 (List.mem_of_getElem? (i := 171) rfl)) rfl
theorem wq313 : Cond.selects RX1 yX1_pace yX1_pace ∈ TB := tbm (List.mem_append_left _ (k2_sel_in (lwp1 (List.mem_of_getElem? (i := 1) rfl)))) rfl
theorem wq314 : Cond.methodLink RX0 276 yX1_placeOf ∈ TB := tbm (tb4 (List.mem_of_getElem? (i := 132) rfl)) rfl
theorem wq315 : Cond.instanceMethod yX1_placeOf ∈ TB := tbm (tb2 (List.mem_of_getElem? (i := 156) rfl)) rfl
theorem wq316 : Cond.selects RX1 yX1_placeOf yX1_placeOf ∈ TB := tbm (tb2 (List.mem_of_getElem? (i := 157) rfl)) rfl
theorem wq317 : Cond.methodLink RX0 279 yX1_reaches ∈ TB := tbm (tb4 (List.mem_of_getElem? (i := 133) rfl)) rfl
theorem wq318 : Cond.instanceMethod yX1_reaches ∈ TB := tbm (tb2 (List.mem_of_getElem? (i := 176) rfl)) rfl
theorem wq319 : Cond.selects RX1 yX1_reaches yX1_reaches ∈ TB := tbm (tb2 (List.mem_of_getElem? (i := 177) rfl)) rfl
theorem wq320 : Cond.code yX0_takersNow cX0_takersNow 6 (some .int) ∈ TB := tbm (tb4 (List.mem_of_getElem? (i := 131) rfl)) rfl
theorem wq321 : Cond.code yX1_leaves cX1_leaves 4 (some .int) ∈ TB := tbm (tb2 (List.mem_of_getElem? (i := 162) rfl)) rfl
theorem wq322 : Cond.methodLink RX1 67 yX1_amber ∈ TB := tbm (tb2 (List.mem_of_getElem? (i := 163) rfl)) rfl
theorem wq323 : Cond.methodLink RX1 71 Lib.Math.max.name ∈ TB := tbm (tb2 (List.mem_of_getElem? (i := 179) rfl)) rfl
theorem wq324 : Cond.methodLink RX1 57 yX1_placeOf ∈ TB := tbm (tb2 (List.mem_of_getElem? (i := 155) rfl)) rfl
theorem wq325 : Cond.methodLink RX1 60 yX1_leaves ∈ TB := tbm (tb2 (List.mem_of_getElem? (i := 159) rfl)) rfl
theorem wq326 : Cond.instanceMethod yX1_leaves ∈ TB := tbm (tb2 (List.mem_of_getElem? (i := 160) rfl)) rfl
theorem wq327 : Cond.selects RX1 yX1_leaves yX1_leaves ∈ TB := tbm (tb2 (List.mem_of_getElem? (i := 161) rfl)) rfl
theorem wq328 : Cond.methodLink RX1 64 yX1_reaches ∈ TB := tbm (tb2 (List.mem_of_getElem? (i := 175) rfl)) rfl
theorem wq329 : Cond.code yX1_measure cX1_measure 9 none ∈ TB := tbm (tb2 (List.mem_of_getElem? (i := 150) rfl)) rfl
theorem wq330 : Cond.methodLink RX1 50 yX1_measure ∈ TB := tbm (tb2 (List.mem_of_getElem? (i := 147) rfl)) rfl
theorem wq331 : Cond.instanceMethod yX1_measure ∈ TB := tbm (tb2 (List.mem_of_getElem? (i := 149) rfl)) rfl
theorem wq332 : Cond.selects RX1 yX1_measure yX1_measure ∈ TB := tbm (List.mem_append_left _ (k2_sel_in (lwp1 (List.mem_of_getElem? (i := 0) rfl)))) rfl
theorem wq333 : Cond.code yX1_addCell cX1_addCell 4 (some .int) ∈ TB := tbm (tb2 (List.mem_of_getElem? (i := 146) rfl)) rfl
theorem wq334 : Cond.methodLink RX1 46 yX1_addCell ∈ TB := tbm (tb2 (List.mem_of_getElem? (i := 143) rfl)) rfl
theorem wq335 : Cond.instanceMethod yX1_addCell ∈ TB := tbm (tb2 (List.mem_of_getElem? (i := 144) rfl)) rfl
theorem wq336 : Cond.selects RX1 yX1_addCell yX1_addCell ∈ TB := tbm (tb2 (List.mem_of_getElem? (i := 145) rfl)) rfl
theorem wq337 : Cond.code yX1_addSignal cX1_addSignal 4 (some .int) ∈ TB := tbm (tb2 (List.mem_of_getElem? (i := 142) rfl)) rfl
theorem wq338 : Cond.code yX1_twoMeetIn cX1_twoMeetIn 3 (some .boolean) ∈ TB := tbm (tb3 (List.mem_of_getElem? (i := 35) rfl)) rfl
theorem wq339 : Cond.methodLink RX1 92 yX1_meetersOf ∈ TB := tbm (tb3 (List.mem_of_getElem? (i := 39) rfl)) rfl
theorem wq340 : Cond.code yJ6_bitCount_0f7a4 cJ6_bitCount_0f7a4 1 (some .int) ∈ TB := tbm (tb4 (List.mem_of_getElem? (i := 48) rfl)) rfl
theorem wq341 : Cond.constant RJ6 265 (1431655765) ∈ TB := tbm (tb4 (List.mem_of_getElem? (i := 49) rfl)) rfl
theorem wq342 : Cond.constant RJ6 266 (858993459) ∈ TB := tbm (tb4 (List.mem_of_getElem? (i := 50) rfl)) rfl
theorem wq343 : Cond.constant RJ6 267 (252645135) ∈ TB := tbm (tb4 (List.mem_of_getElem? (i := 51) rfl)) rfl
theorem wq344 : Cond.code yX1_meetings cX1_meetings 3 (some .int) ∈ TB := tbm (tb4 (List.mem_of_getElem? (i := 45) rfl)) rfl
theorem wq345 : Cond.methodLink RX1 95 yJ6_bitCount_0f7a4 ∈ TB := tbm (tb4 (List.mem_of_getElem? (i := 46) rfl)) rfl
theorem wq346 : Cond.static yJ6_bitCount_0f7a4 ∈ TB := tbm (tb4 (List.mem_of_getElem? (i := 47) rfl)) rfl
theorem wq347 : Cond.initialized RJ6 ∈ TB := tbm (tb1 (List.mem_of_getElem? (i := 15) rfl)) rfl
theorem wq348 : Cond.code yX1_greatestClear cX1_greatestClear 4 (some .int) ∈ TB := tbm (tb4 (List.mem_of_getElem? (i := 55) rfl)) rfl
theorem wq349 : Cond.methodLink RX1 100 yX1_clearOf ∈ TB := tbm (tb4 (List.mem_of_getElem? (i := 56) rfl)) rfl
theorem wq350 : Cond.code yX1_allClears cX1_allClears 4 (some .int) ∈ TB := tbm (tb4 (List.mem_of_getElem? (i := 60) rfl)) rfl
theorem wq351 : Cond.code yX2_add cX2_add 4 (some .int) ∈ TB := tbm (tb3 (List.mem_of_getElem? (i := 50) rfl)) rfl
theorem wq352 : Cond.code yX3_init cX3_init 1 none ∈ TB := tbm (tb2 (List.mem_of_getElem? (i := 38) rfl)) rfl
theorem wq353 : Cond.methodLink RX3 3 objectInit ∈ TB := tbm (tb2 (List.mem_of_getElem? (i := 39) rfl)) rfl
theorem wq354 : Cond.fieldLink RX3 9 "SafeClears$Reader" "signs" "[I" ∈ TB := tbm (tb2 (List.mem_of_getElem? (i := 40) rfl)) rfl
theorem wq355 : Cond.fieldLink RX3 15 "SafeClears$Reader" "kinds" "[I" ∈ TB := tbm (tb2 (List.mem_of_getElem? (i := 48) rfl)) rfl
theorem wq356 : Cond.fieldLink RX3 18 "SafeClears$Reader" "lengths" "[I" ∈ TB := tbm (tb2 (List.mem_of_getElem? (i := 50) rfl)) rfl
theorem wq357 : Cond.fieldLink RX3 21 "SafeClears$Reader" "ways" "[I" ∈ TB := tbm (tb2 (List.mem_of_getElem? (i := 52) rfl)) rfl
theorem wq358 : Cond.fieldLink RX3 24 "SafeClears$Reader" "numbers" "[I" ∈ TB := tbm (tb2 (List.mem_of_getElem? (i := 54) rfl)) rfl
theorem wq359 : Cond.code yX3_append cX3_append 2 (some .int) ∈ TB := tbm (tb2 (List.mem_of_getElem? (i := 219) rfl)) rfl
theorem wq360 : Cond.fieldLink RX3 27 "SafeClears$Reader" "length" "I" ∈ TB := tbm (tb2 (List.mem_of_getElem? (i := 41) rfl)) rfl
theorem wq361 : Cond.code yX3_sign cX3_sign 1 (some .int) ∈ TB := tbm (tb2 (List.mem_of_getElem? (i := 235) rfl)) rfl
theorem wq362 : Cond.fieldLink RX3 31 "SafeClears$Reader" "place" "I" ∈ TB := tbm (tb2 (List.mem_of_getElem? (i := 43) rfl)) rfl
theorem wq363 : Cond.code yX3_kindOf cX3_kindOf 1 (some .int) ∈ TB := tbm (tb2 (List.mem_of_getElem? (i := 238) rfl)) rfl
theorem wq364 : Cond.code yX3_failAt cX3_failAt 2 (some .boolean) ∈ TB := tbm (tb3 (List.mem_of_getElem? (i := 2) rfl)) rfl
theorem wq365 : Cond.fieldLink RX3 48 "SafeClears$Reader" "fault" "I" ∈ TB := tbm (tb2 (List.mem_of_getElem? (i := 44) rfl)) rfl
theorem wq366 : Cond.code yX9_within cX9_within 3 (some .boolean) ∈ TB := tbm (tb2 (List.mem_of_getElem? (i := 138) rfl)) rfl
theorem wq367 : Cond.code yX3_hasCell cX3_hasCell 4 (some .boolean) ∈ TB := tbm (tb3 (List.mem_of_getElem? (i := 11) rfl)) rfl
theorem wq368 : Cond.code yX3_parseWay cX3_parseWay 5 (some .boolean) ∈ TB := tbm (tb3 (List.mem_of_getElem? (i := 6) rfl)) rfl
theorem wq369 : Cond.methodLink RX3 41 yX3_sign ∈ TB := tbm (tb2 (List.mem_of_getElem? (i := 232) rfl)) rfl
theorem wq370 : Cond.instanceMethod yX3_sign ∈ TB := tbm (tb2 (List.mem_of_getElem? (i := 234) rfl)) rfl
theorem wq371 : Cond.selects RX3 yX3_sign yX3_sign ∈ TB := tbm (List.mem_append_left _ (k2_sel_in (lwp1 (List.mem_of_getElem? (i := 4) rfl)))) rfl
theorem wq372 : Cond.initialized RX3 ∈ TB := tbm (tb1 (List.mem_of_getElem? (i := 10) rfl)) rfl
theorem wq373 : Cond.static yX9_within ∈ TB := tbm (tb2 (List.mem_of_getElem? (i := 137) rfl)) rfl
theorem wq374 : Cond.methodLink RX3 45 yX3_failAt ∈ TB := tbm (tb2 (List.mem_of_getElem? (i := 239) rfl)) rfl
theorem wq375 : Cond.instanceMethod yX3_failAt ∈ TB := tbm (tb3 (List.mem_of_getElem? (i := 1) rfl)) rfl
theorem wq376 : Cond.selects RX3 yX3_failAt yX3_failAt ∈ TB := tbm (List.mem_append_left _ (k2_sel_in (lwp1 (List.mem_of_getElem? (i := 5) rfl)))) rfl
theorem wq377 : Cond.methodLink RX3 65 yX3_hasCell ∈ TB := tbm (tb3 (List.mem_of_getElem? (i := 8) rfl)) rfl
theorem wq378 : Cond.instanceMethod yX3_hasCell ∈ TB := tbm (tb3 (List.mem_of_getElem? (i := 10) rfl)) rfl
theorem wq379 : Cond.selects RX3 yX3_hasCell yX3_hasCell ∈ TB := tbm (List.mem_append_left _ (k2_sel_in (lwp1 (List.mem_of_getElem? (i := 7) rfl)))) rfl
theorem wq380 : Cond.code yX3_parseNumber cX3_parseNumber 8 (some .boolean) ∈ TB := tbm (tb3 (List.mem_of_getElem? (i := 19) rfl)) rfl
theorem wq381 : Cond.code yX3_parseNumbers cX3_parseNumbers 3 (some .boolean) ∈ TB := tbm (tb3 (List.mem_of_getElem? (i := 15) rfl)) rfl
theorem wq382 : Cond.methodLink RX3 69 yX3_parseNumber ∈ TB := tbm (tb3 (List.mem_of_getElem? (i := 16) rfl)) rfl
theorem wq383 : Cond.instanceMethod yX3_parseNumber ∈ TB := tbm (tb3 (List.mem_of_getElem? (i := 18) rfl)) rfl
theorem wq384 : Cond.selects RX3 yX3_parseNumber yX3_parseNumber ∈ TB := tbm (List.mem_append_left _ (k2_sel_in (lwp1 (List.mem_of_getElem? (i := 9) rfl)))) rfl
theorem wq385 : Cond.methodLink RX3 51 yX3_kindOf ∈ TB := tbm (tb2 (List.mem_of_getElem? (i := 236) rfl)) rfl
theorem wq386 : Cond.static yX3_kindOf ∈ TB := tbm (tb2 (List.mem_of_getElem? (i := 237) rfl)) rfl
theorem wq387 : Cond.methodLink RX3 55 yX3_parseWay ∈ TB := tbm (tb3 (List.mem_of_getElem? (i := 3) rfl)) rfl
theorem wq388 : Cond.instanceMethod yX3_parseWay ∈ TB := tbm (tb3 (List.mem_of_getElem? (i := 5) rfl)) rfl
theorem wq389 : Cond.selects RX3 yX3_parseWay yX3_parseWay ∈ TB := tbm (List.mem_append_left _ (k2_sel_in (lwp1 (List.mem_of_getElem? (i := 6) rfl)))) rfl
theorem wq390 : Cond.methodLink RX3 58 yX3_parseNumbers ∈ TB := tbm (tb3 (List.mem_of_getElem? (i := 12) rfl)) rfl
theorem wq391 : Cond.instanceMethod yX3_parseNumbers ∈ TB := tbm (tb3 (List.mem_of_getElem? (i := 14) rfl)) rfl
theorem wq392 : Cond.selects RX3 yX3_parseNumbers yX3_parseNumbers ∈ TB := tbm (List.mem_append_left _ (k2_sel_in (lwp1 (List.mem_of_getElem? (i := 8) rfl)))) rfl
theorem wq393 : Cond.code yX3_parseClause cX3_parseClause 3 (some .boolean) ∈ TB := tbm (tb2 (List.mem_of_getElem? (i := 231) rfl)) rfl
theorem wq394 : Cond.fieldLink RX3 34 "SafeClears$Reader" "clauses" "I" ∈ TB := tbm (tb2 (List.mem_of_getElem? (i := 46) rfl)) rfl
theorem wq395 : Cond.methodLink RX3 37 yX3_parseClause ∈ TB := tbm (tb2 (List.mem_of_getElem? (i := 228) rfl)) rfl
theorem wq396 : Cond.instanceMethod yX3_parseClause ∈ TB := tbm (tb2 (List.mem_of_getElem? (i := 230) rfl)) rfl
theorem wq397 : Cond.selects RX3 yX3_parseClause yX3_parseClause ∈ TB := tbm (List.mem_append_left _ (k2_sel_in (lwp1 (List.mem_of_getElem? (i := 3) rfl)))) rfl
theorem wq398 : Cond.code yX3_parse cX3_parse 2 (some .boolean) ∈ TB := tbm (tb2 (List.mem_of_getElem? (i := 227) rfl)) rfl
theorem wq399 : Cond.code yX5_lowest cX5_lowest 3 (some .int) ∈ TB := tbm (tb2 (List.mem_of_getElem? (i := 199) rfl)) rfl
theorem wq400 : Cond.methodLink RX5 49 yX5_rule ∈ TB := tbm (tb2 (List.mem_of_getElem? (i := 200) rfl)) rfl
theorem wq401 : Cond.code yX5_highest cX5_highest 3 (some .int) ∈ TB := tbm (tb2 (List.mem_of_getElem? (i := 207) rfl)) rfl
theorem wq402 : Cond.code yX5_setGaps cX5_setGaps 3 none ∈ TB := tbm (tb5 (List.mem_of_getElem? (i := 53) rfl)) rfl
theorem wq403 : Cond.code yX6_init cX6_init 1 none ∈ TB := tbm (tb2 (List.mem_of_getElem? (i := 80) rfl)) rfl
theorem wq404 : Cond.methodLink RX6 3 objectInit ∈ TB := tbm (tb2 (List.mem_of_getElem? (i := 81) rfl)) rfl
theorem wq405 : Cond.fieldLink RX6 9 "SafeClears$Tape" "sort" "I" ∈ TB := tbm (tb2 (List.mem_of_getElem? (i := 82) rfl)) rfl
theorem wq406 : Cond.fieldLink RX6 15 "SafeClears$Tape" "items" "[J" ∈ TB := tbm (tb2 (List.mem_of_getElem? (i := 85) rfl)) rfl
theorem wq407 : Cond.code yX6_holdNothing cX6_holdNothing 1 none ∈ TB := tbm (tb5 (List.mem_of_getElem? (i := 152) rfl)) rfl
theorem wq408 : Cond.fieldLink RX6 19 "SafeClears$Tape" "length" "I" ∈ TB := tbm (tb2 (List.mem_of_getElem? (i := 84) rfl)) rfl
theorem wq409 : Cond.code yJ7_fill_d0a16 cJ7_fill_d0a16 5 none ∈ TB := tbm (tb5 (List.mem_of_getElem? (i := 159) rfl)) rfl
theorem wq410 : Cond.code yX6_hold cX6_hold 3 none ∈ TB := tbm (tb5 (List.mem_of_getElem? (i := 156) rfl)) rfl
theorem wq411 : Cond.methodLink RX6 22 yJ7_fill_d0a16 ∈ TB := tbm (tb5 (List.mem_of_getElem? (i := 157) rfl)) rfl
theorem wq412 : Cond.static yJ7_fill_d0a16 ∈ TB := tbm (tb5 (List.mem_of_getElem? (i := 158) rfl)) rfl
theorem wq413 : Cond.code yX6_hasPlace cX6_hasPlace 2 (some .boolean) ∈ TB := tbm (tb5 (List.mem_of_getElem? (i := 119) rfl)) rfl
theorem wq414 : Cond.code yX6_hasPlaces cX6_hasPlaces 3 (some .boolean) ∈ TB := tbm (tb5 (List.mem_of_getElem? (i := 179) rfl)) rfl
theorem wq415 : Cond.code yX6_narrowed cX6_narrowed 3 (some .long) ∈ TB := tbm (tb5 (List.mem_of_getElem? (i := 167) rfl)) rfl
theorem wq416 : Cond.code yX7_init cX7_init 1 none ∈ TB := tbm (tb1 (List.mem_of_getElem? (i := 235) rfl)) rfl
theorem wq417 : Cond.methodLink RX7 3 objectInit ∈ TB := tbm (tb1 (List.mem_of_getElem? (i := 236) rfl)) rfl
theorem wq418 : Cond.fieldLink RX7 9 "SafeClears$Wave" "round" "I" ∈ TB := tbm (tb1 (List.mem_of_getElem? (i := 237) rfl)) rfl
theorem wq419 : Cond.fieldLink RX7 15 "SafeClears$Wave" "items" "[I" ∈ TB := tbm (tb2 (List.mem_of_getElem? (i := 1) rfl)) rfl
theorem wq420 : Cond.code yX7_copyFrom cX7_copyFrom 2 none ∈ TB := tbm (tb5 (List.mem_of_getElem? (i := 134) rfl)) rfl
theorem wq421 : Cond.fieldLink RX7 19 "SafeClears$Wave" "number" "I" ∈ TB := tbm (tb1 (List.mem_of_getElem? (i := 239) rfl)) rfl
theorem wq422 : Cond.methodLink RX7 22 arraycopyName ∈ TB := tbm (tb5 (List.mem_of_getElem? (i := 135) rfl)) rfl
theorem wq423 : Cond.code yX7_allows cX7_allows 3 (some .boolean) ∈ TB := tbm (tb4 (List.mem_of_getElem? (i := 173) rfl)) rfl
theorem wq424 : Cond.code yX7_at cX7_at 3 (some .int) ∈ TB := tbm (tb4 (List.mem_of_getElem? (i := 190) rfl)) rfl
theorem wq425 : Cond.code yX7_put cX7_put 4 none ∈ TB := tbm (tb4 (List.mem_of_getElem? (i := 182) rfl)) rfl
theorem wq426 : Cond.code yX7_add cX7_add 5 (some .int) ∈ TB := tbm (tb4 (List.mem_of_getElem? (i := 178) rfl)) rfl
theorem wq427 : Cond.methodLink RX7 32 yX7_put ∈ TB := tbm (tb4 (List.mem_of_getElem? (i := 179) rfl)) rfl
theorem wq428 : Cond.instanceMethod yX7_put ∈ TB := tbm (tb4 (List.mem_of_getElem? (i := 180) rfl)) rfl
theorem wq429 : Cond.selects RX7 yX7_put yX7_put ∈ TB := tbm (tb4 (List.mem_of_getElem? (i := 181) rfl)) rfl
theorem wq430 : Cond.initialized RX7 ∈ TB := tbm (tb1 (List.mem_of_getElem? (i := 9) rfl)) rfl
theorem wq431 : Cond.code yX7_allSeconds cX7_allSeconds 1 (some .long) ∈ TB := tbm (tb4 (List.mem_of_getElem? (i := 203) rfl)) rfl
theorem wq432 : Cond.code yX7_openSeconds cX7_openSeconds 6 (some .long) ∈ TB := tbm (tb4 (List.mem_of_getElem? (i := 207) rfl)) rfl
theorem wq433 : Cond.methodLink RX7 51 yX7_at ∈ TB := tbm (tb4 (List.mem_of_getElem? (i := 208) rfl)) rfl
theorem wq434 : Cond.instanceMethod yX7_at ∈ TB := tbm (tb4 (List.mem_of_getElem? (i := 188) rfl)) rfl
theorem wq435 : Cond.selects RX7 yX7_at yX7_at ∈ TB := tbm (tb4 (List.mem_of_getElem? (i := 189) rfl)) rfl
theorem wq436 : Cond.methodLink RX7 61 yJ9_floorMod_7cf53 ∈ TB := tbm (tb4 (List.mem_of_getElem? (i := 209) rfl)) rfl
theorem wq437 : Cond.methodLink RX7 43 yX7_allSeconds ∈ TB := tbm (tb4 (List.mem_of_getElem? (i := 200) rfl)) rfl
theorem wq438 : Cond.instanceMethod yX7_allSeconds ∈ TB := tbm (tb4 (List.mem_of_getElem? (i := 202) rfl)) rfl
theorem wq439 : Cond.selects RX7 yX7_allSeconds yX7_allSeconds ∈ TB := tbm (List.mem_append_left _ (k2_sel_in (lwp3 (List.mem_of_getElem? (i := 7) rfl)))) rfl
theorem wq440 : Cond.code yJ13_bitCount_95d88 cJ13_bitCount_95d88 2 (some .int) ∈ TB := tbm (tb4 (List.mem_of_getElem? (i := 212) rfl)) rfl
theorem wq441 : Cond.constantLong RJ13 314 (6148914691236517205) ∈ TB := tbm (tb4 (List.mem_of_getElem? (i := 213) rfl)) rfl
theorem wq442 : Cond.constantLong RJ13 316 (3689348814741910323) ∈ TB := tbm (tb4 (List.mem_of_getElem? (i := 214) rfl)) rfl
theorem wq443 : Cond.constantLong RJ13 318 (1085102592571150095) ∈ TB := tbm (tb4 (List.mem_of_getElem? (i := 215) rfl)) rfl
theorem wq444 : Cond.methodLink RX7 47 yX7_openSeconds ∈ TB := tbm (tb4 (List.mem_of_getElem? (i := 204) rfl)) rfl
theorem wq445 : Cond.instanceMethod yX7_openSeconds ∈ TB := tbm (tb4 (List.mem_of_getElem? (i := 206) rfl)) rfl
theorem wq446 : Cond.selects RX7 yX7_openSeconds yX7_openSeconds ∈ TB := tbm (List.mem_append_left _ (k2_sel_in (lwp3 (List.mem_of_getElem? (i := 8) rfl)))) rfl
theorem wq447 : Cond.methodLink RX7 55 yJ13_bitCount_95d88 ∈ TB := tbm (tb4 (List.mem_of_getElem? (i := 210) rfl)) rfl
theorem wq448 : Cond.static yJ13_bitCount_95d88 ∈ TB := tbm (tb4 (List.mem_of_getElem? (i := 211) rfl)) rfl
theorem wq449 : Cond.initialized RJ13 ∈ TB := tbm (tb1 (List.mem_of_getElem? (i := 16) rfl)) rfl
theorem wq450 : Cond.code yX7_bandOn cX7_bandOn 5 (some .int) ∈ TB := tbm (tb4 (List.mem_of_getElem? (i := 199) rfl)) rfl
theorem wq451 : Cond.code yX7_bandBack cX7_bandBack 5 (some .int) ∈ TB := tbm (tb4 (List.mem_of_getElem? (i := 219) rfl)) rfl
theorem wq452 : Cond.methodLink RX7 36 yX7_bandOn ∈ TB := tbm (tb4 (List.mem_of_getElem? (i := 224) rfl)) rfl
theorem wq453 : Cond.instanceMethod yX7_bandOn ∈ TB := tbm (tb4 (List.mem_of_getElem? (i := 197) rfl)) rfl
theorem wq454 : Cond.selects RX7 yX7_bandOn yX7_bandOn ∈ TB := tbm (tb4 (List.mem_of_getElem? (i := 198) rfl)) rfl
theorem wq455 : Cond.methodLink RX7 40 yX7_bandBack ∈ TB := tbm (tb4 (List.mem_of_getElem? (i := 225) rfl)) rfl
theorem wq456 : Cond.instanceMethod yX7_bandBack ∈ TB := tbm (tb4 (List.mem_of_getElem? (i := 217) rfl)) rfl
theorem wq457 : Cond.selects RX7 yX7_bandBack yX7_bandBack ∈ TB := tbm (tb4 (List.mem_of_getElem? (i := 218) rfl)) rfl
theorem wq458 : Cond.code yX7_bothBands cX7_bothBands 1 (some .int) ∈ TB := tbm (tb4 (List.mem_of_getElem? (i := 223) rfl)) rfl
theorem wq459 : Cond.code yX7_bandsWith cX7_bandsWith 5 (some .int) ∈ TB := tbm (tb4 (List.mem_of_getElem? (i := 237) rfl)) rfl
theorem wq460 : Cond.methodLink RX7 66 yX7_bandsWith ∈ TB := tbm (tb4 (List.mem_of_getElem? (i := 234) rfl)) rfl
theorem wq461 : Cond.instanceMethod yX7_bandsWith ∈ TB := tbm (tb4 (List.mem_of_getElem? (i := 235) rfl)) rfl
theorem wq462 : Cond.selects RX7 yX7_bandsWith yX7_bandsWith ∈ TB := tbm (tb4 (List.mem_of_getElem? (i := 236) rfl)) rfl
theorem wq463 : Cond.code yX7_bestOffset cX7_bestOffset 6 (some .int) ∈ TB := tbm (tb4 (List.mem_of_getElem? (i := 233) rfl)) rfl
theorem wq464 : Cond.methodLink RX7 69 yX7_bestOffset ∈ TB := tbm (tb5 (List.mem_of_getElem? (i := 7) rfl)) rfl
theorem wq465 : Cond.instanceMethod yX7_bestOffset ∈ TB := tbm (tb4 (List.mem_of_getElem? (i := 231) rfl)) rfl
theorem wq466 : Cond.selects RX7 yX7_bestOffset yX7_bestOffset ∈ TB := tbm (tb4 (List.mem_of_getElem? (i := 232) rfl)) rfl
theorem wq467 : Cond.methodLink RX7 73 yX7_bothBands ∈ TB := tbm (tb5 (List.mem_of_getElem? (i := 8) rfl)) rfl
theorem wq468 : Cond.instanceMethod yX7_bothBands ∈ TB := tbm (tb4 (List.mem_of_getElem? (i := 221) rfl)) rfl
theorem wq469 : Cond.selects RX7 yX7_bothBands yX7_bothBands ∈ TB := tbm (tb4 (List.mem_of_getElem? (i := 222) rfl)) rfl
theorem wq470 : Cond.code yX7_tuneAll cX7_tuneAll 4 none ∈ TB := tbm (tb5 (List.mem_of_getElem? (i := 6) rfl)) rfl
theorem wq471 : Cond.methodLink RX8 3 objectInit ∈ TB := tbm (tb1 (List.mem_of_getElem? (i := 30) rfl)) rfl
theorem wq472 : Cond.classLink RX8 9 RX0 ∈ TB := tbm (tb1 (List.mem_of_getElem? (i := 31) rfl)) rfl
theorem wq473 : Cond.instantiable RX0 16 ∈ TB := tbm (tb1 (List.mem_of_getElem? (i := 32) rfl)) rfl
theorem wq474 : Cond.fieldLink RX8 12 "SafeClears$World" "control" "LSafeClears$Control;" ∈ TB := tbm (tb2 (List.mem_of_getElem? (i := 11) rfl)) rfl
theorem wq475 : Cond.classLink RX8 18 RX7 ∈ TB := tbm (tb1 (List.mem_of_getElem? (i := 231) rfl)) rfl
theorem wq476 : Cond.instantiable RX7 3 ∈ TB := tbm (tb1 (List.mem_of_getElem? (i := 232) rfl)) rfl
theorem wq477 : Cond.fieldLink RX8 21 "SafeClears$World" "street" "LSafeClears$Wave;" ∈ TB := tbm (tb2 (List.mem_of_getElem? (i := 13) rfl)) rfl
theorem wq478 : Cond.classLink RX8 25 RX4 ∈ TB := tbm (tb2 (List.mem_of_getElem? (i := 9) rfl)) rfl
theorem wq479 : Cond.fieldLink RX8 30 "SafeClears$World" "greensTold" "LSafeClears$Rows;" ∈ TB := tbm (tb2 (List.mem_of_getElem? (i := 15) rfl)) rfl
theorem wq480 : Cond.fieldLink RX8 34 "SafeClears$World" "notes" "LSafeClears$Rows;" ∈ TB := tbm (tb2 (List.mem_of_getElem? (i := 17) rfl)) rfl
theorem wq481 : Cond.fieldLink RX8 37 "SafeClears$World" "plan" "LSafeClears$Rows;" ∈ TB := tbm (tb2 (List.mem_of_getElem? (i := 19) rfl)) rfl
theorem wq482 : Cond.instanceMethod yX0_init ∈ TB := tbm (tb1 (List.mem_of_getElem? (i := 34) rfl)) rfl
theorem wq483 : Cond.instanceMethod yX7_init ∈ TB := tbm (tb1 (List.mem_of_getElem? (i := 234) rfl)) rfl
theorem wq484 : Cond.methodLink RX8 27 yX4_init ∈ TB := tbm (tb2 (List.mem_of_getElem? (i := 10) rfl)) rfl
theorem wq485 : Cond.code yX8_init cX8_init 1 none ∈ TB := tbm (tb1 (List.mem_of_getElem? (i := 29) rfl)) rfl
theorem wq486 : Cond.methodLink RX8 40 yX0_copyFrom ∈ TB := tbm (tb5 (List.mem_of_getElem? (i := 130) rfl)) rfl
theorem wq487 : Cond.instanceMethod yX0_copyFrom ∈ TB := tbm (tb5 (List.mem_of_getElem? (i := 14) rfl)) rfl
theorem wq488 : Cond.selects RX0 yX0_copyFrom yX0_copyFrom ∈ TB := tbm (tb5 (List.mem_of_getElem? (i := 15) rfl)) rfl
theorem wq489 : Cond.methodLink RX8 44 yX7_copyFrom ∈ TB := tbm (tb5 (List.mem_of_getElem? (i := 131) rfl)) rfl
theorem wq490 : Cond.instanceMethod yX7_copyFrom ∈ TB := tbm (tb5 (List.mem_of_getElem? (i := 132) rfl)) rfl
theorem wq491 : Cond.selects RX7 yX7_copyFrom yX7_copyFrom ∈ TB := tbm (tb5 (List.mem_of_getElem? (i := 133) rfl)) rfl
theorem wq492 : Cond.methodLink RX8 47 yX4_copyFrom ∈ TB := tbm (tb5 (List.mem_of_getElem? (i := 136) rfl)) rfl
theorem wq493 : Cond.code yX8_copyFrom cX8_copyFrom 2 none ∈ TB := tbm (tb5 (List.mem_of_getElem? (i := 129) rfl)) rfl
theorem wq494 : Cond.fieldLink RX8 61 "SafeClears$Control" "junction" "LSafeClears$Junction;" ∈ TB := tbm (tb1 (List.mem_of_getElem? (i := 168) rfl)) rfl
theorem wq495 : Cond.fieldLink RX8 65 "SafeClears$Rows" "number" "I" ∈ TB := tbm (tb1 (List.mem_of_getElem? (i := 154) rfl)) rfl
theorem wq496 : Cond.methodLink RX8 69 yX4_at ∈ TB := tbm (tb4 (List.mem_of_getElem? (i := 124) rfl)) rfl
theorem wq497 : Cond.methodLink RX8 72 yX1_placeOf ∈ TB := tbm (tb4 (List.mem_of_getElem? (i := 125) rfl)) rfl
theorem wq498 : Cond.methodLink RX8 77 yX1_reaches ∈ TB := tbm (tb4 (List.mem_of_getElem? (i := 126) rfl)) rfl
theorem wq499 : Cond.methodLink RX8 81 yX1_leaves ∈ TB := tbm (tb4 (List.mem_of_getElem? (i := 127) rfl)) rfl
theorem wq500 : Cond.code yX8_takersByRows cX8_takersByRows 9 (some .int) ∈ TB := tbm (tb4 (List.mem_of_getElem? (i := 123) rfl)) rfl
theorem wq501 : Cond.fieldLink RX8 50 "SafeClears$Control" "record" "LSafeClears$Rows;" ∈ TB := tbm (tb1 (List.mem_of_getElem? (i := 174) rfl)) rfl
theorem wq502 : Cond.methodLink RX8 53 yX8_takersByRows ∈ TB := tbm (tb4 (List.mem_of_getElem? (i := 120) rfl)) rfl
theorem wq503 : Cond.instanceMethod yX8_takersByRows ∈ TB := tbm (tb4 (List.mem_of_getElem? (i := 122) rfl)) rfl
theorem wq504 : Cond.selects RX8 yX8_takersByRows yX8_takersByRows ∈ TB := tbm (List.mem_append_left _ (k2_sel_in (lwp3 (List.mem_of_getElem? (i := 4) rfl)))) rfl
theorem wq505 : Cond.initialized RX8 ∈ TB := tbm (tb1 (List.mem_of_getElem? (i := 2) rfl)) rfl
theorem wq506 : Cond.methodLink RX8 57 yX0_takersNow ∈ TB := tbm (tb4 (List.mem_of_getElem? (i := 128) rfl)) rfl
theorem wq507 : Cond.instanceMethod yX0_takersNow ∈ TB := tbm (tb4 (List.mem_of_getElem? (i := 129) rfl)) rfl
theorem wq508 : Cond.selects RX0 yX0_takersNow yX0_takersNow ∈ TB := tbm (tb4 (List.mem_of_getElem? (i := 130) rfl)) rfl
theorem wq509 : Cond.code yX8_takersOf cX8_takersOf 4 (some .int) ∈ TB := tbm (tb4 (List.mem_of_getElem? (i := 119) rfl)) rfl
theorem wq510 : Cond.code yX8_isClearBehind cX8_isClearBehind 4 (some .boolean) ∈ TB := tbm (tb4 (List.mem_of_getElem? (i := 160) rfl)) rfl
theorem wq511 : Cond.methodLink RX8 94 yX1_clearOf ∈ TB := tbm (tb4 (List.mem_of_getElem? (i := 161) rfl)) rfl
theorem wq512 : Cond.methodLink RX8 88 yX1_meet ∈ TB := tbm (tb4 (List.mem_of_getElem? (i := 156) rfl)) rfl
theorem wq513 : Cond.methodLink RX8 91 yX8_isClearBehind ∈ TB := tbm (tb4 (List.mem_of_getElem? (i := 157) rfl)) rfl
theorem wq514 : Cond.instanceMethod yX8_isClearBehind ∈ TB := tbm (tb4 (List.mem_of_getElem? (i := 159) rfl)) rfl
theorem wq515 : Cond.selects RX8 yX8_isClearBehind yX8_isClearBehind ∈ TB := tbm (List.mem_append_left _ (k2_sel_in (lwp3 (List.mem_of_getElem? (i := 6) rfl)))) rfl
theorem wq516 : Cond.code yX8_areTooNear cX8_areTooNear 4 (some .boolean) ∈ TB := tbm (tb4 (List.mem_of_getElem? (i := 155) rfl)) rfl
theorem wq517 : Cond.methodLink RX8 84 yX8_areTooNear ∈ TB := tbm (tb4 (List.mem_of_getElem? (i := 152) rfl)) rfl
theorem wq518 : Cond.instanceMethod yX8_areTooNear ∈ TB := tbm (tb4 (List.mem_of_getElem? (i := 154) rfl)) rfl
theorem wq519 : Cond.selects RX8 yX8_areTooNear yX8_areTooNear ∈ TB := tbm (List.mem_append_left _ (k2_sel_in (lwp3 (List.mem_of_getElem? (i := 5) rfl)))) rfl
theorem wq520 : Cond.code yX8_firstUnproved cX8_firstUnproved 3 (some .int) ∈ TB := tbm (tb4 (List.mem_of_getElem? (i := 151) rfl)) rfl
theorem wq521 : Cond.code yX8_notesThatHold cX8_notesThatHold 5 (some .int) ∈ TB := tbm (tb5 (List.mem_of_getElem? (i := 70) rfl)) rfl
theorem wq522 : Cond.code yX8_plannedSeconds cX8_plannedSeconds 3 (some .int) ∈ TB := tbm (tb5 (List.mem_of_getElem? (i := 105) rfl)) rfl
theorem wq523 : Cond.methodLink RX9 3 objectInit ∈ TB := tbm (tb1 (List.mem_of_getElem? (i := 22) rfl)) rfl
theorem wq524 : Cond.classLink RX9 9 RX8 ∈ TB := tbm (tb1 (List.mem_of_getElem? (i := 25) rfl)) rfl
theorem wq525 : Cond.instantiable RX8 5 ∈ TB := tbm (tb1 (List.mem_of_getElem? (i := 26) rfl)) rfl
theorem wq526 : Cond.fieldLink RX9 12 "SafeClears" "now" "LSafeClears$World;" ∈ TB := tbm (tb2 (List.mem_of_getElem? (i := 95) rfl)) rfl
theorem wq527 : Cond.fieldLink RX9 18 "SafeClears" "imaged" "LSafeClears$World;" ∈ TB := tbm (tb2 (List.mem_of_getElem? (i := 96) rfl)) rfl
theorem wq528 : Cond.classLink RX9 21 RX0 ∈ TB := tbm (tb2 (List.mem_of_getElem? (i := 32) rfl)) rfl
theorem wq529 : Cond.fieldLink RX9 24 "SafeClears" "thought" "LSafeClears$Control;" ∈ TB := tbm (tb2 (List.mem_of_getElem? (i := 97) rfl)) rfl
theorem wq530 : Cond.fieldLink RX9 28 "SafeClears$World" "control" "LSafeClears$Control;" ∈ TB := tbm (tb2 (List.mem_of_getElem? (i := 12) rfl)) rfl
theorem wq531 : Cond.fieldLink RX9 31 "SafeClears" "control" "LSafeClears$Control;" ∈ TB := tbm (tb2 (List.mem_of_getElem? (i := 98) rfl)) rfl
theorem wq532 : Cond.fieldLink RX9 32 "SafeClears$Control" "junction" "LSafeClears$Junction;" ∈ TB := tbm (tb1 (List.mem_of_getElem? (i := 167) rfl)) rfl
theorem wq533 : Cond.fieldLink RX9 36 "SafeClears" "junction" "LSafeClears$Junction;" ∈ TB := tbm (tb2 (List.mem_of_getElem? (i := 99) rfl)) rfl
theorem wq534 : Cond.fieldLink RX9 37 "SafeClears$Control" "signals" "LSafeClears$Signals;" ∈ TB := tbm (tb1 (List.mem_of_getElem? (i := 170) rfl)) rfl
theorem wq535 : Cond.fieldLink RX9 41 "SafeClears" "signals" "LSafeClears$Signals;" ∈ TB := tbm (tb2 (List.mem_of_getElem? (i := 100) rfl)) rfl
theorem wq536 : Cond.fieldLink RX9 42 "SafeClears$Control" "phases" "LSafeClears$Phases;" ∈ TB := tbm (tb1 (List.mem_of_getElem? (i := 172) rfl)) rfl
theorem wq537 : Cond.fieldLink RX9 46 "SafeClears" "phases" "LSafeClears$Phases;" ∈ TB := tbm (tb2 (List.mem_of_getElem? (i := 101) rfl)) rfl
theorem wq538 : Cond.fieldLink RX9 47 "SafeClears$World" "street" "LSafeClears$Wave;" ∈ TB := tbm (tb2 (List.mem_of_getElem? (i := 14) rfl)) rfl
theorem wq539 : Cond.fieldLink RX9 51 "SafeClears" "street" "LSafeClears$Wave;" ∈ TB := tbm (tb2 (List.mem_of_getElem? (i := 102) rfl)) rfl
theorem wq540 : Cond.classLink RX9 52 RX3 ∈ TB := tbm (tb2 (List.mem_of_getElem? (i := 34) rfl)) rfl
theorem wq541 : Cond.instantiable RX3 9 ∈ TB := tbm (tb2 (List.mem_of_getElem? (i := 35) rfl)) rfl
theorem wq542 : Cond.fieldLink RX9 55 "SafeClears" "text" "LSafeClears$Reader;" ∈ TB := tbm (tb2 (List.mem_of_getElem? (i := 103) rfl)) rfl
theorem wq543 : Cond.classLink RX9 59 RX6 ∈ TB := tbm (tb2 (List.mem_of_getElem? (i := 75) rfl)) rfl
theorem wq544 : Cond.fieldLink RX9 61 "SafeClears" "tapes" "[LSafeClears$Tape;" ∈ TB := tbm (tb2 (List.mem_of_getElem? (i := 104) rfl)) rfl
theorem wq545 : Cond.instantiable RX6 3 ∈ TB := tbm (tb2 (List.mem_of_getElem? (i := 77) rfl)) rfl
theorem wq546 : Cond.initialized RX6 ∈ TB := tbm (tb1 (List.mem_of_getElem? (i := 11) rfl)) rfl
theorem wq547 : Cond.instanceMethod yX8_init ∈ TB := tbm (tb1 (List.mem_of_getElem? (i := 28) rfl)) rfl
theorem wq548 : Cond.instanceMethod yX3_init ∈ TB := tbm (tb2 (List.mem_of_getElem? (i := 37) rfl)) rfl
theorem wq549 : Cond.instanceMethod yX6_init ∈ TB := tbm (tb2 (List.mem_of_getElem? (i := 79) rfl)) rfl
theorem wq550 : Cond.code yX9_init cX9_init 2 none ∈ TB := tbm (tb1 (List.mem_of_getElem? (i := 21) rfl)) rfl
theorem wq551 : Cond.fieldLink RX9 70 "SafeClears$Control" "started" "Z" ∈ TB := tbm (tb1 (List.mem_of_getElem? (i := 176) rfl)) rfl
theorem wq552 : Cond.fieldLink RX9 74 "SafeClears$Junction" "number" "I" ∈ TB := tbm (tb1 (List.mem_of_getElem? (i := 47) rfl)) rfl
theorem wq553 : Cond.methodLink RX9 66 yX9_within ∈ TB := tbm (tb2 (List.mem_of_getElem? (i := 136) rfl)) rfl
theorem wq554 : Cond.methodLink RX9 80 yX1_addSignal ∈ TB := tbm (tb2 (List.mem_of_getElem? (i := 139) rfl)) rfl
theorem wq555 : Cond.instanceMethod yX1_addSignal ∈ TB := tbm (tb2 (List.mem_of_getElem? (i := 140) rfl)) rfl
theorem wq556 : Cond.selects RX1 yX1_addSignal yX1_addSignal ∈ TB := tbm (tb2 (List.mem_of_getElem? (i := 141) rfl)) rfl
theorem wq557 : Cond.code yX9_signal cX9_signal 3 (some .int) ∈ TB := tbm (tb2 (List.mem_of_getElem? (i := 135) rfl)) rfl
theorem wq558 : Cond.code yX9_isSignal cX9_isSignal 2 (some .boolean) ∈ TB := tbm (tb2 (List.mem_of_getElem? (i := 189) rfl)) rfl
theorem wq559 : Cond.fieldLink RX9 91 "SafeClears$Phases" "number" "I" ∈ TB := tbm (tb1 (List.mem_of_getElem? (i := 127) rfl)) rfl
theorem wq560 : Cond.fieldLink RX9 94 "SafeClears$Junction" "lengths" "[I" ∈ TB := tbm (tb1 (List.mem_of_getElem? (i := 56) rfl)) rfl
theorem wq561 : Cond.methodLink RX9 84 yX9_isSignal ∈ TB := tbm (tb2 (List.mem_of_getElem? (i := 186) rfl)) rfl
theorem wq562 : Cond.instanceMethod yX9_isSignal ∈ TB := tbm (tb2 (List.mem_of_getElem? (i := 188) rfl)) rfl
theorem wq563 : Cond.selects RX9 yX9_isSignal yX9_isSignal ∈ TB := tbm (List.mem_append_left _ (k2_sel_in (lwp1 (List.mem_of_getElem? (i := 2) rfl)))) rfl
theorem wq564 : Cond.methodLink RX9 88 yX1_placeOf ∈ TB := tbm (tb2 (List.mem_of_getElem? (i := 190) rfl)) rfl
theorem wq565 : Cond.methodLink RX9 98 yX1_addCell ∈ TB := tbm (tb2 (List.mem_of_getElem? (i := 191) rfl)) rfl
theorem wq566 : Cond.code yX9_goes cX9_goes 3 (some .int) ∈ TB := tbm (tb2 (List.mem_of_getElem? (i := 185) rfl)) rfl
theorem wq567 : Cond.fieldLink RX9 112 "SafeClears$Signals" "rules" "[I" ∈ TB := tbm (tb1 (List.mem_of_getElem? (i := 89) rfl)) rfl
theorem wq568 : Cond.methodLink RX9 101 yX5_lowest ∈ TB := tbm (tb2 (List.mem_of_getElem? (i := 196) rfl)) rfl
theorem wq569 : Cond.instanceMethod yX5_lowest ∈ TB := tbm (tb2 (List.mem_of_getElem? (i := 197) rfl)) rfl
theorem wq570 : Cond.selects RX5 yX5_lowest yX5_lowest ∈ TB := tbm (tb2 (List.mem_of_getElem? (i := 198) rfl)) rfl
theorem wq571 : Cond.methodLink RX9 106 yX5_highest ∈ TB := tbm (tb2 (List.mem_of_getElem? (i := 204) rfl)) rfl
theorem wq572 : Cond.instanceMethod yX5_highest ∈ TB := tbm (tb2 (List.mem_of_getElem? (i := 205) rfl)) rfl
theorem wq573 : Cond.selects RX5 yX5_highest yX5_highest ∈ TB := tbm (tb2 (List.mem_of_getElem? (i := 206) rfl)) rfl
theorem wq574 : Cond.methodLink RX9 109 yX5_rule ∈ TB := tbm (tb2 (List.mem_of_getElem? (i := 211) rfl)) rfl
theorem wq575 : Cond.code yX9_tell cX9_tell 5 (some .int) ∈ TB := tbm (tb2 (List.mem_of_getElem? (i := 195) rfl)) rfl
theorem wq576 : Cond.code yX9_feed cX9_feed 2 (some .int) ∈ TB := tbm (tb2 (List.mem_of_getElem? (i := 215) rfl)) rfl
theorem wq577 : Cond.fieldLink RX9 115 "SafeClears$Reader" "length" "I" ∈ TB := tbm (tb2 (List.mem_of_getElem? (i := 42) rfl)) rfl
theorem wq578 : Cond.methodLink RX9 118 yX3_append ∈ TB := tbm (tb2 (List.mem_of_getElem? (i := 216) rfl)) rfl
theorem wq579 : Cond.instanceMethod yX3_append ∈ TB := tbm (tb2 (List.mem_of_getElem? (i := 217) rfl)) rfl
theorem wq580 : Cond.selects RX3 yX3_append yX3_append ∈ TB := tbm (tb2 (List.mem_of_getElem? (i := 218) rfl)) rfl
theorem wq581 : Cond.fieldLink RX9 136 "SafeClears$Reader" "kinds" "[I" ∈ TB := tbm (tb2 (List.mem_of_getElem? (i := 49) rfl)) rfl
theorem wq582 : Cond.fieldLink RX9 139 "SafeClears$Reader" "ways" "[I" ∈ TB := tbm (tb2 (List.mem_of_getElem? (i := 53) rfl)) rfl
theorem wq583 : Cond.fieldLink RX9 142 "SafeClears$Reader" "lengths" "[I" ∈ TB := tbm (tb2 (List.mem_of_getElem? (i := 51) rfl)) rfl
theorem wq584 : Cond.fieldLink RX9 143 "SafeClears$Reader" "numbers" "[I" ∈ TB := tbm (tb2 (List.mem_of_getElem? (i := 55) rfl)) rfl
theorem wq585 : Cond.code yX9_bringClause cX9_bringClause 4 none ∈ TB := tbm (tb3 (List.mem_of_getElem? (i := 23) rfl)) rfl
theorem wq586 : Cond.fieldLink RX9 126 "SafeClears$Reader" "fault" "I" ∈ TB := tbm (tb2 (List.mem_of_getElem? (i := 45) rfl)) rfl
theorem wq587 : Cond.fieldLink RX9 129 "SafeClears$Reader" "clauses" "I" ∈ TB := tbm (tb2 (List.mem_of_getElem? (i := 47) rfl)) rfl
theorem wq588 : Cond.methodLink RX9 122 yX3_parse ∈ TB := tbm (tb2 (List.mem_of_getElem? (i := 224) rfl)) rfl
theorem wq589 : Cond.instanceMethod yX3_parse ∈ TB := tbm (tb2 (List.mem_of_getElem? (i := 225) rfl)) rfl
theorem wq590 : Cond.selects RX3 yX3_parse yX3_parse ∈ TB := tbm (tb2 (List.mem_of_getElem? (i := 226) rfl)) rfl
theorem wq591 : Cond.methodLink RX9 132 yX9_bringClause ∈ TB := tbm (tb3 (List.mem_of_getElem? (i := 20) rfl)) rfl
theorem wq592 : Cond.instanceMethod yX9_bringClause ∈ TB := tbm (tb3 (List.mem_of_getElem? (i := 22) rfl)) rfl
theorem wq593 : Cond.selects RX9 yX9_bringClause yX9_bringClause ∈ TB := tbm (List.mem_append_left _ (k2_sel_in (lwp1 (List.mem_of_getElem? (i := 10) rfl)))) rfl
theorem wq594 : Cond.code yX9_read cX9_read 3 (some .int) ∈ TB := tbm (tb2 (List.mem_of_getElem? (i := 223) rfl)) rfl
theorem wq595 : Cond.code yX9_safety cX9_safety 3 (some .int) ∈ TB := tbm (tb3 (List.mem_of_getElem? (i := 27) rfl)) rfl
theorem wq596 : Cond.fieldLink RX9 146 "SafeClears$Junction" "safety" "I" ∈ TB := tbm (tb1 (List.mem_of_getElem? (i := 50) rfl)) rfl
theorem wq597 : Cond.methodLink RX9 149 yX1_twoMeetIn ∈ TB := tbm (tb3 (List.mem_of_getElem? (i := 32) rfl)) rfl
theorem wq598 : Cond.instanceMethod yX1_twoMeetIn ∈ TB := tbm (tb3 (List.mem_of_getElem? (i := 33) rfl)) rfl
theorem wq599 : Cond.selects RX1 yX1_twoMeetIn yX1_twoMeetIn ∈ TB := tbm (tb3 (List.mem_of_getElem? (i := 34) rfl)) rfl
theorem wq600 : Cond.methodLink RX9 152 yX2_add ∈ TB := tbm (tb3 (List.mem_of_getElem? (i := 47) rfl)) rfl
theorem wq601 : Cond.instanceMethod yX2_add ∈ TB := tbm (tb3 (List.mem_of_getElem? (i := 48) rfl)) rfl
theorem wq602 : Cond.selects RX2 yX2_add yX2_add ∈ TB := tbm (tb3 (List.mem_of_getElem? (i := 49) rfl)) rfl
theorem wq603 : Cond.code yX9_phase cX9_phase 3 (some .int) ∈ TB := tbm (tb3 (List.mem_of_getElem? (i := 31) rfl)) rfl
theorem wq604 : Cond.code yX9_start cX9_start 1 (some .int) ∈ TB := tbm (tb3 (List.mem_of_getElem? (i := 54) rfl)) rfl
theorem wq605 : Cond.methodLink RX9 155 yX0_begin ∈ TB := tbm (tb3 (List.mem_of_getElem? (i := 55) rfl)) rfl
theorem wq606 : Cond.instanceMethod yX0_begin ∈ TB := tbm (tb3 (List.mem_of_getElem? (i := 56) rfl)) rfl
theorem wq607 : Cond.selects RX0 yX0_begin yX0_begin ∈ TB := tbm (tb3 (List.mem_of_getElem? (i := 57) rfl)) rfl
theorem wq608 : Cond.code yX9_cycle cX9_cycle 6 (some .int) ∈ TB := tbm (tb3 (List.mem_of_getElem? (i := 66) rfl)) rfl
theorem wq609 : Cond.fieldLink RX9 158 "SafeClears$Control" "cycle" "I" ∈ TB := tbm (tb1 (List.mem_of_getElem? (i := 193) rfl)) rfl
theorem wq610 : Cond.fieldLink RX9 161 "SafeClears$Control" "offset" "I" ∈ TB := tbm (tb1 (List.mem_of_getElem? (i := 195) rfl)) rfl
theorem wq611 : Cond.fieldLink RX9 164 "SafeClears$Control" "split" "I" ∈ TB := tbm (tb1 (List.mem_of_getElem? (i := 197) rfl)) rfl
theorem wq612 : Cond.code yX9_come cX9_come 3 (some .int) ∈ TB := tbm (tb3 (List.mem_of_getElem? (i := 70) rfl)) rfl
theorem wq613 : Cond.fieldLink RX9 167 "SafeClears$Control" "lost" "I" ∈ TB := tbm (tb1 (List.mem_of_getElem? (i := 189) rfl)) rfl
theorem wq614 : Cond.fieldLink RX9 173 "SafeClears$Signals" "queue" "[I" ∈ TB := tbm (tb1 (List.mem_of_getElem? (i := 92) rfl)) rfl
theorem wq615 : Cond.methodLink RX9 170 yX5_join ∈ TB := tbm (tb3 (List.mem_of_getElem? (i := 71) rfl)) rfl
theorem wq616 : Cond.code yX9_seed cX9_seed 3 (some .int) ∈ TB := tbm (tb3 (List.mem_of_getElem? (i := 78) rfl)) rfl
theorem wq617 : Cond.fieldLink RX9 176 "SafeClears$Control" "seed" "I" ∈ TB := tbm (tb1 (List.mem_of_getElem? (i := 191) rfl)) rfl
theorem wq618 : Cond.methodLink RX9 179 yX0_declare ∈ TB := tbm (tb3 (List.mem_of_getElem? (i := 83) rfl)) rfl
theorem wq619 : Cond.methodLink RX9 182 yX2_firstWith ∈ TB := tbm (tb3 (List.mem_of_getElem? (i := 92) rfl)) rfl
theorem wq620 : Cond.code yX9_emergency cX9_emergency 2 (some .int) ∈ TB := tbm (tb3 (List.mem_of_getElem? (i := 82) rfl)) rfl
theorem wq621 : Cond.code yX9_over cX9_over 2 (some .int) ∈ TB := tbm (tb3 (List.mem_of_getElem? (i := 96) rfl)) rfl
theorem wq622 : Cond.fieldLink RX9 185 "SafeClears$Control" "emergency" "I" ∈ TB := tbm (tb1 (List.mem_of_getElem? (i := 183) rfl)) rfl
theorem wq623 : Cond.code yX9_takeSeconds cX9_takeSeconds 2 (some .boolean) ∈ TB := tbm (tb3 (List.mem_of_getElem? (i := 108) rfl)) rfl
theorem wq624 : Cond.fieldLink RX9 399 "SafeClears" "counted" "I" ∈ TB := tbm (tb2 (List.mem_of_getElem? (i := 106) rfl)) rfl
theorem wq625 : Cond.code yX9_refusalOf cX9_refusalOf 4 (some .int) ∈ TB := tbm (tb3 (List.mem_of_getElem? (i := 104) rfl)) rfl
theorem wq626 : Cond.methodLink RX9 317 yX9_takeSeconds ∈ TB := tbm (tb3 (List.mem_of_getElem? (i := 105) rfl)) rfl
theorem wq627 : Cond.instanceMethod yX9_takeSeconds ∈ TB := tbm (tb3 (List.mem_of_getElem? (i := 107) rfl)) rfl
theorem wq628 : Cond.selects RX9 yX9_takeSeconds yX9_takeSeconds ∈ TB := tbm (List.mem_append_left _ (k2_sel_in (lwp1 (List.mem_of_getElem? (i := 13) rfl)))) rfl
theorem wq629 : Cond.fieldLink RX9 192 "SafeClears$Control" "served" "I" ∈ TB := tbm (tb1 (List.mem_of_getElem? (i := 187) rfl)) rfl
theorem wq630 : Cond.methodLink RX9 188 yX9_refusalOf ∈ TB := tbm (tb3 (List.mem_of_getElem? (i := 101) rfl)) rfl
theorem wq631 : Cond.instanceMethod yX9_refusalOf ∈ TB := tbm (tb3 (List.mem_of_getElem? (i := 103) rfl)) rfl
theorem wq632 : Cond.selects RX9 yX9_refusalOf yX9_refusalOf ∈ TB := tbm (List.mem_append_left _ (k2_sel_in (lwp1 (List.mem_of_getElem? (i := 12) rfl)))) rfl
theorem wq633 : Cond.methodLink RX9 195 yX0_passSeconds ∈ TB := tbm (tb3 (List.mem_of_getElem? (i := 109) rfl)) rfl
theorem wq634 : Cond.code yX9_pass cX9_pass 4 (some .int) ∈ TB := tbm (tb3 (List.mem_of_getElem? (i := 100) rfl)) rfl
theorem wq635 : Cond.methodLink RX9 198 yX0_fact ∈ TB := tbm (tb4 (List.mem_of_getElem? (i := 1) rfl)) rfl
theorem wq636 : Cond.instanceMethod yX0_fact ∈ TB := tbm (tb4 (List.mem_of_getElem? (i := 2) rfl)) rfl
theorem wq637 : Cond.selects RX0 yX0_fact yX0_fact ∈ TB := tbm (tb4 (List.mem_of_getElem? (i := 3) rfl)) rfl
theorem wq638 : Cond.code yX9_told cX9_told 2 (some .int) ∈ TB := tbm (tb4 (List.mem_of_getElem? (i := 0) rfl)) rfl
theorem wq639 : Cond.methodLink RX9 201 yX0_factOf ∈ TB := tbm (tb4 (List.mem_of_getElem? (i := 18) rfl)) rfl
theorem wq640 : Cond.instanceMethod yX0_factOf ∈ TB := tbm (tb4 (List.mem_of_getElem? (i := 19) rfl)) rfl
theorem wq641 : Cond.selects RX0 yX0_factOf yX0_factOf ∈ TB := tbm (tb4 (List.mem_of_getElem? (i := 20) rfl)) rfl
theorem wq642 : Cond.code yX9_of cX9_of 3 (some .int) ∈ TB := tbm (tb4 (List.mem_of_getElem? (i := 17) rfl)) rfl
theorem wq643 : Cond.code yX9_way cX9_way 3 (some .int) ∈ TB := tbm (tb4 (List.mem_of_getElem? (i := 26) rfl)) rfl
theorem wq644 : Cond.methodLink RX9 204 yX1_cellAt ∈ TB := tbm (tb4 (List.mem_of_getElem? (i := 27) rfl)) rfl
theorem wq645 : Cond.code yX9_clear cX9_clear 3 (some .int) ∈ TB := tbm (tb4 (List.mem_of_getElem? (i := 31) rfl)) rfl
theorem wq646 : Cond.methodLink RX9 207 yX1_meet ∈ TB := tbm (tb4 (List.mem_of_getElem? (i := 32) rfl)) rfl
theorem wq647 : Cond.methodLink RX9 211 yX1_clearOf ∈ TB := tbm (tb4 (List.mem_of_getElem? (i := 33) rfl)) rfl
theorem wq648 : Cond.code yX9_narrow cX9_narrow 3 (some .int) ∈ TB := tbm (tb4 (List.mem_of_getElem? (i := 37) rfl)) rfl
theorem wq649 : Cond.fieldLink RX9 214 "SafeClears$Junction" "narrows" "[I" ∈ TB := tbm (tb1 (List.mem_of_getElem? (i := 61) rfl)) rfl
theorem wq650 : Cond.code yX9_greatestMost cX9_greatestMost 3 (some .int) ∈ TB := tbm (tb4 (List.mem_of_getElem? (i := 64) rfl)) rfl
theorem wq651 : Cond.methodLink RX9 230 Lib.Math.max.name ∈ TB := tbm (tb4 (List.mem_of_getElem? (i := 65) rfl)) rfl
theorem wq652 : Cond.methodLink RX9 217 yX1_meetings ∈ TB := tbm (tb4 (List.mem_of_getElem? (i := 42) rfl)) rfl
theorem wq653 : Cond.instanceMethod yX1_meetings ∈ TB := tbm (tb4 (List.mem_of_getElem? (i := 43) rfl)) rfl
theorem wq654 : Cond.selects RX1 yX1_meetings yX1_meetings ∈ TB := tbm (tb4 (List.mem_of_getElem? (i := 44) rfl)) rfl
theorem wq655 : Cond.methodLink RX9 221 yX1_greatestClear ∈ TB := tbm (tb4 (List.mem_of_getElem? (i := 52) rfl)) rfl
theorem wq656 : Cond.instanceMethod yX1_greatestClear ∈ TB := tbm (tb4 (List.mem_of_getElem? (i := 53) rfl)) rfl
theorem wq657 : Cond.selects RX1 yX1_greatestClear yX1_greatestClear ∈ TB := tbm (tb4 (List.mem_of_getElem? (i := 54) rfl)) rfl
theorem wq658 : Cond.methodLink RX9 224 yX1_allClears ∈ TB := tbm (tb4 (List.mem_of_getElem? (i := 57) rfl)) rfl
theorem wq659 : Cond.instanceMethod yX1_allClears ∈ TB := tbm (tb4 (List.mem_of_getElem? (i := 58) rfl)) rfl
theorem wq660 : Cond.selects RX1 yX1_allClears yX1_allClears ∈ TB := tbm (tb4 (List.mem_of_getElem? (i := 59) rfl)) rfl
theorem wq661 : Cond.methodLink RX9 227 yX9_greatestMost ∈ TB := tbm (tb4 (List.mem_of_getElem? (i := 61) rfl)) rfl
theorem wq662 : Cond.instanceMethod yX9_greatestMost ∈ TB := tbm (tb4 (List.mem_of_getElem? (i := 63) rfl)) rfl
theorem wq663 : Cond.selects RX9 yX9_greatestMost yX9_greatestMost ∈ TB := tbm (List.mem_append_left _ (k2_sel_in (lwp3 (List.mem_of_getElem? (i := 2) rfl)))) rfl
theorem wq664 : Cond.code yX9_table cX9_table 2 (some .int) ∈ TB := tbm (tb4 (List.mem_of_getElem? (i := 41) rfl)) rfl
theorem wq665 : Cond.fieldLink RX9 235 "SafeClears$Phases" "sets" "[I" ∈ TB := tbm (tb1 (List.mem_of_getElem? (i := 131) rfl)) rfl
theorem wq666 : Cond.fieldLink RX9 238 "SafeClears$Phases" "forces" "[I" ∈ TB := tbm (tb1 (List.mem_of_getElem? (i := 134) rfl)) rfl
theorem wq667 : Cond.fieldLink RX9 241 "SafeClears$Phases" "comings" "[I" ∈ TB := tbm (tb1 (List.mem_of_getElem? (i := 137) rfl)) rfl
theorem wq668 : Cond.methodLink RX9 244 yX0_calledPhases ∈ TB := tbm (tb4 (List.mem_of_getElem? (i := 70) rfl)) rfl
theorem wq669 : Cond.methodLink RX9 247 yX9_isIn ∈ TB := tbm (tb4 (List.mem_of_getElem? (i := 71) rfl)) rfl
theorem wq670 : Cond.code yX9_phaseOf cX9_phaseOf 3 (some .int) ∈ TB := tbm (tb4 (List.mem_of_getElem? (i := 69) rfl)) rfl
theorem wq671 : Cond.code yX9_taken cX9_taken 4 (some .int) ∈ TB := tbm (tb4 (List.mem_of_getElem? (i := 75) rfl)) rfl
theorem wq672 : Cond.fieldLink RX9 250 "SafeClears" "KINDS_OF_SORT" "[I" ∈ TB := tbm (tb4 (List.mem_of_getElem? (i := 76) rfl)) rfl
theorem wq673 : Cond.fieldLink RX9 253 "SafeClears$Junction" "kinds" "[I" ∈ TB := tbm (tb1 (List.mem_of_getElem? (i := 54) rfl)) rfl
theorem wq674 : Cond.code yX9_recorded cX9_recorded 4 (some .int) ∈ TB := tbm (tb4 (List.mem_of_getElem? (i := 81) rfl)) rfl
theorem wq675 : Cond.fieldLink RX9 254 "SafeClears$Control" "record" "LSafeClears$Rows;" ∈ TB := tbm (tb1 (List.mem_of_getElem? (i := 175) rfl)) rfl
theorem wq676 : Cond.fieldLink RX9 258 "SafeClears$Rows" "number" "I" ∈ TB := tbm (tb1 (List.mem_of_getElem? (i := 155) rfl)) rfl
theorem wq677 : Cond.methodLink RX9 261 yX4_at ∈ TB := tbm (tb4 (List.mem_of_getElem? (i := 82) rfl)) rfl
theorem wq678 : Cond.methodLink RX9 264 yX0_recordedGreens ∈ TB := tbm (tb4 (List.mem_of_getElem? (i := 90) rfl)) rfl
theorem wq679 : Cond.instanceMethod yX0_recordedGreens ∈ TB := tbm (tb4 (List.mem_of_getElem? (i := 91) rfl)) rfl
theorem wq680 : Cond.selects RX0 yX0_recordedGreens yX0_recordedGreens ∈ TB := tbm (tb4 (List.mem_of_getElem? (i := 92) rfl)) rfl
theorem wq681 : Cond.methodLink RX9 267 yX0_recordedTime ∈ TB := tbm (tb4 (List.mem_of_getElem? (i := 95) rfl)) rfl
theorem wq682 : Cond.instanceMethod yX0_recordedTime ∈ TB := tbm (tb4 (List.mem_of_getElem? (i := 96) rfl)) rfl
theorem wq683 : Cond.selects RX0 yX0_recordedTime yX0_recordedTime ∈ TB := tbm (tb4 (List.mem_of_getElem? (i := 97) rfl)) rfl
theorem wq684 : Cond.methodLink RX9 270 yX0_shortestGreen ∈ TB := tbm (tb4 (List.mem_of_getElem? (i := 103) rfl)) rfl
theorem wq685 : Cond.instanceMethod yX0_shortestGreen ∈ TB := tbm (tb4 (List.mem_of_getElem? (i := 104) rfl)) rfl
theorem wq686 : Cond.selects RX0 yX0_shortestGreen yX0_shortestGreen ∈ TB := tbm (tb4 (List.mem_of_getElem? (i := 105) rfl)) rfl
theorem wq687 : Cond.methodLink RX9 273 yX0_longestGreen ∈ TB := tbm (tb4 (List.mem_of_getElem? (i := 107) rfl)) rfl
theorem wq688 : Cond.instanceMethod yX0_longestGreen ∈ TB := tbm (tb4 (List.mem_of_getElem? (i := 108) rfl)) rfl
theorem wq689 : Cond.selects RX0 yX0_longestGreen yX0_longestGreen ∈ TB := tbm (tb4 (List.mem_of_getElem? (i := 109) rfl)) rfl
theorem wq690 : Cond.code yX9_greens cX9_greens 3 (some .int) ∈ TB := tbm (tb4 (List.mem_of_getElem? (i := 89) rfl)) rfl
theorem wq691 : Cond.methodLink RX9 276 yX8_takersOf ∈ TB := tbm (tb4 (List.mem_of_getElem? (i := 116) rfl)) rfl
theorem wq692 : Cond.instanceMethod yX8_takersOf ∈ TB := tbm (tb4 (List.mem_of_getElem? (i := 117) rfl)) rfl
theorem wq693 : Cond.selects RX8 yX8_takersOf yX8_takersOf ∈ TB := tbm (tb4 (List.mem_of_getElem? (i := 118) rfl)) rfl
theorem wq694 : Cond.code yX9_could cX9_could 4 (some .int) ∈ TB := tbm (tb4 (List.mem_of_getElem? (i := 115) rfl)) rfl
theorem wq695 : Cond.methodLink RX9 279 yJ6_bitCount_0f7a4 ∈ TB := tbm (tb4 (List.mem_of_getElem? (i := 138) rfl)) rfl
theorem wq696 : Cond.code yX9_crowded cX9_crowded 4 (some .int) ∈ TB := tbm (tb4 (List.mem_of_getElem? (i := 137) rfl)) rfl
theorem wq697 : Cond.code yX9_green cX9_green 5 (some .int) ∈ TB := tbm (tb4 (List.mem_of_getElem? (i := 142) rfl)) rfl
theorem wq698 : Cond.fieldLink RX9 284 "SafeClears$World" "greensTold" "LSafeClears$Rows;" ∈ TB := tbm (tb2 (List.mem_of_getElem? (i := 16) rfl)) rfl
theorem wq699 : Cond.methodLink RX9 287 yX4_add ∈ TB := tbm (tb4 (List.mem_of_getElem? (i := 143) rfl)) rfl
theorem wq700 : Cond.methodLink RX9 289 yX8_firstUnproved ∈ TB := tbm (tb4 (List.mem_of_getElem? (i := 148) rfl)) rfl
theorem wq701 : Cond.instanceMethod yX8_firstUnproved ∈ TB := tbm (tb4 (List.mem_of_getElem? (i := 149) rfl)) rfl
theorem wq702 : Cond.selects RX8 yX8_firstUnproved yX8_firstUnproved ∈ TB := tbm (tb4 (List.mem_of_getElem? (i := 150) rfl)) rfl
theorem wq703 : Cond.code yX9_proved cX9_proved 1 (some .int) ∈ TB := tbm (tb4 (List.mem_of_getElem? (i := 147) rfl)) rfl
theorem wq704 : Cond.code yX9_wave cX9_wave 3 (some .int) ∈ TB := tbm (tb4 (List.mem_of_getElem? (i := 165) rfl)) rfl
theorem wq705 : Cond.fieldLink RX9 292 "SafeClears$Wave" "round" "I" ∈ TB := tbm (tb1 (List.mem_of_getElem? (i := 238) rfl)) rfl
theorem wq706 : Cond.fieldLink RX9 297 "SafeClears$Wave" "number" "I" ∈ TB := tbm (tb2 (List.mem_of_getElem? (i := 0) rfl)) rfl
theorem wq707 : Cond.code yX9_node cX9_node 4 (some .int) ∈ TB := tbm (tb4 (List.mem_of_getElem? (i := 169) rfl)) rfl
theorem wq708 : Cond.methodLink RX9 298 yX7_allows ∈ TB := tbm (tb4 (List.mem_of_getElem? (i := 170) rfl)) rfl
theorem wq709 : Cond.instanceMethod yX7_allows ∈ TB := tbm (tb4 (List.mem_of_getElem? (i := 171) rfl)) rfl
theorem wq710 : Cond.selects RX7 yX7_allows yX7_allows ∈ TB := tbm (tb4 (List.mem_of_getElem? (i := 172) rfl)) rfl
theorem wq711 : Cond.methodLink RX9 301 yX7_add ∈ TB := tbm (tb4 (List.mem_of_getElem? (i := 175) rfl)) rfl
theorem wq712 : Cond.instanceMethod yX7_add ∈ TB := tbm (tb4 (List.mem_of_getElem? (i := 176) rfl)) rfl
theorem wq713 : Cond.selects RX7 yX7_add yX7_add ∈ TB := tbm (tb4 (List.mem_of_getElem? (i := 177) rfl)) rfl
theorem wq714 : Cond.code yX9_change cX9_change 5 (some .int) ∈ TB := tbm (tb4 (List.mem_of_getElem? (i := 186) rfl)) rfl
theorem wq715 : Cond.methodLink RX9 303 yX7_at ∈ TB := tbm (tb4 (List.mem_of_getElem? (i := 187) rfl)) rfl
theorem wq716 : Cond.methodLink RX9 304 yX7_put ∈ TB := tbm (tb4 (List.mem_of_getElem? (i := 191) rfl)) rfl
theorem wq717 : Cond.methodLink RX9 308 yX7_bandOn ∈ TB := tbm (tb4 (List.mem_of_getElem? (i := 196) rfl)) rfl
theorem wq718 : Cond.methodLink RX9 311 yX7_bandBack ∈ TB := tbm (tb4 (List.mem_of_getElem? (i := 216) rfl)) rfl
theorem wq719 : Cond.methodLink RX9 314 yX7_bothBands ∈ TB := tbm (tb4 (List.mem_of_getElem? (i := 220) rfl)) rfl
theorem wq720 : Cond.code yX9_band cX9_band 2 (some .int) ∈ TB := tbm (tb4 (List.mem_of_getElem? (i := 195) rfl)) rfl
theorem wq721 : Cond.methodLink RX9 320 yX7_bestOffset ∈ TB := tbm (tb4 (List.mem_of_getElem? (i := 230) rfl)) rfl
theorem wq722 : Cond.methodLink RX9 323 yX7_bandsWith ∈ TB := tbm (tb4 (List.mem_of_getElem? (i := 238) rfl)) rfl
theorem wq723 : Cond.code yX9_nodeBest cX9_nodeBest 4 (some .int) ∈ TB := tbm (tb4 (List.mem_of_getElem? (i := 229) rfl)) rfl
theorem wq724 : Cond.methodLink RX9 326 yX7_tuneAll ∈ TB := tbm (tb5 (List.mem_of_getElem? (i := 3) rfl)) rfl
theorem wq725 : Cond.instanceMethod yX7_tuneAll ∈ TB := tbm (tb5 (List.mem_of_getElem? (i := 4) rfl)) rfl
theorem wq726 : Cond.selects RX7 yX7_tuneAll yX7_tuneAll ∈ TB := tbm (tb5 (List.mem_of_getElem? (i := 5) rfl)) rfl
theorem wq727 : Cond.code yX9_tune cX9_tune 1 (some .int) ∈ TB := tbm (tb5 (List.mem_of_getElem? (i := 2) rfl)) rfl
theorem wq728 : Cond.methodLink RX9 329 yX0_copyFrom ∈ TB := tbm (tb5 (List.mem_of_getElem? (i := 13) rfl)) rfl
theorem wq729 : Cond.code yX9_would cX9_would 4 (some .int) ∈ TB := tbm (tb5 (List.mem_of_getElem? (i := 12) rfl)) rfl
theorem wq730 : Cond.fieldLink RX9 336 "SafeClears$Control" "second" "I" ∈ TB := tbm (tb1 (List.mem_of_getElem? (i := 179) rfl)) rfl
theorem wq731 : Cond.methodLink RX9 333 yX5_isGreen ∈ TB := tbm (tb5 (List.mem_of_getElem? (i := 41) rfl)) rfl
theorem wq732 : Cond.code yX9_turns cX9_turns 5 (some .int) ∈ TB := tbm (tb5 (List.mem_of_getElem? (i := 40) rfl)) rfl
theorem wq733 : Cond.fieldLink RX9 345 "SafeClears$Control" "waited" "I" ∈ TB := tbm (tb1 (List.mem_of_getElem? (i := 185) rfl)) rfl
theorem wq734 : Cond.methodLink RX9 342 yX5_setGaps ∈ TB := tbm (tb5 (List.mem_of_getElem? (i := 50) rfl)) rfl
theorem wq735 : Cond.instanceMethod yX5_setGaps ∈ TB := tbm (tb5 (List.mem_of_getElem? (i := 51) rfl)) rfl
theorem wq736 : Cond.selects RX5 yX5_setGaps yX5_setGaps ∈ TB := tbm (tb5 (List.mem_of_getElem? (i := 52) rfl)) rfl
theorem wq737 : Cond.code yX9_waitedWithGap cX9_waitedWithGap 3 (some .int) ∈ TB := tbm (tb5 (List.mem_of_getElem? (i := 49) rfl)) rfl
theorem wq738 : Cond.methodLink RX9 339 yX9_waitedWithGap ∈ TB := tbm (tb5 (List.mem_of_getElem? (i := 46) rfl)) rfl
theorem wq739 : Cond.instanceMethod yX9_waitedWithGap ∈ TB := tbm (tb5 (List.mem_of_getElem? (i := 48) rfl)) rfl
theorem wq740 : Cond.selects RX9 yX9_waitedWithGap yX9_waitedWithGap ∈ TB := tbm (List.mem_append_left _ (k2_sel_in (lwp3 (List.mem_of_getElem? (i := 9) rfl)))) rfl
theorem wq741 : Cond.code yX9_best cX9_best 8 (some .int) ∈ TB := tbm (tb5 (List.mem_of_getElem? (i := 45) rfl)) rfl
theorem wq742 : Cond.code yX9_note cX9_note 4 (some .int) ∈ TB := tbm (tb5 (List.mem_of_getElem? (i := 57) rfl)) rfl
theorem wq743 : Cond.fieldLink RX9 348 "SafeClears$World" "notes" "LSafeClears$Rows;" ∈ TB := tbm (tb2 (List.mem_of_getElem? (i := 18) rfl)) rfl
theorem wq744 : Cond.constant RX9 351 (99999) ∈ TB := tbm (tb5 (List.mem_of_getElem? (i := 58) rfl)) rfl
theorem wq745 : Cond.fieldLink RX9 355 "SafeClears$Signals" "green" "I" ∈ TB := tbm (tb1 (List.mem_of_getElem? (i := 87) rfl)) rfl
theorem wq746 : Cond.methodLink RX9 358 yX8_notesThatHold ∈ TB := tbm (tb5 (List.mem_of_getElem? (i := 67) rfl)) rfl
theorem wq747 : Cond.instanceMethod yX8_notesThatHold ∈ TB := tbm (tb5 (List.mem_of_getElem? (i := 68) rfl)) rfl
theorem wq748 : Cond.selects RX8 yX8_notesThatHold yX8_notesThatHold ∈ TB := tbm (tb5 (List.mem_of_getElem? (i := 69) rfl)) rfl
theorem wq749 : Cond.code yX9_notesHoldWithGap cX9_notesHoldWithGap 5 (some .boolean) ∈ TB := tbm (tb5 (List.mem_of_getElem? (i := 66) rfl)) rfl
theorem wq750 : Cond.methodLink RX9 352 yX9_notesHoldWithGap ∈ TB := tbm (tb5 (List.mem_of_getElem? (i := 63) rfl)) rfl
theorem wq751 : Cond.instanceMethod yX9_notesHoldWithGap ∈ TB := tbm (tb5 (List.mem_of_getElem? (i := 65) rfl)) rfl
theorem wq752 : Cond.selects RX9 yX9_notesHoldWithGap yX9_notesHoldWithGap ∈ TB := tbm (List.mem_append_left _ (k2_sel_in (lwp3 (List.mem_of_getElem? (i := 10) rfl)))) rfl
theorem wq753 : Cond.code yX9_fits cX9_fits 6 (some .int) ∈ TB := tbm (tb5 (List.mem_of_getElem? (i := 62) rfl)) rfl
theorem wq754 : Cond.code yX9_waitedOnDay cX9_waitedOnDay 3 (some .int) ∈ TB := tbm (tb5 (List.mem_of_getElem? (i := 78) rfl)) rfl
theorem wq755 : Cond.methodLink RX9 361 yX9_waitedOnDay ∈ TB := tbm (tb5 (List.mem_of_getElem? (i := 75) rfl)) rfl
theorem wq756 : Cond.instanceMethod yX9_waitedOnDay ∈ TB := tbm (tb5 (List.mem_of_getElem? (i := 77) rfl)) rfl
theorem wq757 : Cond.selects RX9 yX9_waitedOnDay yX9_waitedOnDay ∈ TB := tbm (List.mem_append_left _ (k2_sel_in (lwp3 (List.mem_of_getElem? (i := 11) rfl)))) rfl
theorem wq758 : Cond.code yX9_day cX9_day 4 (some .int) ∈ TB := tbm (tb5 (List.mem_of_getElem? (i := 74) rfl)) rfl
theorem wq759 : Cond.code yX9_greatestDivisor cX9_greatestDivisor 6 (some .int) ∈ TB := tbm (tb5 (List.mem_of_getElem? (i := 89) rfl)) rfl
theorem wq760 : Cond.code yX9_partOfFraction cX9_partOfFraction 4 (some .long) ∈ TB := tbm (tb5 (List.mem_of_getElem? (i := 86) rfl)) rfl
theorem wq761 : Cond.constantLong RX9 364 (-9223372036854775808) ∈ TB := tbm (tb5 (List.mem_of_getElem? (i := 83) rfl)) rfl
theorem wq762 : Cond.methodLink RX9 421 yX9_greatestDivisor ∈ TB := tbm (tb5 (List.mem_of_getElem? (i := 87) rfl)) rfl
theorem wq763 : Cond.static yX9_greatestDivisor ∈ TB := tbm (tb5 (List.mem_of_getElem? (i := 88) rfl)) rfl
theorem wq764 : Cond.methodLink RX9 366 yX9_partOfFraction ∈ TB := tbm (tb5 (List.mem_of_getElem? (i := 84) rfl)) rfl
theorem wq765 : Cond.static yX9_partOfFraction ∈ TB := tbm (tb5 (List.mem_of_getElem? (i := 85) rfl)) rfl
theorem wq766 : Cond.code yX9_chance cX9_chance 8 (some .long) ∈ TB := tbm (tb5 (List.mem_of_getElem? (i := 82) rfl)) rfl
theorem wq767 : Cond.code yX9_mean cX9_mean 2 (some .long) ∈ TB := tbm (tb5 (List.mem_of_getElem? (i := 93) rfl)) rfl
theorem wq768 : Cond.code yX9_plan cX9_plan 5 (some .int) ∈ TB := tbm (tb5 (List.mem_of_getElem? (i := 97) rfl)) rfl
theorem wq769 : Cond.fieldLink RX9 370 "SafeClears$World" "plan" "LSafeClears$Rows;" ∈ TB := tbm (tb2 (List.mem_of_getElem? (i := 20) rfl)) rfl
theorem wq770 : Cond.methodLink RX9 373 yX8_plannedSeconds ∈ TB := tbm (tb5 (List.mem_of_getElem? (i := 102) rfl)) rfl
theorem wq771 : Cond.instanceMethod yX8_plannedSeconds ∈ TB := tbm (tb5 (List.mem_of_getElem? (i := 103) rfl)) rfl
theorem wq772 : Cond.selects RX8 yX8_plannedSeconds yX8_plannedSeconds ∈ TB := tbm (tb5 (List.mem_of_getElem? (i := 104) rfl)) rfl
theorem wq773 : Cond.methodLink RX9 376 yX0_obey ∈ TB := tbm (tb5 (List.mem_of_getElem? (i := 106) rfl)) rfl
theorem wq774 : Cond.instanceMethod yX0_obey ∈ TB := tbm (tb5 (List.mem_of_getElem? (i := 107) rfl)) rfl
theorem wq775 : Cond.selects RX0 yX0_obey yX0_obey ∈ TB := tbm (tb5 (List.mem_of_getElem? (i := 108) rfl)) rfl
theorem wq776 : Cond.code yX9_ends cX9_ends 4 (some .int) ∈ TB := tbm (tb5 (List.mem_of_getElem? (i := 101) rfl)) rfl
theorem wq777 : Cond.fieldLink RX9 380 "SafeClears$Tape" "sort" "I" ∈ TB := tbm (tb2 (List.mem_of_getElem? (i := 83) rfl)) rfl
theorem wq778 : Cond.fieldLink RX9 386 "SafeClears$Tape" "items" "[J" ∈ TB := tbm (tb2 (List.mem_of_getElem? (i := 86) rfl)) rfl
theorem wq779 : Cond.methodLink RX9 383 yX6_hasPlace ∈ TB := tbm (tb5 (List.mem_of_getElem? (i := 116) rfl)) rfl
theorem wq780 : Cond.instanceMethod yX6_hasPlace ∈ TB := tbm (tb5 (List.mem_of_getElem? (i := 117) rfl)) rfl
theorem wq781 : Cond.selects RX6 yX6_hasPlace yX6_hasPlace ∈ TB := tbm (tb5 (List.mem_of_getElem? (i := 118) rfl)) rfl
theorem wq782 : Cond.methodLink RX9 390 yX0_lightOf ∈ TB := tbm (tb5 (List.mem_of_getElem? (i := 121) rfl)) rfl
theorem wq783 : Cond.code yX9_judge cX9_judge 5 (some .int) ∈ TB := tbm (tb5 (List.mem_of_getElem? (i := 115) rfl)) rfl
theorem wq784 : Cond.fieldLink RX9 396 "SafeClears" "hasImage" "Z" ∈ TB := tbm (tb2 (List.mem_of_getElem? (i := 105) rfl)) rfl
theorem wq785 : Cond.methodLink RX9 393 yX8_copyFrom ∈ TB := tbm (tb5 (List.mem_of_getElem? (i := 126) rfl)) rfl
theorem wq786 : Cond.instanceMethod yX8_copyFrom ∈ TB := tbm (tb5 (List.mem_of_getElem? (i := 127) rfl)) rfl
theorem wq787 : Cond.selects RX8 yX8_copyFrom yX8_copyFrom ∈ TB := tbm (tb5 (List.mem_of_getElem? (i := 128) rfl)) rfl
theorem wq788 : Cond.code yX9_image cX9_image 1 (some .int) ∈ TB := tbm (tb5 (List.mem_of_getElem? (i := 125) rfl)) rfl
theorem wq789 : Cond.code yX9_undo cX9_undo 1 (some .int) ∈ TB := tbm (tb5 (List.mem_of_getElem? (i := 140) rfl)) rfl
theorem wq790 : Cond.code yX9_count cX9_count 2 (some .int) ∈ TB := tbm (tb5 (List.mem_of_getElem? (i := 144) rfl)) rfl
theorem wq791 : Cond.code yX9_tape cX9_tape 4 (some .int) ∈ TB := tbm (tb5 (List.mem_of_getElem? (i := 148) rfl)) rfl
theorem wq792 : Cond.methodLink RX9 402 yX6_holdNothing ∈ TB := tbm (tb5 (List.mem_of_getElem? (i := 149) rfl)) rfl
theorem wq793 : Cond.instanceMethod yX6_holdNothing ∈ TB := tbm (tb5 (List.mem_of_getElem? (i := 150) rfl)) rfl
theorem wq794 : Cond.selects RX6 yX6_holdNothing yX6_holdNothing ∈ TB := tbm (tb5 (List.mem_of_getElem? (i := 151) rfl)) rfl
theorem wq795 : Cond.methodLink RX9 405 yX6_hold ∈ TB := tbm (tb5 (List.mem_of_getElem? (i := 153) rfl)) rfl
theorem wq796 : Cond.instanceMethod yX6_hold ∈ TB := tbm (tb5 (List.mem_of_getElem? (i := 154) rfl)) rfl
theorem wq797 : Cond.selects RX6 yX6_hold yX6_hold ∈ TB := tbm (tb5 (List.mem_of_getElem? (i := 155) rfl)) rfl
theorem wq798 : Cond.code yX9_item cX9_item 6 (some .int) ∈ TB := tbm (tb5 (List.mem_of_getElem? (i := 163) rfl)) rfl
theorem wq799 : Cond.methodLink RX9 408 yX6_narrowed ∈ TB := tbm (tb5 (List.mem_of_getElem? (i := 164) rfl)) rfl
theorem wq800 : Cond.instanceMethod yX6_narrowed ∈ TB := tbm (tb5 (List.mem_of_getElem? (i := 165) rfl)) rfl
theorem wq801 : Cond.selects RX6 yX6_narrowed yX6_narrowed ∈ TB := tbm (tb5 (List.mem_of_getElem? (i := 166) rfl)) rfl
theorem wq802 : Cond.code yX9_peek cX9_peek 3 (some .long) ∈ TB := tbm (tb5 (List.mem_of_getElem? (i := 171) rfl)) rfl
theorem wq803 : Cond.code yX9_shift cX9_shift 8 (some .int) ∈ TB := tbm (tb5 (List.mem_of_getElem? (i := 175) rfl)) rfl
theorem wq804 : Cond.methodLink RX9 415 arraycopyName ∈ TB := tbm (tb5 (List.mem_of_getElem? (i := 180) rfl)) rfl
theorem wq805 : Cond.methodLink RX9 412 yX6_hasPlaces ∈ TB := tbm (tb5 (List.mem_of_getElem? (i := 176) rfl)) rfl
theorem wq806 : Cond.instanceMethod yX6_hasPlaces ∈ TB := tbm (tb5 (List.mem_of_getElem? (i := 177) rfl)) rfl
theorem wq807 : Cond.selects RX6 yX6_hasPlaces yX6_hasPlaces ∈ TB := tbm (tb5 (List.mem_of_getElem? (i := 178) rfl)) rfl
theorem wq808 : Cond.code yX10_at cX10_at 3 (some .int) ∈ TB := tbm (tb5 (List.mem_of_getElem? (i := 198) rfl)) rfl
theorem wq809 : Cond.fieldLink RX10 11 "SafeClearsModel" "s" "[I" ∈ TB := tbm (tb5 (List.mem_of_getElem? (i := 216) rfl)) rfl
theorem wq810 : Cond.code yX10_placeIn cX10_placeIn 4 (some .int) ∈ TB := tbm (tb5 (List.mem_of_getElem? (i := 202) rfl)) rfl
theorem wq811 : Cond.methodLink RX10 56 yX10_at ∈ TB := tbm (tb5 (List.mem_of_getElem? (i := 195) rfl)) rfl
theorem wq812 : Cond.instanceMethod yX10_at ∈ TB := tbm (tb5 (List.mem_of_getElem? (i := 197) rfl)) rfl
theorem wq813 : Cond.selects RX10 yX10_at yX10_at ∈ TB := tbm (List.mem_append_left _ (k2_sel_in (lwp3 (List.mem_of_getElem? (i := 14) rfl)))) rfl
theorem wq814 : Cond.initialized RX10 ∈ TB := tbm (tb1 (List.mem_of_getElem? (i := 12) rfl)) rfl
theorem wq815 : Cond.code yX10_amber cX10_amber 2 (some .int) ∈ TB := tbm (tb5 (List.mem_of_getElem? (i := 206) rfl)) rfl
theorem wq816 : Cond.fieldLink RX10 53 "SafeClearsModel" "AMBER" "[I" ∈ TB := tbm (tb5 (List.mem_of_getElem? (i := 207) rfl)) rfl
theorem wq817 : Cond.code yX10_pace cX10_pace 2 (some .int) ∈ TB := tbm (tb5 (List.mem_of_getElem? (i := 212) rfl)) rfl
theorem wq818 : Cond.fieldLink RX10 60 "SafeClearsModel" "PACE" "[I" ∈ TB := tbm (tb5 (List.mem_of_getElem? (i := 213) rfl)) rfl
theorem wq819 : Cond.fieldLink RX10 24 "SafeClearsModel" "narrow" "[I" ∈ TB := tbm (tb5 (List.mem_of_getElem? (i := 222) rfl)) rfl
theorem wq820 : Cond.fieldLink RX10 21 "SafeClearsModel" "clear" "[I" ∈ TB := tbm (tb5 (List.mem_of_getElem? (i := 221) rfl)) rfl
theorem wq821 : Cond.methodLink RX10 73 Lib.Math.max.name ∈ TB := tbm (tb5 (List.mem_of_getElem? (i := 215) rfl)) rfl
theorem wq822 : Cond.methodLink RX10 63 yX10_placeIn ∈ TB := tbm (tb5 (List.mem_of_getElem? (i := 199) rfl)) rfl
theorem wq823 : Cond.instanceMethod yX10_placeIn ∈ TB := tbm (tb5 (List.mem_of_getElem? (i := 201) rfl)) rfl
theorem wq824 : Cond.selects RX10 yX10_placeIn yX10_placeIn ∈ TB := tbm (List.mem_append_left _ (k2_sel_in (lwp3 (List.mem_of_getElem? (i := 15) rfl)))) rfl
theorem wq825 : Cond.methodLink RX10 66 yX10_amber ∈ TB := tbm (tb5 (List.mem_of_getElem? (i := 203) rfl)) rfl
theorem wq826 : Cond.instanceMethod yX10_amber ∈ TB := tbm (tb5 (List.mem_of_getElem? (i := 205) rfl)) rfl
theorem wq827 : Cond.selects RX10 yX10_amber yX10_amber ∈ TB := tbm (List.mem_append_left _ (k2_sel_in (lwp4 (List.mem_of_getElem? (i := 0) rfl)))) rfl
theorem wq828 : Cond.methodLink RX10 70 yX10_pace ∈ TB := tbm (tb5 (List.mem_of_getElem? (i := 209) rfl)) rfl
theorem wq829 : Cond.instanceMethod yX10_pace ∈ TB := tbm (tb5 (List.mem_of_getElem? (i := 211) rfl)) rfl
theorem wq830 : Cond.selects RX10 yX10_pace yX10_pace ∈ TB := tbm (List.mem_append_left _ (k2_sel_in (lwp4 (List.mem_of_getElem? (i := 1) rfl)))) rfl
theorem wq831 : Cond.code yX10_clears cX10_clears 8 none ∈ TB := tbm (tb5 (List.mem_of_getElem? (i := 194) rfl)) rfl
theorem wq832 : Cond.methodLink RX10 78 yX10_clears ∈ TB := tbm (tb5 (List.mem_of_getElem? (i := 191) rfl)) rfl
theorem wq833 : Cond.instanceMethod yX10_clears ∈ TB := tbm (tb5 (List.mem_of_getElem? (i := 193) rfl)) rfl
theorem wq834 : Cond.selects RX10 yX10_clears yX10_clears ∈ TB := tbm (List.mem_append_left _ (k2_sel_in (lwp3 (List.mem_of_getElem? (i := 13) rfl)))) rfl
theorem wq835 : Cond.code yX10_clears_ cX10_clears_ 3 none ∈ TB := tbm (tb5 (List.mem_of_getElem? (i := 190) rfl)) rfl
theorem wq836 : Cond.methodLink RX10 3 objectInit ∈ TB := tbm (tb5 (List.mem_of_getElem? (i := 186) rfl)) rfl
theorem wq837 : Cond.fieldLink RX10 15 "SafeClearsModel" "image" "[I" ∈ TB := tbm (tb5 (List.mem_of_getElem? (i := 217) rfl)) rfl
theorem wq838 : Cond.fieldLink RX10 18 "SafeClearsModel" "mind" "[I" ∈ TB := tbm (tb5 (List.mem_of_getElem? (i := 218) rfl)) rfl
theorem wq839 : Cond.fieldLink RX10 27 "SafeClearsModel" "text" "[I" ∈ TB := tbm (tb5 (List.mem_of_getElem? (i := 223) rfl)) rfl
theorem wq840 : Cond.fieldLink RX10 30 "SafeClearsModel" "read" "[I" ∈ TB := tbm (tb5 (List.mem_of_getElem? (i := 224) rfl)) rfl
theorem wq841 : Cond.fieldLink RX10 33 "SafeClearsModel" "sort" "[I" ∈ TB := tbm (tb5 (List.mem_of_getElem? (i := 228) rfl)) rfl
theorem wq842 : Cond.fieldLink RX10 36 "SafeClearsModel" "items" "[I" ∈ TB := tbm (tb5 (List.mem_of_getElem? (i := 229) rfl)) rfl
theorem wq843 : Cond.fieldLink RX10 39 "SafeClearsModel" "cell" "[J" ∈ TB := tbm (tb5 (List.mem_of_getElem? (i := 230) rfl)) rfl
theorem wq844 : Cond.fieldLink RX10 43 "SafeClearsModel" "carried" "[J" ∈ TB := tbm (tb5 (List.mem_of_getElem? (i := 231) rfl)) rfl
theorem wq845 : Cond.methodLink RX10 46 yX10_clears_ ∈ TB := tbm (tb5 (List.mem_of_getElem? (i := 187) rfl)) rfl
theorem wq846 : Cond.instanceMethod yX10_clears_ ∈ TB := tbm (tb5 (List.mem_of_getElem? (i := 189) rfl)) rfl
theorem wq847 : Cond.selects RX10 yX10_clears_ yX10_clears_ ∈ TB := tbm (List.mem_append_left _ (k2_sel_in (lwp3 (List.mem_of_getElem? (i := 12) rfl)))) rfl
theorem wq848 : Cond.code yX10_init cX10_init 2 none ∈ TB := tbm (tb5 (List.mem_of_getElem? (i := 185) rfl)) rfl
theorem wq849 : Cond.code yX10_isIn cX10_isIn 3 (some .boolean) ∈ TB := tbm (tb6 (List.mem_of_getElem? (i := 34) rfl)) rfl
theorem wq850 : Cond.code yX10_has cX10_has 2 (some .boolean) ∈ TB := tbm (tb6 (List.mem_of_getElem? (i := 105) rfl)) rfl
theorem wq851 : Cond.code yX10_isSignal cX10_isSignal 2 (some .boolean) ∈ TB := tbm (tb6 (List.mem_of_getElem? (i := 54) rfl)) rfl
theorem wq852 : Cond.methodLink RX10 49 yX10_isIn ∈ TB := tbm (tb6 (List.mem_of_getElem? (i := 32) rfl)) rfl
theorem wq853 : Cond.static yX10_isIn ∈ TB := tbm (tb6 (List.mem_of_getElem? (i := 33) rfl)) rfl
theorem wq854 : Cond.code yX10_isPhase cX10_isPhase 2 (some .boolean) ∈ TB := tbm (tb7 (List.mem_of_getElem? (i := 26) rfl)) rfl
theorem wq855 : Cond.code yX10_puts cX10_puts 4 none ∈ TB := tbm (tb6 (List.mem_of_getElem? (i := 42) rfl)) rfl
theorem wq856 : Cond.code yX10_setOf cX10_setOf 2 (some .int) ∈ TB := tbm (tb6 (List.mem_of_getElem? (i := 149) rfl)) rfl
theorem wq857 : Cond.code yX10_copies cX10_copies 3 none ∈ TB := tbm (tb7 (List.mem_of_getElem? (i := 129) rfl)) rfl
theorem wq858 : Cond.code yX10_meet cX10_meet 3 (some .boolean) ∈ TB := tbm (tb6 (List.mem_of_getElem? (i := 113) rfl)) rfl
theorem wq859 : Cond.code yX10_meets cX10_meets 4 (some .int) ∈ TB := tbm (tb6 (List.mem_of_getElem? (i := 109) rfl)) rfl
theorem wq860 : Cond.methodLink RX10 81 yX10_meet ∈ TB := tbm (tb6 (List.mem_of_getElem? (i := 110) rfl)) rfl
theorem wq861 : Cond.instanceMethod yX10_meet ∈ TB := tbm (tb6 (List.mem_of_getElem? (i := 112) rfl)) rfl
theorem wq862 : Cond.selects RX10 yX10_meet yX10_meet ∈ TB := tbm (List.mem_append_left _ (k2_sel_in (lwp4 (List.mem_of_getElem? (i := 13) rfl)))) rfl
theorem wq863 : Cond.code yX10_comes cX10_comes 8 none ∈ TB := tbm (tb6 (List.mem_of_getElem? (i := 38) rfl)) rfl
theorem wq864 : Cond.methodLink RX10 85 yX10_puts ∈ TB := tbm (tb6 (List.mem_of_getElem? (i := 39) rfl)) rfl
theorem wq865 : Cond.instanceMethod yX10_puts ∈ TB := tbm (tb6 (List.mem_of_getElem? (i := 41) rfl)) rfl
theorem wq866 : Cond.selects RX10 yX10_puts yX10_puts ∈ TB := tbm (List.mem_append_left _ (k2_sel_in (lwp4 (List.mem_of_getElem? (i := 3) rfl)))) rfl
theorem wq867 : Cond.code yX10_goesOn cX10_goesOn 3 none ∈ TB := tbm (tb6 (List.mem_of_getElem? (i := 46) rfl)) rfl
theorem wq868 : Cond.methodLink RX10 89 yX10_comes ∈ TB := tbm (tb6 (List.mem_of_getElem? (i := 35) rfl)) rfl
theorem wq869 : Cond.instanceMethod yX10_comes ∈ TB := tbm (tb6 (List.mem_of_getElem? (i := 37) rfl)) rfl
theorem wq870 : Cond.selects RX10 yX10_comes yX10_comes ∈ TB := tbm (List.mem_append_left _ (k2_sel_in (lwp4 (List.mem_of_getElem? (i := 2) rfl)))) rfl
theorem wq871 : Cond.methodLink RX10 93 yX10_goesOn ∈ TB := tbm (tb6 (List.mem_of_getElem? (i := 43) rfl)) rfl
theorem wq872 : Cond.instanceMethod yX10_goesOn ∈ TB := tbm (tb6 (List.mem_of_getElem? (i := 45) rfl)) rfl
theorem wq873 : Cond.selects RX10 yX10_goesOn yX10_goesOn ∈ TB := tbm (List.mem_append_left _ (k2_sel_in (lwp4 (List.mem_of_getElem? (i := 4) rfl)))) rfl
theorem wq874 : Cond.code yX10_signal cX10_signal 3 (some .int) ∈ TB := tbm (tb6 (List.mem_of_getElem? (i := 31) rfl)) rfl
theorem wq875 : Cond.methodLink RX10 96 yX10_isSignal ∈ TB := tbm (tb6 (List.mem_of_getElem? (i := 51) rfl)) rfl
theorem wq876 : Cond.instanceMethod yX10_isSignal ∈ TB := tbm (tb6 (List.mem_of_getElem? (i := 53) rfl)) rfl
theorem wq877 : Cond.selects RX10 yX10_isSignal yX10_isSignal ∈ TB := tbm (List.mem_append_left _ (k2_sel_in (lwp4 (List.mem_of_getElem? (i := 5) rfl)))) rfl
theorem wq878 : Cond.code yX10_goes cX10_goes 3 (some .int) ∈ TB := tbm (tb6 (List.mem_of_getElem? (i := 50) rfl)) rfl
theorem wq879 : Cond.code yX10_tell cX10_tell 6 (some .int) ∈ TB := tbm (tb6 (List.mem_of_getElem? (i := 58) rfl)) rfl
theorem wq880 : Cond.methodLink RX10 100 Lib.Math.min.name ∈ TB := tbm (tb6 (List.mem_of_getElem? (i := 59) rfl)) rfl
theorem wq881 : Cond.code yX10_feed cX10_feed 2 (some .int) ∈ TB := tbm (tb6 (List.mem_of_getElem? (i := 63) rfl)) rfl
theorem wq882 : Cond.fieldLink RX10 103 "SafeClearsModel" "letters" "I" ∈ TB := tbm (tb5 (List.mem_of_getElem? (i := 225) rfl)) rfl
theorem wq883 : Cond.code yX10_fails cX10_fails 2 none ∈ TB := tbm (tb6 (List.mem_of_getElem? (i := 78) rfl)) rfl
theorem wq884 : Cond.fieldLink RX10 107 "SafeClearsModel" "fault" "I" ∈ TB := tbm (tb5 (List.mem_of_getElem? (i := 227) rfl)) rfl
theorem wq885 : Cond.code yX10_takes cX10_takes 3 (some .boolean) ∈ TB := tbm (tb6 (List.mem_of_getElem? (i := 86) rfl)) rfl
theorem wq886 : Cond.fieldLink RX10 110 "SafeClearsModel" "at" "I" ∈ TB := tbm (tb5 (List.mem_of_getElem? (i := 226) rfl)) rfl
theorem wq887 : Cond.code yX10_sees cX10_sees 3 (some .boolean) ∈ TB := tbm (tb6 (List.mem_of_getElem? (i := 82) rfl)) rfl
theorem wq888 : Cond.code yX10_number cX10_number 6 (some .int) ∈ TB := tbm (tb6 (List.mem_of_getElem? (i := 90) rfl)) rfl
theorem wq889 : Cond.methodLink RX10 112 yX10_sees ∈ TB := tbm (tb6 (List.mem_of_getElem? (i := 79) rfl)) rfl
theorem wq890 : Cond.instanceMethod yX10_sees ∈ TB := tbm (tb6 (List.mem_of_getElem? (i := 81) rfl)) rfl
theorem wq891 : Cond.selects RX10 yX10_sees yX10_sees ∈ TB := tbm (List.mem_append_left _ (k2_sel_in (lwp4 (List.mem_of_getElem? (i := 8) rfl)))) rfl
theorem wq892 : Cond.methodLink RX10 115 yX10_fails ∈ TB := tbm (tb6 (List.mem_of_getElem? (i := 75) rfl)) rfl
theorem wq893 : Cond.instanceMethod yX10_fails ∈ TB := tbm (tb6 (List.mem_of_getElem? (i := 77) rfl)) rfl
theorem wq894 : Cond.selects RX10 yX10_fails yX10_fails ∈ TB := tbm (List.mem_append_left _ (k2_sel_in (lwp4 (List.mem_of_getElem? (i := 7) rfl)))) rfl
theorem wq895 : Cond.code yX10_kindOf cX10_kindOf 1 (some .int) ∈ TB := tbm (tb6 (List.mem_of_getElem? (i := 74) rfl)) rfl
theorem wq896 : Cond.methodLink RX10 119 yX10_kindOf ∈ TB := tbm (tb6 (List.mem_of_getElem? (i := 72) rfl)) rfl
theorem wq897 : Cond.static yX10_kindOf ∈ TB := tbm (tb6 (List.mem_of_getElem? (i := 73) rfl)) rfl
theorem wq898 : Cond.methodLink RX10 122 yX10_takes ∈ TB := tbm (tb6 (List.mem_of_getElem? (i := 83) rfl)) rfl
theorem wq899 : Cond.instanceMethod yX10_takes ∈ TB := tbm (tb6 (List.mem_of_getElem? (i := 85) rfl)) rfl
theorem wq900 : Cond.selects RX10 yX10_takes yX10_takes ∈ TB := tbm (List.mem_append_left _ (k2_sel_in (lwp4 (List.mem_of_getElem? (i := 9) rfl)))) rfl
theorem wq901 : Cond.methodLink RX10 125 yX10_number ∈ TB := tbm (tb6 (List.mem_of_getElem? (i := 87) rfl)) rfl
theorem wq902 : Cond.instanceMethod yX10_number ∈ TB := tbm (tb6 (List.mem_of_getElem? (i := 89) rfl)) rfl
theorem wq903 : Cond.selects RX10 yX10_number yX10_number ∈ TB := tbm (List.mem_append_left _ (k2_sel_in (lwp4 (List.mem_of_getElem? (i := 10) rfl)))) rfl
theorem wq904 : Cond.code yX10_clause cX10_clause 6 none ∈ TB := tbm (tb6 (List.mem_of_getElem? (i := 71) rfl)) rfl
theorem wq905 : Cond.methodLink RX10 129 yX10_clause ∈ TB := tbm (tb6 (List.mem_of_getElem? (i := 68) rfl)) rfl
theorem wq906 : Cond.instanceMethod yX10_clause ∈ TB := tbm (tb6 (List.mem_of_getElem? (i := 70) rfl)) rfl
theorem wq907 : Cond.selects RX10 yX10_clause yX10_clause ∈ TB := tbm (List.mem_append_left _ (k2_sel_in (lwp4 (List.mem_of_getElem? (i := 6) rfl)))) rfl
theorem wq908 : Cond.code yX10_read cX10_read 6 (some .int) ∈ TB := tbm (tb6 (List.mem_of_getElem? (i := 67) rfl)) rfl
theorem wq909 : Cond.code yX10_safety cX10_safety 3 (some .int) ∈ TB := tbm (tb6 (List.mem_of_getElem? (i := 94) rfl)) rfl
theorem wq910 : Cond.code yX10_anyMeet cX10_anyMeet 3 (some .boolean) ∈ TB := tbm (tb6 (List.mem_of_getElem? (i := 102) rfl)) rfl
theorem wq911 : Cond.methodLink RX10 132 yX10_has ∈ TB := tbm (tb6 (List.mem_of_getElem? (i := 103) rfl)) rfl
theorem wq912 : Cond.static yX10_has ∈ TB := tbm (tb6 (List.mem_of_getElem? (i := 104) rfl)) rfl
theorem wq913 : Cond.methodLink RX10 135 yX10_meets ∈ TB := tbm (tb6 (List.mem_of_getElem? (i := 106) rfl)) rfl
theorem wq914 : Cond.instanceMethod yX10_meets ∈ TB := tbm (tb6 (List.mem_of_getElem? (i := 108) rfl)) rfl
theorem wq915 : Cond.selects RX10 yX10_meets yX10_meets ∈ TB := tbm (List.mem_append_left _ (k2_sel_in (lwp4 (List.mem_of_getElem? (i := 12) rfl)))) rfl
theorem wq916 : Cond.code yX10_phase cX10_phase 4 (some .int) ∈ TB := tbm (tb6 (List.mem_of_getElem? (i := 98) rfl)) rfl
theorem wq917 : Cond.methodLink RX10 138 yX10_anyMeet ∈ TB := tbm (tb6 (List.mem_of_getElem? (i := 99) rfl)) rfl
theorem wq918 : Cond.instanceMethod yX10_anyMeet ∈ TB := tbm (tb6 (List.mem_of_getElem? (i := 101) rfl)) rfl
theorem wq919 : Cond.selects RX10 yX10_anyMeet yX10_anyMeet ∈ TB := tbm (List.mem_append_left _ (k2_sel_in (lwp4 (List.mem_of_getElem? (i := 11) rfl)))) rfl
theorem wq920 : Cond.code yX10_comesOn cX10_comesOn 2 none ∈ TB := tbm (tb6 (List.mem_of_getElem? (i := 121) rfl)) rfl
theorem wq921 : Cond.code yX10_start cX10_start 1 (some .int) ∈ TB := tbm (tb6 (List.mem_of_getElem? (i := 117) rfl)) rfl
theorem wq922 : Cond.methodLink RX10 141 yX10_comesOn ∈ TB := tbm (tb6 (List.mem_of_getElem? (i := 118) rfl)) rfl
theorem wq923 : Cond.instanceMethod yX10_comesOn ∈ TB := tbm (tb6 (List.mem_of_getElem? (i := 120) rfl)) rfl
theorem wq924 : Cond.selects RX10 yX10_comesOn yX10_comesOn ∈ TB := tbm (List.mem_append_left _ (k2_sel_in (lwp4 (List.mem_of_getElem? (i := 14) rfl)))) rfl
theorem wq925 : Cond.code yX10_draws cX10_draws 2 (some .int) ∈ TB := tbm (tb6 (List.mem_of_getElem? (i := 177) rfl)) rfl
theorem wq926 : Cond.constant RX10 144 (1103515245) ∈ TB := tbm (tb6 (List.mem_of_getElem? (i := 178) rfl)) rfl
theorem wq927 : Cond.code yX10_joins cX10_joins 4 (some .int) ∈ TB := tbm (tb6 (List.mem_of_getElem? (i := 133) rfl)) rfl
theorem wq928 : Cond.methodLink RX10 145 yX10_draws ∈ TB := tbm (tb6 (List.mem_of_getElem? (i := 174) rfl)) rfl
theorem wq929 : Cond.instanceMethod yX10_draws ∈ TB := tbm (tb6 (List.mem_of_getElem? (i := 176) rfl)) rfl
theorem wq930 : Cond.selects RX10 yX10_draws yX10_draws ∈ TB := tbm (List.mem_append_left _ (k2_sel_in (lwp5 (List.mem_of_getElem? (i := 6) rfl)))) rfl
theorem wq931 : Cond.methodLink RX10 148 yX10_joins ∈ TB := tbm (tb6 (List.mem_of_getElem? (i := 130) rfl)) rfl
theorem wq932 : Cond.instanceMethod yX10_joins ∈ TB := tbm (tb6 (List.mem_of_getElem? (i := 132) rfl)) rfl
theorem wq933 : Cond.selects RX10 yX10_joins yX10_joins ∈ TB := tbm (List.mem_append_left _ (k2_sel_in (lwp4 (List.mem_of_getElem? (i := 15) rfl)))) rfl
theorem wq934 : Cond.code yX10_coming cX10_coming 2 none ∈ TB := tbm (tb6 (List.mem_of_getElem? (i := 173) rfl)) rfl
theorem wq935 : Cond.code yX10_local cX10_local 2 (some .int) ∈ TB := tbm (tb6 (List.mem_of_getElem? (i := 206) rfl)) rfl
theorem wq936 : Cond.code yX10_isCalled cX10_isCalled 4 (some .boolean) ∈ TB := tbm (tb6 (List.mem_of_getElem? (i := 202) rfl)) rfl
theorem wq937 : Cond.methodLink RX10 151 yX10_setOf ∈ TB := tbm (tb6 (List.mem_of_getElem? (i := 146) rfl)) rfl
theorem wq938 : Cond.instanceMethod yX10_setOf ∈ TB := tbm (tb6 (List.mem_of_getElem? (i := 148) rfl)) rfl
theorem wq939 : Cond.selects RX10 yX10_setOf yX10_setOf ∈ TB := tbm (List.mem_append_left _ (k2_sel_in (lwp5 (List.mem_of_getElem? (i := 1) rfl)))) rfl
theorem wq940 : Cond.code yX10_called cX10_called 3 (some .int) ∈ TB := tbm (tb6 (List.mem_of_getElem? (i := 198) rfl)) rfl
theorem wq941 : Cond.methodLink RX10 154 yX10_isCalled ∈ TB := tbm (tb6 (List.mem_of_getElem? (i := 199) rfl)) rfl
theorem wq942 : Cond.instanceMethod yX10_isCalled ∈ TB := tbm (tb6 (List.mem_of_getElem? (i := 201) rfl)) rfl
theorem wq943 : Cond.selects RX10 yX10_isCalled yX10_isCalled ∈ TB := tbm (List.mem_append_left _ (k2_sel_in (lwp5 (List.mem_of_getElem? (i := 12) rfl)))) rfl
theorem wq944 : Cond.code yX10_firstWith cX10_firstWith 3 (some .int) ∈ TB := tbm (tb6 (List.mem_of_getElem? (i := 145) rfl)) rfl
theorem wq945 : Cond.code yX10_greenFor cX10_greenFor 2 (some .int) ∈ TB := tbm (tb6 (List.mem_of_getElem? (i := 186) rfl)) rfl
theorem wq946 : Cond.code yX10_changes cX10_changes 4 none ∈ TB := tbm (tb6 (List.mem_of_getElem? (i := 190) rfl)) rfl
theorem wq947 : Cond.methodLink RX10 157 yX10_greenFor ∈ TB := tbm (tb6 (List.mem_of_getElem? (i := 183) rfl)) rfl
theorem wq948 : Cond.instanceMethod yX10_greenFor ∈ TB := tbm (tb6 (List.mem_of_getElem? (i := 185) rfl)) rfl
theorem wq949 : Cond.selects RX10 yX10_greenFor yX10_greenFor ∈ TB := tbm (List.mem_append_left _ (k2_sel_in (lwp5 (List.mem_of_getElem? (i := 8) rfl)))) rfl
theorem wq950 : Cond.methodLink RX10 160 yX10_firstWith ∈ TB := tbm (tb6 (List.mem_of_getElem? (i := 142) rfl)) rfl
theorem wq951 : Cond.instanceMethod yX10_firstWith ∈ TB := tbm (tb6 (List.mem_of_getElem? (i := 144) rfl)) rfl
theorem wq952 : Cond.selects RX10 yX10_firstWith yX10_firstWith ∈ TB := tbm (List.mem_append_left _ (k2_sel_in (lwp5 (List.mem_of_getElem? (i := 0) rfl)))) rfl
theorem wq953 : Cond.methodLink RX10 163 yX10_changes ∈ TB := tbm (tb6 (List.mem_of_getElem? (i := 187) rfl)) rfl
theorem wq954 : Cond.instanceMethod yX10_changes ∈ TB := tbm (tb6 (List.mem_of_getElem? (i := 189) rfl)) rfl
theorem wq955 : Cond.selects RX10 yX10_changes yX10_changes ∈ TB := tbm (List.mem_append_left _ (k2_sel_in (lwp5 (List.mem_of_getElem? (i := 9) rfl)))) rfl
theorem wq956 : Cond.code yX10_changesByEmergency cX10_changesByEmergency 4 none ∈ TB := tbm (tb6 (List.mem_of_getElem? (i := 182) rfl)) rfl
theorem wq957 : Cond.methodLink RX10 166 yX10_called ∈ TB := tbm (tb6 (List.mem_of_getElem? (i := 195) rfl)) rfl
theorem wq958 : Cond.instanceMethod yX10_called ∈ TB := tbm (tb6 (List.mem_of_getElem? (i := 197) rfl)) rfl
theorem wq959 : Cond.selects RX10 yX10_called yX10_called ∈ TB := tbm (List.mem_append_left _ (k2_sel_in (lwp5 (List.mem_of_getElem? (i := 11) rfl)))) rfl
theorem wq960 : Cond.methodLink RX10 170 yX10_local ∈ TB := tbm (tb6 (List.mem_of_getElem? (i := 203) rfl)) rfl
theorem wq961 : Cond.instanceMethod yX10_local ∈ TB := tbm (tb6 (List.mem_of_getElem? (i := 205) rfl)) rfl
theorem wq962 : Cond.selects RX10 yX10_local yX10_local ∈ TB := tbm (List.mem_append_left _ (k2_sel_in (lwp5 (List.mem_of_getElem? (i := 13) rfl)))) rfl
theorem wq963 : Cond.code yX10_changesByCalls cX10_changesByCalls 8 none ∈ TB := tbm (tb6 (List.mem_of_getElem? (i := 194) rfl)) rfl
theorem wq964 : Cond.code yX10_mayTurn cX10_mayTurn 3 (some .boolean) ∈ TB := tbm (tb6 (List.mem_of_getElem? (i := 214) rfl)) rfl
theorem wq965 : Cond.methodLink RX10 173 yX10_mayTurn ∈ TB := tbm (tb6 (List.mem_of_getElem? (i := 211) rfl)) rfl
theorem wq966 : Cond.instanceMethod yX10_mayTurn ∈ TB := tbm (tb6 (List.mem_of_getElem? (i := 213) rfl)) rfl
theorem wq967 : Cond.selects RX10 yX10_mayTurn yX10_mayTurn ∈ TB := tbm (List.mem_append_left _ (k2_sel_in (lwp5 (List.mem_of_getElem? (i := 15) rfl)))) rfl
theorem wq968 : Cond.code yX10_turning cX10_turning 2 none ∈ TB := tbm (tb6 (List.mem_of_getElem? (i := 210) rfl)) rfl
theorem wq969 : Cond.code yX10_going cX10_going 6 none ∈ TB := tbm (tb6 (List.mem_of_getElem? (i := 222) rfl)) rfl
theorem wq970 : Cond.code yX10_queues cX10_queues 3 (some .int) ∈ TB := tbm (tb6 (List.mem_of_getElem? (i := 226) rfl)) rfl
theorem wq971 : Cond.methodLink RX10 176 yX10_coming ∈ TB := tbm (tb6 (List.mem_of_getElem? (i := 170) rfl)) rfl
theorem wq972 : Cond.instanceMethod yX10_coming ∈ TB := tbm (tb6 (List.mem_of_getElem? (i := 172) rfl)) rfl
theorem wq973 : Cond.selects RX10 yX10_coming yX10_coming ∈ TB := tbm (List.mem_append_left _ (k2_sel_in (lwp5 (List.mem_of_getElem? (i := 5) rfl)))) rfl
theorem wq974 : Cond.methodLink RX10 179 yX10_changesByEmergency ∈ TB := tbm (tb6 (List.mem_of_getElem? (i := 179) rfl)) rfl
theorem wq975 : Cond.instanceMethod yX10_changesByEmergency ∈ TB := tbm (tb6 (List.mem_of_getElem? (i := 181) rfl)) rfl
theorem wq976 : Cond.selects RX10 yX10_changesByEmergency yX10_changesByEmergency ∈ TB := tbm (List.mem_append_left _ (k2_sel_in (lwp5 (List.mem_of_getElem? (i := 7) rfl)))) rfl
theorem wq977 : Cond.methodLink RX10 182 yX10_changesByCalls ∈ TB := tbm (tb6 (List.mem_of_getElem? (i := 191) rfl)) rfl
theorem wq978 : Cond.instanceMethod yX10_changesByCalls ∈ TB := tbm (tb6 (List.mem_of_getElem? (i := 193) rfl)) rfl
theorem wq979 : Cond.selects RX10 yX10_changesByCalls yX10_changesByCalls ∈ TB := tbm (List.mem_append_left _ (k2_sel_in (lwp5 (List.mem_of_getElem? (i := 10) rfl)))) rfl
theorem wq980 : Cond.methodLink RX10 185 yX10_turning ∈ TB := tbm (tb6 (List.mem_of_getElem? (i := 207) rfl)) rfl
theorem wq981 : Cond.instanceMethod yX10_turning ∈ TB := tbm (tb6 (List.mem_of_getElem? (i := 209) rfl)) rfl
theorem wq982 : Cond.selects RX10 yX10_turning yX10_turning ∈ TB := tbm (List.mem_append_left _ (k2_sel_in (lwp5 (List.mem_of_getElem? (i := 14) rfl)))) rfl
theorem wq983 : Cond.code yX10_turns cX10_turns 1 none ∈ TB := tbm (tb6 (List.mem_of_getElem? (i := 169) rfl)) rfl
theorem wq984 : Cond.methodLink RX10 188 yX10_going ∈ TB := tbm (tb6 (List.mem_of_getElem? (i := 219) rfl)) rfl
theorem wq985 : Cond.instanceMethod yX10_going ∈ TB := tbm (tb6 (List.mem_of_getElem? (i := 221) rfl)) rfl
theorem wq986 : Cond.selects RX10 yX10_going yX10_going ∈ TB := tbm (List.mem_append_left _ (k2_sel_in (lwp6 (List.mem_of_getElem? (i := 1) rfl)))) rfl
theorem wq987 : Cond.methodLink RX10 191 yX10_queues ∈ TB := tbm (tb6 (List.mem_of_getElem? (i := 223) rfl)) rfl
theorem wq988 : Cond.instanceMethod yX10_queues ∈ TB := tbm (tb6 (List.mem_of_getElem? (i := 225) rfl)) rfl
theorem wq989 : Cond.selects RX10 yX10_queues yX10_queues ∈ TB := tbm (List.mem_append_left _ (k2_sel_in (lwp6 (List.mem_of_getElem? (i := 2) rfl)))) rfl
theorem wq990 : Cond.code yX10_ends cX10_ends 1 none ∈ TB := tbm (tb6 (List.mem_of_getElem? (i := 218) rfl)) rfl
theorem wq991 : Cond.methodLink RX10 194 yX10_turns ∈ TB := tbm (tb6 (List.mem_of_getElem? (i := 166) rfl)) rfl
theorem wq992 : Cond.instanceMethod yX10_turns ∈ TB := tbm (tb6 (List.mem_of_getElem? (i := 168) rfl)) rfl
theorem wq993 : Cond.selects RX10 yX10_turns yX10_turns ∈ TB := tbm (List.mem_append_left _ (k2_sel_in (lwp5 (List.mem_of_getElem? (i := 4) rfl)))) rfl
theorem wq994 : Cond.methodLink RX10 197 yX10_ends ∈ TB := tbm (tb6 (List.mem_of_getElem? (i := 215) rfl)) rfl
theorem wq995 : Cond.instanceMethod yX10_ends ∈ TB := tbm (tb6 (List.mem_of_getElem? (i := 217) rfl)) rfl
theorem wq996 : Cond.selects RX10 yX10_ends yX10_ends ∈ TB := tbm (List.mem_append_left _ (k2_sel_in (lwp6 (List.mem_of_getElem? (i := 0) rfl)))) rfl
theorem wq997 : Cond.code yX10_passes cX10_passes 3 none ∈ TB := tbm (tb6 (List.mem_of_getElem? (i := 165) rfl)) rfl
theorem wq998 : Cond.code yX10_counts cX10_counts 2 (some .boolean) ∈ TB := tbm (tb6 (List.mem_of_getElem? (i := 161) rfl)) rfl
theorem wq999 : Cond.fieldLink RX10 200 "SafeClearsModel" "counted" "I" ∈ TB := tbm (tb5 (List.mem_of_getElem? (i := 220) rfl)) rfl
theorem wq1000 : Cond.code yX10_cycle cX10_cycle 5 (some .int) ∈ TB := tbm (tb6 (List.mem_of_getElem? (i := 125) rfl)) rfl
theorem wq1001 : Cond.code yX10_come cX10_come 3 (some .int) ∈ TB := tbm (tb6 (List.mem_of_getElem? (i := 129) rfl)) rfl
theorem wq1002 : Cond.code yX10_seed cX10_seed 3 (some .int) ∈ TB := tbm (tb6 (List.mem_of_getElem? (i := 137) rfl)) rfl
theorem wq1003 : Cond.code yX10_emergency cX10_emergency 2 (some .int) ∈ TB := tbm (tb6 (List.mem_of_getElem? (i := 141) rfl)) rfl
theorem wq1004 : Cond.code yX10_over cX10_over 2 (some .int) ∈ TB := tbm (tb6 (List.mem_of_getElem? (i := 153) rfl)) rfl
theorem wq1005 : Cond.methodLink RX10 203 yX10_counts ∈ TB := tbm (tb6 (List.mem_of_getElem? (i := 158) rfl)) rfl
theorem wq1006 : Cond.instanceMethod yX10_counts ∈ TB := tbm (tb6 (List.mem_of_getElem? (i := 160) rfl)) rfl
theorem wq1007 : Cond.selects RX10 yX10_counts yX10_counts ∈ TB := tbm (List.mem_append_left _ (k2_sel_in (lwp5 (List.mem_of_getElem? (i := 2) rfl)))) rfl
theorem wq1008 : Cond.methodLink RX10 206 yX10_passes ∈ TB := tbm (tb6 (List.mem_of_getElem? (i := 162) rfl)) rfl
theorem wq1009 : Cond.instanceMethod yX10_passes ∈ TB := tbm (tb6 (List.mem_of_getElem? (i := 164) rfl)) rfl
theorem wq1010 : Cond.selects RX10 yX10_passes yX10_passes ∈ TB := tbm (List.mem_append_left _ (k2_sel_in (lwp5 (List.mem_of_getElem? (i := 3) rfl)))) rfl
theorem wq1011 : Cond.code yX10_pass cX10_pass 3 (some .int) ∈ TB := tbm (tb6 (List.mem_of_getElem? (i := 157) rfl)) rfl
theorem wq1012 : Cond.code yX10_light cX10_light 2 (some .int) ∈ TB := tbm (tb6 (List.mem_of_getElem? (i := 238) rfl)) rfl
theorem wq1013 : Cond.code yX10_lights cX10_lights 4 (some .int) ∈ TB := tbm (tb6 (List.mem_of_getElem? (i := 234) rfl)) rfl
theorem wq1014 : Cond.methodLink RX10 209 yX10_light ∈ TB := tbm (tb6 (List.mem_of_getElem? (i := 235) rfl)) rfl
theorem wq1015 : Cond.instanceMethod yX10_light ∈ TB := tbm (tb6 (List.mem_of_getElem? (i := 237) rfl)) rfl
theorem wq1016 : Cond.selects RX10 yX10_light yX10_light ∈ TB := tbm (List.mem_append_left _ (k2_sel_in (lwp6 (List.mem_of_getElem? (i := 4) rfl)))) rfl
theorem wq1017 : Cond.methodLink RX10 212 yX10_lights ∈ TB := tbm (tb6 (List.mem_of_getElem? (i := 231) rfl)) rfl
theorem wq1018 : Cond.instanceMethod yX10_lights ∈ TB := tbm (tb6 (List.mem_of_getElem? (i := 233) rfl)) rfl
theorem wq1019 : Cond.selects RX10 yX10_lights yX10_lights ∈ TB := tbm (List.mem_append_left _ (k2_sel_in (lwp6 (List.mem_of_getElem? (i := 3) rfl)))) rfl
theorem wq1020 : Cond.code yX10_told cX10_told 2 (some .int) ∈ TB := tbm (tb6 (List.mem_of_getElem? (i := 230) rfl)) rfl
theorem wq1021 : Cond.code yX10_of cX10_of 3 (some .int) ∈ TB := tbm (tb7 (List.mem_of_getElem? (i := 2) rfl)) rfl
theorem wq1022 : Cond.code yX10_way cX10_way 3 (some .int) ∈ TB := tbm (tb7 (List.mem_of_getElem? (i := 6) rfl)) rfl
theorem wq1023 : Cond.code yX10_clear cX10_clear 3 (some .int) ∈ TB := tbm (tb7 (List.mem_of_getElem? (i := 10) rfl)) rfl
theorem wq1024 : Cond.code yX10_narrow cX10_narrow 3 (some .int) ∈ TB := tbm (tb7 (List.mem_of_getElem? (i := 14) rfl)) rfl
theorem wq1025 : Cond.code yX10_table cX10_table 8 (some .int) ∈ TB := tbm (tb7 (List.mem_of_getElem? (i := 18) rfl)) rfl
theorem wq1026 : Cond.code yX10_phaseOf cX10_phaseOf 3 (some .int) ∈ TB := tbm (tb7 (List.mem_of_getElem? (i := 22) rfl)) rfl
theorem wq1027 : Cond.methodLink RX10 215 yX10_isPhase ∈ TB := tbm (tb7 (List.mem_of_getElem? (i := 23) rfl)) rfl
theorem wq1028 : Cond.instanceMethod yX10_isPhase ∈ TB := tbm (tb7 (List.mem_of_getElem? (i := 25) rfl)) rfl
theorem wq1029 : Cond.selects RX10 yX10_isPhase yX10_isPhase ∈ TB := tbm (List.mem_append_left _ (k2_sel_in (lwp6 (List.mem_of_getElem? (i := 5) rfl)))) rfl
theorem wq1030 : Cond.code yX10_taken cX10_taken 5 (some .int) ∈ TB := tbm (tb7 (List.mem_of_getElem? (i := 30) rfl)) rfl
theorem wq1031 : Cond.code yX10_recordAt cX10_recordAt 3 (some .int) ∈ TB := tbm (tb7 (List.mem_of_getElem? (i := 38) rfl)) rfl
theorem wq1032 : Cond.code yX10_recorded cX10_recorded 3 (some .int) ∈ TB := tbm (tb7 (List.mem_of_getElem? (i := 34) rfl)) rfl
theorem wq1033 : Cond.methodLink RX10 218 yX10_recordAt ∈ TB := tbm (tb7 (List.mem_of_getElem? (i := 35) rfl)) rfl
theorem wq1034 : Cond.instanceMethod yX10_recordAt ∈ TB := tbm (tb7 (List.mem_of_getElem? (i := 37) rfl)) rfl
theorem wq1035 : Cond.selects RX10 yX10_recordAt yX10_recordAt ∈ TB := tbm (List.mem_append_left _ (k2_sel_in (lwp6 (List.mem_of_getElem? (i := 6) rfl)))) rfl
theorem wq1036 : Cond.code yX10_greens cX10_greens 9 (some .int) ∈ TB := tbm (tb7 (List.mem_of_getElem? (i := 42) rfl)) rfl
theorem wq1037 : Cond.code yX10_couldBy cX10_couldBy 7 (some .boolean) ∈ TB := tbm (tb7 (List.mem_of_getElem? (i := 54) rfl)) rfl
theorem wq1038 : Cond.methodLink RX10 221 yX10_couldBy ∈ TB := tbm (tb7 (List.mem_of_getElem? (i := 51) rfl)) rfl
theorem wq1039 : Cond.instanceMethod yX10_couldBy ∈ TB := tbm (tb7 (List.mem_of_getElem? (i := 53) rfl)) rfl
theorem wq1040 : Cond.selects RX10 yX10_couldBy yX10_couldBy ∈ TB := tbm (List.mem_append_left _ (k2_sel_in (lwp6 (List.mem_of_getElem? (i := 8) rfl)))) rfl
theorem wq1041 : Cond.code yX10_coulds cX10_coulds 7 (some .int) ∈ TB := tbm (tb7 (List.mem_of_getElem? (i := 50) rfl)) rfl
theorem wq1042 : Cond.methodLink RX10 225 yX10_coulds ∈ TB := tbm (tb7 (List.mem_of_getElem? (i := 47) rfl)) rfl
theorem wq1043 : Cond.instanceMethod yX10_coulds ∈ TB := tbm (tb7 (List.mem_of_getElem? (i := 49) rfl)) rfl
theorem wq1044 : Cond.selects RX10 yX10_coulds yX10_coulds ∈ TB := tbm (List.mem_append_left _ (k2_sel_in (lwp6 (List.mem_of_getElem? (i := 7) rfl)))) rfl
theorem wq1045 : Cond.code yX10_could cX10_could 4 (some .int) ∈ TB := tbm (tb7 (List.mem_of_getElem? (i := 46) rfl)) rfl
theorem wq1046 : Cond.code yX10_crowded cX10_crowded 5 (some .int) ∈ TB := tbm (tb7 (List.mem_of_getElem? (i := 58) rfl)) rfl
theorem wq1047 : Cond.code yX10_green cX10_green 5 (some .int) ∈ TB := tbm (tb7 (List.mem_of_getElem? (i := 62) rfl)) rfl
theorem wq1048 : Cond.code yX10_isSafe cX10_isSafe 5 (some .boolean) ∈ TB := tbm (tb7 (List.mem_of_getElem? (i := 70) rfl)) rfl
theorem wq1049 : Cond.code yX10_proved cX10_proved 3 (some .int) ∈ TB := tbm (tb7 (List.mem_of_getElem? (i := 66) rfl)) rfl
theorem wq1050 : Cond.methodLink RX10 228 yX10_isSafe ∈ TB := tbm (tb7 (List.mem_of_getElem? (i := 67) rfl)) rfl
theorem wq1051 : Cond.instanceMethod yX10_isSafe ∈ TB := tbm (tb7 (List.mem_of_getElem? (i := 69) rfl)) rfl
theorem wq1052 : Cond.selects RX10 yX10_isSafe yX10_isSafe ∈ TB := tbm (List.mem_append_left _ (k2_sel_in (lwp6 (List.mem_of_getElem? (i := 9) rfl)))) rfl
theorem wq1053 : Cond.code yX10_wave cX10_wave 3 (some .int) ∈ TB := tbm (tb7 (List.mem_of_getElem? (i := 74) rfl)) rfl
theorem wq1054 : Cond.code yX10_mayBe cX10_mayBe 3 (some .boolean) ∈ TB := tbm (tb7 (List.mem_of_getElem? (i := 82) rfl)) rfl
theorem wq1055 : Cond.code yX10_node cX10_node 5 (some .int) ∈ TB := tbm (tb7 (List.mem_of_getElem? (i := 78) rfl)) rfl
theorem wq1056 : Cond.methodLink RX10 231 yX10_mayBe ∈ TB := tbm (tb7 (List.mem_of_getElem? (i := 79) rfl)) rfl
theorem wq1057 : Cond.instanceMethod yX10_mayBe ∈ TB := tbm (tb7 (List.mem_of_getElem? (i := 81) rfl)) rfl
theorem wq1058 : Cond.selects RX10 yX10_mayBe yX10_mayBe ∈ TB := tbm (List.mem_append_left _ (k2_sel_in (lwp6 (List.mem_of_getElem? (i := 10) rfl)))) rfl
theorem wq1059 : Cond.code yX10_isNode cX10_isNode 2 (some .boolean) ∈ TB := tbm (tb7 (List.mem_of_getElem? (i := 90) rfl)) rfl
theorem wq1060 : Cond.code yX10_change cX10_change 5 (some .int) ∈ TB := tbm (tb7 (List.mem_of_getElem? (i := 86) rfl)) rfl
theorem wq1061 : Cond.methodLink RX10 234 yX10_isNode ∈ TB := tbm (tb7 (List.mem_of_getElem? (i := 87) rfl)) rfl
theorem wq1062 : Cond.instanceMethod yX10_isNode ∈ TB := tbm (tb7 (List.mem_of_getElem? (i := 89) rfl)) rfl
theorem wq1063 : Cond.selects RX10 yX10_isNode yX10_isNode ∈ TB := tbm (List.mem_append_left _ (k2_sel_in (lwp6 (List.mem_of_getElem? (i := 11) rfl)))) rfl
theorem wq1064 : Cond.code yX10_isOpen cX10_isOpen 4 (some .boolean) ∈ TB := tbm (tb7 (List.mem_of_getElem? (i := 106) rfl)) rfl
theorem wq1065 : Cond.code yX10_bandOf cX10_bandOf 8 (some .int) ∈ TB := tbm (tb7 (List.mem_of_getElem? (i := 102) rfl)) rfl
theorem wq1066 : Cond.methodLink RX10 237 yX10_isOpen ∈ TB := tbm (tb7 (List.mem_of_getElem? (i := 103) rfl)) rfl
theorem wq1067 : Cond.instanceMethod yX10_isOpen ∈ TB := tbm (tb7 (List.mem_of_getElem? (i := 105) rfl)) rfl
theorem wq1068 : Cond.selects RX10 yX10_isOpen yX10_isOpen ∈ TB := tbm (List.mem_append_left _ (k2_sel_in (lwp6 (List.mem_of_getElem? (i := 14) rfl)))) rfl
theorem wq1069 : Cond.code yX10_bands cX10_bands 1 (some .int) ∈ TB := tbm (tb7 (List.mem_of_getElem? (i := 98) rfl)) rfl
theorem wq1070 : Cond.methodLink RX10 240 yX10_bandOf ∈ TB := tbm (tb7 (List.mem_of_getElem? (i := 99) rfl)) rfl
theorem wq1071 : Cond.instanceMethod yX10_bandOf ∈ TB := tbm (tb7 (List.mem_of_getElem? (i := 101) rfl)) rfl
theorem wq1072 : Cond.selects RX10 yX10_bandOf yX10_bandOf ∈ TB := tbm (List.mem_append_left _ (k2_sel_in (lwp6 (List.mem_of_getElem? (i := 13) rfl)))) rfl
theorem wq1073 : Cond.code yX10_band cX10_band 2 (some .int) ∈ TB := tbm (tb7 (List.mem_of_getElem? (i := 94) rfl)) rfl
theorem wq1074 : Cond.methodLink RX10 243 yX10_bands ∈ TB := tbm (tb7 (List.mem_of_getElem? (i := 95) rfl)) rfl
theorem wq1075 : Cond.instanceMethod yX10_bands ∈ TB := tbm (tb7 (List.mem_of_getElem? (i := 97) rfl)) rfl
theorem wq1076 : Cond.selects RX10 yX10_bands yX10_bands ∈ TB := tbm (List.mem_append_left _ (k2_sel_in (lwp6 (List.mem_of_getElem? (i := 12) rfl)))) rfl
theorem wq1077 : Cond.code yX10_bestOffset cX10_bestOffset 6 (some .int) ∈ TB := tbm (tb7 (List.mem_of_getElem? (i := 114) rfl)) rfl
theorem wq1078 : Cond.fieldLink RX10 246 "SafeClearsModel" "bestBands" "I" ∈ TB := tbm (tb5 (List.mem_of_getElem? (i := 232) rfl)) rfl
theorem wq1079 : Cond.methodLink RX10 249 yX10_bestOffset ∈ TB := tbm (tb7 (List.mem_of_getElem? (i := 111) rfl)) rfl
theorem wq1080 : Cond.instanceMethod yX10_bestOffset ∈ TB := tbm (tb7 (List.mem_of_getElem? (i := 113) rfl)) rfl
theorem wq1081 : Cond.selects RX10 yX10_bestOffset yX10_bestOffset ∈ TB := tbm (List.mem_append_left _ (k2_sel_in (lwp6 (List.mem_of_getElem? (i := 15) rfl)))) rfl
theorem wq1082 : Cond.code yX10_nodeBest cX10_nodeBest 4 (some .int) ∈ TB := tbm (tb7 (List.mem_of_getElem? (i := 110) rfl)) rfl
theorem wq1083 : Cond.code yX10_tune cX10_tune 4 (some .int) ∈ TB := tbm (tb7 (List.mem_of_getElem? (i := 118) rfl)) rfl
theorem wq1084 : Cond.code yX10_thinks cX10_thinks 1 none ∈ TB := tbm (tb7 (List.mem_of_getElem? (i := 126) rfl)) rfl
theorem wq1085 : Cond.methodLink RX10 252 yX10_copies ∈ TB := tbm (tb7 (List.mem_of_getElem? (i := 127) rfl)) rfl
theorem wq1086 : Cond.static yX10_copies ∈ TB := tbm (tb7 (List.mem_of_getElem? (i := 128) rfl)) rfl
theorem wq1087 : Cond.code yX10_forgets cX10_forgets 1 none ∈ TB := tbm (tb7 (List.mem_of_getElem? (i := 134) rfl)) rfl
theorem wq1088 : Cond.methodLink RX10 256 yX10_thinks ∈ TB := tbm (tb7 (List.mem_of_getElem? (i := 123) rfl)) rfl
theorem wq1089 : Cond.instanceMethod yX10_thinks ∈ TB := tbm (tb7 (List.mem_of_getElem? (i := 125) rfl)) rfl
theorem wq1090 : Cond.selects RX10 yX10_thinks yX10_thinks ∈ TB := tbm (List.mem_append_left _ (k2_sel_in (lwp7 (List.mem_of_getElem? (i := 0) rfl)))) rfl
theorem wq1091 : Cond.methodLink RX10 259 yX10_told ∈ TB := tbm (tb7 (List.mem_of_getElem? (i := 130) rfl)) rfl
theorem wq1092 : Cond.instanceMethod yX10_told ∈ TB := tbm (tb6 (List.mem_of_getElem? (i := 228) rfl)) rfl
theorem wq1093 : Cond.selects RX10 yX10_told yX10_told ∈ TB := tbm (tb6 (List.mem_of_getElem? (i := 229) rfl)) rfl
theorem wq1094 : Cond.methodLink RX10 262 yX10_forgets ∈ TB := tbm (tb7 (List.mem_of_getElem? (i := 131) rfl)) rfl
theorem wq1095 : Cond.instanceMethod yX10_forgets ∈ TB := tbm (tb7 (List.mem_of_getElem? (i := 133) rfl)) rfl
theorem wq1096 : Cond.selects RX10 yX10_forgets yX10_forgets ∈ TB := tbm (List.mem_append_left _ (k2_sel_in (lwp7 (List.mem_of_getElem? (i := 1) rfl)))) rfl
theorem wq1097 : Cond.code yX10_would cX10_would 4 (some .int) ∈ TB := tbm (tb7 (List.mem_of_getElem? (i := 122) rfl)) rfl
theorem wq1098 : Cond.code yX10_turns_ cX10_turns_ 5 (some .int) ∈ TB := tbm (tb7 (List.mem_of_getElem? (i := 138) rfl)) rfl
theorem wq1099 : Cond.code yX10_gaps cX10_gaps 3 none ∈ TB := tbm (tb7 (List.mem_of_getElem? (i := 146) rfl)) rfl
theorem wq1100 : Cond.methodLink RX10 265 yX10_gaps ∈ TB := tbm (tb7 (List.mem_of_getElem? (i := 143) rfl)) rfl
theorem wq1101 : Cond.instanceMethod yX10_gaps ∈ TB := tbm (tb7 (List.mem_of_getElem? (i := 145) rfl)) rfl
theorem wq1102 : Cond.selects RX10 yX10_gaps yX10_gaps ∈ TB := tbm (List.mem_append_left _ (k2_sel_in (lwp7 (List.mem_of_getElem? (i := 2) rfl)))) rfl
theorem wq1103 : Cond.code yX10_best cX10_best 6 (some .int) ∈ TB := tbm (tb7 (List.mem_of_getElem? (i := 142) rfl)) rfl
theorem wq1104 : Cond.code yX10_note cX10_note 3 (some .int) ∈ TB := tbm (tb7 (List.mem_of_getElem? (i := 150) rfl)) rfl
theorem wq1105 : Cond.constant RX10 268 (99999) ∈ TB := tbm (tb7 (List.mem_of_getElem? (i := 151) rfl)) rfl
theorem wq1106 : Cond.code yX10_notesSo cX10_notesSo 5 (some .int) ∈ TB := tbm (tb7 (List.mem_of_getElem? (i := 159) rfl)) rfl
theorem wq1107 : Cond.methodLink RX10 269 yX10_notesSo ∈ TB := tbm (tb7 (List.mem_of_getElem? (i := 156) rfl)) rfl
theorem wq1108 : Cond.instanceMethod yX10_notesSo ∈ TB := tbm (tb7 (List.mem_of_getElem? (i := 158) rfl)) rfl
theorem wq1109 : Cond.selects RX10 yX10_notesSo yX10_notesSo ∈ TB := tbm (List.mem_append_left _ (k2_sel_in (lwp7 (List.mem_of_getElem? (i := 3) rfl)))) rfl
theorem wq1110 : Cond.code yX10_fits cX10_fits 5 (some .int) ∈ TB := tbm (tb7 (List.mem_of_getElem? (i := 155) rfl)) rfl
theorem wq1111 : Cond.code yX10_dayOf cX10_dayOf 5 (some .int) ∈ TB := tbm (tb7 (List.mem_of_getElem? (i := 167) rfl)) rfl
theorem wq1112 : Cond.methodLink RX10 272 yX10_dayOf ∈ TB := tbm (tb7 (List.mem_of_getElem? (i := 164) rfl)) rfl
theorem wq1113 : Cond.instanceMethod yX10_dayOf ∈ TB := tbm (tb7 (List.mem_of_getElem? (i := 166) rfl)) rfl
theorem wq1114 : Cond.selects RX10 yX10_dayOf yX10_dayOf ∈ TB := tbm (List.mem_append_left _ (k2_sel_in (lwp7 (List.mem_of_getElem? (i := 4) rfl)))) rfl
theorem wq1115 : Cond.code yX10_day cX10_day 3 (some .int) ∈ TB := tbm (tb7 (List.mem_of_getElem? (i := 163) rfl)) rfl
theorem wq1116 : Cond.code yX10_common cX10_common 2 (some .int) ∈ TB := tbm (tb7 (List.mem_of_getElem? (i := 178) rfl)) rfl
theorem wq1117 : Cond.methodLink RX10 275 yX10_common ∈ TB := tbm (tb7 (List.mem_of_getElem? (i := 176) rfl)) rfl
theorem wq1118 : Cond.static yX10_common ∈ TB := tbm (tb7 (List.mem_of_getElem? (i := 177) rfl)) rfl
theorem wq1119 : Cond.code yX10_part cX10_part 3 (some .long) ∈ TB := tbm (tb7 (List.mem_of_getElem? (i := 175) rfl)) rfl
theorem wq1120 : Cond.constantLong RX10 278 (-9223372036854775808) ∈ TB := tbm (tb7 (List.mem_of_getElem? (i := 172) rfl)) rfl
theorem wq1121 : Cond.methodLink RX10 280 yX10_part ∈ TB := tbm (tb7 (List.mem_of_getElem? (i := 173) rfl)) rfl
theorem wq1122 : Cond.static yX10_part ∈ TB := tbm (tb7 (List.mem_of_getElem? (i := 174) rfl)) rfl
theorem wq1123 : Cond.code yX10_chance cX10_chance 8 (some .long) ∈ TB := tbm (tb7 (List.mem_of_getElem? (i := 171) rfl)) rfl
theorem wq1124 : Cond.code yX10_mean cX10_mean 2 (some .long) ∈ TB := tbm (tb7 (List.mem_of_getElem? (i := 182) rfl)) rfl
theorem wq1125 : Cond.code yX10_plan cX10_plan 3 (some .int) ∈ TB := tbm (tb7 (List.mem_of_getElem? (i := 186) rfl)) rfl
theorem wq1126 : Cond.methodLink RX10 284 yX10_emergency ∈ TB := tbm (tb7 (List.mem_of_getElem? (i := 195) rfl)) rfl
theorem wq1127 : Cond.instanceMethod yX10_emergency ∈ TB := tbm (tb6 (List.mem_of_getElem? (i := 139) rfl)) rfl
theorem wq1128 : Cond.selects RX10 yX10_emergency yX10_emergency ∈ TB := tbm (tb6 (List.mem_of_getElem? (i := 140) rfl)) rfl
theorem wq1129 : Cond.methodLink RX10 287 yX10_over ∈ TB := tbm (tb7 (List.mem_of_getElem? (i := 196) rfl)) rfl
theorem wq1130 : Cond.instanceMethod yX10_over ∈ TB := tbm (tb6 (List.mem_of_getElem? (i := 151) rfl)) rfl
theorem wq1131 : Cond.selects RX10 yX10_over yX10_over ∈ TB := tbm (tb6 (List.mem_of_getElem? (i := 152) rfl)) rfl
theorem wq1132 : Cond.code yX10_does cX10_does 3 none ∈ TB := tbm (tb7 (List.mem_of_getElem? (i := 194) rfl)) rfl
theorem wq1133 : Cond.methodLink RX10 290 yX10_does ∈ TB := tbm (tb7 (List.mem_of_getElem? (i := 191) rfl)) rfl
theorem wq1134 : Cond.instanceMethod yX10_does ∈ TB := tbm (tb7 (List.mem_of_getElem? (i := 193) rfl)) rfl
theorem wq1135 : Cond.selects RX10 yX10_does yX10_does ∈ TB := tbm (List.mem_append_left _ (k2_sel_in (lwp7 (List.mem_of_getElem? (i := 5) rfl)))) rfl
theorem wq1136 : Cond.code yX10_ends_ cX10_ends_ 4 (some .int) ∈ TB := tbm (tb7 (List.mem_of_getElem? (i := 190) rfl)) rfl
theorem wq1137 : Cond.code yX10_isTape cX10_isTape 1 (some .boolean) ∈ TB := tbm (tb7 (List.mem_of_getElem? (i := 203) rfl)) rfl
theorem wq1138 : Cond.code yX10_judge cX10_judge 4 (some .int) ∈ TB := tbm (tb7 (List.mem_of_getElem? (i := 200) rfl)) rfl
theorem wq1139 : Cond.methodLink RX10 293 yX10_isTape ∈ TB := tbm (tb7 (List.mem_of_getElem? (i := 201) rfl)) rfl
theorem wq1140 : Cond.static yX10_isTape ∈ TB := tbm (tb7 (List.mem_of_getElem? (i := 202) rfl)) rfl
theorem wq1141 : Cond.code yX10_image cX10_image 1 (some .int) ∈ TB := tbm (tb7 (List.mem_of_getElem? (i := 207) rfl)) rfl
theorem wq1142 : Cond.fieldLink RX10 296 "SafeClearsModel" "isKept" "Z" ∈ TB := tbm (tb5 (List.mem_of_getElem? (i := 219) rfl)) rfl
theorem wq1143 : Cond.code yX10_undo cX10_undo 1 (some .int) ∈ TB := tbm (tb7 (List.mem_of_getElem? (i := 211) rfl)) rfl
theorem wq1144 : Cond.code yX10_count cX10_count 2 (some .int) ∈ TB := tbm (tb7 (List.mem_of_getElem? (i := 215) rfl)) rfl
theorem wq1145 : Cond.code yX10_tape cX10_tape 5 (some .int) ∈ TB := tbm (tb7 (List.mem_of_getElem? (i := 219) rfl)) rfl
theorem wq1146 : Cond.code yX10_item cX10_item 5 (some .int) ∈ TB := tbm (tb7 (List.mem_of_getElem? (i := 223) rfl)) rfl
theorem wq1147 : Cond.code yX10_peek cX10_peek 3 (some .long) ∈ TB := tbm (tb7 (List.mem_of_getElem? (i := 227) rfl)) rfl
theorem wq1148 : Cond.code yX10_shift cX10_shift 7 (some .int) ∈ TB := tbm (tb7 (List.mem_of_getElem? (i := 231) rfl)) rfl
theorem wq1149 : Cond.classLink RL 7 RX9 ∈ TB := tbm (tb1 (List.mem_of_getElem? (i := 17) rfl)) rfl
theorem wq1150 : Cond.instantiable RX9 12 ∈ TB := tbm (tb1 (List.mem_of_getElem? (i := 18) rfl)) rfl
theorem wq1151 : Cond.classLink RL 10 RX10 ∈ TB := tbm (tb5 (List.mem_of_getElem? (i := 181) rfl)) rfl
theorem wq1152 : Cond.instantiable RX10 17 ∈ TB := tbm (tb5 (List.mem_of_getElem? (i := 182) rfl)) rfl
theorem wq1153 : Cond.constantLong RL 215 (4294967295) ∈ TB := tbm (tb7 (List.mem_of_getElem? (i := 232) rfl)) rfl
theorem wq1154 : Cond.methodLink RL 9 yX9_init ∈ TB := tbm (tb1 (List.mem_of_getElem? (i := 19) rfl)) rfl
theorem wq1155 : Cond.instanceMethod yX9_init ∈ TB := tbm (tb1 (List.mem_of_getElem? (i := 20) rfl)) rfl
theorem wq1156 : Cond.methodLink RL 12 yX10_init ∈ TB := tbm (tb5 (List.mem_of_getElem? (i := 183) rfl)) rfl
theorem wq1157 : Cond.instanceMethod yX10_init ∈ TB := tbm (tb5 (List.mem_of_getElem? (i := 184) rfl)) rfl
theorem wq1158 : Cond.methodLink RL 13 yX9_signal ∈ TB := tbm (tb2 (List.mem_of_getElem? (i := 132) rfl)) rfl
theorem wq1159 : Cond.instanceMethod yX9_signal ∈ TB := tbm (tb2 (List.mem_of_getElem? (i := 133) rfl)) rfl
theorem wq1160 : Cond.selects RX9 yX9_signal yX9_signal ∈ TB := tbm (tb2 (List.mem_of_getElem? (i := 134) rfl)) rfl
theorem wq1161 : Cond.methodLink RL 17 yX10_signal ∈ TB := tbm (tb6 (List.mem_of_getElem? (i := 28) rfl)) rfl
theorem wq1162 : Cond.instanceMethod yX10_signal ∈ TB := tbm (tb6 (List.mem_of_getElem? (i := 29) rfl)) rfl
theorem wq1163 : Cond.selects RX10 yX10_signal yX10_signal ∈ TB := tbm (tb6 (List.mem_of_getElem? (i := 30) rfl)) rfl
theorem wq1164 : Cond.methodLink RL 18 yX9_goes ∈ TB := tbm (tb2 (List.mem_of_getElem? (i := 182) rfl)) rfl
theorem wq1165 : Cond.instanceMethod yX9_goes ∈ TB := tbm (tb2 (List.mem_of_getElem? (i := 183) rfl)) rfl
theorem wq1166 : Cond.selects RX9 yX9_goes yX9_goes ∈ TB := tbm (tb2 (List.mem_of_getElem? (i := 184) rfl)) rfl
theorem wq1167 : Cond.methodLink RL 21 yX10_goes ∈ TB := tbm (tb6 (List.mem_of_getElem? (i := 47) rfl)) rfl
theorem wq1168 : Cond.instanceMethod yX10_goes ∈ TB := tbm (tb6 (List.mem_of_getElem? (i := 48) rfl)) rfl
theorem wq1169 : Cond.selects RX10 yX10_goes yX10_goes ∈ TB := tbm (tb6 (List.mem_of_getElem? (i := 49) rfl)) rfl
theorem wq1170 : Cond.methodLink RL 22 yX9_tell ∈ TB := tbm (tb2 (List.mem_of_getElem? (i := 192) rfl)) rfl
theorem wq1171 : Cond.instanceMethod yX9_tell ∈ TB := tbm (tb2 (List.mem_of_getElem? (i := 193) rfl)) rfl
theorem wq1172 : Cond.selects RX9 yX9_tell yX9_tell ∈ TB := tbm (tb2 (List.mem_of_getElem? (i := 194) rfl)) rfl
theorem wq1173 : Cond.methodLink RL 26 yX10_tell ∈ TB := tbm (tb6 (List.mem_of_getElem? (i := 55) rfl)) rfl
theorem wq1174 : Cond.instanceMethod yX10_tell ∈ TB := tbm (tb6 (List.mem_of_getElem? (i := 56) rfl)) rfl
theorem wq1175 : Cond.selects RX10 yX10_tell yX10_tell ∈ TB := tbm (tb6 (List.mem_of_getElem? (i := 57) rfl)) rfl
theorem wq1176 : Cond.methodLink RL 27 yX9_feed ∈ TB := tbm (tb2 (List.mem_of_getElem? (i := 212) rfl)) rfl
theorem wq1177 : Cond.instanceMethod yX9_feed ∈ TB := tbm (tb2 (List.mem_of_getElem? (i := 213) rfl)) rfl
theorem wq1178 : Cond.selects RX9 yX9_feed yX9_feed ∈ TB := tbm (tb2 (List.mem_of_getElem? (i := 214) rfl)) rfl
theorem wq1179 : Cond.methodLink RL 31 yX10_feed ∈ TB := tbm (tb6 (List.mem_of_getElem? (i := 60) rfl)) rfl
theorem wq1180 : Cond.instanceMethod yX10_feed ∈ TB := tbm (tb6 (List.mem_of_getElem? (i := 61) rfl)) rfl
theorem wq1181 : Cond.selects RX10 yX10_feed yX10_feed ∈ TB := tbm (tb6 (List.mem_of_getElem? (i := 62) rfl)) rfl
theorem wq1182 : Cond.methodLink RL 32 yX9_read ∈ TB := tbm (tb2 (List.mem_of_getElem? (i := 220) rfl)) rfl
theorem wq1183 : Cond.instanceMethod yX9_read ∈ TB := tbm (tb2 (List.mem_of_getElem? (i := 221) rfl)) rfl
theorem wq1184 : Cond.selects RX9 yX9_read yX9_read ∈ TB := tbm (tb2 (List.mem_of_getElem? (i := 222) rfl)) rfl
theorem wq1185 : Cond.methodLink RL 36 yX10_read ∈ TB := tbm (tb6 (List.mem_of_getElem? (i := 64) rfl)) rfl
theorem wq1186 : Cond.instanceMethod yX10_read ∈ TB := tbm (tb6 (List.mem_of_getElem? (i := 65) rfl)) rfl
theorem wq1187 : Cond.selects RX10 yX10_read yX10_read ∈ TB := tbm (tb6 (List.mem_of_getElem? (i := 66) rfl)) rfl
theorem wq1188 : Cond.methodLink RL 37 yX9_safety ∈ TB := tbm (tb3 (List.mem_of_getElem? (i := 24) rfl)) rfl
theorem wq1189 : Cond.instanceMethod yX9_safety ∈ TB := tbm (tb3 (List.mem_of_getElem? (i := 25) rfl)) rfl
theorem wq1190 : Cond.selects RX9 yX9_safety yX9_safety ∈ TB := tbm (tb3 (List.mem_of_getElem? (i := 26) rfl)) rfl
theorem wq1191 : Cond.methodLink RL 40 yX10_safety ∈ TB := tbm (tb6 (List.mem_of_getElem? (i := 91) rfl)) rfl
theorem wq1192 : Cond.instanceMethod yX10_safety ∈ TB := tbm (tb6 (List.mem_of_getElem? (i := 92) rfl)) rfl
theorem wq1193 : Cond.selects RX10 yX10_safety yX10_safety ∈ TB := tbm (tb6 (List.mem_of_getElem? (i := 93) rfl)) rfl
theorem wq1194 : Cond.methodLink RL 41 yX9_phase ∈ TB := tbm (tb3 (List.mem_of_getElem? (i := 28) rfl)) rfl
theorem wq1195 : Cond.instanceMethod yX9_phase ∈ TB := tbm (tb3 (List.mem_of_getElem? (i := 29) rfl)) rfl
theorem wq1196 : Cond.selects RX9 yX9_phase yX9_phase ∈ TB := tbm (tb3 (List.mem_of_getElem? (i := 30) rfl)) rfl
theorem wq1197 : Cond.methodLink RL 44 yX10_phase ∈ TB := tbm (tb6 (List.mem_of_getElem? (i := 95) rfl)) rfl
theorem wq1198 : Cond.instanceMethod yX10_phase ∈ TB := tbm (tb6 (List.mem_of_getElem? (i := 96) rfl)) rfl
theorem wq1199 : Cond.selects RX10 yX10_phase yX10_phase ∈ TB := tbm (tb6 (List.mem_of_getElem? (i := 97) rfl)) rfl
theorem wq1200 : Cond.methodLink RL 45 yX9_start ∈ TB := tbm (tb3 (List.mem_of_getElem? (i := 51) rfl)) rfl
theorem wq1201 : Cond.instanceMethod yX9_start ∈ TB := tbm (tb3 (List.mem_of_getElem? (i := 52) rfl)) rfl
theorem wq1202 : Cond.selects RX9 yX9_start yX9_start ∈ TB := tbm (tb3 (List.mem_of_getElem? (i := 53) rfl)) rfl
theorem wq1203 : Cond.methodLink RL 48 yX10_start ∈ TB := tbm (tb6 (List.mem_of_getElem? (i := 114) rfl)) rfl
theorem wq1204 : Cond.instanceMethod yX10_start ∈ TB := tbm (tb6 (List.mem_of_getElem? (i := 115) rfl)) rfl
theorem wq1205 : Cond.selects RX10 yX10_start yX10_start ∈ TB := tbm (tb6 (List.mem_of_getElem? (i := 116) rfl)) rfl
theorem wq1206 : Cond.methodLink RL 49 yX9_cycle ∈ TB := tbm (tb3 (List.mem_of_getElem? (i := 63) rfl)) rfl
theorem wq1207 : Cond.instanceMethod yX9_cycle ∈ TB := tbm (tb3 (List.mem_of_getElem? (i := 64) rfl)) rfl
theorem wq1208 : Cond.selects RX9 yX9_cycle yX9_cycle ∈ TB := tbm (tb3 (List.mem_of_getElem? (i := 65) rfl)) rfl
theorem wq1209 : Cond.methodLink RL 52 yX10_cycle ∈ TB := tbm (tb6 (List.mem_of_getElem? (i := 122) rfl)) rfl
theorem wq1210 : Cond.instanceMethod yX10_cycle ∈ TB := tbm (tb6 (List.mem_of_getElem? (i := 123) rfl)) rfl
theorem wq1211 : Cond.selects RX10 yX10_cycle yX10_cycle ∈ TB := tbm (tb6 (List.mem_of_getElem? (i := 124) rfl)) rfl
theorem wq1212 : Cond.methodLink RL 53 yX9_come ∈ TB := tbm (tb3 (List.mem_of_getElem? (i := 67) rfl)) rfl
theorem wq1213 : Cond.instanceMethod yX9_come ∈ TB := tbm (tb3 (List.mem_of_getElem? (i := 68) rfl)) rfl
theorem wq1214 : Cond.selects RX9 yX9_come yX9_come ∈ TB := tbm (tb3 (List.mem_of_getElem? (i := 69) rfl)) rfl
theorem wq1215 : Cond.methodLink RL 56 yX10_come ∈ TB := tbm (tb6 (List.mem_of_getElem? (i := 126) rfl)) rfl
theorem wq1216 : Cond.instanceMethod yX10_come ∈ TB := tbm (tb6 (List.mem_of_getElem? (i := 127) rfl)) rfl
theorem wq1217 : Cond.selects RX10 yX10_come yX10_come ∈ TB := tbm (tb6 (List.mem_of_getElem? (i := 128) rfl)) rfl
theorem wq1218 : Cond.methodLink RL 57 yX9_seed ∈ TB := tbm (tb3 (List.mem_of_getElem? (i := 75) rfl)) rfl
theorem wq1219 : Cond.instanceMethod yX9_seed ∈ TB := tbm (tb3 (List.mem_of_getElem? (i := 76) rfl)) rfl
theorem wq1220 : Cond.selects RX9 yX9_seed yX9_seed ∈ TB := tbm (tb3 (List.mem_of_getElem? (i := 77) rfl)) rfl
theorem wq1221 : Cond.methodLink RL 60 yX10_seed ∈ TB := tbm (tb6 (List.mem_of_getElem? (i := 134) rfl)) rfl
theorem wq1222 : Cond.instanceMethod yX10_seed ∈ TB := tbm (tb6 (List.mem_of_getElem? (i := 135) rfl)) rfl
theorem wq1223 : Cond.selects RX10 yX10_seed yX10_seed ∈ TB := tbm (tb6 (List.mem_of_getElem? (i := 136) rfl)) rfl
theorem wq1224 : Cond.methodLink RL 61 yX9_emergency ∈ TB := tbm (tb3 (List.mem_of_getElem? (i := 79) rfl)) rfl
theorem wq1225 : Cond.instanceMethod yX9_emergency ∈ TB := tbm (tb3 (List.mem_of_getElem? (i := 80) rfl)) rfl
theorem wq1226 : Cond.selects RX9 yX9_emergency yX9_emergency ∈ TB := tbm (tb3 (List.mem_of_getElem? (i := 81) rfl)) rfl
theorem wq1227 : Cond.methodLink RL 64 yX10_emergency ∈ TB := tbm (tb6 (List.mem_of_getElem? (i := 138) rfl)) rfl
theorem wq1228 : Cond.methodLink RL 65 yX9_over ∈ TB := tbm (tb3 (List.mem_of_getElem? (i := 93) rfl)) rfl
theorem wq1229 : Cond.instanceMethod yX9_over ∈ TB := tbm (tb3 (List.mem_of_getElem? (i := 94) rfl)) rfl
theorem wq1230 : Cond.selects RX9 yX9_over yX9_over ∈ TB := tbm (tb3 (List.mem_of_getElem? (i := 95) rfl)) rfl
theorem wq1231 : Cond.methodLink RL 68 yX10_over ∈ TB := tbm (tb6 (List.mem_of_getElem? (i := 150) rfl)) rfl
theorem wq1232 : Cond.methodLink RL 69 yX9_pass ∈ TB := tbm (tb3 (List.mem_of_getElem? (i := 97) rfl)) rfl
theorem wq1233 : Cond.instanceMethod yX9_pass ∈ TB := tbm (tb3 (List.mem_of_getElem? (i := 98) rfl)) rfl
theorem wq1234 : Cond.selects RX9 yX9_pass yX9_pass ∈ TB := tbm (tb3 (List.mem_of_getElem? (i := 99) rfl)) rfl
theorem wq1235 : Cond.methodLink RL 72 yX10_pass ∈ TB := tbm (tb6 (List.mem_of_getElem? (i := 154) rfl)) rfl
theorem wq1236 : Cond.instanceMethod yX10_pass ∈ TB := tbm (tb6 (List.mem_of_getElem? (i := 155) rfl)) rfl
theorem wq1237 : Cond.selects RX10 yX10_pass yX10_pass ∈ TB := tbm (tb6 (List.mem_of_getElem? (i := 156) rfl)) rfl
theorem wq1238 : Cond.methodLink RL 73 yX9_told ∈ TB := tbm (tb3 (List.mem_of_getElem? (i := 237) rfl)) rfl
theorem wq1239 : Cond.instanceMethod yX9_told ∈ TB := tbm (tb3 (List.mem_of_getElem? (i := 238) rfl)) rfl
theorem wq1240 : Cond.selects RX9 yX9_told yX9_told ∈ TB := tbm (tb3 (List.mem_of_getElem? (i := 239) rfl)) rfl
theorem wq1241 : Cond.methodLink RL 76 yX10_told ∈ TB := tbm (tb6 (List.mem_of_getElem? (i := 227) rfl)) rfl
theorem wq1242 : Cond.methodLink RL 77 yX9_of ∈ TB := tbm (tb4 (List.mem_of_getElem? (i := 14) rfl)) rfl
theorem wq1243 : Cond.instanceMethod yX9_of ∈ TB := tbm (tb4 (List.mem_of_getElem? (i := 15) rfl)) rfl
theorem wq1244 : Cond.selects RX9 yX9_of yX9_of ∈ TB := tbm (tb4 (List.mem_of_getElem? (i := 16) rfl)) rfl
theorem wq1245 : Cond.methodLink RL 80 yX10_of ∈ TB := tbm (tb6 (List.mem_of_getElem? (i := 239) rfl)) rfl
theorem wq1246 : Cond.instanceMethod yX10_of ∈ TB := tbm (tb7 (List.mem_of_getElem? (i := 0) rfl)) rfl
theorem wq1247 : Cond.selects RX10 yX10_of yX10_of ∈ TB := tbm (tb7 (List.mem_of_getElem? (i := 1) rfl)) rfl
theorem wq1248 : Cond.methodLink RL 81 yX9_way ∈ TB := tbm (tb4 (List.mem_of_getElem? (i := 23) rfl)) rfl
theorem wq1249 : Cond.instanceMethod yX9_way ∈ TB := tbm (tb4 (List.mem_of_getElem? (i := 24) rfl)) rfl
theorem wq1250 : Cond.selects RX9 yX9_way yX9_way ∈ TB := tbm (tb4 (List.mem_of_getElem? (i := 25) rfl)) rfl
theorem wq1251 : Cond.methodLink RL 84 yX10_way ∈ TB := tbm (tb7 (List.mem_of_getElem? (i := 3) rfl)) rfl
theorem wq1252 : Cond.instanceMethod yX10_way ∈ TB := tbm (tb7 (List.mem_of_getElem? (i := 4) rfl)) rfl
theorem wq1253 : Cond.selects RX10 yX10_way yX10_way ∈ TB := tbm (tb7 (List.mem_of_getElem? (i := 5) rfl)) rfl
theorem wq1254 : Cond.methodLink RL 85 yX9_clear ∈ TB := tbm (tb4 (List.mem_of_getElem? (i := 28) rfl)) rfl
theorem wq1255 : Cond.instanceMethod yX9_clear ∈ TB := tbm (tb4 (List.mem_of_getElem? (i := 29) rfl)) rfl
theorem wq1256 : Cond.selects RX9 yX9_clear yX9_clear ∈ TB := tbm (tb4 (List.mem_of_getElem? (i := 30) rfl)) rfl
theorem wq1257 : Cond.methodLink RL 88 yX10_clear ∈ TB := tbm (tb7 (List.mem_of_getElem? (i := 7) rfl)) rfl
theorem wq1258 : Cond.instanceMethod yX10_clear ∈ TB := tbm (tb7 (List.mem_of_getElem? (i := 8) rfl)) rfl
theorem wq1259 : Cond.selects RX10 yX10_clear yX10_clear ∈ TB := tbm (tb7 (List.mem_of_getElem? (i := 9) rfl)) rfl
theorem wq1260 : Cond.methodLink RL 89 yX9_narrow ∈ TB := tbm (tb4 (List.mem_of_getElem? (i := 34) rfl)) rfl
theorem wq1261 : Cond.instanceMethod yX9_narrow ∈ TB := tbm (tb4 (List.mem_of_getElem? (i := 35) rfl)) rfl
theorem wq1262 : Cond.selects RX9 yX9_narrow yX9_narrow ∈ TB := tbm (tb4 (List.mem_of_getElem? (i := 36) rfl)) rfl
theorem wq1263 : Cond.methodLink RL 92 yX10_narrow ∈ TB := tbm (tb7 (List.mem_of_getElem? (i := 11) rfl)) rfl
theorem wq1264 : Cond.instanceMethod yX10_narrow ∈ TB := tbm (tb7 (List.mem_of_getElem? (i := 12) rfl)) rfl
theorem wq1265 : Cond.selects RX10 yX10_narrow yX10_narrow ∈ TB := tbm (tb7 (List.mem_of_getElem? (i := 13) rfl)) rfl
theorem wq1266 : Cond.methodLink RL 93 yX9_table ∈ TB := tbm (tb4 (List.mem_of_getElem? (i := 38) rfl)) rfl
theorem wq1267 : Cond.instanceMethod yX9_table ∈ TB := tbm (tb4 (List.mem_of_getElem? (i := 39) rfl)) rfl
theorem wq1268 : Cond.selects RX9 yX9_table yX9_table ∈ TB := tbm (tb4 (List.mem_of_getElem? (i := 40) rfl)) rfl
theorem wq1269 : Cond.methodLink RL 96 yX10_table ∈ TB := tbm (tb7 (List.mem_of_getElem? (i := 15) rfl)) rfl
theorem wq1270 : Cond.instanceMethod yX10_table ∈ TB := tbm (tb7 (List.mem_of_getElem? (i := 16) rfl)) rfl
theorem wq1271 : Cond.selects RX10 yX10_table yX10_table ∈ TB := tbm (tb7 (List.mem_of_getElem? (i := 17) rfl)) rfl
theorem wq1272 : Cond.methodLink RL 97 yX9_phaseOf ∈ TB := tbm (tb4 (List.mem_of_getElem? (i := 66) rfl)) rfl
theorem wq1273 : Cond.instanceMethod yX9_phaseOf ∈ TB := tbm (tb4 (List.mem_of_getElem? (i := 67) rfl)) rfl
theorem wq1274 : Cond.selects RX9 yX9_phaseOf yX9_phaseOf ∈ TB := tbm (tb4 (List.mem_of_getElem? (i := 68) rfl)) rfl
theorem wq1275 : Cond.methodLink RL 100 yX10_phaseOf ∈ TB := tbm (tb7 (List.mem_of_getElem? (i := 19) rfl)) rfl
theorem wq1276 : Cond.instanceMethod yX10_phaseOf ∈ TB := tbm (tb7 (List.mem_of_getElem? (i := 20) rfl)) rfl
theorem wq1277 : Cond.selects RX10 yX10_phaseOf yX10_phaseOf ∈ TB := tbm (tb7 (List.mem_of_getElem? (i := 21) rfl)) rfl
theorem wq1278 : Cond.methodLink RL 101 yX9_taken ∈ TB := tbm (tb4 (List.mem_of_getElem? (i := 72) rfl)) rfl
theorem wq1279 : Cond.instanceMethod yX9_taken ∈ TB := tbm (tb4 (List.mem_of_getElem? (i := 73) rfl)) rfl
theorem wq1280 : Cond.selects RX9 yX9_taken yX9_taken ∈ TB := tbm (tb4 (List.mem_of_getElem? (i := 74) rfl)) rfl
theorem wq1281 : Cond.methodLink RL 104 yX10_taken ∈ TB := tbm (tb7 (List.mem_of_getElem? (i := 27) rfl)) rfl
theorem wq1282 : Cond.instanceMethod yX10_taken ∈ TB := tbm (tb7 (List.mem_of_getElem? (i := 28) rfl)) rfl
theorem wq1283 : Cond.selects RX10 yX10_taken yX10_taken ∈ TB := tbm (tb7 (List.mem_of_getElem? (i := 29) rfl)) rfl
theorem wq1284 : Cond.methodLink RL 105 yX9_recorded ∈ TB := tbm (tb4 (List.mem_of_getElem? (i := 78) rfl)) rfl
theorem wq1285 : Cond.instanceMethod yX9_recorded ∈ TB := tbm (tb4 (List.mem_of_getElem? (i := 79) rfl)) rfl
theorem wq1286 : Cond.selects RX9 yX9_recorded yX9_recorded ∈ TB := tbm (tb4 (List.mem_of_getElem? (i := 80) rfl)) rfl
theorem wq1287 : Cond.methodLink RL 108 yX10_recorded ∈ TB := tbm (tb7 (List.mem_of_getElem? (i := 31) rfl)) rfl
theorem wq1288 : Cond.instanceMethod yX10_recorded ∈ TB := tbm (tb7 (List.mem_of_getElem? (i := 32) rfl)) rfl
theorem wq1289 : Cond.selects RX10 yX10_recorded yX10_recorded ∈ TB := tbm (tb7 (List.mem_of_getElem? (i := 33) rfl)) rfl
theorem wq1290 : Cond.methodLink RL 109 yX9_greens ∈ TB := tbm (tb4 (List.mem_of_getElem? (i := 86) rfl)) rfl
theorem wq1291 : Cond.instanceMethod yX9_greens ∈ TB := tbm (tb4 (List.mem_of_getElem? (i := 87) rfl)) rfl
theorem wq1292 : Cond.selects RX9 yX9_greens yX9_greens ∈ TB := tbm (tb4 (List.mem_of_getElem? (i := 88) rfl)) rfl
theorem wq1293 : Cond.methodLink RL 112 yX10_greens ∈ TB := tbm (tb7 (List.mem_of_getElem? (i := 39) rfl)) rfl
theorem wq1294 : Cond.instanceMethod yX10_greens ∈ TB := tbm (tb7 (List.mem_of_getElem? (i := 40) rfl)) rfl
theorem wq1295 : Cond.selects RX10 yX10_greens yX10_greens ∈ TB := tbm (tb7 (List.mem_of_getElem? (i := 41) rfl)) rfl
theorem wq1296 : Cond.methodLink RL 113 yX9_could ∈ TB := tbm (tb4 (List.mem_of_getElem? (i := 112) rfl)) rfl
theorem wq1297 : Cond.instanceMethod yX9_could ∈ TB := tbm (tb4 (List.mem_of_getElem? (i := 113) rfl)) rfl
theorem wq1298 : Cond.selects RX9 yX9_could yX9_could ∈ TB := tbm (tb4 (List.mem_of_getElem? (i := 114) rfl)) rfl
theorem wq1299 : Cond.methodLink RL 116 yX10_could ∈ TB := tbm (tb7 (List.mem_of_getElem? (i := 43) rfl)) rfl
theorem wq1300 : Cond.instanceMethod yX10_could ∈ TB := tbm (tb7 (List.mem_of_getElem? (i := 44) rfl)) rfl
theorem wq1301 : Cond.selects RX10 yX10_could yX10_could ∈ TB := tbm (tb7 (List.mem_of_getElem? (i := 45) rfl)) rfl
theorem wq1302 : Cond.methodLink RL 117 yX9_crowded ∈ TB := tbm (tb4 (List.mem_of_getElem? (i := 134) rfl)) rfl
theorem wq1303 : Cond.instanceMethod yX9_crowded ∈ TB := tbm (tb4 (List.mem_of_getElem? (i := 135) rfl)) rfl
theorem wq1304 : Cond.selects RX9 yX9_crowded yX9_crowded ∈ TB := tbm (tb4 (List.mem_of_getElem? (i := 136) rfl)) rfl
theorem wq1305 : Cond.methodLink RL 120 yX10_crowded ∈ TB := tbm (tb7 (List.mem_of_getElem? (i := 55) rfl)) rfl
theorem wq1306 : Cond.instanceMethod yX10_crowded ∈ TB := tbm (tb7 (List.mem_of_getElem? (i := 56) rfl)) rfl
theorem wq1307 : Cond.selects RX10 yX10_crowded yX10_crowded ∈ TB := tbm (tb7 (List.mem_of_getElem? (i := 57) rfl)) rfl
theorem wq1308 : Cond.methodLink RL 121 yX9_green ∈ TB := tbm (tb4 (List.mem_of_getElem? (i := 139) rfl)) rfl
theorem wq1309 : Cond.instanceMethod yX9_green ∈ TB := tbm (tb4 (List.mem_of_getElem? (i := 140) rfl)) rfl
theorem wq1310 : Cond.selects RX9 yX9_green yX9_green ∈ TB := tbm (tb4 (List.mem_of_getElem? (i := 141) rfl)) rfl
theorem wq1311 : Cond.methodLink RL 124 yX10_green ∈ TB := tbm (tb7 (List.mem_of_getElem? (i := 59) rfl)) rfl
theorem wq1312 : Cond.instanceMethod yX10_green ∈ TB := tbm (tb7 (List.mem_of_getElem? (i := 60) rfl)) rfl
theorem wq1313 : Cond.selects RX10 yX10_green yX10_green ∈ TB := tbm (tb7 (List.mem_of_getElem? (i := 61) rfl)) rfl
theorem wq1314 : Cond.methodLink RL 125 yX9_proved ∈ TB := tbm (tb4 (List.mem_of_getElem? (i := 144) rfl)) rfl
theorem wq1315 : Cond.instanceMethod yX9_proved ∈ TB := tbm (tb4 (List.mem_of_getElem? (i := 145) rfl)) rfl
theorem wq1316 : Cond.selects RX9 yX9_proved yX9_proved ∈ TB := tbm (tb4 (List.mem_of_getElem? (i := 146) rfl)) rfl
theorem wq1317 : Cond.methodLink RL 128 yX10_proved ∈ TB := tbm (tb7 (List.mem_of_getElem? (i := 63) rfl)) rfl
theorem wq1318 : Cond.instanceMethod yX10_proved ∈ TB := tbm (tb7 (List.mem_of_getElem? (i := 64) rfl)) rfl
theorem wq1319 : Cond.selects RX10 yX10_proved yX10_proved ∈ TB := tbm (tb7 (List.mem_of_getElem? (i := 65) rfl)) rfl
theorem wq1320 : Cond.methodLink RL 129 yX9_wave ∈ TB := tbm (tb4 (List.mem_of_getElem? (i := 162) rfl)) rfl
theorem wq1321 : Cond.instanceMethod yX9_wave ∈ TB := tbm (tb4 (List.mem_of_getElem? (i := 163) rfl)) rfl
theorem wq1322 : Cond.selects RX9 yX9_wave yX9_wave ∈ TB := tbm (tb4 (List.mem_of_getElem? (i := 164) rfl)) rfl
theorem wq1323 : Cond.methodLink RL 132 yX10_wave ∈ TB := tbm (tb7 (List.mem_of_getElem? (i := 71) rfl)) rfl
theorem wq1324 : Cond.instanceMethod yX10_wave ∈ TB := tbm (tb7 (List.mem_of_getElem? (i := 72) rfl)) rfl
theorem wq1325 : Cond.selects RX10 yX10_wave yX10_wave ∈ TB := tbm (tb7 (List.mem_of_getElem? (i := 73) rfl)) rfl
theorem wq1326 : Cond.methodLink RL 133 yX9_node ∈ TB := tbm (tb4 (List.mem_of_getElem? (i := 166) rfl)) rfl
theorem wq1327 : Cond.instanceMethod yX9_node ∈ TB := tbm (tb4 (List.mem_of_getElem? (i := 167) rfl)) rfl
theorem wq1328 : Cond.selects RX9 yX9_node yX9_node ∈ TB := tbm (tb4 (List.mem_of_getElem? (i := 168) rfl)) rfl
theorem wq1329 : Cond.methodLink RL 136 yX10_node ∈ TB := tbm (tb7 (List.mem_of_getElem? (i := 75) rfl)) rfl
theorem wq1330 : Cond.instanceMethod yX10_node ∈ TB := tbm (tb7 (List.mem_of_getElem? (i := 76) rfl)) rfl
theorem wq1331 : Cond.selects RX10 yX10_node yX10_node ∈ TB := tbm (tb7 (List.mem_of_getElem? (i := 77) rfl)) rfl
theorem wq1332 : Cond.methodLink RL 137 yX9_change ∈ TB := tbm (tb4 (List.mem_of_getElem? (i := 183) rfl)) rfl
theorem wq1333 : Cond.instanceMethod yX9_change ∈ TB := tbm (tb4 (List.mem_of_getElem? (i := 184) rfl)) rfl
theorem wq1334 : Cond.selects RX9 yX9_change yX9_change ∈ TB := tbm (tb4 (List.mem_of_getElem? (i := 185) rfl)) rfl
theorem wq1335 : Cond.methodLink RL 140 yX10_change ∈ TB := tbm (tb7 (List.mem_of_getElem? (i := 83) rfl)) rfl
theorem wq1336 : Cond.instanceMethod yX10_change ∈ TB := tbm (tb7 (List.mem_of_getElem? (i := 84) rfl)) rfl
theorem wq1337 : Cond.selects RX10 yX10_change yX10_change ∈ TB := tbm (tb7 (List.mem_of_getElem? (i := 85) rfl)) rfl
theorem wq1338 : Cond.methodLink RL 141 yX9_band ∈ TB := tbm (tb4 (List.mem_of_getElem? (i := 192) rfl)) rfl
theorem wq1339 : Cond.instanceMethod yX9_band ∈ TB := tbm (tb4 (List.mem_of_getElem? (i := 193) rfl)) rfl
theorem wq1340 : Cond.selects RX9 yX9_band yX9_band ∈ TB := tbm (tb4 (List.mem_of_getElem? (i := 194) rfl)) rfl
theorem wq1341 : Cond.methodLink RL 144 yX10_band ∈ TB := tbm (tb7 (List.mem_of_getElem? (i := 91) rfl)) rfl
theorem wq1342 : Cond.instanceMethod yX10_band ∈ TB := tbm (tb7 (List.mem_of_getElem? (i := 92) rfl)) rfl
theorem wq1343 : Cond.selects RX10 yX10_band yX10_band ∈ TB := tbm (tb7 (List.mem_of_getElem? (i := 93) rfl)) rfl
theorem wq1344 : Cond.methodLink RL 145 yX9_nodeBest ∈ TB := tbm (tb4 (List.mem_of_getElem? (i := 226) rfl)) rfl
theorem wq1345 : Cond.instanceMethod yX9_nodeBest ∈ TB := tbm (tb4 (List.mem_of_getElem? (i := 227) rfl)) rfl
theorem wq1346 : Cond.selects RX9 yX9_nodeBest yX9_nodeBest ∈ TB := tbm (tb4 (List.mem_of_getElem? (i := 228) rfl)) rfl
theorem wq1347 : Cond.methodLink RL 148 yX10_nodeBest ∈ TB := tbm (tb7 (List.mem_of_getElem? (i := 107) rfl)) rfl
theorem wq1348 : Cond.instanceMethod yX10_nodeBest ∈ TB := tbm (tb7 (List.mem_of_getElem? (i := 108) rfl)) rfl
theorem wq1349 : Cond.selects RX10 yX10_nodeBest yX10_nodeBest ∈ TB := tbm (tb7 (List.mem_of_getElem? (i := 109) rfl)) rfl
theorem wq1350 : Cond.methodLink RL 149 yX9_tune ∈ TB := tbm (tb4 (List.mem_of_getElem? (i := 239) rfl)) rfl
theorem wq1351 : Cond.instanceMethod yX9_tune ∈ TB := tbm (tb5 (List.mem_of_getElem? (i := 0) rfl)) rfl
theorem wq1352 : Cond.selects RX9 yX9_tune yX9_tune ∈ TB := tbm (tb5 (List.mem_of_getElem? (i := 1) rfl)) rfl
theorem wq1353 : Cond.methodLink RL 152 yX10_tune ∈ TB := tbm (tb7 (List.mem_of_getElem? (i := 115) rfl)) rfl
theorem wq1354 : Cond.instanceMethod yX10_tune ∈ TB := tbm (tb7 (List.mem_of_getElem? (i := 116) rfl)) rfl
theorem wq1355 : Cond.selects RX10 yX10_tune yX10_tune ∈ TB := tbm (tb7 (List.mem_of_getElem? (i := 117) rfl)) rfl
theorem wq1356 : Cond.methodLink RL 153 yX9_would ∈ TB := tbm (tb5 (List.mem_of_getElem? (i := 9) rfl)) rfl
theorem wq1357 : Cond.instanceMethod yX9_would ∈ TB := tbm (tb5 (List.mem_of_getElem? (i := 10) rfl)) rfl
theorem wq1358 : Cond.selects RX9 yX9_would yX9_would ∈ TB := tbm (tb5 (List.mem_of_getElem? (i := 11) rfl)) rfl
theorem wq1359 : Cond.methodLink RL 156 yX10_would ∈ TB := tbm (tb7 (List.mem_of_getElem? (i := 119) rfl)) rfl
theorem wq1360 : Cond.instanceMethod yX10_would ∈ TB := tbm (tb7 (List.mem_of_getElem? (i := 120) rfl)) rfl
theorem wq1361 : Cond.selects RX10 yX10_would yX10_would ∈ TB := tbm (tb7 (List.mem_of_getElem? (i := 121) rfl)) rfl
theorem wq1362 : Cond.methodLink RL 157 yX9_turns ∈ TB := tbm (tb5 (List.mem_of_getElem? (i := 37) rfl)) rfl
theorem wq1363 : Cond.instanceMethod yX9_turns ∈ TB := tbm (tb5 (List.mem_of_getElem? (i := 38) rfl)) rfl
theorem wq1364 : Cond.selects RX9 yX9_turns yX9_turns ∈ TB := tbm (tb5 (List.mem_of_getElem? (i := 39) rfl)) rfl
theorem wq1365 : Cond.methodLink RL 160 yX10_turns_ ∈ TB := tbm (tb7 (List.mem_of_getElem? (i := 135) rfl)) rfl
theorem wq1366 : Cond.instanceMethod yX10_turns_ ∈ TB := tbm (tb7 (List.mem_of_getElem? (i := 136) rfl)) rfl
theorem wq1367 : Cond.selects RX10 yX10_turns_ yX10_turns_ ∈ TB := tbm (tb7 (List.mem_of_getElem? (i := 137) rfl)) rfl
theorem wq1368 : Cond.methodLink RL 161 yX9_best ∈ TB := tbm (tb5 (List.mem_of_getElem? (i := 42) rfl)) rfl
theorem wq1369 : Cond.instanceMethod yX9_best ∈ TB := tbm (tb5 (List.mem_of_getElem? (i := 43) rfl)) rfl
theorem wq1370 : Cond.selects RX9 yX9_best yX9_best ∈ TB := tbm (tb5 (List.mem_of_getElem? (i := 44) rfl)) rfl
theorem wq1371 : Cond.methodLink RL 164 yX10_best ∈ TB := tbm (tb7 (List.mem_of_getElem? (i := 139) rfl)) rfl
theorem wq1372 : Cond.instanceMethod yX10_best ∈ TB := tbm (tb7 (List.mem_of_getElem? (i := 140) rfl)) rfl
theorem wq1373 : Cond.selects RX10 yX10_best yX10_best ∈ TB := tbm (tb7 (List.mem_of_getElem? (i := 141) rfl)) rfl
theorem wq1374 : Cond.methodLink RL 165 yX9_note ∈ TB := tbm (tb5 (List.mem_of_getElem? (i := 54) rfl)) rfl
theorem wq1375 : Cond.instanceMethod yX9_note ∈ TB := tbm (tb5 (List.mem_of_getElem? (i := 55) rfl)) rfl
theorem wq1376 : Cond.selects RX9 yX9_note yX9_note ∈ TB := tbm (tb5 (List.mem_of_getElem? (i := 56) rfl)) rfl
theorem wq1377 : Cond.methodLink RL 168 yX10_note ∈ TB := tbm (tb7 (List.mem_of_getElem? (i := 147) rfl)) rfl
theorem wq1378 : Cond.instanceMethod yX10_note ∈ TB := tbm (tb7 (List.mem_of_getElem? (i := 148) rfl)) rfl
theorem wq1379 : Cond.selects RX10 yX10_note yX10_note ∈ TB := tbm (tb7 (List.mem_of_getElem? (i := 149) rfl)) rfl
theorem wq1380 : Cond.methodLink RL 169 yX9_fits ∈ TB := tbm (tb5 (List.mem_of_getElem? (i := 59) rfl)) rfl
theorem wq1381 : Cond.instanceMethod yX9_fits ∈ TB := tbm (tb5 (List.mem_of_getElem? (i := 60) rfl)) rfl
theorem wq1382 : Cond.selects RX9 yX9_fits yX9_fits ∈ TB := tbm (tb5 (List.mem_of_getElem? (i := 61) rfl)) rfl
theorem wq1383 : Cond.methodLink RL 172 yX10_fits ∈ TB := tbm (tb7 (List.mem_of_getElem? (i := 152) rfl)) rfl
theorem wq1384 : Cond.instanceMethod yX10_fits ∈ TB := tbm (tb7 (List.mem_of_getElem? (i := 153) rfl)) rfl
theorem wq1385 : Cond.selects RX10 yX10_fits yX10_fits ∈ TB := tbm (tb7 (List.mem_of_getElem? (i := 154) rfl)) rfl
theorem wq1386 : Cond.methodLink RL 173 yX9_day ∈ TB := tbm (tb5 (List.mem_of_getElem? (i := 71) rfl)) rfl
theorem wq1387 : Cond.instanceMethod yX9_day ∈ TB := tbm (tb5 (List.mem_of_getElem? (i := 72) rfl)) rfl
theorem wq1388 : Cond.selects RX9 yX9_day yX9_day ∈ TB := tbm (tb5 (List.mem_of_getElem? (i := 73) rfl)) rfl
theorem wq1389 : Cond.methodLink RL 176 yX10_day ∈ TB := tbm (tb7 (List.mem_of_getElem? (i := 160) rfl)) rfl
theorem wq1390 : Cond.instanceMethod yX10_day ∈ TB := tbm (tb7 (List.mem_of_getElem? (i := 161) rfl)) rfl
theorem wq1391 : Cond.selects RX10 yX10_day yX10_day ∈ TB := tbm (tb7 (List.mem_of_getElem? (i := 162) rfl)) rfl
theorem wq1392 : Cond.methodLink RL 177 yX9_chance ∈ TB := tbm (tb5 (List.mem_of_getElem? (i := 79) rfl)) rfl
theorem wq1393 : Cond.instanceMethod yX9_chance ∈ TB := tbm (tb5 (List.mem_of_getElem? (i := 80) rfl)) rfl
theorem wq1394 : Cond.selects RX9 yX9_chance yX9_chance ∈ TB := tbm (tb5 (List.mem_of_getElem? (i := 81) rfl)) rfl
theorem wq1395 : Cond.methodLink RL 181 yX10_chance ∈ TB := tbm (tb7 (List.mem_of_getElem? (i := 168) rfl)) rfl
theorem wq1396 : Cond.instanceMethod yX10_chance ∈ TB := tbm (tb7 (List.mem_of_getElem? (i := 169) rfl)) rfl
theorem wq1397 : Cond.selects RX10 yX10_chance yX10_chance ∈ TB := tbm (tb7 (List.mem_of_getElem? (i := 170) rfl)) rfl
theorem wq1398 : Cond.methodLink RL 182 yX9_mean ∈ TB := tbm (tb5 (List.mem_of_getElem? (i := 90) rfl)) rfl
theorem wq1399 : Cond.instanceMethod yX9_mean ∈ TB := tbm (tb5 (List.mem_of_getElem? (i := 91) rfl)) rfl
theorem wq1400 : Cond.selects RX9 yX9_mean yX9_mean ∈ TB := tbm (tb5 (List.mem_of_getElem? (i := 92) rfl)) rfl
theorem wq1401 : Cond.methodLink RL 186 yX10_mean ∈ TB := tbm (tb7 (List.mem_of_getElem? (i := 179) rfl)) rfl
theorem wq1402 : Cond.instanceMethod yX10_mean ∈ TB := tbm (tb7 (List.mem_of_getElem? (i := 180) rfl)) rfl
theorem wq1403 : Cond.selects RX10 yX10_mean yX10_mean ∈ TB := tbm (tb7 (List.mem_of_getElem? (i := 181) rfl)) rfl
theorem wq1404 : Cond.methodLink RL 187 yX9_plan ∈ TB := tbm (tb5 (List.mem_of_getElem? (i := 94) rfl)) rfl
theorem wq1405 : Cond.instanceMethod yX9_plan ∈ TB := tbm (tb5 (List.mem_of_getElem? (i := 95) rfl)) rfl
theorem wq1406 : Cond.selects RX9 yX9_plan yX9_plan ∈ TB := tbm (tb5 (List.mem_of_getElem? (i := 96) rfl)) rfl
theorem wq1407 : Cond.methodLink RL 190 yX10_plan ∈ TB := tbm (tb7 (List.mem_of_getElem? (i := 183) rfl)) rfl
theorem wq1408 : Cond.instanceMethod yX10_plan ∈ TB := tbm (tb7 (List.mem_of_getElem? (i := 184) rfl)) rfl
theorem wq1409 : Cond.selects RX10 yX10_plan yX10_plan ∈ TB := tbm (tb7 (List.mem_of_getElem? (i := 185) rfl)) rfl
theorem wq1410 : Cond.methodLink RL 191 yX9_ends ∈ TB := tbm (tb5 (List.mem_of_getElem? (i := 98) rfl)) rfl
theorem wq1411 : Cond.instanceMethod yX9_ends ∈ TB := tbm (tb5 (List.mem_of_getElem? (i := 99) rfl)) rfl
theorem wq1412 : Cond.selects RX9 yX9_ends yX9_ends ∈ TB := tbm (tb5 (List.mem_of_getElem? (i := 100) rfl)) rfl
theorem wq1413 : Cond.methodLink RL 194 yX10_ends_ ∈ TB := tbm (tb7 (List.mem_of_getElem? (i := 187) rfl)) rfl
theorem wq1414 : Cond.instanceMethod yX10_ends_ ∈ TB := tbm (tb7 (List.mem_of_getElem? (i := 188) rfl)) rfl
theorem wq1415 : Cond.selects RX10 yX10_ends_ yX10_ends_ ∈ TB := tbm (tb7 (List.mem_of_getElem? (i := 189) rfl)) rfl
theorem wq1416 : Cond.methodLink RL 195 yX9_judge ∈ TB := tbm (tb5 (List.mem_of_getElem? (i := 112) rfl)) rfl
theorem wq1417 : Cond.instanceMethod yX9_judge ∈ TB := tbm (tb5 (List.mem_of_getElem? (i := 113) rfl)) rfl
theorem wq1418 : Cond.selects RX9 yX9_judge yX9_judge ∈ TB := tbm (tb5 (List.mem_of_getElem? (i := 114) rfl)) rfl
theorem wq1419 : Cond.methodLink RL 198 yX10_judge ∈ TB := tbm (tb7 (List.mem_of_getElem? (i := 197) rfl)) rfl
theorem wq1420 : Cond.instanceMethod yX10_judge ∈ TB := tbm (tb7 (List.mem_of_getElem? (i := 198) rfl)) rfl
theorem wq1421 : Cond.selects RX10 yX10_judge yX10_judge ∈ TB := tbm (tb7 (List.mem_of_getElem? (i := 199) rfl)) rfl
theorem wq1422 : Cond.methodLink RL 199 yX9_image ∈ TB := tbm (tb5 (List.mem_of_getElem? (i := 122) rfl)) rfl
theorem wq1423 : Cond.instanceMethod yX9_image ∈ TB := tbm (tb5 (List.mem_of_getElem? (i := 123) rfl)) rfl
theorem wq1424 : Cond.selects RX9 yX9_image yX9_image ∈ TB := tbm (tb5 (List.mem_of_getElem? (i := 124) rfl)) rfl
theorem wq1425 : Cond.methodLink RL 202 yX10_image ∈ TB := tbm (tb7 (List.mem_of_getElem? (i := 204) rfl)) rfl
theorem wq1426 : Cond.instanceMethod yX10_image ∈ TB := tbm (tb7 (List.mem_of_getElem? (i := 205) rfl)) rfl
theorem wq1427 : Cond.selects RX10 yX10_image yX10_image ∈ TB := tbm (tb7 (List.mem_of_getElem? (i := 206) rfl)) rfl
theorem wq1428 : Cond.methodLink RL 203 yX9_undo ∈ TB := tbm (tb5 (List.mem_of_getElem? (i := 137) rfl)) rfl
theorem wq1429 : Cond.instanceMethod yX9_undo ∈ TB := tbm (tb5 (List.mem_of_getElem? (i := 138) rfl)) rfl
theorem wq1430 : Cond.selects RX9 yX9_undo yX9_undo ∈ TB := tbm (tb5 (List.mem_of_getElem? (i := 139) rfl)) rfl
theorem wq1431 : Cond.methodLink RL 206 yX10_undo ∈ TB := tbm (tb7 (List.mem_of_getElem? (i := 208) rfl)) rfl
theorem wq1432 : Cond.instanceMethod yX10_undo ∈ TB := tbm (tb7 (List.mem_of_getElem? (i := 209) rfl)) rfl
theorem wq1433 : Cond.selects RX10 yX10_undo yX10_undo ∈ TB := tbm (tb7 (List.mem_of_getElem? (i := 210) rfl)) rfl
theorem wq1434 : Cond.methodLink RL 207 yX9_count ∈ TB := tbm (tb5 (List.mem_of_getElem? (i := 141) rfl)) rfl
theorem wq1435 : Cond.instanceMethod yX9_count ∈ TB := tbm (tb5 (List.mem_of_getElem? (i := 142) rfl)) rfl
theorem wq1436 : Cond.selects RX9 yX9_count yX9_count ∈ TB := tbm (tb5 (List.mem_of_getElem? (i := 143) rfl)) rfl
theorem wq1437 : Cond.methodLink RL 210 yX10_count ∈ TB := tbm (tb7 (List.mem_of_getElem? (i := 212) rfl)) rfl
theorem wq1438 : Cond.instanceMethod yX10_count ∈ TB := tbm (tb7 (List.mem_of_getElem? (i := 213) rfl)) rfl
theorem wq1439 : Cond.selects RX10 yX10_count yX10_count ∈ TB := tbm (tb7 (List.mem_of_getElem? (i := 214) rfl)) rfl
theorem wq1440 : Cond.methodLink RL 211 yX9_tape ∈ TB := tbm (tb5 (List.mem_of_getElem? (i := 145) rfl)) rfl
theorem wq1441 : Cond.instanceMethod yX9_tape ∈ TB := tbm (tb5 (List.mem_of_getElem? (i := 146) rfl)) rfl
theorem wq1442 : Cond.selects RX9 yX9_tape yX9_tape ∈ TB := tbm (tb5 (List.mem_of_getElem? (i := 147) rfl)) rfl
theorem wq1443 : Cond.methodLink RL 214 yX10_tape ∈ TB := tbm (tb7 (List.mem_of_getElem? (i := 216) rfl)) rfl
theorem wq1444 : Cond.instanceMethod yX10_tape ∈ TB := tbm (tb7 (List.mem_of_getElem? (i := 217) rfl)) rfl
theorem wq1445 : Cond.selects RX10 yX10_tape yX10_tape ∈ TB := tbm (tb7 (List.mem_of_getElem? (i := 218) rfl)) rfl
theorem wq1446 : Cond.methodLink RL 217 yX9_item ∈ TB := tbm (tb5 (List.mem_of_getElem? (i := 160) rfl)) rfl
theorem wq1447 : Cond.instanceMethod yX9_item ∈ TB := tbm (tb5 (List.mem_of_getElem? (i := 161) rfl)) rfl
theorem wq1448 : Cond.selects RX9 yX9_item yX9_item ∈ TB := tbm (tb5 (List.mem_of_getElem? (i := 162) rfl)) rfl
theorem wq1449 : Cond.methodLink RL 221 yX10_item ∈ TB := tbm (tb7 (List.mem_of_getElem? (i := 220) rfl)) rfl
theorem wq1450 : Cond.instanceMethod yX10_item ∈ TB := tbm (tb7 (List.mem_of_getElem? (i := 221) rfl)) rfl
theorem wq1451 : Cond.selects RX10 yX10_item yX10_item ∈ TB := tbm (tb7 (List.mem_of_getElem? (i := 222) rfl)) rfl
theorem wq1452 : Cond.methodLink RL 222 yX9_peek ∈ TB := tbm (tb5 (List.mem_of_getElem? (i := 168) rfl)) rfl
theorem wq1453 : Cond.instanceMethod yX9_peek ∈ TB := tbm (tb5 (List.mem_of_getElem? (i := 169) rfl)) rfl
theorem wq1454 : Cond.selects RX9 yX9_peek yX9_peek ∈ TB := tbm (tb5 (List.mem_of_getElem? (i := 170) rfl)) rfl
theorem wq1455 : Cond.methodLink RL 226 yX10_peek ∈ TB := tbm (tb7 (List.mem_of_getElem? (i := 224) rfl)) rfl
theorem wq1456 : Cond.instanceMethod yX10_peek ∈ TB := tbm (tb7 (List.mem_of_getElem? (i := 225) rfl)) rfl
theorem wq1457 : Cond.selects RX10 yX10_peek yX10_peek ∈ TB := tbm (tb7 (List.mem_of_getElem? (i := 226) rfl)) rfl
theorem wq1458 : Cond.methodLink RL 227 yX9_shift ∈ TB := tbm (tb5 (List.mem_of_getElem? (i := 172) rfl)) rfl
theorem wq1459 : Cond.instanceMethod yX9_shift ∈ TB := tbm (tb5 (List.mem_of_getElem? (i := 173) rfl)) rfl
theorem wq1460 : Cond.selects RX9 yX9_shift yX9_shift ∈ TB := tbm (tb5 (List.mem_of_getElem? (i := 174) rfl)) rfl
theorem wq1461 : Cond.methodLink RL 231 yX10_shift ∈ TB := tbm (tb7 (List.mem_of_getElem? (i := 228) rfl)) rfl
theorem wq1462 : Cond.instanceMethod yX10_shift ∈ TB := tbm (tb7 (List.mem_of_getElem? (i := 229) rfl)) rfl
theorem wq1463 : Cond.selects RX10 yX10_shift yX10_shift ∈ TB := tbm (tb7 (List.mem_of_getElem? (i := 230) rfl)) rfl
theorem wq1464 : Cond.laysFinal RX0 "SafeClears$Control" "junction" "LSafeClears$Junction;" ∈ TB := tbm (tb1 (List.mem_of_getElem? (i := 198) rfl)) rfl
theorem wq1465 : Cond.laysFinal RX0 "SafeClears$Control" "signals" "LSafeClears$Signals;" ∈ TB := tbm (tb1 (List.mem_of_getElem? (i := 200) rfl)) rfl
theorem wq1466 : Cond.laysFinal RX0 "SafeClears$Control" "phases" "LSafeClears$Phases;" ∈ TB := tbm (tb1 (List.mem_of_getElem? (i := 202) rfl)) rfl
theorem wq1467 : Cond.laysFinal RX0 "SafeClears$Control" "record" "LSafeClears$Rows;" ∈ TB := tbm (tb1 (List.mem_of_getElem? (i := 204) rfl)) rfl
theorem wq1468 : Cond.lays RX0 "SafeClears$Control" "started" "Z" ∈ TB := tbm (tb1 (List.mem_of_getElem? (i := 206) rfl)) rfl
theorem wq1469 : Cond.lays RX0 "SafeClears$Control" "second" "I" ∈ TB := tbm (tb1 (List.mem_of_getElem? (i := 208) rfl)) rfl
theorem wq1470 : Cond.lays RX0 "SafeClears$Control" "current" "I" ∈ TB := tbm (tb1 (List.mem_of_getElem? (i := 210) rfl)) rfl
theorem wq1471 : Cond.lays RX0 "SafeClears$Control" "cut" "I" ∈ TB := tbm (tb1 (List.mem_of_getElem? (i := 212) rfl)) rfl
theorem wq1472 : Cond.lays RX0 "SafeClears$Control" "emergency" "I" ∈ TB := tbm (tb1 (List.mem_of_getElem? (i := 214) rfl)) rfl
theorem wq1473 : Cond.lays RX0 "SafeClears$Control" "waited" "I" ∈ TB := tbm (tb1 (List.mem_of_getElem? (i := 216) rfl)) rfl
theorem wq1474 : Cond.lays RX0 "SafeClears$Control" "served" "I" ∈ TB := tbm (tb1 (List.mem_of_getElem? (i := 218) rfl)) rfl
theorem wq1475 : Cond.lays RX0 "SafeClears$Control" "lost" "I" ∈ TB := tbm (tb1 (List.mem_of_getElem? (i := 220) rfl)) rfl
theorem wq1476 : Cond.lays RX0 "SafeClears$Control" "seed" "I" ∈ TB := tbm (tb1 (List.mem_of_getElem? (i := 222) rfl)) rfl
theorem wq1477 : Cond.lays RX0 "SafeClears$Control" "cycle" "I" ∈ TB := tbm (tb1 (List.mem_of_getElem? (i := 224) rfl)) rfl
theorem wq1478 : Cond.lays RX0 "SafeClears$Control" "offset" "I" ∈ TB := tbm (tb1 (List.mem_of_getElem? (i := 226) rfl)) rfl
theorem wq1479 : Cond.lays RX0 "SafeClears$Control" "split" "I" ∈ TB := tbm (tb1 (List.mem_of_getElem? (i := 228) rfl)) rfl
theorem wq1480 : Cond.lays RX1 "SafeClears$Junction" "number" "I" ∈ TB := tbm (tb1 (List.mem_of_getElem? (i := 62) rfl)) rfl
theorem wq1481 : Cond.lays RX1 "SafeClears$Junction" "safety" "I" ∈ TB := tbm (tb1 (List.mem_of_getElem? (i := 64) rfl)) rfl
theorem wq1482 : Cond.laysFinal RX1 "SafeClears$Junction" "kinds" "[I" ∈ TB := tbm (tb1 (List.mem_of_getElem? (i := 66) rfl)) rfl
theorem wq1483 : Cond.laysFinal RX1 "SafeClears$Junction" "lengths" "[I" ∈ TB := tbm (tb1 (List.mem_of_getElem? (i := 68) rfl)) rfl
theorem wq1484 : Cond.laysFinal RX1 "SafeClears$Junction" "ways" "[I" ∈ TB := tbm (tb1 (List.mem_of_getElem? (i := 70) rfl)) rfl
theorem wq1485 : Cond.laysFinal RX1 "SafeClears$Junction" "bareClears" "[I" ∈ TB := tbm (tb1 (List.mem_of_getElem? (i := 72) rfl)) rfl
theorem wq1486 : Cond.laysFinal RX1 "SafeClears$Junction" "narrows" "[I" ∈ TB := tbm (tb1 (List.mem_of_getElem? (i := 74) rfl)) rfl
theorem wq1487 : Cond.lays RX2 "SafeClears$Phases" "number" "I" ∈ TB := tbm (tb1 (List.mem_of_getElem? (i := 138) rfl)) rfl
theorem wq1488 : Cond.laysFinal RX2 "SafeClears$Phases" "sets" "[I" ∈ TB := tbm (tb1 (List.mem_of_getElem? (i := 140) rfl)) rfl
theorem wq1489 : Cond.laysFinal RX2 "SafeClears$Phases" "forces" "[I" ∈ TB := tbm (tb1 (List.mem_of_getElem? (i := 142) rfl)) rfl
theorem wq1490 : Cond.laysFinal RX2 "SafeClears$Phases" "comings" "[I" ∈ TB := tbm (tb1 (List.mem_of_getElem? (i := 144) rfl)) rfl
theorem wq1491 : Cond.laysFinal RX3 "SafeClears$Reader" "signs" "[I" ∈ TB := tbm (tb2 (List.mem_of_getElem? (i := 56) rfl)) rfl
theorem wq1492 : Cond.lays RX3 "SafeClears$Reader" "length" "I" ∈ TB := tbm (tb2 (List.mem_of_getElem? (i := 58) rfl)) rfl
theorem wq1493 : Cond.lays RX3 "SafeClears$Reader" "place" "I" ∈ TB := tbm (tb2 (List.mem_of_getElem? (i := 60) rfl)) rfl
theorem wq1494 : Cond.lays RX3 "SafeClears$Reader" "fault" "I" ∈ TB := tbm (tb2 (List.mem_of_getElem? (i := 62) rfl)) rfl
theorem wq1495 : Cond.lays RX3 "SafeClears$Reader" "clauses" "I" ∈ TB := tbm (tb2 (List.mem_of_getElem? (i := 64) rfl)) rfl
theorem wq1496 : Cond.laysFinal RX3 "SafeClears$Reader" "kinds" "[I" ∈ TB := tbm (tb2 (List.mem_of_getElem? (i := 66) rfl)) rfl
theorem wq1497 : Cond.laysFinal RX3 "SafeClears$Reader" "lengths" "[I" ∈ TB := tbm (tb2 (List.mem_of_getElem? (i := 68) rfl)) rfl
theorem wq1498 : Cond.laysFinal RX3 "SafeClears$Reader" "ways" "[I" ∈ TB := tbm (tb2 (List.mem_of_getElem? (i := 70) rfl)) rfl
theorem wq1499 : Cond.laysFinal RX3 "SafeClears$Reader" "numbers" "[I" ∈ TB := tbm (tb2 (List.mem_of_getElem? (i := 72) rfl)) rfl
theorem wq1500 : Cond.lays RX4 "SafeClears$Rows" "number" "I" ∈ TB := tbm (tb1 (List.mem_of_getElem? (i := 159) rfl)) rfl
theorem wq1501 : Cond.laysFinal RX4 "SafeClears$Rows" "most" "I" ∈ TB := tbm (tb1 (List.mem_of_getElem? (i := 161) rfl)) rfl
theorem wq1502 : Cond.laysFinal RX4 "SafeClears$Rows" "items" "[I" ∈ TB := tbm (tb1 (List.mem_of_getElem? (i := 163) rfl)) rfl
theorem wq1503 : Cond.lays RX5 "SafeClears$Signals" "green" "I" ∈ TB := tbm (tb1 (List.mem_of_getElem? (i := 103) rfl)) rfl
theorem wq1504 : Cond.laysFinal RX5 "SafeClears$Signals" "rules" "[I" ∈ TB := tbm (tb1 (List.mem_of_getElem? (i := 105) rfl)) rfl
theorem wq1505 : Cond.laysFinal RX5 "SafeClears$Signals" "queue" "[I" ∈ TB := tbm (tb1 (List.mem_of_getElem? (i := 107) rfl)) rfl
theorem wq1506 : Cond.laysFinal RX5 "SafeClears$Signals" "seen" "[I" ∈ TB := tbm (tb1 (List.mem_of_getElem? (i := 109) rfl)) rfl
theorem wq1507 : Cond.laysFinal RX5 "SafeClears$Signals" "served" "[I" ∈ TB := tbm (tb1 (List.mem_of_getElem? (i := 111) rfl)) rfl
theorem wq1508 : Cond.laysFinal RX5 "SafeClears$Signals" "began" "[I" ∈ TB := tbm (tb1 (List.mem_of_getElem? (i := 113) rfl)) rfl
theorem wq1509 : Cond.laysFinal RX5 "SafeClears$Signals" "ended" "[I" ∈ TB := tbm (tb1 (List.mem_of_getElem? (i := 115) rfl)) rfl
theorem wq1510 : Cond.laysFinal RX5 "SafeClears$Signals" "begun" "[I" ∈ TB := tbm (tb1 (List.mem_of_getElem? (i := 117) rfl)) rfl
theorem wq1511 : Cond.lays RX6 "SafeClears$Tape" "sort" "I" ∈ TB := tbm (tb2 (List.mem_of_getElem? (i := 87) rfl)) rfl
theorem wq1512 : Cond.lays RX6 "SafeClears$Tape" "length" "I" ∈ TB := tbm (tb2 (List.mem_of_getElem? (i := 89) rfl)) rfl
theorem wq1513 : Cond.laysFinal RX6 "SafeClears$Tape" "items" "[J" ∈ TB := tbm (tb2 (List.mem_of_getElem? (i := 91) rfl)) rfl
theorem wq1514 : Cond.lays RX7 "SafeClears$Wave" "round" "I" ∈ TB := tbm (tb2 (List.mem_of_getElem? (i := 2) rfl)) rfl
theorem wq1515 : Cond.lays RX7 "SafeClears$Wave" "number" "I" ∈ TB := tbm (tb2 (List.mem_of_getElem? (i := 4) rfl)) rfl
theorem wq1516 : Cond.laysFinal RX7 "SafeClears$Wave" "items" "[I" ∈ TB := tbm (tb2 (List.mem_of_getElem? (i := 6) rfl)) rfl
theorem wq1517 : Cond.laysFinal RX8 "SafeClears$World" "control" "LSafeClears$Control;" ∈ TB := tbm (tb2 (List.mem_of_getElem? (i := 21) rfl)) rfl
theorem wq1518 : Cond.laysFinal RX8 "SafeClears$World" "street" "LSafeClears$Wave;" ∈ TB := tbm (tb2 (List.mem_of_getElem? (i := 23) rfl)) rfl
theorem wq1519 : Cond.laysFinal RX8 "SafeClears$World" "greensTold" "LSafeClears$Rows;" ∈ TB := tbm (tb2 (List.mem_of_getElem? (i := 25) rfl)) rfl
theorem wq1520 : Cond.laysFinal RX8 "SafeClears$World" "notes" "LSafeClears$Rows;" ∈ TB := tbm (tb2 (List.mem_of_getElem? (i := 27) rfl)) rfl
theorem wq1521 : Cond.laysFinal RX8 "SafeClears$World" "plan" "LSafeClears$Rows;" ∈ TB := tbm (tb2 (List.mem_of_getElem? (i := 29) rfl)) rfl
theorem wq1522 : Cond.laysFinal RX9 "SafeClears" "now" "LSafeClears$World;" ∈ TB := tbm (tb2 (List.mem_of_getElem? (i := 107) rfl)) rfl
theorem wq1523 : Cond.laysFinal RX9 "SafeClears" "imaged" "LSafeClears$World;" ∈ TB := tbm (tb2 (List.mem_of_getElem? (i := 109) rfl)) rfl
theorem wq1524 : Cond.laysFinal RX9 "SafeClears" "thought" "LSafeClears$Control;" ∈ TB := tbm (tb2 (List.mem_of_getElem? (i := 111) rfl)) rfl
theorem wq1525 : Cond.laysFinal RX9 "SafeClears" "control" "LSafeClears$Control;" ∈ TB := tbm (tb2 (List.mem_of_getElem? (i := 113) rfl)) rfl
theorem wq1526 : Cond.laysFinal RX9 "SafeClears" "junction" "LSafeClears$Junction;" ∈ TB := tbm (tb2 (List.mem_of_getElem? (i := 115) rfl)) rfl
theorem wq1527 : Cond.laysFinal RX9 "SafeClears" "signals" "LSafeClears$Signals;" ∈ TB := tbm (tb2 (List.mem_of_getElem? (i := 117) rfl)) rfl
theorem wq1528 : Cond.laysFinal RX9 "SafeClears" "phases" "LSafeClears$Phases;" ∈ TB := tbm (tb2 (List.mem_of_getElem? (i := 119) rfl)) rfl
theorem wq1529 : Cond.laysFinal RX9 "SafeClears" "street" "LSafeClears$Wave;" ∈ TB := tbm (tb2 (List.mem_of_getElem? (i := 121) rfl)) rfl
theorem wq1530 : Cond.laysFinal RX9 "SafeClears" "text" "LSafeClears$Reader;" ∈ TB := tbm (tb2 (List.mem_of_getElem? (i := 123) rfl)) rfl
theorem wq1531 : Cond.laysFinal RX9 "SafeClears" "tapes" "[LSafeClears$Tape;" ∈ TB := tbm (tb2 (List.mem_of_getElem? (i := 125) rfl)) rfl
theorem wq1532 : Cond.lays RX9 "SafeClears" "hasImage" "Z" ∈ TB := tbm (tb2 (List.mem_of_getElem? (i := 127) rfl)) rfl
theorem wq1533 : Cond.lays RX9 "SafeClears" "counted" "I" ∈ TB := tbm (tb2 (List.mem_of_getElem? (i := 129) rfl)) rfl
theorem wq1534 : Cond.laysFinal RX10 "SafeClearsModel" "s" "[I" ∈ TB := tbm (tb5 (List.mem_of_getElem? (i := 233) rfl)) rfl
theorem wq1535 : Cond.laysFinal RX10 "SafeClearsModel" "image" "[I" ∈ TB := tbm (tb5 (List.mem_of_getElem? (i := 235) rfl)) rfl
theorem wq1536 : Cond.laysFinal RX10 "SafeClearsModel" "mind" "[I" ∈ TB := tbm (tb5 (List.mem_of_getElem? (i := 237) rfl)) rfl
theorem wq1537 : Cond.lays RX10 "SafeClearsModel" "isKept" "Z" ∈ TB := tbm (tb5 (List.mem_of_getElem? (i := 239) rfl)) rfl
theorem wq1538 : Cond.lays RX10 "SafeClearsModel" "counted" "I" ∈ TB := tbm (tb6 (List.mem_of_getElem? (i := 1) rfl)) rfl
theorem wq1539 : Cond.laysFinal RX10 "SafeClearsModel" "clear" "[I" ∈ TB := tbm (tb6 (List.mem_of_getElem? (i := 3) rfl)) rfl
theorem wq1540 : Cond.laysFinal RX10 "SafeClearsModel" "narrow" "[I" ∈ TB := tbm (tb6 (List.mem_of_getElem? (i := 5) rfl)) rfl
theorem wq1541 : Cond.laysFinal RX10 "SafeClearsModel" "text" "[I" ∈ TB := tbm (tb6 (List.mem_of_getElem? (i := 7) rfl)) rfl
theorem wq1542 : Cond.laysFinal RX10 "SafeClearsModel" "read" "[I" ∈ TB := tbm (tb6 (List.mem_of_getElem? (i := 9) rfl)) rfl
theorem wq1543 : Cond.lays RX10 "SafeClearsModel" "letters" "I" ∈ TB := tbm (tb6 (List.mem_of_getElem? (i := 11) rfl)) rfl
theorem wq1544 : Cond.lays RX10 "SafeClearsModel" "at" "I" ∈ TB := tbm (tb6 (List.mem_of_getElem? (i := 13) rfl)) rfl
theorem wq1545 : Cond.lays RX10 "SafeClearsModel" "fault" "I" ∈ TB := tbm (tb6 (List.mem_of_getElem? (i := 15) rfl)) rfl
theorem wq1546 : Cond.laysFinal RX10 "SafeClearsModel" "sort" "[I" ∈ TB := tbm (tb6 (List.mem_of_getElem? (i := 17) rfl)) rfl
theorem wq1547 : Cond.laysFinal RX10 "SafeClearsModel" "items" "[I" ∈ TB := tbm (tb6 (List.mem_of_getElem? (i := 19) rfl)) rfl
theorem wq1548 : Cond.laysFinal RX10 "SafeClearsModel" "cell" "[J" ∈ TB := tbm (tb6 (List.mem_of_getElem? (i := 21) rfl)) rfl
theorem wq1549 : Cond.laysFinal RX10 "SafeClearsModel" "carried" "[J" ∈ TB := tbm (tb6 (List.mem_of_getElem? (i := 23) rfl)) rfl
theorem wq1550 : Cond.lays RX10 "SafeClearsModel" "bestBands" "I" ∈ TB := tbm (tb6 (List.mem_of_getElem? (i := 25) rfl)) rfl
theorem uw0 : ∀ w ∈ u_ws RX0 TX0 16, w ∈ TB := by
  intro w hw
  obtain ⟨k, hk, rfl⟩ := List.mem_map.mp hw
  have hk := List.mem_range.mp hk
  rcases (show k = 0 ∨ k = 1 ∨ k = 2 ∨ k = 3 ∨ k = 4 ∨ k = 5 ∨ k = 6 ∨ k = 7 ∨ k = 8 ∨ k = 9 ∨ k = 10 ∨ k = 11 ∨ k = 12 ∨ k = 13 ∨ k = 14 ∨ k = 15 by omega) with rfl | rfl | rfl | rfl | rfl | rfl | rfl | rfl | rfl | rfl | rfl | rfl | rfl | rfl | rfl | rfl
  · exact wq1464
  · exact wq1465
  · exact wq1466
  · exact wq1467
  · exact wq1468
  · exact wq1469
  · exact wq1470
  · exact wq1471
  · exact wq1472
  · exact wq1473
  · exact wq1474
  · exact wq1475
  · exact wq1476
  · exact wq1477
  · exact wq1478
  · exact wq1479
theorem uw1 : ∀ w ∈ u_ws RX1 TX1 7, w ∈ TB := by
  intro w hw
  obtain ⟨k, hk, rfl⟩ := List.mem_map.mp hw
  have hk := List.mem_range.mp hk
  rcases (show k = 0 ∨ k = 1 ∨ k = 2 ∨ k = 3 ∨ k = 4 ∨ k = 5 ∨ k = 6 by omega) with rfl | rfl | rfl | rfl | rfl | rfl | rfl
  · exact wq1480
  · exact wq1481
  · exact wq1482
  · exact wq1483
  · exact wq1484
  · exact wq1485
  · exact wq1486
theorem uw2 : ∀ w ∈ u_ws RX2 TX2 4, w ∈ TB := by
  intro w hw
  obtain ⟨k, hk, rfl⟩ := List.mem_map.mp hw
  have hk := List.mem_range.mp hk
  rcases (show k = 0 ∨ k = 1 ∨ k = 2 ∨ k = 3 by omega) with rfl | rfl | rfl | rfl
  · exact wq1487
  · exact wq1488
  · exact wq1489
  · exact wq1490
theorem uw3 : ∀ w ∈ u_ws RX3 TX3 9, w ∈ TB := by
  intro w hw
  obtain ⟨k, hk, rfl⟩ := List.mem_map.mp hw
  have hk := List.mem_range.mp hk
  rcases (show k = 0 ∨ k = 1 ∨ k = 2 ∨ k = 3 ∨ k = 4 ∨ k = 5 ∨ k = 6 ∨ k = 7 ∨ k = 8 by omega) with rfl | rfl | rfl | rfl | rfl | rfl | rfl | rfl | rfl
  · exact wq1491
  · exact wq1492
  · exact wq1493
  · exact wq1494
  · exact wq1495
  · exact wq1496
  · exact wq1497
  · exact wq1498
  · exact wq1499
theorem uw4 : ∀ w ∈ u_ws RX4 TX4 3, w ∈ TB := by
  intro w hw
  obtain ⟨k, hk, rfl⟩ := List.mem_map.mp hw
  have hk := List.mem_range.mp hk
  rcases (show k = 0 ∨ k = 1 ∨ k = 2 by omega) with rfl | rfl | rfl
  · exact wq1500
  · exact wq1501
  · exact wq1502
theorem uw5 : ∀ w ∈ u_ws RX5 TX5 8, w ∈ TB := by
  intro w hw
  obtain ⟨k, hk, rfl⟩ := List.mem_map.mp hw
  have hk := List.mem_range.mp hk
  rcases (show k = 0 ∨ k = 1 ∨ k = 2 ∨ k = 3 ∨ k = 4 ∨ k = 5 ∨ k = 6 ∨ k = 7 by omega) with rfl | rfl | rfl | rfl | rfl | rfl | rfl | rfl
  · exact wq1503
  · exact wq1504
  · exact wq1505
  · exact wq1506
  · exact wq1507
  · exact wq1508
  · exact wq1509
  · exact wq1510
theorem uw6 : ∀ w ∈ u_ws RX6 TX6 3, w ∈ TB := by
  intro w hw
  obtain ⟨k, hk, rfl⟩ := List.mem_map.mp hw
  have hk := List.mem_range.mp hk
  rcases (show k = 0 ∨ k = 1 ∨ k = 2 by omega) with rfl | rfl | rfl
  · exact wq1511
  · exact wq1512
  · exact wq1513
theorem uw7 : ∀ w ∈ u_ws RX7 TX7 3, w ∈ TB := by
  intro w hw
  obtain ⟨k, hk, rfl⟩ := List.mem_map.mp hw
  have hk := List.mem_range.mp hk
  rcases (show k = 0 ∨ k = 1 ∨ k = 2 by omega) with rfl | rfl | rfl
  · exact wq1514
  · exact wq1515
  · exact wq1516
theorem uw8 : ∀ w ∈ u_ws RX8 TX8 5, w ∈ TB := by
  intro w hw
  obtain ⟨k, hk, rfl⟩ := List.mem_map.mp hw
  have hk := List.mem_range.mp hk
  rcases (show k = 0 ∨ k = 1 ∨ k = 2 ∨ k = 3 ∨ k = 4 by omega) with rfl | rfl | rfl | rfl | rfl
  · exact wq1517
  · exact wq1518
  · exact wq1519
  · exact wq1520
  · exact wq1521
theorem uw9 : ∀ w ∈ u_ws RX9 TX9 12, w ∈ TB := by
  intro w hw
  obtain ⟨k, hk, rfl⟩ := List.mem_map.mp hw
  have hk := List.mem_range.mp hk
  rcases (show k = 0 ∨ k = 1 ∨ k = 2 ∨ k = 3 ∨ k = 4 ∨ k = 5 ∨ k = 6 ∨ k = 7 ∨ k = 8 ∨ k = 9 ∨ k = 10 ∨ k = 11 by omega) with rfl | rfl | rfl | rfl | rfl | rfl | rfl | rfl | rfl | rfl | rfl | rfl
  · exact wq1522
  · exact wq1523
  · exact wq1524
  · exact wq1525
  · exact wq1526
  · exact wq1527
  · exact wq1528
  · exact wq1529
  · exact wq1530
  · exact wq1531
  · exact wq1532
  · exact wq1533
theorem uw10 : ∀ w ∈ u_ws RX10 TX10 17, w ∈ TB := by
  intro w hw
  obtain ⟨k, hk, rfl⟩ := List.mem_map.mp hw
  have hk := List.mem_range.mp hk
  rcases (show k = 0 ∨ k = 1 ∨ k = 2 ∨ k = 3 ∨ k = 4 ∨ k = 5 ∨ k = 6 ∨ k = 7 ∨ k = 8 ∨ k = 9 ∨ k = 10 ∨ k = 11 ∨ k = 12 ∨ k = 13 ∨ k = 14 ∨ k = 15 ∨ k = 16 by omega) with rfl | rfl | rfl | rfl | rfl | rfl | rfl | rfl | rfl | rfl | rfl | rfl | rfl | rfl | rfl | rfl | rfl
  · exact wq1534
  · exact wq1535
  · exact wq1536
  · exact wq1537
  · exact wq1538
  · exact wq1539
  · exact wq1540
  · exact wq1541
  · exact wq1542
  · exact wq1543
  · exact wq1544
  · exact wq1545
  · exact wq1546
  · exact wq1547
  · exact wq1548
  · exact wq1549
  · exact wq1550
