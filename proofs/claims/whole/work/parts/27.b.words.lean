theorem nil_all {P : Cond → Prop} : ∀ w ∈ ([] : List Cond), P w := fun _ h => absurd h List.not_mem_nil
theorem lwd_0 : (Cond.classLink RL 7 RX6) ∈ lw_tbl := by decide +kernel
theorem lwd_1 : (Cond.instantiable RX6 5) ∈ lw_tbl := by decide +kernel
theorem lwd_2 : (Cond.initialized RX6) ∈ lw_tbl := by decide +kernel
theorem lwd_3 : (Cond.classLink RL 10 RX7) ∈ lw_tbl := by decide +kernel
theorem lwd_4 : (Cond.instantiable RX7 34) ∈ lw_tbl := by decide +kernel
theorem lwd_5 : (Cond.initialized RX7) ∈ lw_tbl := by decide +kernel
theorem lwd_6 : (Cond.methodLink RL 9 yX6_init) ∈ lw_tbl := by decide +kernel
theorem lwd_7 : (Cond.instanceMethod yX6_init) ∈ lw_tbl := by decide +kernel
set_option maxRecDepth 40000 in
theorem lwd_8 : (Cond.code yX6_init cX6_init 1 none) ∈ lw_tbl := List.mem_of_getElem? (i := 50) (by rfl)
theorem lwd_9 : (Cond.methodLink RX6 1 objectInit) ∈ lw_tbl := by decide +kernel
theorem lwd_10 : (Cond.instanceMethod objectInit) ∈ lw_tbl := by decide +kernel
set_option maxRecDepth 40000 in
theorem lwd_11 : (Cond.code objectInit ⟨#[0xb1]⟩ 1 none) ∈ lw_tbl := List.mem_of_getElem? (i := 53) (by rfl)
theorem lwd_12 : (Cond.classLink RX6 7 RX0) ∈ lw_tbl := by decide +kernel
theorem lwd_13 : (Cond.instantiable RX0 3) ∈ lw_tbl := by decide +kernel
theorem lwd_14 : (Cond.initialized RX0) ∈ lw_tbl := by decide +kernel
theorem lwd_15 : (Cond.fieldLink RX6 10 "NetBorders" "now" "LNetBorders$Bench;") ∈ lw_tbl := by decide +kernel
theorem lwd_16 : (Cond.fieldLink RX6 16 "NetBorders" "images" "[LNetBorders$Bench;") ∈ lw_tbl := by decide +kernel
theorem lwd_17 : (Cond.classLink RX6 20 RX3) ∈ lw_tbl := by decide +kernel
theorem lwd_18 : (Cond.instantiable RX3 3) ∈ lw_tbl := by decide +kernel
theorem lwd_19 : (Cond.initialized RX3) ∈ lw_tbl := by decide +kernel
theorem lwd_20 : (Cond.fieldLink RX6 23 "NetBorders" "paths" "LNetBorders$Paths;") ∈ lw_tbl := by decide +kernel
theorem lwd_21 : (Cond.classLink RX6 27 RX5) ∈ lw_tbl := by decide +kernel
theorem lwd_22 : (Cond.instantiable RX5 5) ∈ lw_tbl := by decide +kernel
theorem lwd_23 : (Cond.initialized RX5) ∈ lw_tbl := by decide +kernel
theorem lwd_24 : (Cond.fieldLink RX6 30 "NetBorders" "sides" "LNetBorders$Sides;") ∈ lw_tbl := by decide +kernel
theorem lwd_25 : (Cond.classLink RX6 34 RX4) ∈ lw_tbl := by decide +kernel
theorem lwd_26 : (Cond.instantiable RX4 10) ∈ lw_tbl := by decide +kernel
theorem lwd_27 : (Cond.initialized RX4) ∈ lw_tbl := by decide +kernel
theorem lwd_28 : (Cond.fieldLink RX6 37 "NetBorders" "search" "LNetBorders$Search;") ∈ lw_tbl := by decide +kernel
theorem lwd_29 : (Cond.fieldLink RX6 41 "NetBorders$Bench" "net" "LNetBorders$Net;") ∈ lw_tbl := by decide +kernel
theorem lwd_30 : (Cond.instanceMethod yX0_init) ∈ lw_tbl := by decide +kernel
set_option maxRecDepth 40000 in
theorem lwd_31 : (Cond.code yX0_init cX0_init 1 none) ∈ lw_tbl := List.mem_of_getElem? (i := 58) (by rfl)
theorem lwd_32 : (Cond.methodLink RX0 1 objectInit) ∈ lw_tbl := by decide +kernel
theorem lwd_33 : (Cond.classLink RX0 7 RX2) ∈ lw_tbl := by decide +kernel
theorem lwd_34 : (Cond.instantiable RX2 5) ∈ lw_tbl := by decide +kernel
theorem lwd_35 : (Cond.initialized RX2) ∈ lw_tbl := by decide +kernel
theorem lwd_36 : (Cond.fieldLink RX0 10 "NetBorders$Bench" "net" "LNetBorders$Net;") ∈ lw_tbl := by decide +kernel
theorem lwd_37 : (Cond.classLink RX0 16 RX1) ∈ lw_tbl := by decide +kernel
theorem lwd_38 : (Cond.instantiable RX1 4) ∈ lw_tbl := by decide +kernel
theorem lwd_39 : (Cond.initialized RX1) ∈ lw_tbl := by decide +kernel
theorem lwd_40 : (Cond.fieldLink RX0 19 "NetBorders$Bench" "family" "LNetBorders$Family;") ∈ lw_tbl := by decide +kernel
theorem lwd_41 : (Cond.instanceMethod yX2_init) ∈ lw_tbl := by decide +kernel
set_option maxRecDepth 40000 in
theorem lwd_42 : (Cond.code yX2_init cX2_init 1 none) ∈ lw_tbl := List.mem_of_getElem? (i := 64) (by rfl)
theorem lwd_43 : (Cond.methodLink RX2 3 objectInit) ∈ lw_tbl := by decide +kernel
theorem lwd_44 : (Cond.arrayClass .int) ∈ lw_tbl := by decide +kernel
theorem lwd_45 : (Cond.fieldLink RX2 9 "NetBorders$Net" "tail" "[I") ∈ lw_tbl := by decide +kernel
theorem lwd_46 : (Cond.fieldLink RX2 15 "NetBorders$Net" "head" "[I") ∈ lw_tbl := by decide +kernel
theorem lwd_47 : (Cond.fieldLink RX2 18 "NetBorders$Net" "weight" "[I") ∈ lw_tbl := by decide +kernel
theorem lwd_48 : (Cond.instanceMethod yX1_init) ∈ lw_tbl := by decide +kernel
set_option maxRecDepth 40000 in
theorem lwd_49 : (Cond.code yX1_init cX1_init 1 none) ∈ lw_tbl := List.mem_of_getElem? (i := 99) (by rfl)
theorem lwd_50 : (Cond.methodLink RX1 3 objectInit) ∈ lw_tbl := by decide +kernel
theorem lwd_51 : (Cond.fieldLink RX1 9 "NetBorders$Family" "times" "[I") ∈ lw_tbl := by decide +kernel
theorem lwd_52 : (Cond.fieldLink RX1 15 "NetBorders$Family" "load" "[I") ∈ lw_tbl := by decide +kernel
theorem lwd_53 : (Cond.instanceMethod yX3_init) ∈ lw_tbl := by decide +kernel
set_option maxRecDepth 40000 in
theorem lwd_54 : (Cond.code yX3_init cX3_init 1 none) ∈ lw_tbl := List.mem_of_getElem? (i := 136) (by rfl)
theorem lwd_55 : (Cond.methodLink RX3 3 objectInit) ∈ lw_tbl := by decide +kernel
theorem lwd_56 : (Cond.fieldLink RX3 9 "NetBorders$Paths" "onward" "[I") ∈ lw_tbl := by decide +kernel
theorem lwd_57 : (Cond.fieldLink RX3 15 "NetBorders$Paths" "back" "[I") ∈ lw_tbl := by decide +kernel
theorem lwd_58 : (Cond.instanceMethod yX5_init) ∈ lw_tbl := by decide +kernel
set_option maxRecDepth 40000 in
theorem lwd_59 : (Cond.code yX5_init cX5_init 1 none) ∈ lw_tbl := List.mem_of_getElem? (i := 154) (by rfl)
theorem lwd_60 : (Cond.methodLink RX5 3 objectInit) ∈ lw_tbl := by decide +kernel
theorem lwd_61 : (Cond.fieldLink RX5 9 "NetBorders$Sides" "bits" "[I") ∈ lw_tbl := by decide +kernel
theorem lwd_62 : (Cond.fieldLink RX5 15 "NetBorders$Sides" "border" "[I") ∈ lw_tbl := by decide +kernel
theorem lwd_63 : (Cond.fieldLink RX5 18 "NetBorders$Sides" "tailWithin" "[I") ∈ lw_tbl := by decide +kernel
theorem lwd_64 : (Cond.fieldLink RX5 21 "NetBorders$Sides" "headWithin" "[I") ∈ lw_tbl := by decide +kernel
theorem lwd_65 : (Cond.instanceMethod yX4_init) ∈ lw_tbl := by decide +kernel
set_option maxRecDepth 40000 in
theorem lwd_66 : (Cond.code yX4_init cX4_init 1 none) ∈ lw_tbl := List.mem_of_getElem? (i := 181) (by rfl)
theorem lwd_67 : (Cond.methodLink RX4 3 objectInit) ∈ lw_tbl := by decide +kernel
theorem lwd_68 : (Cond.fieldLink RX4 9 "NetBorders$Search" "border" "[I") ∈ lw_tbl := by decide +kernel
theorem lwd_69 : (Cond.fieldLink RX4 15 "NetBorders$Search" "price" "[I") ∈ lw_tbl := by decide +kernel
theorem lwd_70 : (Cond.fieldLink RX4 18 "NetBorders$Search" "slack" "[I") ∈ lw_tbl := by decide +kernel
theorem lwd_71 : (Cond.methodLink RX6 45 yX2_clear) ∈ lw_tbl := by decide +kernel
theorem lwd_72 : (Cond.instanceMethod yX2_clear) ∈ lw_tbl := by decide +kernel
theorem lwd_73 : (Cond.selects RX2 yX2_clear yX2_clear) ∈ lw_tbl := by decide +kernel
set_option maxRecDepth 40000 in
theorem lwd_74 : (Cond.code yX2_clear cX2_clear 2 none) ∈ lw_tbl := List.mem_of_getElem? (i := 219) (by rfl)
theorem lwd_75 : (Cond.fieldLink RX2 21 "NetBorders$Net" "nodes" "I") ∈ lw_tbl := by decide +kernel
theorem lwd_76 : (Cond.fieldLink RX2 25 "NetBorders$Net" "arcs" "I") ∈ lw_tbl := by decide +kernel
theorem lwd_77 : (Cond.methodLink RL 12 yX7_init) ∈ lw_tbl := by decide +kernel
theorem lwd_78 : (Cond.instanceMethod yX7_init) ∈ lw_tbl := by decide +kernel
set_option maxRecDepth 40000 in
theorem lwd_79 : (Cond.code yX7_init cX7_init 1 none) ∈ lw_tbl := List.mem_of_getElem? (i := 567) (by rfl)
theorem lwd_80 : (Cond.methodLink RX7 1 objectInit) ∈ lw_tbl := by decide +kernel
theorem lwd_81 : (Cond.fieldLink RX7 7 "NetBordersModel" "nodes" "I") ∈ lw_tbl := by decide +kernel
theorem lwd_82 : (Cond.fieldLink RX7 13 "NetBordersModel" "tail" "[I") ∈ lw_tbl := by decide +kernel
theorem lwd_83 : (Cond.fieldLink RX7 17 "NetBordersModel" "head" "[I") ∈ lw_tbl := by decide +kernel
theorem lwd_84 : (Cond.fieldLink RX7 20 "NetBordersModel" "weight" "[I") ∈ lw_tbl := by decide +kernel
theorem lwd_85 : (Cond.fieldLink RX7 23 "NetBordersModel" "load" "[I") ∈ lw_tbl := by decide +kernel
theorem lwd_86 : (Cond.fieldLink RX7 26 "NetBordersModel" "times" "[I") ∈ lw_tbl := by decide +kernel
theorem lwd_87 : (Cond.arrayClass .boolean) ∈ lw_tbl := by decide +kernel
theorem lwd_88 : (Cond.fieldLink RX7 29 "NetBordersModel" "has" "[Z") ∈ lw_tbl := by decide +kernel
theorem lwd_89 : (Cond.fieldLink RX7 33 "NetBordersModel" "iNodes" "[I") ∈ lw_tbl := by decide +kernel
theorem lwd_90 : (Cond.fieldLink RX7 36 "NetBordersModel" "iArcs" "[I") ∈ lw_tbl := by decide +kernel
theorem lwd_91 : (Cond.fieldLink RX7 39 "NetBordersModel" "iTail" "[I") ∈ lw_tbl := by decide +kernel
theorem lwd_92 : (Cond.fieldLink RX7 42 "NetBordersModel" "iHead" "[I") ∈ lw_tbl := by decide +kernel
theorem lwd_93 : (Cond.fieldLink RX7 45 "NetBordersModel" "iWeight" "[I") ∈ lw_tbl := by decide +kernel
theorem lwd_94 : (Cond.fieldLink RX7 48 "NetBordersModel" "iHasSet" "[Z") ∈ lw_tbl := by decide +kernel
theorem lwd_95 : (Cond.fieldLink RX7 51 "NetBordersModel" "iSet" "[I") ∈ lw_tbl := by decide +kernel
theorem lwd_96 : (Cond.fieldLink RX7 54 "NetBordersModel" "iHasFamily" "[Z") ∈ lw_tbl := by decide +kernel
theorem lwd_97 : (Cond.fieldLink RX7 57 "NetBordersModel" "iFamilyNodes" "[I") ∈ lw_tbl := by decide +kernel
theorem lwd_98 : (Cond.fieldLink RX7 60 "NetBordersModel" "iLoad" "[I") ∈ lw_tbl := by decide +kernel
theorem lwd_99 : (Cond.fieldLink RX7 63 "NetBordersModel" "iTimes" "[I") ∈ lw_tbl := by decide +kernel
theorem lwd_100 : (Cond.fieldLink RX7 66 "NetBordersModel" "sideBits" "[I") ∈ lw_tbl := by decide +kernel
theorem lwd_101 : (Cond.fieldLink RX7 69 "NetBordersModel" "sideBorder" "[I") ∈ lw_tbl := by decide +kernel
theorem lwd_102 : (Cond.constant RX7 72 (65536)) ∈ lw_tbl := by decide +kernel
theorem lwd_103 : (Cond.fieldLink RX7 73 "NetBordersModel" "misses" "[Z") ∈ lw_tbl := by decide +kernel
theorem lwd_104 : (Cond.fieldLink RX7 76 "NetBordersModel" "leastSets" "[I") ∈ lw_tbl := by decide +kernel
theorem lwd_105 : (Cond.fieldLink RX7 79 "NetBordersModel" "left" "[I") ∈ lw_tbl := by decide +kernel
theorem lwd_106 : (Cond.fieldLink RX7 82 "NetBordersModel" "spare" "[I") ∈ lw_tbl := by decide +kernel
theorem lwd_107 : (Cond.methodLink RL 13 yX6_begin) ∈ lw_tbl := by decide +kernel
theorem lwd_108 : (Cond.instanceMethod yX6_begin) ∈ lw_tbl := by decide +kernel
theorem lwd_109 : (Cond.selects RX6 yX6_begin yX6_begin) ∈ lw_tbl := by decide +kernel
set_option maxRecDepth 40000 in
theorem lwd_110 : (Cond.code yX6_begin cX6_begin 2 (some .boolean)) ∈ lw_tbl := List.mem_of_getElem? (i := 239) (by rfl)
theorem lwd_111 : (Cond.fieldLink RX6 51 "NetBorders$Bench" "chosen" "I") ∈ lw_tbl := by decide +kernel
theorem lwd_112 : (Cond.fieldLink RX6 55 "NetBorders$Bench" "family" "LNetBorders$Family;") ∈ lw_tbl := by decide +kernel
theorem lwd_113 : (Cond.methodLink RX6 59 yX1_putAway) ∈ lw_tbl := by decide +kernel
theorem lwd_114 : (Cond.instanceMethod yX1_putAway) ∈ lw_tbl := by decide +kernel
theorem lwd_115 : (Cond.selects RX1 yX1_putAway yX1_putAway) ∈ lw_tbl := by decide +kernel
set_option maxRecDepth 40000 in
theorem lwd_116 : (Cond.code yX1_putAway cX1_putAway 1 none) ∈ lw_tbl := List.mem_of_getElem? (i := 243) (by rfl)
theorem lwd_117 : (Cond.fieldLink RX1 22 "NetBorders$Family" "atHand" "Z") ∈ lw_tbl := by decide +kernel
theorem lwd_118 : (Cond.methodLink RX1 18 yX1_open) ∈ lw_tbl := by decide +kernel
theorem lwd_119 : (Cond.instanceMethod yX1_open) ∈ lw_tbl := by decide +kernel
theorem lwd_120 : (Cond.selects RX1 yX1_open yX1_open) ∈ lw_tbl := by decide +kernel
set_option maxRecDepth 40000 in
theorem lwd_121 : (Cond.code yX1_open cX1_open 2 none) ∈ lw_tbl := List.mem_of_getElem? (i := 247) (by rfl)
theorem lwd_122 : (Cond.fieldLink RX1 26 "NetBorders$Family" "nodes" "I") ∈ lw_tbl := by decide +kernel
theorem lwd_123 : (Cond.methodLink RX1 30 yJ7_fill_53178) ∈ lw_tbl := by decide +kernel
theorem lwd_124 : (Cond.static yJ7_fill_53178) ∈ lw_tbl := by decide +kernel
theorem lwd_125 : (Cond.initialized RJ7) ∈ lw_tbl := by decide +kernel
set_option maxRecDepth 40000 in
theorem lwd_126 : (Cond.code yJ7_fill_53178 cJ7_fill_53178 4 none) ∈ lw_tbl := List.mem_of_getElem? (i := 250) (by rfl)
theorem lwd_127 : (Cond.methodLink RL 17 yX7_begin) ∈ lw_tbl := by decide +kernel
theorem lwd_128 : (Cond.instanceMethod yX7_begin) ∈ lw_tbl := by decide +kernel
theorem lwd_129 : (Cond.selects RX7 yX7_begin yX7_begin) ∈ lw_tbl := by decide +kernel
set_option maxRecDepth 40000 in
theorem lwd_130 : (Cond.code yX7_begin cX7_begin 2 (some .boolean)) ∈ lw_tbl := List.mem_of_getElem? (i := 677) (by rfl)
theorem lwd_131 : (Cond.fieldLink RX7 85 "NetBordersModel" "code" "I") ∈ lw_tbl := by decide +kernel
theorem lwd_132 : (Cond.fieldLink RX7 95 "NetBordersModel" "arcs" "I") ∈ lw_tbl := by decide +kernel
theorem lwd_133 : (Cond.fieldLink RX7 134 "NetBordersModel" "hasSet" "Z") ∈ lw_tbl := by decide +kernel
theorem lwd_134 : (Cond.fieldLink RX7 137 "NetBordersModel" "hasFamily" "Z") ∈ lw_tbl := by decide +kernel
theorem lwd_135 : (Cond.methodLink RX7 130 yX7_in) ∈ lw_tbl := by decide +kernel
theorem lwd_136 : (Cond.static yX7_in) ∈ lw_tbl := by decide +kernel
set_option maxRecDepth 40000 in
theorem lwd_137 : (Cond.code yX7_in cX7_in 3 (some .boolean)) ∈ lw_tbl := List.mem_of_getElem? (i := 680) (by rfl)
theorem lwd_138 : (Cond.methodLink RX7 140 yX7_changed) ∈ lw_tbl := by decide +kernel
theorem lwd_139 : (Cond.instanceMethod yX7_changed) ∈ lw_tbl := by decide +kernel
theorem lwd_140 : (Cond.selects RX7 yX7_changed yX7_changed) ∈ lw_tbl := by decide +kernel
set_option maxRecDepth 40000 in
theorem lwd_141 : (Cond.code yX7_changed cX7_changed 1 none) ∈ lw_tbl := List.mem_of_getElem? (i := 684) (by rfl)
theorem lwd_142 : (Cond.fieldLink RX7 88 "NetBordersModel" "made" "Z") ∈ lw_tbl := by decide +kernel
theorem lwd_143 : (Cond.fieldLink RX7 92 "NetBordersModel" "setsMade" "Z") ∈ lw_tbl := by decide +kernel
theorem lwd_144 : (Cond.methodLink RL 18 yX6_arc) ∈ lw_tbl := by decide +kernel
theorem lwd_145 : (Cond.instanceMethod yX6_arc) ∈ lw_tbl := by decide +kernel
theorem lwd_146 : (Cond.selects RX6 yX6_arc yX6_arc) ∈ lw_tbl := by decide +kernel
set_option maxRecDepth 40000 in
theorem lwd_147 : (Cond.code yX6_arc cX6_arc 5 (some .int)) ∈ lw_tbl := List.mem_of_getElem? (i := 254) (by rfl)
theorem lwd_148 : (Cond.fieldLink RX6 64 "NetBorders$Net" "arcs" "I") ∈ lw_tbl := by decide +kernel
theorem lwd_149 : (Cond.methodLink RX6 67 yX2_hasNode) ∈ lw_tbl := by decide +kernel
theorem lwd_150 : (Cond.instanceMethod yX2_hasNode) ∈ lw_tbl := by decide +kernel
theorem lwd_151 : (Cond.selects RX2 yX2_hasNode yX2_hasNode) ∈ lw_tbl := by decide +kernel
set_option maxRecDepth 40000 in
theorem lwd_152 : (Cond.code yX2_hasNode cX2_hasNode 2 (some .boolean)) ∈ lw_tbl := List.mem_of_getElem? (i := 258) (by rfl)
theorem lwd_153 : (Cond.methodLink RX6 71 yX6_isWeight) ∈ lw_tbl := by decide +kernel
theorem lwd_154 : (Cond.static yX6_isWeight) ∈ lw_tbl := by decide +kernel
set_option maxRecDepth 40000 in
theorem lwd_155 : (Cond.code yX6_isWeight cX6_isWeight 1 (some .boolean)) ∈ lw_tbl := List.mem_of_getElem? (i := 261) (by rfl)
theorem lwd_156 : (Cond.methodLink RX6 74 yX2_append) ∈ lw_tbl := by decide +kernel
theorem lwd_157 : (Cond.instanceMethod yX2_append) ∈ lw_tbl := by decide +kernel
theorem lwd_158 : (Cond.selects RX2 yX2_append yX2_append) ∈ lw_tbl := by decide +kernel
set_option maxRecDepth 40000 in
theorem lwd_159 : (Cond.code yX2_append cX2_append 4 (some .int)) ∈ lw_tbl := List.mem_of_getElem? (i := 265) (by rfl)
theorem lwd_160 : (Cond.methodLink RL 22 yX7_arc) ∈ lw_tbl := by decide +kernel
theorem lwd_161 : (Cond.instanceMethod yX7_arc) ∈ lw_tbl := by decide +kernel
theorem lwd_162 : (Cond.selects RX7 yX7_arc yX7_arc) ∈ lw_tbl := by decide +kernel
set_option maxRecDepth 40000 in
theorem lwd_163 : (Cond.code yX7_arc cX7_arc 4 (some .int)) ∈ lw_tbl := List.mem_of_getElem? (i := 688) (by rfl)
theorem lwd_164 : (Cond.methodLink RL 23 yX6_drop) ∈ lw_tbl := by decide +kernel
theorem lwd_165 : (Cond.instanceMethod yX6_drop) ∈ lw_tbl := by decide +kernel
theorem lwd_166 : (Cond.selects RX6 yX6_drop yX6_drop) ∈ lw_tbl := by decide +kernel
set_option maxRecDepth 40000 in
theorem lwd_167 : (Cond.code yX6_drop cX6_drop 2 (some .int)) ∈ lw_tbl := List.mem_of_getElem? (i := 269) (by rfl)
theorem lwd_168 : (Cond.methodLink RX6 78 yX2_hasArc) ∈ lw_tbl := by decide +kernel
theorem lwd_169 : (Cond.instanceMethod yX2_hasArc) ∈ lw_tbl := by decide +kernel
theorem lwd_170 : (Cond.selects RX2 yX2_hasArc yX2_hasArc) ∈ lw_tbl := by decide +kernel
set_option maxRecDepth 40000 in
theorem lwd_171 : (Cond.code yX2_hasArc cX2_hasArc 2 (some .boolean)) ∈ lw_tbl := List.mem_of_getElem? (i := 273) (by rfl)
theorem lwd_172 : (Cond.methodLink RX6 81 yX2_remove) ∈ lw_tbl := by decide +kernel
theorem lwd_173 : (Cond.instanceMethod yX2_remove) ∈ lw_tbl := by decide +kernel
theorem lwd_174 : (Cond.selects RX2 yX2_remove yX2_remove) ∈ lw_tbl := by decide +kernel
set_option maxRecDepth 40000 in
theorem lwd_175 : (Cond.code yX2_remove cX2_remove 3 none) ∈ lw_tbl := List.mem_of_getElem? (i := 277) (by rfl)
theorem lwd_176 : (Cond.methodLink RL 27 yX7_drop) ∈ lw_tbl := by decide +kernel
theorem lwd_177 : (Cond.instanceMethod yX7_drop) ∈ lw_tbl := by decide +kernel
theorem lwd_178 : (Cond.selects RX7 yX7_drop yX7_drop) ∈ lw_tbl := by decide +kernel
set_option maxRecDepth 40000 in
theorem lwd_179 : (Cond.code yX7_drop cX7_drop 3 (some .int)) ∈ lw_tbl := List.mem_of_getElem? (i := 692) (by rfl)
theorem lwd_180 : (Cond.methodLink RX7 143 yX7_isArc) ∈ lw_tbl := by decide +kernel
theorem lwd_181 : (Cond.instanceMethod yX7_isArc) ∈ lw_tbl := by decide +kernel
theorem lwd_182 : (Cond.selects RX7 yX7_isArc yX7_isArc) ∈ lw_tbl := by decide +kernel
set_option maxRecDepth 40000 in
theorem lwd_183 : (Cond.code yX7_isArc cX7_isArc 2 (some .boolean)) ∈ lw_tbl := List.mem_of_getElem? (i := 696) (by rfl)
theorem lwd_184 : (Cond.methodLink RL 28 yX6_weigh) ∈ lw_tbl := by decide +kernel
theorem lwd_185 : (Cond.instanceMethod yX6_weigh) ∈ lw_tbl := by decide +kernel
theorem lwd_186 : (Cond.selects RX6 yX6_weigh yX6_weigh) ∈ lw_tbl := by decide +kernel
set_option maxRecDepth 40000 in
theorem lwd_187 : (Cond.code yX6_weigh cX6_weigh 4 (some .int)) ∈ lw_tbl := List.mem_of_getElem? (i := 281) (by rfl)
theorem lwd_188 : (Cond.fieldLink RX6 84 "NetBorders$Net" "weight" "[I") ∈ lw_tbl := by decide +kernel
theorem lwd_189 : (Cond.methodLink RL 32 yX7_weigh) ∈ lw_tbl := by decide +kernel
theorem lwd_190 : (Cond.instanceMethod yX7_weigh) ∈ lw_tbl := by decide +kernel
theorem lwd_191 : (Cond.selects RX7 yX7_weigh yX7_weigh) ∈ lw_tbl := by decide +kernel
set_option maxRecDepth 40000 in
theorem lwd_192 : (Cond.code yX7_weigh cX7_weigh 4 (some .int)) ∈ lw_tbl := List.mem_of_getElem? (i := 700) (by rfl)
theorem lwd_193 : (Cond.methodLink RL 33 yX6_turn) ∈ lw_tbl := by decide +kernel
theorem lwd_194 : (Cond.instanceMethod yX6_turn) ∈ lw_tbl := by decide +kernel
theorem lwd_195 : (Cond.selects RX6 yX6_turn yX6_turn) ∈ lw_tbl := by decide +kernel
set_option maxRecDepth 40000 in
theorem lwd_196 : (Cond.code yX6_turn cX6_turn 3 (some .boolean)) ∈ lw_tbl := List.mem_of_getElem? (i := 285) (by rfl)
theorem lwd_197 : (Cond.fieldLink RX6 88 "NetBorders$Net" "tail" "[I") ∈ lw_tbl := by decide +kernel
theorem lwd_198 : (Cond.fieldLink RX6 91 "NetBorders$Net" "head" "[I") ∈ lw_tbl := by decide +kernel
theorem lwd_199 : (Cond.methodLink RL 36 yX7_turn) ∈ lw_tbl := by decide +kernel
theorem lwd_200 : (Cond.instanceMethod yX7_turn) ∈ lw_tbl := by decide +kernel
theorem lwd_201 : (Cond.selects RX7 yX7_turn yX7_turn) ∈ lw_tbl := by decide +kernel
set_option maxRecDepth 40000 in
theorem lwd_202 : (Cond.code yX7_turn cX7_turn 3 (some .boolean)) ∈ lw_tbl := List.mem_of_getElem? (i := 704) (by rfl)
theorem lwd_203 : (Cond.methodLink RL 37 yX6_join) ∈ lw_tbl := by decide +kernel
theorem lwd_204 : (Cond.instanceMethod yX6_join) ∈ lw_tbl := by decide +kernel
theorem lwd_205 : (Cond.selects RX6 yX6_join yX6_join) ∈ lw_tbl := by decide +kernel
set_option maxRecDepth 40000 in
theorem lwd_206 : (Cond.code yX6_join cX6_join 3 (some .int)) ∈ lw_tbl := List.mem_of_getElem? (i := 289) (by rfl)
theorem lwd_207 : (Cond.fieldLink RX6 98 "NetBorders$Net" "nodes" "I") ∈ lw_tbl := by decide +kernel
theorem lwd_208 : (Cond.methodLink RX6 94 yX2_merge) ∈ lw_tbl := by decide +kernel
theorem lwd_209 : (Cond.instanceMethod yX2_merge) ∈ lw_tbl := by decide +kernel
theorem lwd_210 : (Cond.selects RX2 yX2_merge yX2_merge) ∈ lw_tbl := by decide +kernel
set_option maxRecDepth 40000 in
theorem lwd_211 : (Cond.code yX2_merge cX2_merge 4 none) ∈ lw_tbl := List.mem_of_getElem? (i := 293) (by rfl)
theorem lwd_212 : (Cond.methodLink RX2 28 yX2_renumbered) ∈ lw_tbl := by decide +kernel
theorem lwd_213 : (Cond.static yX2_renumbered) ∈ lw_tbl := by decide +kernel
set_option maxRecDepth 40000 in
theorem lwd_214 : (Cond.code yX2_renumbered cX2_renumbered 4 (some .int)) ∈ lw_tbl := List.mem_of_getElem? (i := 296) (by rfl)
theorem lwd_215 : (Cond.methodLink RL 40 yX7_join) ∈ lw_tbl := by decide +kernel
theorem lwd_216 : (Cond.instanceMethod yX7_join) ∈ lw_tbl := by decide +kernel
theorem lwd_217 : (Cond.selects RX7 yX7_join yX7_join) ∈ lw_tbl := by decide +kernel
set_option maxRecDepth 40000 in
theorem lwd_218 : (Cond.code yX7_join cX7_join 4 (some .int)) ∈ lw_tbl := List.mem_of_getElem? (i := 708) (by rfl)
theorem lwd_219 : (Cond.methodLink RX7 146 yX7_isNode) ∈ lw_tbl := by decide +kernel
theorem lwd_220 : (Cond.instanceMethod yX7_isNode) ∈ lw_tbl := by decide +kernel
theorem lwd_221 : (Cond.selects RX7 yX7_isNode yX7_isNode) ∈ lw_tbl := by decide +kernel
set_option maxRecDepth 40000 in
theorem lwd_222 : (Cond.code yX7_isNode cX7_isNode 2 (some .boolean)) ∈ lw_tbl := List.mem_of_getElem? (i := 712) (by rfl)
theorem lwd_223 : (Cond.methodLink RX7 149 yX7_joined) ∈ lw_tbl := by decide +kernel
theorem lwd_224 : (Cond.static yX7_joined) ∈ lw_tbl := by decide +kernel
set_option maxRecDepth 40000 in
theorem lwd_225 : (Cond.code yX7_joined cX7_joined 4 (some .int)) ∈ lw_tbl := List.mem_of_getElem? (i := 715) (by rfl)
theorem lwd_226 : (Cond.methodLink RL 41 yX6_tell) ∈ lw_tbl := by decide +kernel
theorem lwd_227 : (Cond.instanceMethod yX6_tell) ∈ lw_tbl := by decide +kernel
theorem lwd_228 : (Cond.selects RX6 yX6_tell yX6_tell) ∈ lw_tbl := by decide +kernel
set_option maxRecDepth 40000 in
theorem lwd_229 : (Cond.code yX6_tell cX6_tell 3 (some .int)) ∈ lw_tbl := List.mem_of_getElem? (i := 300) (by rfl)
theorem lwd_230 : (Cond.fieldLink RX6 101 "NetBorders$Family" "load" "[I") ∈ lw_tbl := by decide +kernel
theorem lwd_231 : (Cond.methodLink RL 44 yX7_tell) ∈ lw_tbl := by decide +kernel
theorem lwd_232 : (Cond.instanceMethod yX7_tell) ∈ lw_tbl := by decide +kernel
theorem lwd_233 : (Cond.selects RX7 yX7_tell yX7_tell) ∈ lw_tbl := by decide +kernel
set_option maxRecDepth 40000 in
theorem lwd_234 : (Cond.code yX7_tell cX7_tell 3 (some .int)) ∈ lw_tbl := List.mem_of_getElem? (i := 719) (by rfl)
theorem lwd_235 : (Cond.fieldLink RX7 153 "NetBordersModel" "set" "I") ∈ lw_tbl := by decide +kernel
theorem lwd_236 : (Cond.methodLink RL 45 yX6_node) ∈ lw_tbl := by decide +kernel
theorem lwd_237 : (Cond.instanceMethod yX6_node) ∈ lw_tbl := by decide +kernel
theorem lwd_238 : (Cond.selects RX6 yX6_node yX6_node) ∈ lw_tbl := by decide +kernel
set_option maxRecDepth 40000 in
theorem lwd_239 : (Cond.code yX6_node cX6_node 3 (some .int)) ∈ lw_tbl := List.mem_of_getElem? (i := 304) (by rfl)
theorem lwd_240 : (Cond.constant RX6 112 (65535)) ∈ lw_tbl := by decide +kernel
theorem lwd_241 : (Cond.fieldLink RX6 113 "NetBorders$Paths" "onward" "[I") ∈ lw_tbl := by decide +kernel
theorem lwd_242 : (Cond.fieldLink RX6 116 "NetBorders$Paths" "back" "[I") ∈ lw_tbl := by decide +kernel
theorem lwd_243 : (Cond.methodLink RX6 104 yX3_follow) ∈ lw_tbl := by decide +kernel
theorem lwd_244 : (Cond.instanceMethod yX3_follow) ∈ lw_tbl := by decide +kernel
theorem lwd_245 : (Cond.selects RX3 yX3_follow yX3_follow) ∈ lw_tbl := by decide +kernel
set_option maxRecDepth 40000 in
theorem lwd_246 : (Cond.code yX3_follow cX3_follow 4 none) ∈ lw_tbl := List.mem_of_getElem? (i := 308) (by rfl)
theorem lwd_247 : (Cond.fieldLink RX3 18 "NetBorders$Net" "nodes" "I") ∈ lw_tbl := by decide +kernel
theorem lwd_248 : (Cond.fieldLink RX3 24 "NetBorders$Paths" "nodes" "I") ∈ lw_tbl := by decide +kernel
theorem lwd_249 : (Cond.fieldLink RX3 25 "NetBorders$Net" "arcs" "I") ∈ lw_tbl := by decide +kernel
theorem lwd_250 : (Cond.fieldLink RX3 28 "NetBorders$Net" "tail" "[I") ∈ lw_tbl := by decide +kernel
theorem lwd_251 : (Cond.fieldLink RX3 31 "NetBorders$Net" "head" "[I") ∈ lw_tbl := by decide +kernel
theorem lwd_252 : (Cond.static yX6_contains) ∈ lw_tbl := by decide +kernel
set_option maxRecDepth 40000 in
theorem lwd_253 : (Cond.code yX6_contains cX6_contains 2 (some .boolean)) ∈ lw_tbl := List.mem_of_getElem? (i := 311) (by rfl)
theorem lwd_254 : (Cond.methodLink RX3 38 yX3_closeOnward) ∈ lw_tbl := by decide +kernel
theorem lwd_255 : (Cond.instanceMethod yX3_closeOnward) ∈ lw_tbl := by decide +kernel
theorem lwd_256 : (Cond.selects RX3 yX3_closeOnward yX3_closeOnward) ∈ lw_tbl := by decide +kernel
set_option maxRecDepth 40000 in
theorem lwd_257 : (Cond.code yX3_closeOnward cX3_closeOnward 3 none) ∈ lw_tbl := List.mem_of_getElem? (i := 315) (by rfl)
theorem lwd_258 : (Cond.methodLink RX3 41 yX3_turnToBack) ∈ lw_tbl := by decide +kernel
theorem lwd_259 : (Cond.instanceMethod yX3_turnToBack) ∈ lw_tbl := by decide +kernel
theorem lwd_260 : (Cond.selects RX3 yX3_turnToBack yX3_turnToBack) ∈ lw_tbl := by decide +kernel
set_option maxRecDepth 40000 in
theorem lwd_261 : (Cond.code yX3_turnToBack cX3_turnToBack 3 none) ∈ lw_tbl := List.mem_of_getElem? (i := 319) (by rfl)
theorem lwd_262 : (Cond.methodLink RX6 108 yX3_part) ∈ lw_tbl := by decide +kernel
theorem lwd_263 : (Cond.instanceMethod yX3_part) ∈ lw_tbl := by decide +kernel
theorem lwd_264 : (Cond.selects RX3 yX3_part yX3_part) ∈ lw_tbl := by decide +kernel
set_option maxRecDepth 40000 in
theorem lwd_265 : (Cond.code yX3_part cX3_part 4 (some .int)) ∈ lw_tbl := List.mem_of_getElem? (i := 323) (by rfl)
theorem lwd_266 : (Cond.methodLink RL 48 yX7_node) ∈ lw_tbl := by decide +kernel
theorem lwd_267 : (Cond.instanceMethod yX7_node) ∈ lw_tbl := by decide +kernel
theorem lwd_268 : (Cond.selects RX7 yX7_node yX7_node) ∈ lw_tbl := by decide +kernel
set_option maxRecDepth 40000 in
theorem lwd_269 : (Cond.code yX7_node cX7_node 3 (some .int)) ∈ lw_tbl := List.mem_of_getElem? (i := 723) (by rfl)
theorem lwd_270 : (Cond.constant RX7 122 (65535)) ∈ lw_tbl := by decide +kernel
theorem lwd_271 : (Cond.methodLink RX7 156 yX7_partOf) ∈ lw_tbl := by decide +kernel
theorem lwd_272 : (Cond.instanceMethod yX7_partOf) ∈ lw_tbl := by decide +kernel
theorem lwd_273 : (Cond.selects RX7 yX7_partOf yX7_partOf) ∈ lw_tbl := by decide +kernel
set_option maxRecDepth 40000 in
theorem lwd_274 : (Cond.code yX7_partOf cX7_partOf 2 (some .int)) ∈ lw_tbl := List.mem_of_getElem? (i := 727) (by rfl)
theorem lwd_275 : (Cond.methodLink RX7 123 yX7_reach) ∈ lw_tbl := by decide +kernel
theorem lwd_276 : (Cond.instanceMethod yX7_reach) ∈ lw_tbl := by decide +kernel
theorem lwd_277 : (Cond.selects RX7 yX7_reach yX7_reach) ∈ lw_tbl := by decide +kernel
set_option maxRecDepth 40000 in
theorem lwd_278 : (Cond.code yX7_reach cX7_reach 9 (some .int)) ∈ lw_tbl := List.mem_of_getElem? (i := 731) (by rfl)
theorem lwd_279 : (Cond.methodLink RX7 127 yX7_lowest) ∈ lw_tbl := by decide +kernel
theorem lwd_280 : (Cond.static yX7_lowest) ∈ lw_tbl := by decide +kernel
set_option maxRecDepth 40000 in
theorem lwd_281 : (Cond.code yX7_lowest cX7_lowest 2 (some .int)) ∈ lw_tbl := List.mem_of_getElem? (i := 734) (by rfl)
theorem lwd_282 : (Cond.methodLink RL 49 yX6_count) ∈ lw_tbl := by decide +kernel
theorem lwd_283 : (Cond.instanceMethod yX6_count) ∈ lw_tbl := by decide +kernel
theorem lwd_284 : (Cond.selects RX6 yX6_count yX6_count) ∈ lw_tbl := by decide +kernel
set_option maxRecDepth 40000 in
theorem lwd_285 : (Cond.code yX6_count cX6_count 2 (some .int)) ∈ lw_tbl := List.mem_of_getElem? (i := 328) (by rfl)
theorem lwd_286 : (Cond.fieldLink RX6 134 "NetBorders$Sides" "size" "I") ∈ lw_tbl := by decide +kernel
theorem lwd_287 : (Cond.methodLink RX6 119 yX3_parts) ∈ lw_tbl := by decide +kernel
theorem lwd_288 : (Cond.instanceMethod yX3_parts) ∈ lw_tbl := by decide +kernel
theorem lwd_289 : (Cond.selects RX3 yX3_parts yX3_parts) ∈ lw_tbl := by decide +kernel
set_option maxRecDepth 40000 in
theorem lwd_290 : (Cond.code yX3_parts cX3_parts 3 (some .int)) ∈ lw_tbl := List.mem_of_getElem? (i := 332) (by rfl)
theorem lwd_291 : (Cond.methodLink RX3 44 yX3_part) ∈ lw_tbl := by decide +kernel
theorem lwd_292 : (Cond.methodLink RX6 123 yX6_isWhole) ∈ lw_tbl := by decide +kernel
theorem lwd_293 : (Cond.instanceMethod yX6_isWhole) ∈ lw_tbl := by decide +kernel
theorem lwd_294 : (Cond.selects RX6 yX6_isWhole yX6_isWhole) ∈ lw_tbl := by decide +kernel
set_option maxRecDepth 40000 in
theorem lwd_295 : (Cond.code yX6_isWhole cX6_isWhole 1 (some .boolean)) ∈ lw_tbl := List.mem_of_getElem? (i := 337) (by rfl)
theorem lwd_296 : (Cond.methodLink RX6 127 yX6_isStrong) ∈ lw_tbl := by decide +kernel
theorem lwd_297 : (Cond.instanceMethod yX6_isStrong) ∈ lw_tbl := by decide +kernel
theorem lwd_298 : (Cond.selects RX6 yX6_isStrong yX6_isStrong) ∈ lw_tbl := by decide +kernel
set_option maxRecDepth 40000 in
theorem lwd_299 : (Cond.code yX6_isStrong cX6_isStrong 2 (some .boolean)) ∈ lw_tbl := List.mem_of_getElem? (i := 341) (by rfl)
theorem lwd_300 : (Cond.methodLink RX6 155 yX3_areStrong) ∈ lw_tbl := by decide +kernel
theorem lwd_301 : (Cond.instanceMethod yX3_areStrong) ∈ lw_tbl := by decide +kernel
theorem lwd_302 : (Cond.selects RX3 yX3_areStrong yX3_areStrong) ∈ lw_tbl := by decide +kernel
set_option maxRecDepth 40000 in
theorem lwd_303 : (Cond.code yX3_areStrong cX3_areStrong 2 (some .boolean)) ∈ lw_tbl := List.mem_of_getElem? (i := 345) (by rfl)
theorem lwd_304 : (Cond.methodLink RX6 130 yX5_find) ∈ lw_tbl := by decide +kernel
theorem lwd_305 : (Cond.instanceMethod yX5_find) ∈ lw_tbl := by decide +kernel
theorem lwd_306 : (Cond.selects RX5 yX5_find yX5_find) ∈ lw_tbl := by decide +kernel
set_option maxRecDepth 40000 in
theorem lwd_307 : (Cond.code yX5_find cX5_find 4 none) ∈ lw_tbl := List.mem_of_getElem? (i := 349) (by rfl)
theorem lwd_308 : (Cond.fieldLink RX5 28 "NetBorders$Sides" "size" "I") ∈ lw_tbl := by decide +kernel
theorem lwd_309 : (Cond.methodLink RX5 24 yX5_gatherArcs) ∈ lw_tbl := by decide +kernel
theorem lwd_310 : (Cond.instanceMethod yX5_gatherArcs) ∈ lw_tbl := by decide +kernel
theorem lwd_311 : (Cond.selects RX5 yX5_gatherArcs yX5_gatherArcs) ∈ lw_tbl := by decide +kernel
set_option maxRecDepth 40000 in
theorem lwd_312 : (Cond.code yX5_gatherArcs cX5_gatherArcs 7 none) ∈ lw_tbl := List.mem_of_getElem? (i := 353) (by rfl)
theorem lwd_313 : (Cond.fieldLink RX5 38 "NetBorders$Net" "nodes" "I") ∈ lw_tbl := by decide +kernel
theorem lwd_314 : (Cond.methodLink RX5 41 yX2_arcsFrom) ∈ lw_tbl := by decide +kernel
theorem lwd_315 : (Cond.instanceMethod yX2_arcsFrom) ∈ lw_tbl := by decide +kernel
theorem lwd_316 : (Cond.selects RX2 yX2_arcsFrom yX2_arcsFrom) ∈ lw_tbl := by decide +kernel
set_option maxRecDepth 40000 in
theorem lwd_317 : (Cond.code yX2_arcsFrom cX2_arcsFrom 2 (some .int)) ∈ lw_tbl := List.mem_of_getElem? (i := 357) (by rfl)
theorem lwd_318 : (Cond.methodLink RX2 47 yX2_arcsAt) ∈ lw_tbl := by decide +kernel
theorem lwd_319 : (Cond.instanceMethod yX2_arcsAt) ∈ lw_tbl := by decide +kernel
theorem lwd_320 : (Cond.selects RX2 yX2_arcsAt yX2_arcsAt) ∈ lw_tbl := by decide +kernel
set_option maxRecDepth 40000 in
theorem lwd_321 : (Cond.code yX2_arcsAt cX2_arcsAt 5 (some .int)) ∈ lw_tbl := List.mem_of_getElem? (i := 361) (by rfl)
theorem lwd_322 : (Cond.methodLink RX5 45 yX2_arcsTo) ∈ lw_tbl := by decide +kernel
theorem lwd_323 : (Cond.instanceMethod yX2_arcsTo) ∈ lw_tbl := by decide +kernel
theorem lwd_324 : (Cond.selects RX2 yX2_arcsTo yX2_arcsTo) ∈ lw_tbl := by decide +kernel
set_option maxRecDepth 40000 in
theorem lwd_325 : (Cond.code yX2_arcsTo cX2_arcsTo 2 (some .int)) ∈ lw_tbl := List.mem_of_getElem? (i := 365) (by rfl)
theorem lwd_326 : (Cond.methodLink RX5 32 yX2_allNodes) ∈ lw_tbl := by decide +kernel
theorem lwd_327 : (Cond.instanceMethod yX2_allNodes) ∈ lw_tbl := by decide +kernel
theorem lwd_328 : (Cond.selects RX2 yX2_allNodes yX2_allNodes) ∈ lw_tbl := by decide +kernel
set_option maxRecDepth 40000 in
theorem lwd_329 : (Cond.code yX2_allNodes cX2_allNodes 1 (some .int)) ∈ lw_tbl := List.mem_of_getElem? (i := 369) (by rfl)
theorem lwd_330 : (Cond.methodLink RX6 137 yX1_size) ∈ lw_tbl := by decide +kernel
theorem lwd_331 : (Cond.instanceMethod yX1_size) ∈ lw_tbl := by decide +kernel
theorem lwd_332 : (Cond.selects RX1 yX1_size yX1_size) ∈ lw_tbl := by decide +kernel
set_option maxRecDepth 40000 in
theorem lwd_333 : (Cond.code yX1_size cX1_size 3 (some .int)) ∈ lw_tbl := List.mem_of_getElem? (i := 373) (by rfl)
theorem lwd_334 : (Cond.methodLink RX6 139 yX6_imagesMade) ∈ lw_tbl := by decide +kernel
theorem lwd_335 : (Cond.instanceMethod yX6_imagesMade) ∈ lw_tbl := by decide +kernel
theorem lwd_336 : (Cond.selects RX6 yX6_imagesMade yX6_imagesMade) ∈ lw_tbl := by decide +kernel
set_option maxRecDepth 40000 in
theorem lwd_337 : (Cond.code yX6_imagesMade cX6_imagesMade 3 (some .int)) ∈ lw_tbl := List.mem_of_getElem? (i := 377) (by rfl)
theorem lwd_338 : (Cond.methodLink RL 52 yX7_count) ∈ lw_tbl := by decide +kernel
theorem lwd_339 : (Cond.instanceMethod yX7_count) ∈ lw_tbl := by decide +kernel
theorem lwd_340 : (Cond.selects RX7 yX7_count yX7_count) ∈ lw_tbl := by decide +kernel
set_option maxRecDepth 40000 in
theorem lwd_341 : (Cond.code yX7_count cX7_count 4 (some .int)) ∈ lw_tbl := List.mem_of_getElem? (i := 739) (by rfl)
theorem lwd_342 : (Cond.fieldLink RX7 98 "NetBordersModel" "sides" "I") ∈ lw_tbl := by decide +kernel
theorem lwd_343 : (Cond.methodLink RX7 159 yX7_isWhole) ∈ lw_tbl := by decide +kernel
theorem lwd_344 : (Cond.instanceMethod yX7_isWhole) ∈ lw_tbl := by decide +kernel
theorem lwd_345 : (Cond.selects RX7 yX7_isWhole yX7_isWhole) ∈ lw_tbl := by decide +kernel
set_option maxRecDepth 40000 in
theorem lwd_346 : (Cond.code yX7_isWhole cX7_isWhole 1 (some .boolean)) ∈ lw_tbl := List.mem_of_getElem? (i := 743) (by rfl)
theorem lwd_347 : (Cond.methodLink RX7 101 yX7_all) ∈ lw_tbl := by decide +kernel
theorem lwd_348 : (Cond.instanceMethod yX7_all) ∈ lw_tbl := by decide +kernel
theorem lwd_349 : (Cond.selects RX7 yX7_all yX7_all) ∈ lw_tbl := by decide +kernel
set_option maxRecDepth 40000 in
theorem lwd_350 : (Cond.code yX7_all cX7_all 1 (some .int)) ∈ lw_tbl := List.mem_of_getElem? (i := 747) (by rfl)
theorem lwd_351 : (Cond.methodLink RX7 163 yX7_isStrongWith) ∈ lw_tbl := by decide +kernel
theorem lwd_352 : (Cond.instanceMethod yX7_isStrongWith) ∈ lw_tbl := by decide +kernel
theorem lwd_353 : (Cond.selects RX7 yX7_isStrongWith yX7_isStrongWith) ∈ lw_tbl := by decide +kernel
set_option maxRecDepth 40000 in
theorem lwd_354 : (Cond.code yX7_isStrongWith cX7_isStrongWith 2 (some .boolean)) ∈ lw_tbl := List.mem_of_getElem? (i := 751) (by rfl)
theorem lwd_355 : (Cond.methodLink RX7 113 yX7_makeSides) ∈ lw_tbl := by decide +kernel
theorem lwd_356 : (Cond.instanceMethod yX7_makeSides) ∈ lw_tbl := by decide +kernel
theorem lwd_357 : (Cond.selects RX7 yX7_makeSides yX7_makeSides) ∈ lw_tbl := by decide +kernel
set_option maxRecDepth 40000 in
theorem lwd_358 : (Cond.code yX7_makeSides cX7_makeSides 2 none) ∈ lw_tbl := List.mem_of_getElem? (i := 755) (by rfl)
theorem lwd_359 : (Cond.methodLink RX7 105 yX7_isSide) ∈ lw_tbl := by decide +kernel
theorem lwd_360 : (Cond.instanceMethod yX7_isSide) ∈ lw_tbl := by decide +kernel
theorem lwd_361 : (Cond.selects RX7 yX7_isSide yX7_isSide) ∈ lw_tbl := by decide +kernel
set_option maxRecDepth 40000 in
theorem lwd_362 : (Cond.code yX7_isSide cX7_isSide 3 (some .boolean)) ∈ lw_tbl := List.mem_of_getElem? (i := 759) (by rfl)
theorem lwd_363 : (Cond.methodLink RX7 109 yX7_borderOf) ∈ lw_tbl := by decide +kernel
theorem lwd_364 : (Cond.instanceMethod yX7_borderOf) ∈ lw_tbl := by decide +kernel
theorem lwd_365 : (Cond.selects RX7 yX7_borderOf yX7_borderOf) ∈ lw_tbl := by decide +kernel
set_option maxRecDepth 40000 in
theorem lwd_366 : (Cond.code yX7_borderOf cX7_borderOf 4 (some .int)) ∈ lw_tbl := List.mem_of_getElem? (i := 763) (by rfl)
theorem lwd_367 : (Cond.methodLink RX7 166 yX7_members) ∈ lw_tbl := by decide +kernel
theorem lwd_368 : (Cond.instanceMethod yX7_members) ∈ lw_tbl := by decide +kernel
theorem lwd_369 : (Cond.selects RX7 yX7_members yX7_members) ∈ lw_tbl := by decide +kernel
set_option maxRecDepth 40000 in
theorem lwd_370 : (Cond.code yX7_members cX7_members 3 (some .int)) ∈ lw_tbl := List.mem_of_getElem? (i := 767) (by rfl)
theorem lwd_371 : (Cond.methodLink RL 53 yX6_side) ∈ lw_tbl := by decide +kernel
theorem lwd_372 : (Cond.instanceMethod yX6_side) ∈ lw_tbl := by decide +kernel
theorem lwd_373 : (Cond.selects RX6 yX6_side yX6_side) ∈ lw_tbl := by decide +kernel
set_option maxRecDepth 40000 in
theorem lwd_374 : (Cond.code yX6_side cX6_side 3 (some .int)) ∈ lw_tbl := List.mem_of_getElem? (i := 381) (by rfl)
theorem lwd_375 : (Cond.fieldLink RX6 142 "NetBorders$Sides" "bits" "[I") ∈ lw_tbl := by decide +kernel
theorem lwd_376 : (Cond.fieldLink RX6 145 "NetBorders$Sides" "border" "[I") ∈ lw_tbl := by decide +kernel
theorem lwd_377 : (Cond.methodLink RL 56 yX7_side) ∈ lw_tbl := by decide +kernel
theorem lwd_378 : (Cond.instanceMethod yX7_side) ∈ lw_tbl := by decide +kernel
theorem lwd_379 : (Cond.selects RX7 yX7_side yX7_side) ∈ lw_tbl := by decide +kernel
set_option maxRecDepth 40000 in
theorem lwd_380 : (Cond.code yX7_side cX7_side 3 (some .int)) ∈ lw_tbl := List.mem_of_getElem? (i := 771) (by rfl)
theorem lwd_381 : (Cond.methodLink RL 57 yX6_bounds) ∈ lw_tbl := by decide +kernel
theorem lwd_382 : (Cond.instanceMethod yX6_bounds) ∈ lw_tbl := by decide +kernel
theorem lwd_383 : (Cond.selects RX6 yX6_bounds yX6_bounds) ∈ lw_tbl := by decide +kernel
set_option maxRecDepth 40000 in
theorem lwd_384 : (Cond.code yX6_bounds cX6_bounds 5 (some .int)) ∈ lw_tbl := List.mem_of_getElem? (i := 385) (by rfl)
theorem lwd_385 : (Cond.methodLink RX6 148 yX6_contains) ∈ lw_tbl := by decide +kernel
theorem lwd_386 : (Cond.methodLink RX6 152 yX2_allNodes) ∈ lw_tbl := by decide +kernel
theorem lwd_387 : (Cond.methodLink RL 61 yX7_bounds) ∈ lw_tbl := by decide +kernel
theorem lwd_388 : (Cond.instanceMethod yX7_bounds) ∈ lw_tbl := by decide +kernel
theorem lwd_389 : (Cond.selects RX7 yX7_bounds yX7_bounds) ∈ lw_tbl := by decide +kernel
set_option maxRecDepth 40000 in
theorem lwd_390 : (Cond.code yX7_bounds cX7_bounds 6 (some .int)) ∈ lw_tbl := List.mem_of_getElem? (i := 775) (by rfl)
theorem lwd_391 : (Cond.methodLink RL 62 yX6_isDijoin) ∈ lw_tbl := by decide +kernel
theorem lwd_392 : (Cond.instanceMethod yX6_isDijoin) ∈ lw_tbl := by decide +kernel
theorem lwd_393 : (Cond.selects RX6 yX6_isDijoin yX6_isDijoin) ∈ lw_tbl := by decide +kernel
set_option maxRecDepth 40000 in
theorem lwd_394 : (Cond.code yX6_isDijoin cX6_isDijoin 3 (some .boolean)) ∈ lw_tbl := List.mem_of_getElem? (i := 391) (by rfl)
theorem lwd_395 : (Cond.methodLink RL 65 yX7_isDijoin) ∈ lw_tbl := by decide +kernel
theorem lwd_396 : (Cond.instanceMethod yX7_isDijoin) ∈ lw_tbl := by decide +kernel
theorem lwd_397 : (Cond.selects RX7 yX7_isDijoin yX7_isDijoin) ∈ lw_tbl := by decide +kernel
set_option maxRecDepth 40000 in
theorem lwd_398 : (Cond.code yX7_isDijoin cX7_isDijoin 3 (some .boolean)) ∈ lw_tbl := List.mem_of_getElem? (i := 779) (by rfl)
theorem lwd_399 : (Cond.methodLink RL 66 yX6_isStrong) ∈ lw_tbl := by decide +kernel
theorem lwd_400 : (Cond.methodLink RL 69 yX7_isStrong) ∈ lw_tbl := by decide +kernel
theorem lwd_401 : (Cond.instanceMethod yX7_isStrong) ∈ lw_tbl := by decide +kernel
theorem lwd_402 : (Cond.selects RX7 yX7_isStrong yX7_isStrong) ∈ lw_tbl := by decide +kernel
set_option maxRecDepth 40000 in
theorem lwd_403 : (Cond.code yX7_isStrong cX7_isStrong 2 (some .boolean)) ∈ lw_tbl := List.mem_of_getElem? (i := 783) (by rfl)
theorem lwd_404 : (Cond.methodLink RL 70 yX6_dijoin) ∈ lw_tbl := by decide +kernel
theorem lwd_405 : (Cond.instanceMethod yX6_dijoin) ∈ lw_tbl := by decide +kernel
theorem lwd_406 : (Cond.selects RX6 yX6_dijoin yX6_dijoin) ∈ lw_tbl := by decide +kernel
set_option maxRecDepth 40000 in
theorem lwd_407 : (Cond.code yX6_dijoin cX6_dijoin 1 (some .int)) ∈ lw_tbl := List.mem_of_getElem? (i := 396) (by rfl)
theorem lwd_408 : (Cond.constant RX6 164 (2147483647)) ∈ lw_tbl := by decide +kernel
theorem lwd_409 : (Cond.fieldLink RX6 168 "NetBorders$Search" "bestArcs" "I") ∈ lw_tbl := by decide +kernel
theorem lwd_410 : (Cond.methodLink RX6 158 yX6_prepareSearch) ∈ lw_tbl := by decide +kernel
theorem lwd_411 : (Cond.instanceMethod yX6_prepareSearch) ∈ lw_tbl := by decide +kernel
theorem lwd_412 : (Cond.selects RX6 yX6_prepareSearch yX6_prepareSearch) ∈ lw_tbl := by decide +kernel
set_option maxRecDepth 40000 in
theorem lwd_413 : (Cond.code yX6_prepareSearch cX6_prepareSearch 1 none) ∈ lw_tbl := List.mem_of_getElem? (i := 400) (by rfl)
theorem lwd_414 : (Cond.methodLink RX6 224 yX4_takeBorders) ∈ lw_tbl := by decide +kernel
theorem lwd_415 : (Cond.instanceMethod yX4_takeBorders) ∈ lw_tbl := by decide +kernel
theorem lwd_416 : (Cond.selects RX4 yX4_takeBorders yX4_takeBorders) ∈ lw_tbl := by decide +kernel
set_option maxRecDepth 40000 in
theorem lwd_417 : (Cond.code yX4_takeBorders cX4_takeBorders 3 none) ∈ lw_tbl := List.mem_of_getElem? (i := 404) (by rfl)
theorem lwd_418 : (Cond.fieldLink RX4 21 "NetBorders$Search" "size" "I") ∈ lw_tbl := by decide +kernel
theorem lwd_419 : (Cond.fieldLink RX4 25 "NetBorders$Sides" "size" "I") ∈ lw_tbl := by decide +kernel
theorem lwd_420 : (Cond.fieldLink RX4 28 "NetBorders$Sides" "border" "[I") ∈ lw_tbl := by decide +kernel
theorem lwd_421 : (Cond.methodLink RX4 29 yX4_takeBorder) ∈ lw_tbl := by decide +kernel
theorem lwd_422 : (Cond.instanceMethod yX4_takeBorder) ∈ lw_tbl := by decide +kernel
theorem lwd_423 : (Cond.selects RX4 yX4_takeBorder yX4_takeBorder) ∈ lw_tbl := by decide +kernel
set_option maxRecDepth 40000 in
theorem lwd_424 : (Cond.code yX4_takeBorder cX4_takeBorder 4 none) ∈ lw_tbl := List.mem_of_getElem? (i := 408) (by rfl)
theorem lwd_425 : (Cond.methodLink RX6 161 yX4_priceWithTies) ∈ lw_tbl := by decide +kernel
theorem lwd_426 : (Cond.instanceMethod yX4_priceWithTies) ∈ lw_tbl := by decide +kernel
theorem lwd_427 : (Cond.selects RX4 yX4_priceWithTies yX4_priceWithTies) ∈ lw_tbl := by decide +kernel
set_option maxRecDepth 40000 in
theorem lwd_428 : (Cond.code yX4_priceWithTies cX4_priceWithTies 3 none) ∈ lw_tbl := List.mem_of_getElem? (i := 412) (by rfl)
theorem lwd_429 : (Cond.fieldLink RX4 33 "NetBorders$Net" "arcs" "I") ∈ lw_tbl := by decide +kernel
theorem lwd_430 : (Cond.fieldLink RX4 38 "NetBorders$Search" "arcs" "I") ∈ lw_tbl := by decide +kernel
theorem lwd_431 : (Cond.fieldLink RX4 39 "NetBorders$Search" "barred" "I") ∈ lw_tbl := by decide +kernel
theorem lwd_432 : (Cond.fieldLink RX4 42 "NetBorders$Net" "weight" "[I") ∈ lw_tbl := by decide +kernel
theorem lwd_433 : (Cond.methodLink RX6 165 yX4_findBelow) ∈ lw_tbl := by decide +kernel
theorem lwd_434 : (Cond.instanceMethod yX4_findBelow) ∈ lw_tbl := by decide +kernel
theorem lwd_435 : (Cond.selects RX4 yX4_findBelow yX4_findBelow) ∈ lw_tbl := by decide +kernel
set_option maxRecDepth 40000 in
theorem lwd_436 : (Cond.code yX4_findBelow cX4_findBelow 4 (some .boolean)) ∈ lw_tbl := List.mem_of_getElem? (i := 417) (by rfl)
theorem lwd_437 : (Cond.fieldLink RX4 55 "NetBorders$Search" "best" "I") ∈ lw_tbl := by decide +kernel
theorem lwd_438 : (Cond.fieldLink RX4 58 "NetBorders$Search" "bestArcs" "I") ∈ lw_tbl := by decide +kernel
theorem lwd_439 : (Cond.methodLink RX4 61 yX4_descend) ∈ lw_tbl := by decide +kernel
theorem lwd_440 : (Cond.static yX4_descend) ∈ lw_tbl := by decide +kernel
set_option maxRecDepth 40000 in
theorem lwd_441 : (Cond.code yX4_descend cX4_descend 9 none) ∈ lw_tbl := List.mem_of_getElem? (i := 420) (by rfl)
theorem lwd_442 : (Cond.fieldLink RX4 69 "NetBorders$Search" "tightest" "I") ∈ lw_tbl := by decide +kernel
theorem lwd_443 : (Cond.methodLink RX4 65 yX4_boundOf) ∈ lw_tbl := by decide +kernel
theorem lwd_444 : (Cond.instanceMethod yX4_boundOf) ∈ lw_tbl := by decide +kernel
theorem lwd_445 : (Cond.selects RX4 yX4_boundOf yX4_boundOf) ∈ lw_tbl := by decide +kernel
set_option maxRecDepth 40000 in
theorem lwd_446 : (Cond.code yX4_boundOf cX4_boundOf 7 (some .int)) ∈ lw_tbl := List.mem_of_getElem? (i := 424) (by rfl)
theorem lwd_447 : (Cond.fieldLink RX4 72 "NetBorders$Search" "dry" "I") ∈ lw_tbl := by decide +kernel
theorem lwd_448 : (Cond.methodLink RX4 45 arraycopyName) ∈ lw_tbl := by decide +kernel
theorem lwd_449 : (Cond.native arraycopyName) ∈ lw_tbl := by decide +kernel
theorem lwd_450 : (Cond.static arraycopyName) ∈ lw_tbl := by decide +kernel
theorem lwd_451 : (Cond.initialized "java/lang/System") ∈ lw_tbl := by decide +kernel
theorem lwd_452 : (Cond.methodLink RX4 75 yX4_drawFromSlack) ∈ lw_tbl := by decide +kernel
theorem lwd_453 : (Cond.instanceMethod yX4_drawFromSlack) ∈ lw_tbl := by decide +kernel
theorem lwd_454 : (Cond.selects RX4 yX4_drawFromSlack yX4_drawFromSlack) ∈ lw_tbl := by decide +kernel
set_option maxRecDepth 40000 in
theorem lwd_455 : (Cond.code yX4_drawFromSlack cX4_drawFromSlack 4 (some .int)) ∈ lw_tbl := List.mem_of_getElem? (i := 431) (by rfl)
theorem lwd_456 : (Cond.constant RX4 84 (2147483647)) ∈ lw_tbl := by decide +kernel
theorem lwd_457 : (Cond.methodLink RX4 85 Lib.Math.min.name) ∈ lw_tbl := by decide +kernel
theorem lwd_458 : (Cond.static Lib.Math.min.name) ∈ lw_tbl := by decide +kernel
theorem lwd_459 : (Cond.initialized "java/lang/Math") ∈ lw_tbl := by decide +kernel
set_option maxRecDepth 40000 in
theorem lwd_460 : (Cond.code Lib.Math.min.name Lib.Math.min.code 2 (some .int)) ∈ lw_tbl := List.mem_of_getElem? (i := 436) (by rfl)
theorem lwd_461 : (Cond.methodLink RX4 79 yJ6_bitCount_0f7a4) ∈ lw_tbl := by decide +kernel
theorem lwd_462 : (Cond.static yJ6_bitCount_0f7a4) ∈ lw_tbl := by decide +kernel
theorem lwd_463 : (Cond.initialized RJ6) ∈ lw_tbl := by decide +kernel
set_option maxRecDepth 40000 in
theorem lwd_464 : (Cond.code yJ6_bitCount_0f7a4 cJ6_bitCount_0f7a4 1 (some .int)) ∈ lw_tbl := List.mem_of_getElem? (i := 439) (by rfl)
theorem lwd_465 : (Cond.constant RJ6 265 (1431655765)) ∈ lw_tbl := by decide +kernel
theorem lwd_466 : (Cond.constant RJ6 266 (858993459)) ∈ lw_tbl := by decide +kernel
theorem lwd_467 : (Cond.constant RJ6 267 (252645135)) ∈ lw_tbl := by decide +kernel
theorem lwd_468 : (Cond.methodLink RX6 171 yX6_sumOver) ∈ lw_tbl := by decide +kernel
theorem lwd_469 : (Cond.static yX6_sumOver) ∈ lw_tbl := by decide +kernel
set_option maxRecDepth 40000 in
theorem lwd_470 : (Cond.code yX6_sumOver cX6_sumOver 4 (some .int)) ∈ lw_tbl := List.mem_of_getElem? (i := 445) (by rfl)
theorem lwd_471 : (Cond.methodLink RL 74 yX7_dijoin) ∈ lw_tbl := by decide +kernel
theorem lwd_472 : (Cond.instanceMethod yX7_dijoin) ∈ lw_tbl := by decide +kernel
theorem lwd_473 : (Cond.selects RX7 yX7_dijoin yX7_dijoin) ∈ lw_tbl := by decide +kernel
set_option maxRecDepth 40000 in
theorem lwd_474 : (Cond.code yX7_dijoin cX7_dijoin 3 (some .int)) ∈ lw_tbl := List.mem_of_getElem? (i := 787) (by rfl)
theorem lwd_475 : (Cond.fieldLink RX7 116 "NetBordersModel" "least" "I") ∈ lw_tbl := by decide +kernel
theorem lwd_476 : (Cond.methodLink RX7 169 yX7_makeSets) ∈ lw_tbl := by decide +kernel
theorem lwd_477 : (Cond.instanceMethod yX7_makeSets) ∈ lw_tbl := by decide +kernel
theorem lwd_478 : (Cond.selects RX7 yX7_makeSets yX7_makeSets) ∈ lw_tbl := by decide +kernel
set_option maxRecDepth 40000 in
theorem lwd_479 : (Cond.code yX7_makeSets cX7_makeSets 4 none) ∈ lw_tbl := List.mem_of_getElem? (i := 791) (by rfl)
theorem lwd_480 : (Cond.methodLink RX7 119 yX7_hasNoneToSpare) ∈ lw_tbl := by decide +kernel
theorem lwd_481 : (Cond.instanceMethod yX7_hasNoneToSpare) ∈ lw_tbl := by decide +kernel
theorem lwd_482 : (Cond.selects RX7 yX7_hasNoneToSpare yX7_hasNoneToSpare) ∈ lw_tbl := by decide +kernel
set_option maxRecDepth 40000 in
theorem lwd_483 : (Cond.code yX7_hasNoneToSpare cX7_hasNoneToSpare 3 (some .boolean)) ∈ lw_tbl := List.mem_of_getElem? (i := 795) (by rfl)
theorem lwd_484 : (Cond.methodLink RX7 172 yX7_weightOf) ∈ lw_tbl := by decide +kernel
theorem lwd_485 : (Cond.instanceMethod yX7_weightOf) ∈ lw_tbl := by decide +kernel
theorem lwd_486 : (Cond.selects RX7 yX7_weightOf yX7_weightOf) ∈ lw_tbl := by decide +kernel
set_option maxRecDepth 40000 in
theorem lwd_487 : (Cond.code yX7_weightOf cX7_weightOf 4 (some .int)) ∈ lw_tbl := List.mem_of_getElem? (i := 799) (by rfl)
theorem lwd_488 : (Cond.methodLink RL 75 yX6_chosen) ∈ lw_tbl := by decide +kernel
theorem lwd_489 : (Cond.instanceMethod yX6_chosen) ∈ lw_tbl := by decide +kernel
theorem lwd_490 : (Cond.selects RX6 yX6_chosen yX6_chosen) ∈ lw_tbl := by decide +kernel
set_option maxRecDepth 40000 in
theorem lwd_491 : (Cond.code yX6_chosen cX6_chosen 1 (some .int)) ∈ lw_tbl := List.mem_of_getElem? (i := 449) (by rfl)
theorem lwd_492 : (Cond.methodLink RL 78 yX7_chosen) ∈ lw_tbl := by decide +kernel
theorem lwd_493 : (Cond.instanceMethod yX7_chosen) ∈ lw_tbl := by decide +kernel
theorem lwd_494 : (Cond.selects RX7 yX7_chosen yX7_chosen) ∈ lw_tbl := by decide +kernel
set_option maxRecDepth 40000 in
theorem lwd_495 : (Cond.code yX7_chosen cX7_chosen 1 (some .int)) ∈ lw_tbl := List.mem_of_getElem? (i := 803) (by rfl)
theorem lwd_496 : (Cond.methodLink RL 79 yX6_cost) ∈ lw_tbl := by decide +kernel
theorem lwd_497 : (Cond.instanceMethod yX6_cost) ∈ lw_tbl := by decide +kernel
theorem lwd_498 : (Cond.selects RX6 yX6_cost yX6_cost) ∈ lw_tbl := by decide +kernel
set_option maxRecDepth 40000 in
theorem lwd_499 : (Cond.code yX6_cost cX6_cost 3 (some .int)) ∈ lw_tbl := List.mem_of_getElem? (i := 453) (by rfl)
theorem lwd_500 : (Cond.fieldLink RX6 181 "NetBorders$Search" "best" "I") ∈ lw_tbl := by decide +kernel
theorem lwd_501 : (Cond.methodLink RX6 175 yX4_priceByWeight) ∈ lw_tbl := by decide +kernel
theorem lwd_502 : (Cond.instanceMethod yX4_priceByWeight) ∈ lw_tbl := by decide +kernel
theorem lwd_503 : (Cond.selects RX4 yX4_priceByWeight yX4_priceByWeight) ∈ lw_tbl := by decide +kernel
set_option maxRecDepth 40000 in
theorem lwd_504 : (Cond.code yX4_priceByWeight cX4_priceByWeight 2 none) ∈ lw_tbl := List.mem_of_getElem? (i := 457) (by rfl)
theorem lwd_505 : (Cond.methodLink RX6 178 yX4_reprice) ∈ lw_tbl := by decide +kernel
theorem lwd_506 : (Cond.instanceMethod yX4_reprice) ∈ lw_tbl := by decide +kernel
theorem lwd_507 : (Cond.selects RX4 yX4_reprice yX4_reprice) ∈ lw_tbl := by decide +kernel
set_option maxRecDepth 40000 in
theorem lwd_508 : (Cond.code yX4_reprice cX4_reprice 3 none) ∈ lw_tbl := List.mem_of_getElem? (i := 461) (by rfl)
theorem lwd_509 : (Cond.methodLink RL 82 yX7_cost) ∈ lw_tbl := by decide +kernel
theorem lwd_510 : (Cond.instanceMethod yX7_cost) ∈ lw_tbl := by decide +kernel
theorem lwd_511 : (Cond.selects RX7 yX7_cost yX7_cost) ∈ lw_tbl := by decide +kernel
set_option maxRecDepth 40000 in
theorem lwd_512 : (Cond.code yX7_cost cX7_cost 7 (some .int)) ∈ lw_tbl := List.mem_of_getElem? (i := 807) (by rfl)
theorem lwd_513 : (Cond.methodLink RL 83 yX6_packing) ∈ lw_tbl := by decide +kernel
theorem lwd_514 : (Cond.instanceMethod yX6_packing) ∈ lw_tbl := by decide +kernel
theorem lwd_515 : (Cond.selects RX6 yX6_packing yX6_packing) ∈ lw_tbl := by decide +kernel
set_option maxRecDepth 40000 in
theorem lwd_516 : (Cond.code yX6_packing cX6_packing 5 (some .int)) ∈ lw_tbl := List.mem_of_getElem? (i := 465) (by rfl)
theorem lwd_517 : (Cond.methodLink RX6 184 yX1_open) ∈ lw_tbl := by decide +kernel
theorem lwd_518 : (Cond.methodLink RX6 187 yX4_mostTimes) ∈ lw_tbl := by decide +kernel
theorem lwd_519 : (Cond.instanceMethod yX4_mostTimes) ∈ lw_tbl := by decide +kernel
theorem lwd_520 : (Cond.selects RX4 yX4_mostTimes yX4_mostTimes) ∈ lw_tbl := by decide +kernel
set_option maxRecDepth 40000 in
theorem lwd_521 : (Cond.code yX4_mostTimes cX4_mostTimes 6 (some .int)) ∈ lw_tbl := List.mem_of_getElem? (i := 470) (by rfl)
theorem lwd_522 : (Cond.methodLink RX4 90 yX4_spend) ∈ lw_tbl := by decide +kernel
theorem lwd_523 : (Cond.instanceMethod yX4_spend) ∈ lw_tbl := by decide +kernel
theorem lwd_524 : (Cond.selects RX4 yX4_spend yX4_spend) ∈ lw_tbl := by decide +kernel
set_option maxRecDepth 40000 in
theorem lwd_525 : (Cond.code yX4_spend cX4_spend 4 none) ∈ lw_tbl := List.mem_of_getElem? (i := 474) (by rfl)
theorem lwd_526 : (Cond.methodLink RX4 94 yX4_findBelow) ∈ lw_tbl := by decide +kernel
theorem lwd_527 : (Cond.methodLink RX4 98 yX4_timesBy) ∈ lw_tbl := by decide +kernel
theorem lwd_528 : (Cond.instanceMethod yX4_timesBy) ∈ lw_tbl := by decide +kernel
theorem lwd_529 : (Cond.selects RX4 yX4_timesBy yX4_timesBy) ∈ lw_tbl := by decide +kernel
set_option maxRecDepth 40000 in
theorem lwd_530 : (Cond.code yX4_timesBy cX4_timesBy 5 (some .int)) ∈ lw_tbl := List.mem_of_getElem? (i := 479) (by rfl)
theorem lwd_531 : (Cond.methodLink RX6 191 yX4_spend) ∈ lw_tbl := by decide +kernel
theorem lwd_532 : (Cond.methodLink RX6 194 yX1_change) ∈ lw_tbl := by decide +kernel
theorem lwd_533 : (Cond.instanceMethod yX1_change) ∈ lw_tbl := by decide +kernel
theorem lwd_534 : (Cond.selects RX1 yX1_change yX1_change) ∈ lw_tbl := by decide +kernel
set_option maxRecDepth 40000 in
theorem lwd_535 : (Cond.code yX1_change cX1_change 5 none) ∈ lw_tbl := List.mem_of_getElem? (i := 485) (by rfl)
theorem lwd_536 : (Cond.methodLink RL 86 yX7_packing) ∈ lw_tbl := by decide +kernel
theorem lwd_537 : (Cond.instanceMethod yX7_packing) ∈ lw_tbl := by decide +kernel
theorem lwd_538 : (Cond.selects RX7 yX7_packing yX7_packing) ∈ lw_tbl := by decide +kernel
set_option maxRecDepth 40000 in
theorem lwd_539 : (Cond.code yX7_packing cX7_packing 6 (some .int)) ∈ lw_tbl := List.mem_of_getElem? (i := 811) (by rfl)
theorem lwd_540 : (Cond.fieldLink RX7 175 "NetBordersModel" "familyNodes" "I") ∈ lw_tbl := by decide +kernel
theorem lwd_541 : (Cond.methodLink RX7 178 yX7_oftenAtMost) ∈ lw_tbl := by decide +kernel
theorem lwd_542 : (Cond.instanceMethod yX7_oftenAtMost) ∈ lw_tbl := by decide +kernel
theorem lwd_543 : (Cond.selects RX7 yX7_oftenAtMost yX7_oftenAtMost) ∈ lw_tbl := by decide +kernel
set_option maxRecDepth 40000 in
theorem lwd_544 : (Cond.code yX7_oftenAtMost cX7_oftenAtMost 6 (some .int)) ∈ lw_tbl := List.mem_of_getElem? (i := 815) (by rfl)
theorem lwd_545 : (Cond.methodLink RX7 182 yX7_ones) ∈ lw_tbl := by decide +kernel
theorem lwd_546 : (Cond.static yX7_ones) ∈ lw_tbl := by decide +kernel
set_option maxRecDepth 40000 in
theorem lwd_547 : (Cond.code yX7_ones cX7_ones 3 (some .int)) ∈ lw_tbl := List.mem_of_getElem? (i := 818) (by rfl)
theorem lwd_548 : (Cond.methodLink RL 87 yX6_draw) ∈ lw_tbl := by decide +kernel
theorem lwd_549 : (Cond.instanceMethod yX6_draw) ∈ lw_tbl := by decide +kernel
theorem lwd_550 : (Cond.selects RX6 yX6_draw yX6_draw) ∈ lw_tbl := by decide +kernel
set_option maxRecDepth 40000 in
theorem lwd_551 : (Cond.code yX6_draw cX6_draw 6 (some .int)) ∈ lw_tbl := List.mem_of_getElem? (i := 490) (by rfl)
theorem lwd_552 : (Cond.fieldLink RX6 201 "NetBorders$Family" "atHand" "Z") ∈ lw_tbl := by decide +kernel
theorem lwd_553 : (Cond.fieldLink RX6 205 "NetBorders$Family" "nodes" "I") ∈ lw_tbl := by decide +kernel
theorem lwd_554 : (Cond.fieldLink RX6 206 "NetBorders$Family" "times" "[I") ∈ lw_tbl := by decide +kernel
theorem lwd_555 : (Cond.constantLong RX6 209 (1000)) ∈ lw_tbl := by decide +kernel
theorem lwd_556 : (Cond.methodLink RX6 198 yX2_isSide) ∈ lw_tbl := by decide +kernel
theorem lwd_557 : (Cond.instanceMethod yX2_isSide) ∈ lw_tbl := by decide +kernel
theorem lwd_558 : (Cond.selects RX2 yX2_isSide yX2_isSide) ∈ lw_tbl := by decide +kernel
set_option maxRecDepth 40000 in
theorem lwd_559 : (Cond.code yX2_isSide cX2_isSide 2 (some .boolean)) ∈ lw_tbl := List.mem_of_getElem? (i := 494) (by rfl)
theorem lwd_560 : (Cond.methodLink RX2 32 yX2_allNodes) ∈ lw_tbl := by decide +kernel
theorem lwd_561 : (Cond.methodLink RX2 36 yX2_leaving) ∈ lw_tbl := by decide +kernel
theorem lwd_562 : (Cond.instanceMethod yX2_leaving) ∈ lw_tbl := by decide +kernel
theorem lwd_563 : (Cond.selects RX2 yX2_leaving yX2_leaving) ∈ lw_tbl := by decide +kernel
set_option maxRecDepth 40000 in
theorem lwd_564 : (Cond.code yX2_leaving cX2_leaving 2 (some .int)) ∈ lw_tbl := List.mem_of_getElem? (i := 499) (by rfl)
theorem lwd_565 : (Cond.methodLink RX2 44 yX2_entering) ∈ lw_tbl := by decide +kernel
theorem lwd_566 : (Cond.instanceMethod yX2_entering) ∈ lw_tbl := by decide +kernel
theorem lwd_567 : (Cond.selects RX2 yX2_entering yX2_entering) ∈ lw_tbl := by decide +kernel
set_option maxRecDepth 40000 in
theorem lwd_568 : (Cond.code yX2_entering cX2_entering 4 (some .int)) ∈ lw_tbl := List.mem_of_getElem? (i := 503) (by rfl)
theorem lwd_569 : (Cond.methodLink RX6 211 yX2_entering) ∈ lw_tbl := by decide +kernel
theorem lwd_570 : (Cond.methodLink RL 90 yX7_draw) ∈ lw_tbl := by decide +kernel
theorem lwd_571 : (Cond.instanceMethod yX7_draw) ∈ lw_tbl := by decide +kernel
theorem lwd_572 : (Cond.selects RX7 yX7_draw yX7_draw) ∈ lw_tbl := by decide +kernel
set_option maxRecDepth 40000 in
theorem lwd_573 : (Cond.code yX7_draw cX7_draw 7 (some .int)) ∈ lw_tbl := List.mem_of_getElem? (i := 822) (by rfl)
theorem lwd_574 : (Cond.constantLong RX7 185 (1000)) ∈ lw_tbl := by decide +kernel
theorem lwd_575 : (Cond.methodLink RL 91 yX6_uncross) ∈ lw_tbl := by decide +kernel
theorem lwd_576 : (Cond.instanceMethod yX6_uncross) ∈ lw_tbl := by decide +kernel
theorem lwd_577 : (Cond.selects RX6 yX6_uncross yX6_uncross) ∈ lw_tbl := by decide +kernel
set_option maxRecDepth 40000 in
theorem lwd_578 : (Cond.code yX6_uncross cX6_uncross 1 (some .int)) ∈ lw_tbl := List.mem_of_getElem? (i := 510) (by rfl)
theorem lwd_579 : (Cond.methodLink RX6 214 yX1_uncrossAll) ∈ lw_tbl := by decide +kernel
theorem lwd_580 : (Cond.instanceMethod yX1_uncrossAll) ∈ lw_tbl := by decide +kernel
theorem lwd_581 : (Cond.selects RX1 yX1_uncrossAll yX1_uncrossAll) ∈ lw_tbl := by decide +kernel
set_option maxRecDepth 40000 in
theorem lwd_582 : (Cond.code yX1_uncrossAll cX1_uncrossAll 5 (some .int)) ∈ lw_tbl := List.mem_of_getElem? (i := 514) (by rfl)
theorem lwd_583 : (Cond.constant RX1 40 (1000000)) ∈ lw_tbl := by decide +kernel
theorem lwd_584 : (Cond.methodLink RX1 41 yX1_firstCrossing) ∈ lw_tbl := by decide +kernel
theorem lwd_585 : (Cond.instanceMethod yX1_firstCrossing) ∈ lw_tbl := by decide +kernel
theorem lwd_586 : (Cond.selects RX1 yX1_firstCrossing yX1_firstCrossing) ∈ lw_tbl := by decide +kernel
set_option maxRecDepth 40000 in
theorem lwd_587 : (Cond.code yX1_firstCrossing cX1_firstCrossing 3 (some .int)) ∈ lw_tbl := List.mem_of_getElem? (i := 519) (by rfl)
theorem lwd_588 : (Cond.methodLink RX1 45 yX1_crossedBy) ∈ lw_tbl := by decide +kernel
theorem lwd_589 : (Cond.instanceMethod yX1_crossedBy) ∈ lw_tbl := by decide +kernel
theorem lwd_590 : (Cond.selects RX1 yX1_crossedBy yX1_crossedBy) ∈ lw_tbl := by decide +kernel
set_option maxRecDepth 40000 in
theorem lwd_591 : (Cond.code yX1_crossedBy cX1_crossedBy 3 (some .int)) ∈ lw_tbl := List.mem_of_getElem? (i := 523) (by rfl)
theorem lwd_592 : (Cond.methodLink RX1 52 yX1_areCrossing) ∈ lw_tbl := by decide +kernel
theorem lwd_593 : (Cond.instanceMethod yX1_areCrossing) ∈ lw_tbl := by decide +kernel
theorem lwd_594 : (Cond.selects RX1 yX1_areCrossing yX1_areCrossing) ∈ lw_tbl := by decide +kernel
set_option maxRecDepth 40000 in
theorem lwd_595 : (Cond.code yX1_areCrossing cX1_areCrossing 5 (some .boolean)) ∈ lw_tbl := List.mem_of_getElem? (i := 527) (by rfl)
theorem lwd_596 : (Cond.methodLink RX1 48 yX1_uncrossPair) ∈ lw_tbl := by decide +kernel
theorem lwd_597 : (Cond.instanceMethod yX1_uncrossPair) ∈ lw_tbl := by decide +kernel
theorem lwd_598 : (Cond.selects RX1 yX1_uncrossPair yX1_uncrossPair) ∈ lw_tbl := by decide +kernel
set_option maxRecDepth 40000 in
theorem lwd_599 : (Cond.code yX1_uncrossPair cX1_uncrossPair 4 none) ∈ lw_tbl := List.mem_of_getElem? (i := 531) (by rfl)
theorem lwd_600 : (Cond.methodLink RX1 55 Lib.Math.min.name) ∈ lw_tbl := by decide +kernel
theorem lwd_601 : (Cond.methodLink RL 94 yX7_uncross) ∈ lw_tbl := by decide +kernel
theorem lwd_602 : (Cond.instanceMethod yX7_uncross) ∈ lw_tbl := by decide +kernel
theorem lwd_603 : (Cond.selects RX7 yX7_uncross yX7_uncross) ∈ lw_tbl := by decide +kernel
set_option maxRecDepth 40000 in
theorem lwd_604 : (Cond.code yX7_uncross cX7_uncross 6 (some .int)) ∈ lw_tbl := List.mem_of_getElem? (i := 827) (by rfl)
theorem lwd_605 : (Cond.methodLink RX7 191 yX7_firstCross) ∈ lw_tbl := by decide +kernel
theorem lwd_606 : (Cond.instanceMethod yX7_firstCross) ∈ lw_tbl := by decide +kernel
theorem lwd_607 : (Cond.selects RX7 yX7_firstCross yX7_firstCross) ∈ lw_tbl := by decide +kernel
set_option maxRecDepth 40000 in
theorem lwd_608 : (Cond.code yX7_firstCross cX7_firstCross 3 (some .int)) ∈ lw_tbl := List.mem_of_getElem? (i := 831) (by rfl)
theorem lwd_609 : (Cond.methodLink RX7 187 yX7_cross) ∈ lw_tbl := by decide +kernel
theorem lwd_610 : (Cond.instanceMethod yX7_cross) ∈ lw_tbl := by decide +kernel
theorem lwd_611 : (Cond.selects RX7 yX7_cross yX7_cross) ∈ lw_tbl := by decide +kernel
set_option maxRecDepth 40000 in
theorem lwd_612 : (Cond.code yX7_cross cX7_cross 4 (some .boolean)) ∈ lw_tbl := List.mem_of_getElem? (i := 835) (by rfl)
theorem lwd_613 : (Cond.methodLink RL 95 yX6_member) ∈ lw_tbl := by decide +kernel
theorem lwd_614 : (Cond.instanceMethod yX6_member) ∈ lw_tbl := by decide +kernel
theorem lwd_615 : (Cond.selects RX6 yX6_member yX6_member) ∈ lw_tbl := by decide +kernel
set_option maxRecDepth 40000 in
theorem lwd_616 : (Cond.code yX6_member cX6_member 4 (some .int)) ∈ lw_tbl := List.mem_of_getElem? (i := 536) (by rfl)
theorem lwd_617 : (Cond.methodLink RX6 217 yX1_memberAt) ∈ lw_tbl := by decide +kernel
theorem lwd_618 : (Cond.instanceMethod yX1_memberAt) ∈ lw_tbl := by decide +kernel
theorem lwd_619 : (Cond.selects RX1 yX1_memberAt yX1_memberAt) ∈ lw_tbl := by decide +kernel
set_option maxRecDepth 40000 in
theorem lwd_620 : (Cond.code yX1_memberAt cX1_memberAt 4 (some .int)) ∈ lw_tbl := List.mem_of_getElem? (i := 540) (by rfl)
theorem lwd_621 : (Cond.methodLink RL 98 yX7_member) ∈ lw_tbl := by decide +kernel
theorem lwd_622 : (Cond.instanceMethod yX7_member) ∈ lw_tbl := by decide +kernel
theorem lwd_623 : (Cond.selects RX7 yX7_member yX7_member) ∈ lw_tbl := by decide +kernel
set_option maxRecDepth 40000 in
theorem lwd_624 : (Cond.code yX7_member cX7_member 5 (some .int)) ∈ lw_tbl := List.mem_of_getElem? (i := 839) (by rfl)
theorem lwd_625 : (Cond.methodLink RL 99 yX6_image) ∈ lw_tbl := by decide +kernel
theorem lwd_626 : (Cond.instanceMethod yX6_image) ∈ lw_tbl := by decide +kernel
theorem lwd_627 : (Cond.selects RX6 yX6_image yX6_image) ∈ lw_tbl := by decide +kernel
set_option maxRecDepth 40000 in
theorem lwd_628 : (Cond.code yX6_image cX6_image 2 (some .boolean)) ∈ lw_tbl := List.mem_of_getElem? (i := 544) (by rfl)
theorem lwd_629 : (Cond.methodLink RX6 220 yX0_copyFrom) ∈ lw_tbl := by decide +kernel
theorem lwd_630 : (Cond.instanceMethod yX0_copyFrom) ∈ lw_tbl := by decide +kernel
theorem lwd_631 : (Cond.selects RX0 yX0_copyFrom yX0_copyFrom) ∈ lw_tbl := by decide +kernel
set_option maxRecDepth 40000 in
theorem lwd_632 : (Cond.code yX0_copyFrom cX0_copyFrom 2 none) ∈ lw_tbl := List.mem_of_getElem? (i := 548) (by rfl)
theorem lwd_633 : (Cond.fieldLink RX0 30 "NetBorders$Bench" "chosen" "I") ∈ lw_tbl := by decide +kernel
theorem lwd_634 : (Cond.methodLink RX0 23 yX2_copyFrom) ∈ lw_tbl := by decide +kernel
theorem lwd_635 : (Cond.instanceMethod yX2_copyFrom) ∈ lw_tbl := by decide +kernel
theorem lwd_636 : (Cond.selects RX2 yX2_copyFrom yX2_copyFrom) ∈ lw_tbl := by decide +kernel
set_option maxRecDepth 40000 in
theorem lwd_637 : (Cond.code yX2_copyFrom cX2_copyFrom 2 none) ∈ lw_tbl := List.mem_of_getElem? (i := 552) (by rfl)
theorem lwd_638 : (Cond.methodLink RX2 51 arraycopyName) ∈ lw_tbl := by decide +kernel
theorem lwd_639 : (Cond.methodLink RX0 27 yX1_copyFrom) ∈ lw_tbl := by decide +kernel
theorem lwd_640 : (Cond.instanceMethod yX1_copyFrom) ∈ lw_tbl := by decide +kernel
theorem lwd_641 : (Cond.selects RX1 yX1_copyFrom yX1_copyFrom) ∈ lw_tbl := by decide +kernel
set_option maxRecDepth 40000 in
theorem lwd_642 : (Cond.code yX1_copyFrom cX1_copyFrom 2 none) ∈ lw_tbl := List.mem_of_getElem? (i := 557) (by rfl)
theorem lwd_643 : (Cond.methodLink RX1 61 arraycopyName) ∈ lw_tbl := by decide +kernel
theorem lwd_644 : (Cond.methodLink RL 102 yX7_image) ∈ lw_tbl := by decide +kernel
theorem lwd_645 : (Cond.instanceMethod yX7_image) ∈ lw_tbl := by decide +kernel
theorem lwd_646 : (Cond.selects RX7 yX7_image yX7_image) ∈ lw_tbl := by decide +kernel
set_option maxRecDepth 40000 in
theorem lwd_647 : (Cond.code yX7_image cX7_image 3 (some .boolean)) ∈ lw_tbl := List.mem_of_getElem? (i := 843) (by rfl)
theorem lwd_648 : (Cond.methodLink RL 103 yX6_again) ∈ lw_tbl := by decide +kernel
theorem lwd_649 : (Cond.instanceMethod yX6_again) ∈ lw_tbl := by decide +kernel
theorem lwd_650 : (Cond.selects RX6 yX6_again yX6_again) ∈ lw_tbl := by decide +kernel
set_option maxRecDepth 40000 in
theorem lwd_651 : (Cond.code yX6_again cX6_again 2 (some .boolean)) ∈ lw_tbl := List.mem_of_getElem? (i := 562) (by rfl)
theorem lwd_652 : (Cond.methodLink RL 106 yX7_again) ∈ lw_tbl := by decide +kernel
theorem lwd_653 : (Cond.instanceMethod yX7_again) ∈ lw_tbl := by decide +kernel
theorem lwd_654 : (Cond.selects RX7 yX7_again yX7_again) ∈ lw_tbl := by decide +kernel
set_option maxRecDepth 40000 in
theorem lwd_655 : (Cond.code yX7_again cX7_again 3 (some .boolean)) ∈ lw_tbl := List.mem_of_getElem? (i := 847) (by rfl)
