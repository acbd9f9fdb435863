/-! the good words of the tables (written by wip/gen/words.py) -/
def xB : List Cond := lw_tbl.filter goodWord
theorem xB_of {w : Cond} {i : Nat} (h : tables_1[i]? = some w) (hg : goodWord w = true) : w ∈ xB := List.mem_filter.mpr ⟨List.mem_append_right _ (List.mem_of_getElem? h), hg⟩
theorem xB_ofp {w : Cond} {i : Nat} (h : (k2_sels lw_privs)[i]? = some w) (hg : goodWord w = true) : w ∈ xB := List.mem_filter.mpr ⟨List.mem_append_left _ (List.mem_of_getElem? h), hg⟩
theorem xw_0 : Cond.initialized RL ∈ xB := xB_of (i := 0) (by decide +kernel) rfl
theorem xw_1 : Cond.initialized RX5 ∈ xB := xB_of (i := 1) (by decide +kernel) rfl
theorem xw_2 : Cond.initialized RX2 ∈ xB := xB_of (i := 2) (by decide +kernel) rfl
theorem xw_3 : Cond.initialized RX1 ∈ xB := xB_of (i := 3) (by decide +kernel) rfl
theorem xw_4 : Cond.initialized RX6 ∈ xB := xB_of (i := 4) (by decide +kernel) rfl
theorem xw_5 : Cond.initialized "java/lang/Throwable" ∈ xB := xB_of (i := 5) (by decide +kernel) rfl
theorem xw_6 : Cond.initialized "java/lang/Exception" ∈ xB := xB_of (i := 6) (by decide +kernel) rfl
theorem xw_7 : Cond.initialized "java/lang/RuntimeException" ∈ xB := xB_of (i := 7) (by decide +kernel) rfl
theorem xw_8 : Cond.initialized "java/lang/IllegalArgumentException" ∈ xB := xB_of (i := 8) (by decide +kernel) rfl
theorem xw_9 : Cond.initialized "java/lang/IllegalStateException" ∈ xB := xB_of (i := 9) (by decide +kernel) rfl
theorem xw_10 : Cond.initialized RX3 ∈ xB := xB_of (i := 10) (by decide +kernel) rfl
theorem xw_11 : Cond.initialized RX0 ∈ xB := xB_of (i := 11) (by decide +kernel) rfl
theorem xw_12 : Cond.initialized "java/lang/IndexOutOfBoundsException" ∈ xB := xB_of (i := 12) (by decide +kernel) rfl
theorem xw_13 : Cond.initialized "java/lang/ArrayIndexOutOfBoundsException" ∈ xB := xB_of (i := 13) (by decide +kernel) rfl
theorem xw_14 : Cond.initialized RJ0 ∈ xB := xB_of (i := 14) (by decide +kernel) rfl
theorem xw_15 : Cond.initialized "java/lang/UnsupportedOperationException" ∈ xB := xB_of (i := 15) (by decide +kernel) rfl
theorem xw_16 : Cond.initialized RX4 ∈ xB := xB_of (i := 16) (by decide +kernel) rfl
theorem xw_17 : Cond.initialized RJ9 ∈ xB := xB_of (i := 17) (by decide +kernel) rfl
theorem xw_18 : Cond.initialized "java/util/NoSuchElementException" ∈ xB := xB_of (i := 18) (by decide +kernel) rfl
theorem xw_19 : Cond.initialized "java/lang/ArithmeticException" ∈ xB := xB_of (i := 19) (by decide +kernel) rfl
theorem xw_20 : Cond.classLink RL 8 RX5 ∈ xB := xB_of (i := 20) (by decide +kernel) rfl
theorem xw_21 : Cond.instantiable RX5 8 ∈ xB := xB_of (i := 21) (by decide +kernel) rfl
theorem xw_22 : Cond.methodLink RL 110 yX5_init ∈ xB := xB_of (i := 22) (by decide +kernel) rfl
theorem xw_23 : Cond.instanceMethod yX5_init ∈ xB := xB_of (i := 23) (by decide +kernel) rfl
set_option maxRecDepth 100000 in
theorem xw_24 : Cond.code yX5_init cX5_init 1 none ∈ xB := xB_of (i := 24) (by rfl) rfl
theorem xw_25 : Cond.methodLink RX5 1 ⟨"java/lang/Object", "<init>", "()V"⟩ ∈ xB := xB_of (i := 25) (by decide +kernel) rfl
theorem xw_26 : Cond.instanceMethod ⟨"java/lang/Object", "<init>", "()V"⟩ ∈ xB := xB_of (i := 26) (by decide +kernel) rfl
set_option maxRecDepth 100000 in
theorem xw_27 : Cond.code ⟨"java/lang/Object", "<init>", "()V"⟩ object_method_1_code 1 none ∈ xB := xB_of (i := 27) (by rfl) rfl
theorem xw_28 : Cond.classLink RX5 9 RX3 ∈ xB := xB_of (i := 28) (by decide +kernel) rfl
theorem xw_30 : Cond.classLink RX5 15 RX4 ∈ xB := xB_of (i := 30) (by decide +kernel) rfl
theorem xw_32 : Cond.classLink RX5 21 RX2 ∈ xB := xB_of (i := 32) (by decide +kernel) rfl
theorem xw_33 : Cond.instantiable RX2 2 ∈ xB := xB_of (i := 33) (by decide +kernel) rfl
theorem xw_35 : Cond.instanceMethod yX2_init ∈ xB := xB_of (i := 35) (by decide +kernel) rfl
set_option maxRecDepth 100000 in
theorem xw_36 : Cond.code yX2_init cX2_init 1 none ∈ xB := xB_of (i := 36) (by rfl) rfl
theorem xw_37 : Cond.methodLink RX2 3 ⟨"java/lang/Object", "<init>", "()V"⟩ ∈ xB := xB_of (i := 37) (by decide +kernel) rfl
theorem xw_38 : Cond.fieldLink RX2 9 RX2 "sound" "I" ∈ xB := xB_of (i := 38) (by decide +kernel) rfl
theorem xw_40 : Cond.fieldLink RX2 15 RX2 "fewest" "I" ∈ xB := xB_of (i := 40) (by decide +kernel) rfl
theorem xw_47 : Cond.classLink RX5 28 RX1 ∈ xB := xB_of (i := 47) (by decide +kernel) rfl
theorem xw_48 : Cond.instantiable RX1 4 ∈ xB := xB_of (i := 48) (by decide +kernel) rfl
theorem xw_49 : Cond.methodLink RX5 30 yX1_init ∈ xB := xB_of (i := 49) (by decide +kernel) rfl
theorem xw_50 : Cond.instanceMethod yX1_init ∈ xB := xB_of (i := 50) (by decide +kernel) rfl
set_option maxRecDepth 100000 in
theorem xw_51 : Cond.code yX1_init cX1_init 1 none ∈ xB := xB_of (i := 51) (by rfl) rfl
theorem xw_52 : Cond.methodLink RX1 3 ⟨"java/lang/Object", "<init>", "()V"⟩ ∈ xB := xB_of (i := 52) (by decide +kernel) rfl
theorem xw_53 : Cond.fieldLink RX1 9 RX1 "phase" "C" ∈ xB := xB_of (i := 53) (by decide +kernel) rfl
theorem xw_55 : Cond.fieldLink RX1 15 RX1 "source" "I" ∈ xB := xB_of (i := 55) (by decide +kernel) rfl
theorem xw_58 : Cond.fieldLink RX1 19 RX1 "target" "I" ∈ xB := xB_of (i := 58) (by decide +kernel) rfl
theorem xw_60 : Cond.fieldLink RX1 22 RX1 "left" "I" ∈ xB := xB_of (i := 60) (by decide +kernel) rfl
theorem xw_71 : Cond.fieldLink RX5 11 RX5 "allShards" "[LTenantPlacement$Shard;" ∈ xB := xB_of (i := 71) (by decide +kernel) rfl
theorem xw_72 : Cond.fieldLink RX5 17 RX5 "allTenants" "[LTenantPlacement$Tenant;" ∈ xB := xB_of (i := 72) (by decide +kernel) rfl
theorem xw_73 : Cond.fieldLink RX5 24 RX5 "planner" "LTenantPlacement$Planner;" ∈ xB := xB_of (i := 73) (by decide +kernel) rfl
theorem xw_74 : Cond.fieldLink RX5 31 RX5 "trialMove" "LTenantPlacement$Move;" ∈ xB := xB_of (i := 74) (by decide +kernel) rfl
theorem xw_75 : Cond.fieldLink RX5 127 RX5 "pairs" "I" ∈ xB := xB_of (i := 75) (by decide +kernel) rfl
theorem xw_76 : Cond.fieldLink RX5 197 RX5 "now" "I" ∈ xB := xB_of (i := 76) (by decide +kernel) rfl
theorem xw_77 : Cond.fieldLink RX5 263 RX5 "switchesSoFar" "I" ∈ xB := xB_of (i := 77) (by decide +kernel) rfl
theorem xw_78 : Cond.fieldLink RX5 266 RX5 "hoursOverSoFar" "J" ∈ xB := xB_of (i := 78) (by decide +kernel) rfl
theorem xw_96 : Cond.methodLink RL 157 yX5_time ∈ xB := xB_of (i := 96) (by decide +kernel) rfl
theorem xw_97 : Cond.instanceMethod yX5_time ∈ xB := xB_of (i := 97) (by decide +kernel) rfl
theorem xw_98 : Cond.selects RX5 yX5_time yX5_time ∈ xB := xB_of (i := 98) (by decide +kernel) rfl
set_option maxRecDepth 100000 in
theorem xw_99 : Cond.code yX5_time cX5_time 1 (some .int) ∈ xB := xB_of (i := 99) (by rfl) rfl
theorem xw_100 : Cond.methodLink RL 173 yX5_moves ∈ xB := xB_of (i := 100) (by decide +kernel) rfl
theorem xw_101 : Cond.instanceMethod yX5_moves ∈ xB := xB_of (i := 101) (by decide +kernel) rfl
theorem xw_102 : Cond.selects RX5 yX5_moves yX5_moves ∈ xB := xB_of (i := 102) (by decide +kernel) rfl
set_option maxRecDepth 100000 in
theorem xw_103 : Cond.code yX5_moves cX5_moves 6 (some .int) ∈ xB := xB_of (i := 103) (by rfl) rfl
theorem xw_104 : Cond.methodLink RX5 155 yX1_isUnderWay ∈ xB := xB_of (i := 104) (by decide +kernel) rfl
theorem xw_105 : Cond.instanceMethod yX1_isUnderWay ∈ xB := xB_of (i := 105) (by decide +kernel) rfl
theorem xw_106 : Cond.selects RX1 yX1_isUnderWay yX1_isUnderWay ∈ xB := xB_of (i := 106) (by decide +kernel) rfl
set_option maxRecDepth 100000 in
theorem xw_107 : Cond.code yX1_isUnderWay cX1_isUnderWay 1 (some .boolean) ∈ xB := xB_of (i := 107) (by rfl) rfl
theorem xw_108 : Cond.methodLink RL 177 yX5_shards ∈ xB := xB_of (i := 108) (by decide +kernel) rfl
theorem xw_109 : Cond.instanceMethod yX5_shards ∈ xB := xB_of (i := 109) (by decide +kernel) rfl
theorem xw_110 : Cond.selects RX5 yX5_shards yX5_shards ∈ xB := xB_of (i := 110) (by decide +kernel) rfl
set_option maxRecDepth 100000 in
theorem xw_111 : Cond.code yX5_shards cX5_shards 6 (some .int) ∈ xB := xB_of (i := 111) (by rfl) rfl
theorem xw_112 : Cond.methodLink RL 181 yX5_tenants ∈ xB := xB_of (i := 112) (by decide +kernel) rfl
theorem xw_113 : Cond.instanceMethod yX5_tenants ∈ xB := xB_of (i := 113) (by decide +kernel) rfl
theorem xw_114 : Cond.selects RX5 yX5_tenants yX5_tenants ∈ xB := xB_of (i := 114) (by decide +kernel) rfl
set_option maxRecDepth 100000 in
theorem xw_115 : Cond.code yX5_tenants cX5_tenants 6 (some .int) ∈ xB := xB_of (i := 115) (by rfl) rfl
theorem xw_116 : Cond.methodLink RL 213 yX5_soundPlans ∈ xB := xB_of (i := 116) (by decide +kernel) rfl
theorem xw_117 : Cond.instanceMethod yX5_soundPlans ∈ xB := xB_of (i := 117) (by decide +kernel) rfl
theorem xw_118 : Cond.selects RX5 yX5_soundPlans yX5_soundPlans ∈ xB := xB_of (i := 118) (by decide +kernel) rfl
set_option maxRecDepth 100000 in
theorem xw_119 : Cond.code yX5_soundPlans cX5_soundPlans 1 (some .int) ∈ xB := xB_of (i := 119) (by rfl) rfl
theorem xw_120 : Cond.methodLink RX5 250 yX2_tryAll ∈ xB := xB_of (i := 120) (by decide +kernel) rfl
theorem xw_121 : Cond.instanceMethod yX2_tryAll ∈ xB := xB_of (i := 121) (by decide +kernel) rfl
theorem xw_122 : Cond.selects RX2 yX2_tryAll yX2_tryAll ∈ xB := xB_of (i := 122) (by decide +kernel) rfl
set_option maxRecDepth 100000 in
theorem xw_123 : Cond.code yX2_tryAll cX2_tryAll 3 none ∈ xB := xB_of (i := 123) (by rfl) rfl
theorem xw_124 : Cond.methodLink RX2 18 yX2_clearTrials ∈ xB := xB_of (i := 124) (by decide +kernel) rfl
theorem xw_125 : Cond.static yX2_clearTrials ∈ xB := xB_of (i := 125) (by decide +kernel) rfl
set_option maxRecDepth 100000 in
theorem xw_126 : Cond.code yX2_clearTrials cX2_clearTrials 5 none ∈ xB := xB_of (i := 126) (by rfl) rfl
theorem xw_127 : Cond.methodLink RX2 30 yX3_clearTrial ∈ xB := xB_of (i := 127) (by decide +kernel) rfl
theorem xw_128 : Cond.instanceMethod yX3_clearTrial ∈ xB := xB_of (i := 128) (by decide +kernel) rfl
theorem xw_129 : Cond.selects RX3 yX3_clearTrial yX3_clearTrial ∈ xB := xB_of (i := 129) (by decide +kernel) rfl
set_option maxRecDepth 100000 in
theorem xw_130 : Cond.code yX3_clearTrial cX3_clearTrial 1 none ∈ xB := xB_of (i := 130) (by rfl) rfl
theorem xw_131 : Cond.methodLink RX3 56 yX0_clear ∈ xB := xB_of (i := 131) (by decide +kernel) rfl
theorem xw_132 : Cond.instanceMethod yX0_clear ∈ xB := xB_of (i := 132) (by decide +kernel) rfl
theorem xw_133 : Cond.selects RX0 yX0_clear yX0_clear ∈ xB := xB_of (i := 133) (by decide +kernel) rfl
set_option maxRecDepth 100000 in
theorem xw_134 : Cond.code yX0_clear cX0_clear 1 none ∈ xB := xB_of (i := 134) (by rfl) rfl
theorem xw_135 : Cond.methodLink RX2 22 yX2_tryFrom ∈ xB := xB_of (i := 135) (by decide +kernel) rfl
theorem xw_136 : Cond.static yX2_tryFrom ∈ xB := xB_of (i := 136) (by decide +kernel) rfl
set_option maxRecDepth 100000 in
theorem xw_137 : Cond.code yX2_tryFrom cX2_tryFrom 9 none ∈ xB := xB_of (i := 137) (by rfl) rfl
theorem xw_138 : Cond.methodLink RX2 35 yX2_tenantOrNull ∈ xB := xB_of (i := 138) (by decide +kernel) rfl
theorem xw_139 : Cond.static yX2_tenantOrNull ∈ xB := xB_of (i := 139) (by decide +kernel) rfl
set_option maxRecDepth 100000 in
theorem xw_140 : Cond.code yX2_tenantOrNull cX2_tenantOrNull 2 (some (.object "TenantPlacement$Tenant")) ∈ xB := xB_of (i := 140) (by rfl) rfl
theorem xw_141 : Cond.methodLink RX2 39 yX2_noteSound ∈ xB := xB_of (i := 141) (by decide +kernel) rfl
theorem xw_143 : Cond.instanceMethod yX2_noteSound ∈ xB := xB_of (i := 143) (by decide +kernel) rfl
set_option maxRecDepth 100000 in
theorem xw_144 : Cond.code yX2_noteSound cX2_noteSound 2 none ∈ xB := xB_of (i := 144) (by rfl) rfl
theorem xw_145 : Cond.methodLink RX2 59 yJ9_min_7cf53 ∈ xB := xB_of (i := 145) (by decide +kernel) rfl
theorem xw_146 : Cond.static yJ9_min_7cf53 ∈ xB := xB_of (i := 146) (by decide +kernel) rfl
set_option maxRecDepth 100000 in
theorem xw_147 : Cond.code yJ9_min_7cf53 cJ9_min_7cf53 2 (some .int) ∈ xB := xB_of (i := 147) (by rfl) rfl
theorem xw_148 : Cond.methodLink RX2 43 yX3_takesInTrial ∈ xB := xB_of (i := 148) (by decide +kernel) rfl
theorem xw_149 : Cond.instanceMethod yX3_takesInTrial ∈ xB := xB_of (i := 149) (by decide +kernel) rfl
theorem xw_150 : Cond.selects RX3 yX3_takesInTrial yX3_takesInTrial ∈ xB := xB_of (i := 150) (by decide +kernel) rfl
set_option maxRecDepth 100000 in
theorem xw_151 : Cond.code yX3_takesInTrial cX3_takesInTrial 3 (some .boolean) ∈ xB := xB_of (i := 151) (by rfl) rfl
theorem xw_152 : Cond.methodLink RX2 47 yX3_putInTrial ∈ xB := xB_of (i := 152) (by decide +kernel) rfl
theorem xw_153 : Cond.instanceMethod yX3_putInTrial ∈ xB := xB_of (i := 153) (by decide +kernel) rfl
theorem xw_154 : Cond.selects RX3 yX3_putInTrial yX3_putInTrial ∈ xB := xB_of (i := 154) (by decide +kernel) rfl
set_option maxRecDepth 100000 in
theorem xw_155 : Cond.code yX3_putInTrial cX3_putInTrial 3 none ∈ xB := xB_of (i := 155) (by rfl) rfl
theorem xw_156 : Cond.methodLink RX3 49 yX0_add ∈ xB := xB_of (i := 156) (by decide +kernel) rfl
theorem xw_157 : Cond.instanceMethod yX0_add ∈ xB := xB_of (i := 157) (by decide +kernel) rfl
theorem xw_158 : Cond.selects RX0 yX0_add yX0_add ∈ xB := xB_of (i := 158) (by decide +kernel) rfl
set_option maxRecDepth 100000 in
theorem xw_159 : Cond.code yX0_add cX0_add 2 none ∈ xB := xB_of (i := 159) (by rfl) rfl
theorem xw_160 : Cond.methodLink RX2 56 yX3_takeFromTrial ∈ xB := xB_of (i := 160) (by decide +kernel) rfl
theorem xw_161 : Cond.instanceMethod yX3_takeFromTrial ∈ xB := xB_of (i := 161) (by decide +kernel) rfl
theorem xw_162 : Cond.selects RX3 yX3_takeFromTrial yX3_takeFromTrial ∈ xB := xB_of (i := 162) (by decide +kernel) rfl
set_option maxRecDepth 100000 in
theorem xw_163 : Cond.code yX3_takeFromTrial cX3_takeFromTrial 3 none ∈ xB := xB_of (i := 163) (by rfl) rfl
theorem xw_164 : Cond.methodLink RX3 53 yX0_subtract ∈ xB := xB_of (i := 164) (by decide +kernel) rfl
theorem xw_165 : Cond.instanceMethod yX0_subtract ∈ xB := xB_of (i := 165) (by decide +kernel) rfl
theorem xw_166 : Cond.selects RX0 yX0_subtract yX0_subtract ∈ xB := xB_of (i := 166) (by decide +kernel) rfl
set_option maxRecDepth 100000 in
theorem xw_167 : Cond.code yX0_subtract cX0_subtract 2 none ∈ xB := xB_of (i := 167) (by rfl) rfl
theorem xw_168 : Cond.methodLink RL 217 yX5_switches ∈ xB := xB_of (i := 168) (by decide +kernel) rfl
theorem xw_169 : Cond.instanceMethod yX5_switches ∈ xB := xB_of (i := 169) (by decide +kernel) rfl
theorem xw_170 : Cond.selects RX5 yX5_switches yX5_switches ∈ xB := xB_of (i := 170) (by decide +kernel) rfl
set_option maxRecDepth 100000 in
theorem xw_171 : Cond.code yX5_switches cX5_switches 1 (some .int) ∈ xB := xB_of (i := 171) (by rfl) rfl
theorem xw_172 : Cond.methodLink RL 221 yX5_hoursOver ∈ xB := xB_of (i := 172) (by decide +kernel) rfl
theorem xw_173 : Cond.instanceMethod yX5_hoursOver ∈ xB := xB_of (i := 173) (by decide +kernel) rfl
theorem xw_174 : Cond.selects RX5 yX5_hoursOver yX5_hoursOver ∈ xB := xB_of (i := 174) (by decide +kernel) rfl
set_option maxRecDepth 100000 in
theorem xw_175 : Cond.code yX5_hoursOver cX5_hoursOver 1 (some .long) ∈ xB := xB_of (i := 175) (by rfl) rfl
theorem xw_176 : Cond.methodLink RL 114 yL_addShard ∈ xB := xB_of (i := 176) (by decide +kernel) rfl
theorem xw_177 : Cond.static yL_addShard ∈ xB := xB_of (i := 177) (by decide +kernel) rfl
set_option maxRecDepth 100000 in
theorem xw_178 : Cond.codeWith yL_addShard cL_addShard 6 (some .int) [(0, 12, 15, 13), (0, 12, 19, 15)] ∈ xB := xB_of (i := 178) (by rfl) rfl
theorem xw_179 : Cond.classLink RL 13 "java/lang/IllegalArgumentException" ∈ xB := xB_of (i := 179) (by decide +kernel) rfl
theorem xw_180 : Cond.classLink RL 15 "java/lang/IllegalStateException" ∈ xB := xB_of (i := 180) (by decide +kernel) rfl
theorem xw_181 : Cond.methodLink RL 7 yX5_addShard ∈ xB := xB_of (i := 181) (by decide +kernel) rfl
theorem xw_182 : Cond.instanceMethod yX5_addShard ∈ xB := xB_of (i := 182) (by decide +kernel) rfl
theorem xw_183 : Cond.selects RX5 yX5_addShard yX5_addShard ∈ xB := xB_of (i := 183) (by decide +kernel) rfl
set_option maxRecDepth 100000 in
theorem xw_184 : Cond.code yX5_addShard cX5_addShard 5 (some .int) ∈ xB := xB_of (i := 184) (by rfl) rfl
theorem xw_185 : Cond.methodLink RX5 35 yX5_requireRange ∈ xB := xB_of (i := 185) (by decide +kernel) rfl
theorem xw_186 : Cond.static yX5_requireRange ∈ xB := xB_of (i := 186) (by decide +kernel) rfl
set_option maxRecDepth 100000 in
theorem xw_187 : Cond.code yX5_requireRange cX5_requireRange 3 none ∈ xB := xB_of (i := 187) (by rfl) rfl
theorem xw_188 : Cond.classLink RX5 116 "java/lang/IllegalArgumentException" ∈ xB := xB_of (i := 188) (by decide +kernel) rfl
theorem xw_189 : Cond.instantiable "java/lang/IllegalArgumentException" 6 ∈ xB := xB_of (i := 189) (by decide +kernel) rfl
theorem xw_197 : Cond.selects "java/lang/IllegalArgumentException" ⟨"java/lang/Throwable", "fillInStackTrace", "(I)Ljava/lang/Throwable;"⟩ ⟨"java/lang/Throwable", "fillInStackTrace", "(I)Ljava/lang/Throwable;"⟩ ∈ xB := xB_of (i := 197) (by decide +kernel) rfl
theorem xw_198 : Cond.selects "java/lang/IllegalArgumentException" ⟨"java/lang/Throwable", "fillInStackTrace", "()Ljava/lang/Throwable;"⟩ ⟨"java/lang/Throwable", "fillInStackTrace", "()Ljava/lang/Throwable;"⟩ ∈ xB := xB_of (i := 198) (by decide +kernel) rfl
theorem xw_209 : Cond.fieldLink "java/lang/Throwable" 198 "java/lang/Throwable" "backtrace" "Ljava/lang/Object;" ∈ xB := xB_of (i := 209) (by decide +kernel) rfl
theorem xw_211 : Cond.instanceMethod ⟨"java/lang/Throwable", "<init>", "()V"⟩ ∈ xB := xB_of (i := 211) (by decide +kernel) rfl
set_option maxRecDepth 100000 in
theorem xw_212 : Cond.code ⟨"java/lang/Throwable", "<init>", "()V"⟩ prog_19_method_1_code 1 none ∈ xB := xB_of (i := 212) (by rfl) rfl
theorem xw_213 : Cond.methodLink "java/lang/Throwable" 1 ⟨"java/lang/Object", "<init>", "()V"⟩ ∈ xB := xB_of (i := 213) (by decide +kernel) rfl
theorem xw_214 : Cond.fieldLink "java/lang/Throwable" 13 "java/lang/Throwable" "UNASSIGNED_STACK" "[Ljava/lang/StackTraceElement;" ∈ xB := xB_of (i := 214) (by decide +kernel) rfl
theorem xw_216 : Cond.fieldLink "java/lang/Throwable" 20 "java/lang/Throwable" "SUPPRESSED_SENTINEL" "Ljava/util/List;" ∈ xB := xB_of (i := 216) (by decide +kernel) rfl
theorem xw_218 : Cond.methodLink "java/lang/Throwable" 27 ⟨"java/lang/Throwable", "fillInStackTrace", "()Ljava/lang/Throwable;"⟩ ∈ xB := xB_of (i := 218) (by decide +kernel) rfl
theorem xw_219 : Cond.instanceMethod ⟨"java/lang/Throwable", "fillInStackTrace", "()Ljava/lang/Throwable;"⟩ ∈ xB := xB_of (i := 219) (by decide +kernel) rfl
theorem xw_221 : Cond.selects "java/lang/ArithmeticException" ⟨"java/lang/Throwable", "fillInStackTrace", "()Ljava/lang/Throwable;"⟩ ⟨"java/lang/Throwable", "fillInStackTrace", "()Ljava/lang/Throwable;"⟩ ∈ xB := xB_of (i := 221) (by decide +kernel) rfl
theorem xw_222 : Cond.selects "java/lang/ArrayIndexOutOfBoundsException" ⟨"java/lang/Throwable", "fillInStackTrace", "()Ljava/lang/Throwable;"⟩ ⟨"java/lang/Throwable", "fillInStackTrace", "()Ljava/lang/Throwable;"⟩ ∈ xB := xB_of (i := 222) (by decide +kernel) rfl
theorem xw_223 : Cond.selects "java/lang/IllegalStateException" ⟨"java/lang/Throwable", "fillInStackTrace", "()Ljava/lang/Throwable;"⟩ ⟨"java/lang/Throwable", "fillInStackTrace", "()Ljava/lang/Throwable;"⟩ ∈ xB := xB_of (i := 223) (by decide +kernel) rfl
theorem xw_224 : Cond.selects "java/lang/IndexOutOfBoundsException" ⟨"java/lang/Throwable", "fillInStackTrace", "()Ljava/lang/Throwable;"⟩ ⟨"java/lang/Throwable", "fillInStackTrace", "()Ljava/lang/Throwable;"⟩ ∈ xB := xB_of (i := 224) (by decide +kernel) rfl
theorem xw_225 : Cond.selects "java/lang/UnsupportedOperationException" ⟨"java/lang/Throwable", "fillInStackTrace", "()Ljava/lang/Throwable;"⟩ ⟨"java/lang/Throwable", "fillInStackTrace", "()Ljava/lang/Throwable;"⟩ ∈ xB := xB_of (i := 225) (by decide +kernel) rfl
theorem xw_226 : Cond.selects "java/util/NoSuchElementException" ⟨"java/lang/Throwable", "fillInStackTrace", "()Ljava/lang/Throwable;"⟩ ⟨"java/lang/Throwable", "fillInStackTrace", "()Ljava/lang/Throwable;"⟩ ∈ xB := xB_of (i := 226) (by decide +kernel) rfl
theorem xw_228 : Cond.methodLink "java/lang/Throwable" 202 ⟨"java/lang/Throwable", "fillInStackTrace", "(I)Ljava/lang/Throwable;"⟩ ∈ xB := xB_of (i := 228) (by decide +kernel) rfl
theorem xw_230 : Cond.instanceMethod ⟨"java/lang/Throwable", "fillInStackTrace", "(I)Ljava/lang/Throwable;"⟩ ∈ xB := xB_of (i := 230) (by decide +kernel) rfl
theorem xw_231 : Cond.instantiable "java/lang/Throwable" 6 ∈ xB := xB_of (i := 231) (by decide +kernel) rfl
theorem xw_234 : Cond.methodLink RX5 120 ⟨"java/lang/IllegalArgumentException", "<init>", "(Ljava/lang/String;)V"⟩ ∈ xB := xB_of (i := 234) (by decide +kernel) rfl
theorem xw_235 : Cond.instanceMethod ⟨"java/lang/IllegalArgumentException", "<init>", "(Ljava/lang/String;)V"⟩ ∈ xB := xB_of (i := 235) (by decide +kernel) rfl
set_option maxRecDepth 100000 in
theorem xw_236 : Cond.code ⟨"java/lang/IllegalArgumentException", "<init>", "(Ljava/lang/String;)V"⟩ prog_13_method_2_code 2 none ∈ xB := xB_of (i := 236) (by rfl) rfl
theorem xw_237 : Cond.methodLink "java/lang/IllegalArgumentException" 7 ⟨"java/lang/RuntimeException", "<init>", "(Ljava/lang/String;)V"⟩ ∈ xB := xB_of (i := 237) (by decide +kernel) rfl
theorem xw_238 : Cond.instanceMethod ⟨"java/lang/RuntimeException", "<init>", "(Ljava/lang/String;)V"⟩ ∈ xB := xB_of (i := 238) (by decide +kernel) rfl
set_option maxRecDepth 100000 in
theorem xw_239 : Cond.code ⟨"java/lang/RuntimeException", "<init>", "(Ljava/lang/String;)V"⟩ prog_17_method_2_code 2 none ∈ xB := xB_of (i := 239) (by rfl) rfl
theorem xw_240 : Cond.methodLink "java/lang/RuntimeException" 7 ⟨"java/lang/Exception", "<init>", "(Ljava/lang/String;)V"⟩ ∈ xB := xB_of (i := 240) (by decide +kernel) rfl
theorem xw_241 : Cond.instanceMethod ⟨"java/lang/Exception", "<init>", "(Ljava/lang/String;)V"⟩ ∈ xB := xB_of (i := 241) (by decide +kernel) rfl
set_option maxRecDepth 100000 in
theorem xw_242 : Cond.code ⟨"java/lang/Exception", "<init>", "(Ljava/lang/String;)V"⟩ prog_12_method_2_code 2 none ∈ xB := xB_of (i := 242) (by rfl) rfl
theorem xw_243 : Cond.methodLink "java/lang/Exception" 7 ⟨"java/lang/Throwable", "<init>", "(Ljava/lang/String;)V"⟩ ∈ xB := xB_of (i := 243) (by decide +kernel) rfl
theorem xw_244 : Cond.instanceMethod ⟨"java/lang/Throwable", "<init>", "(Ljava/lang/String;)V"⟩ ∈ xB := xB_of (i := 244) (by decide +kernel) rfl
set_option maxRecDepth 100000 in
theorem xw_245 : Cond.code ⟨"java/lang/Throwable", "<init>", "(Ljava/lang/String;)V"⟩ prog_19_method_2_code 2 none ∈ xB := xB_of (i := 245) (by rfl) rfl
theorem xw_246 : Cond.fieldLink "java/lang/Throwable" 198 "java/lang/Throwable" "backtrace" "Ljava/lang/Object;" ∈ xB := xB_of (i := 246) (by decide +kernel) rfl
theorem xw_247 : Cond.fieldLink "java/lang/Throwable" 31 "java/lang/Throwable" "detailMessage" "Ljava/lang/String;" ∈ xB := xB_of (i := 247) (by decide +kernel) rfl
theorem xw_248 : Cond.fieldLink "java/lang/Throwable" 7 "java/lang/Throwable" "cause" "Ljava/lang/Throwable;" ∈ xB := xB_of (i := 248) (by decide +kernel) rfl
theorem xw_249 : Cond.fieldLink "java/lang/Throwable" 17 "java/lang/Throwable" "stackTrace" "[Ljava/lang/StackTraceElement;" ∈ xB := xB_of (i := 249) (by decide +kernel) rfl
theorem xw_250 : Cond.fieldLink "java/lang/Throwable" 24 "java/lang/Throwable" "suppressedExceptions" "Ljava/util/List;" ∈ xB := xB_of (i := 250) (by decide +kernel) rfl
theorem xw_259 : Cond.arrayClass .byte ∈ xB := xB_of (i := 259) (by decide +kernel) rfl
theorem xw_260 : Cond.methodLink RX5 39 yX5_shards ∈ xB := xB_of (i := 260) (by decide +kernel) rfl
theorem xw_261 : Cond.classLink RX5 43 "java/lang/IllegalStateException" ∈ xB := xB_of (i := 261) (by decide +kernel) rfl
theorem xw_262 : Cond.instantiable "java/lang/IllegalStateException" 6 ∈ xB := xB_of (i := 262) (by decide +kernel) rfl
theorem xw_264 : Cond.selects "java/lang/IllegalStateException" ⟨"java/lang/Throwable", "fillInStackTrace", "(I)Ljava/lang/Throwable;"⟩ ⟨"java/lang/Throwable", "fillInStackTrace", "(I)Ljava/lang/Throwable;"⟩ ∈ xB := xB_of (i := 264) (by decide +kernel) rfl
theorem xw_271 : Cond.methodLink RX5 47 ⟨"java/lang/IllegalStateException", "<init>", "(Ljava/lang/String;)V"⟩ ∈ xB := xB_of (i := 271) (by decide +kernel) rfl
theorem xw_272 : Cond.instanceMethod ⟨"java/lang/IllegalStateException", "<init>", "(Ljava/lang/String;)V"⟩ ∈ xB := xB_of (i := 272) (by decide +kernel) rfl
set_option maxRecDepth 100000 in
theorem xw_273 : Cond.code ⟨"java/lang/IllegalStateException", "<init>", "(Ljava/lang/String;)V"⟩ prog_14_method_2_code 2 none ∈ xB := xB_of (i := 273) (by rfl) rfl
theorem xw_274 : Cond.methodLink "java/lang/IllegalStateException" 7 ⟨"java/lang/RuntimeException", "<init>", "(Ljava/lang/String;)V"⟩ ∈ xB := xB_of (i := 274) (by decide +kernel) rfl
theorem xw_277 : Cond.instantiable RX3 5 ∈ xB := xB_of (i := 277) (by decide +kernel) rfl
theorem xw_278 : Cond.methodLink RX5 50 yX3_init ∈ xB := xB_of (i := 278) (by decide +kernel) rfl
theorem xw_279 : Cond.instanceMethod yX3_init ∈ xB := xB_of (i := 279) (by decide +kernel) rfl
set_option maxRecDepth 100000 in
theorem xw_280 : Cond.code yX3_init cX3_init 4 none ∈ xB := xB_of (i := 280) (by rfl) rfl
theorem xw_281 : Cond.methodLink RX3 1 ⟨"java/lang/Object", "<init>", "()V"⟩ ∈ xB := xB_of (i := 281) (by decide +kernel) rfl
theorem xw_282 : Cond.classLink RX3 7 RX0 ∈ xB := xB_of (i := 282) (by decide +kernel) rfl
theorem xw_283 : Cond.instantiable RX0 3 ∈ xB := xB_of (i := 283) (by decide +kernel) rfl
theorem xw_284 : Cond.methodLink RX3 9 yX0_init ∈ xB := xB_of (i := 284) (by decide +kernel) rfl
theorem xw_285 : Cond.instanceMethod yX0_init ∈ xB := xB_of (i := 285) (by decide +kernel) rfl
set_option maxRecDepth 100000 in
theorem xw_286 : Cond.code yX0_init cX0_init 4 none ∈ xB := xB_of (i := 286) (by rfl) rfl
theorem xw_287 : Cond.methodLink RX0 3 ⟨"java/lang/Object", "<init>", "()V"⟩ ∈ xB := xB_of (i := 287) (by decide +kernel) rfl
theorem xw_288 : Cond.fieldLink RX0 9 RX0 "storage" "I" ∈ xB := xB_of (i := 288) (by decide +kernel) rfl
theorem xw_291 : Cond.fieldLink RX0 15 RX0 "load" "I" ∈ xB := xB_of (i := 291) (by decide +kernel) rfl
theorem xw_294 : Cond.fieldLink RX0 18 RX0 "connections" "I" ∈ xB := xB_of (i := 294) (by decide +kernel) rfl
theorem xw_304 : Cond.fieldLink RX3 12 RX3 "limits" "LTenantPlacement$Amounts;" ∈ xB := xB_of (i := 304) (by decide +kernel) rfl
theorem xw_306 : Cond.fieldLink RX3 18 RX3 "use" "LTenantPlacement$Amounts;" ∈ xB := xB_of (i := 306) (by decide +kernel) rfl
theorem xw_308 : Cond.fieldLink RX3 21 RX3 "isOpen" "Z" ∈ xB := xB_of (i := 308) (by decide +kernel) rfl
theorem xw_310 : Cond.fieldLink RX3 25 RX3 "trialUse" "LTenantPlacement$Amounts;" ∈ xB := xB_of (i := 310) (by decide +kernel) rfl
theorem xw_311 : Cond.fieldLink RX3 43 RX3 "trialTenants" "I" ∈ xB := xB_of (i := 311) (by decide +kernel) rfl
theorem xw_323 : Cond.methodLink RL 123 yL_setOpen ∈ xB := xB_of (i := 323) (by decide +kernel) rfl
theorem xw_324 : Cond.static yL_setOpen ∈ xB := xB_of (i := 324) (by decide +kernel) rfl
set_option maxRecDepth 100000 in
theorem xw_325 : Cond.codeWith yL_setOpen cL_setOpen 5 (some .int) [(0, 17, 20, 21)] ∈ xB := xB_of (i := 325) (by rfl) rfl
theorem xw_326 : Cond.classLink RL 21 "java/lang/IndexOutOfBoundsException" ∈ xB := xB_of (i := 326) (by decide +kernel) rfl
theorem xw_327 : Cond.instantiable "java/lang/ArrayIndexOutOfBoundsException" 6 ∈ xB := xB_of (i := 327) (by decide +kernel) rfl
theorem xw_328 : Cond.instanceMethod ⟨"java/lang/ArrayIndexOutOfBoundsException", "<init>", "(Ljava/lang/String;)V"⟩ ∈ xB := xB_of (i := 328) (by decide +kernel) rfl
set_option maxRecDepth 100000 in
theorem xw_329 : Cond.code ⟨"java/lang/ArrayIndexOutOfBoundsException", "<init>", "(Ljava/lang/String;)V"⟩ cJx00060_init_a7421 2 none ∈ xB := xB_of (i := 329) (by rfl) rfl
theorem xw_330 : Cond.methodLink "java/lang/ArrayIndexOutOfBoundsException" 7 ⟨"java/lang/IndexOutOfBoundsException", "<init>", "(Ljava/lang/String;)V"⟩ ∈ xB := xB_of (i := 330) (by decide +kernel) rfl
theorem xw_331 : Cond.instanceMethod ⟨"java/lang/IndexOutOfBoundsException", "<init>", "(Ljava/lang/String;)V"⟩ ∈ xB := xB_of (i := 331) (by decide +kernel) rfl
set_option maxRecDepth 100000 in
theorem xw_332 : Cond.code ⟨"java/lang/IndexOutOfBoundsException", "<init>", "(Ljava/lang/String;)V"⟩ prog_15_method_2_code 2 none ∈ xB := xB_of (i := 332) (by rfl) rfl
theorem xw_333 : Cond.methodLink "java/lang/IndexOutOfBoundsException" 7 ⟨"java/lang/RuntimeException", "<init>", "(Ljava/lang/String;)V"⟩ ∈ xB := xB_of (i := 333) (by decide +kernel) rfl
theorem xw_344 : Cond.selects "java/lang/ArrayIndexOutOfBoundsException" ⟨"java/lang/Throwable", "fillInStackTrace", "(I)Ljava/lang/Throwable;"⟩ ⟨"java/lang/Throwable", "fillInStackTrace", "(I)Ljava/lang/Throwable;"⟩ ∈ xB := xB_of (i := 344) (by decide +kernel) rfl
theorem xw_345 : Cond.instantiable RJ0 4 ∈ xB := xB_of (i := 345) (by decide +kernel) rfl
theorem xw_350 : Cond.methodLink RL 17 yX5_setOpen ∈ xB := xB_of (i := 350) (by decide +kernel) rfl
theorem xw_351 : Cond.instanceMethod yX5_setOpen ∈ xB := xB_of (i := 351) (by decide +kernel) rfl
theorem xw_352 : Cond.selects RX5 yX5_setOpen yX5_setOpen ∈ xB := xB_of (i := 352) (by decide +kernel) rfl
set_option maxRecDepth 100000 in
theorem xw_353 : Cond.code yX5_setOpen cX5_setOpen 5 (some .boolean) ∈ xB := xB_of (i := 353) (by rfl) rfl
theorem xw_354 : Cond.methodLink RX5 52 yX5_knownShard ∈ xB := xB_of (i := 354) (by decide +kernel) rfl
theorem xw_356 : Cond.instanceMethod yX5_knownShard ∈ xB := xB_of (i := 356) (by decide +kernel) rfl
set_option maxRecDepth 100000 in
theorem xw_357 : Cond.code yX5_knownShard cX5_knownShard 3 (some (.object "TenantPlacement$Shard")) ∈ xB := xB_of (i := 357) (by rfl) rfl
theorem xw_358 : Cond.methodLink RX5 287 yX5_shardOrNull ∈ xB := xB_of (i := 358) (by decide +kernel) rfl
theorem xw_360 : Cond.instanceMethod yX5_shardOrNull ∈ xB := xB_of (i := 360) (by decide +kernel) rfl
set_option maxRecDepth 100000 in
theorem xw_361 : Cond.code yX5_shardOrNull cX5_shardOrNull 2 (some (.object "TenantPlacement$Shard")) ∈ xB := xB_of (i := 361) (by rfl) rfl
theorem xw_362 : Cond.classLink RX5 277 "java/lang/IndexOutOfBoundsException" ∈ xB := xB_of (i := 362) (by decide +kernel) rfl
theorem xw_363 : Cond.instantiable "java/lang/IndexOutOfBoundsException" 6 ∈ xB := xB_of (i := 363) (by decide +kernel) rfl
theorem xw_365 : Cond.selects "java/lang/IndexOutOfBoundsException" ⟨"java/lang/Throwable", "fillInStackTrace", "(I)Ljava/lang/Throwable;"⟩ ⟨"java/lang/Throwable", "fillInStackTrace", "(I)Ljava/lang/Throwable;"⟩ ∈ xB := xB_of (i := 365) (by decide +kernel) rfl
theorem xw_372 : Cond.methodLink RX5 281 ⟨"java/lang/IndexOutOfBoundsException", "<init>", "(Ljava/lang/String;)V"⟩ ∈ xB := xB_of (i := 372) (by decide +kernel) rfl
theorem xw_375 : Cond.methodLink RL 127 yL_setLimit ∈ xB := xB_of (i := 375) (by decide +kernel) rfl
theorem xw_376 : Cond.static yL_setLimit ∈ xB := xB_of (i := 376) (by decide +kernel) rfl
set_option maxRecDepth 100000 in
theorem xw_377 : Cond.codeWith yL_setLimit cL_setLimit 6 (some .int) [(0, 12, 15, 21), (0, 12, 19, 13)] ∈ xB := xB_of (i := 377) (by rfl) rfl
theorem xw_378 : Cond.methodLink RL 23 yX5_setLimit ∈ xB := xB_of (i := 378) (by decide +kernel) rfl
theorem xw_379 : Cond.instanceMethod yX5_setLimit ∈ xB := xB_of (i := 379) (by decide +kernel) rfl
theorem xw_380 : Cond.selects RX5 yX5_setLimit yX5_setLimit ∈ xB := xB_of (i := 380) (by decide +kernel) rfl
set_option maxRecDepth 100000 in
theorem xw_381 : Cond.code yX5_setLimit cX5_setLimit 6 (some .int) ∈ xB := xB_of (i := 381) (by rfl) rfl
theorem xw_382 : Cond.methodLink RX5 60 yX5_requireMeasure ∈ xB := xB_of (i := 382) (by decide +kernel) rfl
theorem xw_383 : Cond.static yX5_requireMeasure ∈ xB := xB_of (i := 383) (by decide +kernel) rfl
set_option maxRecDepth 100000 in
theorem xw_384 : Cond.code yX5_requireMeasure cX5_requireMeasure 1 none ∈ xB := xB_of (i := 384) (by rfl) rfl
theorem xw_386 : Cond.methodLink RX5 68 yX0_of ∈ xB := xB_of (i := 386) (by decide +kernel) rfl
theorem xw_387 : Cond.instanceMethod yX0_of ∈ xB := xB_of (i := 387) (by decide +kernel) rfl
theorem xw_388 : Cond.selects RX0 yX0_of yX0_of ∈ xB := xB_of (i := 388) (by decide +kernel) rfl
set_option maxRecDepth 100000 in
theorem xw_389 : Cond.code yX0_of cX0_of 2 (some .int) ∈ xB := xB_of (i := 389) (by rfl) rfl
theorem xw_390 : Cond.methodLink RX5 74 yX0_put ∈ xB := xB_of (i := 390) (by decide +kernel) rfl
theorem xw_391 : Cond.instanceMethod yX0_put ∈ xB := xB_of (i := 391) (by decide +kernel) rfl
theorem xw_392 : Cond.selects RX0 yX0_put yX0_put ∈ xB := xB_of (i := 392) (by decide +kernel) rfl
set_option maxRecDepth 100000 in
theorem xw_393 : Cond.code yX0_put cX0_put 3 none ∈ xB := xB_of (i := 393) (by rfl) rfl
theorem xw_394 : Cond.methodLink RL 130 yL_addTenant ∈ xB := xB_of (i := 394) (by decide +kernel) rfl
theorem xw_395 : Cond.static yL_addTenant ∈ xB := xB_of (i := 395) (by decide +kernel) rfl
set_option maxRecDepth 100000 in
theorem xw_396 : Cond.codeWith yL_addTenant cL_addTenant 8 (some .int) [(0, 16, 19, 21), (0, 16, 23, 13), (0, 16, 27, 30), (0, 16, 31, 15)] ∈ xB := xB_of (i := 396) (by rfl) rfl
theorem xw_397 : Cond.classLink RL 30 "java/lang/UnsupportedOperationException" ∈ xB := xB_of (i := 397) (by decide +kernel) rfl
theorem xw_398 : Cond.methodLink RL 26 yX5_addTenant ∈ xB := xB_of (i := 398) (by decide +kernel) rfl
theorem xw_399 : Cond.instanceMethod yX5_addTenant ∈ xB := xB_of (i := 399) (by decide +kernel) rfl
theorem xw_400 : Cond.selects RX5 yX5_addTenant yX5_addTenant ∈ xB := xB_of (i := 400) (by decide +kernel) rfl
set_option maxRecDepth 100000 in
theorem xw_401 : Cond.code yX5_addTenant cX5_addTenant 9 (some .int) ∈ xB := xB_of (i := 401) (by rfl) rfl
theorem xw_402 : Cond.methodLink RX5 78 yX3_hasRoom ∈ xB := xB_of (i := 402) (by decide +kernel) rfl
theorem xw_403 : Cond.instanceMethod yX3_hasRoom ∈ xB := xB_of (i := 403) (by decide +kernel) rfl
theorem xw_404 : Cond.selects RX3 yX3_hasRoom yX3_hasRoom ∈ xB := xB_of (i := 404) (by decide +kernel) rfl
set_option maxRecDepth 100000 in
theorem xw_405 : Cond.code yX3_hasRoom cX3_hasRoom 4 (some .boolean) ∈ xB := xB_of (i := 405) (by rfl) rfl
theorem xw_406 : Cond.classLink RX5 82 "java/lang/UnsupportedOperationException" ∈ xB := xB_of (i := 406) (by decide +kernel) rfl
theorem xw_407 : Cond.instantiable "java/lang/UnsupportedOperationException" 6 ∈ xB := xB_of (i := 407) (by decide +kernel) rfl
theorem xw_409 : Cond.selects "java/lang/UnsupportedOperationException" ⟨"java/lang/Throwable", "fillInStackTrace", "(I)Ljava/lang/Throwable;"⟩ ⟨"java/lang/Throwable", "fillInStackTrace", "(I)Ljava/lang/Throwable;"⟩ ∈ xB := xB_of (i := 409) (by decide +kernel) rfl
theorem xw_416 : Cond.methodLink RX5 86 ⟨"java/lang/UnsupportedOperationException", "<init>", "(Ljava/lang/String;)V"⟩ ∈ xB := xB_of (i := 416) (by decide +kernel) rfl
theorem xw_417 : Cond.instanceMethod ⟨"java/lang/UnsupportedOperationException", "<init>", "(Ljava/lang/String;)V"⟩ ∈ xB := xB_of (i := 417) (by decide +kernel) rfl
set_option maxRecDepth 100000 in
theorem xw_418 : Cond.code ⟨"java/lang/UnsupportedOperationException", "<init>", "(Ljava/lang/String;)V"⟩ prog_20_method_2_code 2 none ∈ xB := xB_of (i := 418) (by rfl) rfl
theorem xw_419 : Cond.methodLink "java/lang/UnsupportedOperationException" 7 ⟨"java/lang/RuntimeException", "<init>", "(Ljava/lang/String;)V"⟩ ∈ xB := xB_of (i := 419) (by decide +kernel) rfl
theorem xw_422 : Cond.methodLink RX5 87 yX5_tenants ∈ xB := xB_of (i := 422) (by decide +kernel) rfl
theorem xw_424 : Cond.instantiable RX4 8 ∈ xB := xB_of (i := 424) (by decide +kernel) rfl
theorem xw_425 : Cond.methodLink RX5 92 yX4_init ∈ xB := xB_of (i := 425) (by decide +kernel) rfl
theorem xw_426 : Cond.instanceMethod yX4_init ∈ xB := xB_of (i := 426) (by decide +kernel) rfl
set_option maxRecDepth 100000 in
theorem xw_427 : Cond.code yX4_init cX4_init 6 none ∈ xB := xB_of (i := 427) (by rfl) rfl
theorem xw_428 : Cond.methodLink RX4 3 ⟨"java/lang/Object", "<init>", "()V"⟩ ∈ xB := xB_of (i := 428) (by decide +kernel) rfl
theorem xw_429 : Cond.classLink RX4 18 RX0 ∈ xB := xB_of (i := 429) (by decide +kernel) rfl
theorem xw_430 : Cond.methodLink RX4 20 yX0_init ∈ xB := xB_of (i := 430) (by decide +kernel) rfl
theorem xw_431 : Cond.classLink RX4 27 RX1 ∈ xB := xB_of (i := 431) (by decide +kernel) rfl
theorem xw_432 : Cond.methodLink RX4 29 yX1_init ∈ xB := xB_of (i := 432) (by decide +kernel) rfl
theorem xw_433 : Cond.fieldLink RX4 23 RX4 "sizes" "LTenantPlacement$Amounts;" ∈ xB := xB_of (i := 433) (by decide +kernel) rfl
theorem xw_436 : Cond.fieldLink RX4 15 RX4 "growth" "I" ∈ xB := xB_of (i := 436) (by decide +kernel) rfl
theorem xw_438 : Cond.fieldLink RX4 30 RX4 "move" "LTenantPlacement$Move;" ∈ xB := xB_of (i := 438) (by decide +kernel) rfl
theorem xw_440 : Cond.fieldLink RX4 9 RX4 "server" "I" ∈ xB := xB_of (i := 440) (by decide +kernel) rfl
theorem xw_443 : Cond.fieldLink RX4 58 RX4 "windowFirst" "I" ∈ xB := xB_of (i := 443) (by decide +kernel) rfl
theorem xw_445 : Cond.fieldLink RX4 55 RX4 "windowEnd" "I" ∈ xB := xB_of (i := 445) (by decide +kernel) rfl
theorem xw_447 : Cond.fieldLink RX4 34 RX4 "apartFrom" "I" ∈ xB := xB_of (i := 447) (by decide +kernel) rfl
theorem xw_469 : Cond.methodLink RX5 95 yX5_countUse ∈ xB := xB_of (i := 469) (by decide +kernel) rfl
theorem xw_471 : Cond.instanceMethod yX5_countUse ∈ xB := xB_of (i := 471) (by decide +kernel) rfl
set_option maxRecDepth 100000 in
theorem xw_472 : Cond.code yX5_countUse cX5_countUse 7 none ∈ xB := xB_of (i := 472) (by rfl) rfl
theorem xw_473 : Cond.methodLink RX5 236 yX4_useOn ∈ xB := xB_of (i := 473) (by decide +kernel) rfl
theorem xw_474 : Cond.instanceMethod yX4_useOn ∈ xB := xB_of (i := 474) (by decide +kernel) rfl
theorem xw_475 : Cond.selects RX4 yX4_useOn yX4_useOn ∈ xB := xB_of (i := 475) (by decide +kernel) rfl
set_option maxRecDepth 100000 in
theorem xw_476 : Cond.code yX4_useOn cX4_useOn 4 (some .int) ∈ xB := xB_of (i := 476) (by rfl) rfl
theorem xw_477 : Cond.methodLink RX4 44 yX4_isPresentOn ∈ xB := xB_of (i := 477) (by decide +kernel) rfl
theorem xw_478 : Cond.instanceMethod yX4_isPresentOn ∈ xB := xB_of (i := 478) (by decide +kernel) rfl
theorem xw_479 : Cond.selects RX4 yX4_isPresentOn yX4_isPresentOn ∈ xB := xB_of (i := 479) (by decide +kernel) rfl
set_option maxRecDepth 100000 in
theorem xw_480 : Cond.code yX4_isPresentOn cX4_isPresentOn 2 (some .boolean) ∈ xB := xB_of (i := 480) (by rfl) rfl
theorem xw_481 : Cond.methodLink RX4 37 yX1_isBeforeCutting ∈ xB := xB_of (i := 481) (by decide +kernel) rfl
theorem xw_482 : Cond.instanceMethod yX1_isBeforeCutting ∈ xB := xB_of (i := 482) (by decide +kernel) rfl
theorem xw_483 : Cond.selects RX1 yX1_isBeforeCutting yX1_isBeforeCutting ∈ xB := xB_of (i := 483) (by decide +kernel) rfl
set_option maxRecDepth 100000 in
theorem xw_484 : Cond.code yX1_isBeforeCutting cX1_isBeforeCutting 1 (some .boolean) ∈ xB := xB_of (i := 484) (by rfl) rfl
theorem xw_485 : Cond.methodLink RX4 48 yX1_isCleaning ∈ xB := xB_of (i := 485) (by decide +kernel) rfl
theorem xw_486 : Cond.instanceMethod yX1_isCleaning ∈ xB := xB_of (i := 486) (by decide +kernel) rfl
theorem xw_487 : Cond.selects RX1 yX1_isCleaning yX1_isCleaning ∈ xB := xB_of (i := 487) (by decide +kernel) rfl
set_option maxRecDepth 100000 in
theorem xw_488 : Cond.code yX1_isCleaning cX1_isCleaning 2 (some .boolean) ∈ xB := xB_of (i := 488) (by rfl) rfl
theorem xw_489 : Cond.methodLink RX4 51 yX0_of ∈ xB := xB_of (i := 489) (by decide +kernel) rfl
theorem xw_490 : Cond.methodLink RL 134 yL_setSize ∈ xB := xB_of (i := 490) (by decide +kernel) rfl
theorem xw_491 : Cond.static yL_setSize ∈ xB := xB_of (i := 491) (by decide +kernel) rfl
set_option maxRecDepth 100000 in
theorem xw_492 : Cond.codeWith yL_setSize cL_setSize 6 (some .int) [(0, 12, 15, 21), (0, 12, 19, 13)] ∈ xB := xB_of (i := 492) (by rfl) rfl
theorem xw_493 : Cond.methodLink RL 32 yX5_setSize ∈ xB := xB_of (i := 493) (by decide +kernel) rfl
theorem xw_494 : Cond.instanceMethod yX5_setSize ∈ xB := xB_of (i := 494) (by decide +kernel) rfl
theorem xw_495 : Cond.selects RX5 yX5_setSize yX5_setSize ∈ xB := xB_of (i := 495) (by decide +kernel) rfl
set_option maxRecDepth 100000 in
theorem xw_496 : Cond.code yX5_setSize cX5_setSize 6 (some .int) ∈ xB := xB_of (i := 496) (by rfl) rfl
theorem xw_497 : Cond.methodLink RX5 99 yX5_knownTenant ∈ xB := xB_of (i := 497) (by decide +kernel) rfl
theorem xw_499 : Cond.instanceMethod yX5_knownTenant ∈ xB := xB_of (i := 499) (by decide +kernel) rfl
set_option maxRecDepth 100000 in
theorem xw_500 : Cond.code yX5_knownTenant cX5_knownTenant 3 (some (.object "TenantPlacement$Tenant")) ∈ xB := xB_of (i := 500) (by rfl) rfl
theorem xw_502 : Cond.methodLink RL 137 yL_setWindow ∈ xB := xB_of (i := 502) (by decide +kernel) rfl
theorem xw_503 : Cond.static yL_setWindow ∈ xB := xB_of (i := 503) (by decide +kernel) rfl
set_option maxRecDepth 100000 in
theorem xw_504 : Cond.codeWith yL_setWindow cL_setWindow 6 (some .int) [(0, 12, 15, 21), (0, 12, 19, 13)] ∈ xB := xB_of (i := 504) (by rfl) rfl
theorem xw_505 : Cond.methodLink RL 35 yX5_setWindow ∈ xB := xB_of (i := 505) (by decide +kernel) rfl
theorem xw_506 : Cond.instanceMethod yX5_setWindow ∈ xB := xB_of (i := 506) (by decide +kernel) rfl
theorem xw_507 : Cond.selects RX5 yX5_setWindow yX5_setWindow ∈ xB := xB_of (i := 507) (by decide +kernel) rfl
set_option maxRecDepth 100000 in
theorem xw_508 : Cond.code yX5_setWindow cX5_setWindow 5 (some .int) ∈ xB := xB_of (i := 508) (by rfl) rfl
theorem xw_509 : Cond.methodLink RX5 113 yX4_windowHours ∈ xB := xB_of (i := 509) (by decide +kernel) rfl
theorem xw_510 : Cond.instanceMethod yX4_windowHours ∈ xB := xB_of (i := 510) (by decide +kernel) rfl
theorem xw_511 : Cond.selects RX4 yX4_windowHours yX4_windowHours ∈ xB := xB_of (i := 511) (by decide +kernel) rfl
set_option maxRecDepth 100000 in
theorem xw_512 : Cond.code yX4_windowHours cX4_windowHours 2 (some .int) ∈ xB := xB_of (i := 512) (by rfl) rfl
theorem xw_513 : Cond.methodLink RX4 61 yJ9_floorMod_7cf53 ∈ xB := xB_of (i := 513) (by decide +kernel) rfl
theorem xw_514 : Cond.static yJ9_floorMod_7cf53 ∈ xB := xB_of (i := 514) (by decide +kernel) rfl
set_option maxRecDepth 100000 in
theorem xw_515 : Cond.code yJ9_floorMod_7cf53 cJ9_floorMod_7cf53 3 (some .int) ∈ xB := xB_of (i := 515) (by rfl) rfl
theorem xw_516 : Cond.methodLink RL 140 yL_keepApart ∈ xB := xB_of (i := 516) (by decide +kernel) rfl
theorem xw_517 : Cond.static yL_keepApart ∈ xB := xB_of (i := 517) (by decide +kernel) rfl
set_option maxRecDepth 100000 in
theorem xw_518 : Cond.codeWith yL_keepApart cL_keepApart 5 (some .int) [(0, 10, 13, 21), (0, 10, 17, 13), (0, 10, 21, 30), (0, 10, 25, 15)] ∈ xB := xB_of (i := 518) (by rfl) rfl
theorem xw_519 : Cond.methodLink RL 38 yX5_keepApart ∈ xB := xB_of (i := 519) (by decide +kernel) rfl
theorem xw_520 : Cond.instanceMethod yX5_keepApart ∈ xB := xB_of (i := 520) (by decide +kernel) rfl
theorem xw_521 : Cond.selects RX5 yX5_keepApart yX5_keepApart ∈ xB := xB_of (i := 521) (by decide +kernel) rfl
set_option maxRecDepth 100000 in
theorem xw_522 : Cond.code yX5_keepApart cX5_keepApart 5 (some .int) ∈ xB := xB_of (i := 522) (by rfl) rfl
theorem xw_524 : Cond.methodLink RX5 121 yX4_isApartFrom ∈ xB := xB_of (i := 524) (by decide +kernel) rfl
theorem xw_525 : Cond.instanceMethod yX4_isApartFrom ∈ xB := xB_of (i := 525) (by decide +kernel) rfl
theorem xw_526 : Cond.selects RX4 yX4_isApartFrom yX4_isApartFrom ∈ xB := xB_of (i := 526) (by decide +kernel) rfl
set_option maxRecDepth 100000 in
theorem xw_527 : Cond.code yX4_isApartFrom cX4_isApartFrom 2 (some .boolean) ∈ xB := xB_of (i := 527) (by rfl) rfl
theorem xw_530 : Cond.methodLink RL 144 yL_move ∈ xB := xB_of (i := 530) (by decide +kernel) rfl
theorem xw_531 : Cond.static yL_move ∈ xB := xB_of (i := 531) (by decide +kernel) rfl
set_option maxRecDepth 100000 in
theorem xw_532 : Cond.codeWith yL_move cL_move 5 (some .int) [(0, 10, 13, 21), (0, 10, 17, 30), (0, 10, 21, 15)] ∈ xB := xB_of (i := 532) (by rfl) rfl
theorem xw_533 : Cond.methodLink RL 42 yX5_move ∈ xB := xB_of (i := 533) (by decide +kernel) rfl
theorem xw_534 : Cond.instanceMethod yX5_move ∈ xB := xB_of (i := 534) (by decide +kernel) rfl
theorem xw_535 : Cond.selects RX5 yX5_move yX5_move ∈ xB := xB_of (i := 535) (by decide +kernel) rfl
set_option maxRecDepth 100000 in
theorem xw_536 : Cond.code yX5_move cX5_move 5 (some .int) ∈ xB := xB_of (i := 536) (by rfl) rfl
theorem xw_537 : Cond.methodLink RX5 135 yX5_reason ∈ xB := xB_of (i := 537) (by decide +kernel) rfl
theorem xw_538 : Cond.instanceMethod yX5_reason ∈ xB := xB_of (i := 538) (by decide +kernel) rfl
theorem xw_539 : Cond.selects RX5 yX5_reason yX5_reason ∈ xB := xB_of (i := 539) (by decide +kernel) rfl
set_option maxRecDepth 100000 in
theorem xw_540 : Cond.code yX5_reason cX5_reason 6 (some .char) ∈ xB := xB_of (i := 540) (by rfl) rfl
theorem xw_541 : Cond.methodLink RX5 159 yX5_isBarred ∈ xB := xB_of (i := 541) (by decide +kernel) rfl
theorem xw_543 : Cond.instanceMethod yX5_isBarred ∈ xB := xB_of (i := 543) (by decide +kernel) rfl
set_option maxRecDepth 100000 in
theorem xw_544 : Cond.code yX5_isBarred cX5_isBarred 5 (some .boolean) ∈ xB := xB_of (i := 544) (by rfl) rfl
theorem xw_545 : Cond.methodLink RX5 299 yX4_isPresentOn ∈ xB := xB_of (i := 545) (by decide +kernel) rfl
theorem xw_547 : Cond.methodLink RX5 141 yX5_moves ∈ xB := xB_of (i := 547) (by decide +kernel) rfl
theorem xw_549 : Cond.methodLink RX5 152 yX1_begin ∈ xB := xB_of (i := 549) (by decide +kernel) rfl
theorem xw_550 : Cond.instanceMethod yX1_begin ∈ xB := xB_of (i := 550) (by decide +kernel) rfl
theorem xw_551 : Cond.selects RX1 yX1_begin yX1_begin ∈ xB := xB_of (i := 551) (by decide +kernel) rfl
set_option maxRecDepth 100000 in
theorem xw_552 : Cond.code yX1_begin cX1_begin 4 none ∈ xB := xB_of (i := 552) (by rfl) rfl
theorem xw_553 : Cond.methodLink RL 147 yL_reason ∈ xB := xB_of (i := 553) (by decide +kernel) rfl
theorem xw_554 : Cond.static yL_reason ∈ xB := xB_of (i := 554) (by decide +kernel) rfl
set_option maxRecDepth 100000 in
theorem xw_555 : Cond.codeWith yL_reason cL_reason 5 (some .int) [(0, 10, 13, 21)] ∈ xB := xB_of (i := 555) (by rfl) rfl
theorem xw_556 : Cond.methodLink RL 45 yX5_reason ∈ xB := xB_of (i := 556) (by decide +kernel) rfl
theorem xw_557 : Cond.methodLink RL 150 yL_fail ∈ xB := xB_of (i := 557) (by decide +kernel) rfl
theorem xw_558 : Cond.static yL_fail ∈ xB := xB_of (i := 558) (by decide +kernel) rfl
set_option maxRecDepth 100000 in
theorem xw_559 : Cond.codeWith yL_fail cL_fail 4 (some .int) [(0, 9, 12, 21), (0, 9, 15, 15)] ∈ xB := xB_of (i := 559) (by rfl) rfl
theorem xw_560 : Cond.methodLink RL 49 yX5_fail ∈ xB := xB_of (i := 560) (by decide +kernel) rfl
theorem xw_561 : Cond.instanceMethod yX5_fail ∈ xB := xB_of (i := 561) (by decide +kernel) rfl
theorem xw_562 : Cond.selects RX5 yX5_fail yX5_fail ∈ xB := xB_of (i := 562) (by decide +kernel) rfl
set_option maxRecDepth 100000 in
theorem xw_563 : Cond.code yX5_fail cX5_fail 3 (some .char) ∈ xB := xB_of (i := 563) (by rfl) rfl
theorem xw_565 : Cond.methodLink RX5 174 yX1_isBeforeCutting ∈ xB := xB_of (i := 565) (by decide +kernel) rfl
theorem xw_566 : Cond.methodLink RX5 177 yX1_end ∈ xB := xB_of (i := 566) (by decide +kernel) rfl
theorem xw_567 : Cond.instanceMethod yX1_end ∈ xB := xB_of (i := 567) (by decide +kernel) rfl
theorem xw_568 : Cond.selects RX1 yX1_end yX1_end ∈ xB := xB_of (i := 568) (by decide +kernel) rfl
set_option maxRecDepth 100000 in
theorem xw_569 : Cond.code yX1_end cX1_end 1 none ∈ xB := xB_of (i := 569) (by rfl) rfl
theorem xw_570 : Cond.methodLink RX5 180 yX5_canGoBack ∈ xB := xB_of (i := 570) (by decide +kernel) rfl
theorem xw_572 : Cond.instanceMethod yX5_canGoBack ∈ xB := xB_of (i := 572) (by decide +kernel) rfl
set_option maxRecDepth 100000 in
theorem xw_573 : Cond.code yX5_canGoBack cX5_canGoBack 3 (some .boolean) ∈ xB := xB_of (i := 573) (by rfl) rfl
theorem xw_574 : Cond.methodLink RX5 305 yX3_hasRoomBesidesStorage ∈ xB := xB_of (i := 574) (by decide +kernel) rfl
theorem xw_575 : Cond.instanceMethod yX3_hasRoomBesidesStorage ∈ xB := xB_of (i := 575) (by decide +kernel) rfl
theorem xw_576 : Cond.selects RX3 yX3_hasRoomBesidesStorage yX3_hasRoomBesidesStorage ∈ xB := xB_of (i := 576) (by decide +kernel) rfl
set_option maxRecDepth 100000 in
theorem xw_577 : Cond.code yX3_hasRoomBesidesStorage cX3_hasRoomBesidesStorage 2 (some .boolean) ∈ xB := xB_of (i := 577) (by rfl) rfl
theorem xw_578 : Cond.methodLink RX5 184 yX5_goBack ∈ xB := xB_of (i := 578) (by decide +kernel) rfl
theorem xw_580 : Cond.instanceMethod yX5_goBack ∈ xB := xB_of (i := 580) (by decide +kernel) rfl
set_option maxRecDepth 100000 in
theorem xw_581 : Cond.code yX5_goBack cX5_goBack 2 none ∈ xB := xB_of (i := 581) (by rfl) rfl
theorem xw_582 : Cond.methodLink RX5 309 yX1_turnRound ∈ xB := xB_of (i := 582) (by decide +kernel) rfl
theorem xw_583 : Cond.instanceMethod yX1_turnRound ∈ xB := xB_of (i := 583) (by decide +kernel) rfl
theorem xw_584 : Cond.selects RX1 yX1_turnRound yX1_turnRound ∈ xB := xB_of (i := 584) (by decide +kernel) rfl
set_option maxRecDepth 100000 in
theorem xw_585 : Cond.code yX1_turnRound cX1_turnRound 2 none ∈ xB := xB_of (i := 585) (by rfl) rfl
theorem xw_586 : Cond.methodLink RX1 25 yX1_cleanAnew ∈ xB := xB_of (i := 586) (by decide +kernel) rfl
theorem xw_587 : Cond.instanceMethod yX1_cleanAnew ∈ xB := xB_of (i := 587) (by decide +kernel) rfl
theorem xw_588 : Cond.selects RX1 yX1_cleanAnew yX1_cleanAnew ∈ xB := xB_of (i := 588) (by decide +kernel) rfl
set_option maxRecDepth 100000 in
theorem xw_589 : Cond.code yX1_cleanAnew cX1_cleanAnew 1 none ∈ xB := xB_of (i := 589) (by rfl) rfl
theorem xw_590 : Cond.methodLink RX5 188 yX1_cleanAnew ∈ xB := xB_of (i := 590) (by decide +kernel) rfl
theorem xw_591 : Cond.methodLink RL 154 yL_pass ∈ xB := xB_of (i := 591) (by decide +kernel) rfl
theorem xw_592 : Cond.static yL_pass ∈ xB := xB_of (i := 592) (by decide +kernel) rfl
set_option maxRecDepth 100000 in
theorem xw_593 : Cond.codeWith yL_pass cL_pass 4 (some .int) [(0, 9, 12, 13)] ∈ xB := xB_of (i := 593) (by rfl) rfl
theorem xw_594 : Cond.methodLink RL 53 yX5_pass ∈ xB := xB_of (i := 594) (by decide +kernel) rfl
theorem xw_595 : Cond.instanceMethod yX5_pass ∈ xB := xB_of (i := 595) (by decide +kernel) rfl
theorem xw_596 : Cond.selects RX5 yX5_pass yX5_pass ∈ xB := xB_of (i := 596) (by decide +kernel) rfl
set_option maxRecDepth 100000 in
theorem xw_597 : Cond.code yX5_pass cX5_pass 4 (some .int) ∈ xB := xB_of (i := 597) (by rfl) rfl
theorem xw_598 : Cond.methodLink RX5 191 yX5_noteHoursOver ∈ xB := xB_of (i := 598) (by decide +kernel) rfl
theorem xw_600 : Cond.instanceMethod yX5_noteHoursOver ∈ xB := xB_of (i := 600) (by decide +kernel) rfl
set_option maxRecDepth 100000 in
theorem xw_601 : Cond.code yX5_noteHoursOver cX5_noteHoursOver 6 none ∈ xB := xB_of (i := 601) (by rfl) rfl
theorem xw_602 : Cond.methodLink RX5 240 yX3_usesTooMuch ∈ xB := xB_of (i := 602) (by decide +kernel) rfl
theorem xw_603 : Cond.instanceMethod yX3_usesTooMuch ∈ xB := xB_of (i := 603) (by decide +kernel) rfl
theorem xw_604 : Cond.selects RX3 yX3_usesTooMuch yX3_usesTooMuch ∈ xB := xB_of (i := 604) (by decide +kernel) rfl
set_option maxRecDepth 100000 in
theorem xw_605 : Cond.code yX3_usesTooMuch cX3_usesTooMuch 1 (some .boolean) ∈ xB := xB_of (i := 605) (by rfl) rfl
theorem xw_606 : Cond.methodLink RX5 194 yX5_goOnWithMoves ∈ xB := xB_of (i := 606) (by decide +kernel) rfl
theorem xw_608 : Cond.instanceMethod yX5_goOnWithMoves ∈ xB := xB_of (i := 608) (by decide +kernel) rfl
set_option maxRecDepth 100000 in
theorem xw_609 : Cond.code yX5_goOnWithMoves cX5_goOnWithMoves 6 (some .int) ∈ xB := xB_of (i := 609) (by rfl) rfl
theorem xw_610 : Cond.methodLink RX5 312 yX5_goOn ∈ xB := xB_of (i := 610) (by decide +kernel) rfl
theorem xw_612 : Cond.instanceMethod yX5_goOn ∈ xB := xB_of (i := 612) (by decide +kernel) rfl
set_option maxRecDepth 100000 in
theorem xw_613 : Cond.code yX5_goOn cX5_goOn 3 (some .boolean) ∈ xB := xB_of (i := 613) (by rfl) rfl
theorem xw_614 : Cond.methodLink RX5 200 yX5_hourOfDay ∈ xB := xB_of (i := 614) (by decide +kernel) rfl
theorem xw_615 : Cond.static yX5_hourOfDay ∈ xB := xB_of (i := 615) (by decide +kernel) rfl
set_option maxRecDepth 100000 in
theorem xw_616 : Cond.code yX5_hourOfDay cX5_hourOfDay 1 (some .int) ∈ xB := xB_of (i := 616) (by rfl) rfl
theorem xw_617 : Cond.methodLink RX5 294 yJ9_floorMod_7cf53 ∈ xB := xB_of (i := 617) (by decide +kernel) rfl
theorem xw_618 : Cond.methodLink RX5 226 yX4_isInWindow ∈ xB := xB_of (i := 618) (by decide +kernel) rfl
theorem xw_619 : Cond.instanceMethod yX4_isInWindow ∈ xB := xB_of (i := 619) (by decide +kernel) rfl
theorem xw_620 : Cond.selects RX4 yX4_isInWindow yX4_isInWindow ∈ xB := xB_of (i := 620) (by decide +kernel) rfl
set_option maxRecDepth 100000 in
theorem xw_621 : Cond.code yX4_isInWindow cX4_isInWindow 2 (some .boolean) ∈ xB := xB_of (i := 621) (by rfl) rfl
theorem xw_622 : Cond.methodLink RX4 67 yX4_windowHours ∈ xB := xB_of (i := 622) (by decide +kernel) rfl
theorem xw_623 : Cond.methodLink RX5 229 yX1_goOn ∈ xB := xB_of (i := 623) (by decide +kernel) rfl
theorem xw_624 : Cond.instanceMethod yX1_goOn ∈ xB := xB_of (i := 624) (by decide +kernel) rfl
theorem xw_625 : Cond.selects RX1 yX1_goOn yX1_goOn ∈ xB := xB_of (i := 625) (by decide +kernel) rfl
set_option maxRecDepth 100000 in
theorem xw_626 : Cond.code yX1_goOn cX1_goOn 2 (some .boolean) ∈ xB := xB_of (i := 626) (by rfl) rfl
theorem xw_627 : Cond.methodLink RX5 203 yX5_growStorage ∈ xB := xB_of (i := 627) (by decide +kernel) rfl
theorem xw_629 : Cond.instanceMethod yX5_growStorage ∈ xB := xB_of (i := 629) (by decide +kernel) rfl
set_option maxRecDepth 100000 in
theorem xw_630 : Cond.code yX5_growStorage cX5_growStorage 6 none ∈ xB := xB_of (i := 630) (by rfl) rfl
theorem xw_631 : Cond.methodLink RX5 317 yJ9_min_7cf53 ∈ xB := xB_of (i := 631) (by decide +kernel) rfl
theorem xw_632 : Cond.methodLink RL 161 yL_phase ∈ xB := xB_of (i := 632) (by decide +kernel) rfl
theorem xw_633 : Cond.static yL_phase ∈ xB := xB_of (i := 633) (by decide +kernel) rfl
set_option maxRecDepth 100000 in
theorem xw_634 : Cond.codeWith yL_phase cL_phase 4 (some .int) [(0, 9, 12, 21)] ∈ xB := xB_of (i := 634) (by rfl) rfl
theorem xw_635 : Cond.methodLink RL 57 yX5_phase ∈ xB := xB_of (i := 635) (by decide +kernel) rfl
theorem xw_636 : Cond.instanceMethod yX5_phase ∈ xB := xB_of (i := 636) (by decide +kernel) rfl
theorem xw_637 : Cond.selects RX5 yX5_phase yX5_phase ∈ xB := xB_of (i := 637) (by decide +kernel) rfl
set_option maxRecDepth 100000 in
theorem xw_638 : Cond.code yX5_phase cX5_phase 2 (some .char) ∈ xB := xB_of (i := 638) (by rfl) rfl
theorem xw_639 : Cond.methodLink RL 164 yL_targetOf ∈ xB := xB_of (i := 639) (by decide +kernel) rfl
theorem xw_640 : Cond.static yL_targetOf ∈ xB := xB_of (i := 640) (by decide +kernel) rfl
set_option maxRecDepth 100000 in
theorem xw_641 : Cond.codeWith yL_targetOf cL_targetOf 4 (some .int) [(0, 9, 12, 21), (0, 9, 15, 63)] ∈ xB := xB_of (i := 641) (by rfl) rfl
theorem xw_642 : Cond.classLink RL 63 "java/util/NoSuchElementException" ∈ xB := xB_of (i := 642) (by decide +kernel) rfl
theorem xw_643 : Cond.methodLink RL 60 yX5_targetOf ∈ xB := xB_of (i := 643) (by decide +kernel) rfl
theorem xw_644 : Cond.instanceMethod yX5_targetOf ∈ xB := xB_of (i := 644) (by decide +kernel) rfl
theorem xw_645 : Cond.selects RX5 yX5_targetOf yX5_targetOf ∈ xB := xB_of (i := 645) (by decide +kernel) rfl
set_option maxRecDepth 100000 in
theorem xw_646 : Cond.code yX5_targetOf cX5_targetOf 2 (some .int) ∈ xB := xB_of (i := 646) (by rfl) rfl
theorem xw_647 : Cond.methodLink RX5 210 yX5_movingTenant ∈ xB := xB_of (i := 647) (by decide +kernel) rfl
theorem xw_649 : Cond.instanceMethod yX5_movingTenant ∈ xB := xB_of (i := 649) (by decide +kernel) rfl
set_option maxRecDepth 100000 in
theorem xw_650 : Cond.code yX5_movingTenant cX5_movingTenant 3 (some (.object "TenantPlacement$Tenant")) ∈ xB := xB_of (i := 650) (by rfl) rfl
theorem xw_651 : Cond.classLink RX5 282 "java/util/NoSuchElementException" ∈ xB := xB_of (i := 651) (by decide +kernel) rfl
theorem xw_652 : Cond.instantiable "java/util/NoSuchElementException" 6 ∈ xB := xB_of (i := 652) (by decide +kernel) rfl
theorem xw_654 : Cond.selects "java/util/NoSuchElementException" ⟨"java/lang/Throwable", "fillInStackTrace", "(I)Ljava/lang/Throwable;"⟩ ⟨"java/lang/Throwable", "fillInStackTrace", "(I)Ljava/lang/Throwable;"⟩ ∈ xB := xB_of (i := 654) (by decide +kernel) rfl
theorem xw_660 : Cond.methodLink RX5 286 ⟨"java/util/NoSuchElementException", "<init>", "(Ljava/lang/String;)V"⟩ ∈ xB := xB_of (i := 660) (by decide +kernel) rfl
theorem xw_661 : Cond.instanceMethod ⟨"java/util/NoSuchElementException", "<init>", "(Ljava/lang/String;)V"⟩ ∈ xB := xB_of (i := 661) (by decide +kernel) rfl
set_option maxRecDepth 100000 in
theorem xw_662 : Cond.code ⟨"java/util/NoSuchElementException", "<init>", "(Ljava/lang/String;)V"⟩ prog_21_method_4_code 2 none ∈ xB := xB_of (i := 662) (by rfl) rfl
theorem xw_663 : Cond.methodLink "java/util/NoSuchElementException" 13 ⟨"java/lang/RuntimeException", "<init>", "(Ljava/lang/String;)V"⟩ ∈ xB := xB_of (i := 663) (by decide +kernel) rfl
theorem xw_666 : Cond.methodLink RL 167 yL_hoursLeft ∈ xB := xB_of (i := 666) (by decide +kernel) rfl
theorem xw_667 : Cond.static yL_hoursLeft ∈ xB := xB_of (i := 667) (by decide +kernel) rfl
set_option maxRecDepth 100000 in
theorem xw_668 : Cond.codeWith yL_hoursLeft cL_hoursLeft 4 (some .int) [(0, 9, 12, 21), (0, 9, 15, 63)] ∈ xB := xB_of (i := 668) (by rfl) rfl
theorem xw_669 : Cond.methodLink RL 65 yX5_hoursLeft ∈ xB := xB_of (i := 669) (by decide +kernel) rfl
theorem xw_670 : Cond.instanceMethod yX5_hoursLeft ∈ xB := xB_of (i := 670) (by decide +kernel) rfl
theorem xw_671 : Cond.selects RX5 yX5_hoursLeft yX5_hoursLeft ∈ xB := xB_of (i := 671) (by decide +kernel) rfl
set_option maxRecDepth 100000 in
theorem xw_672 : Cond.code yX5_hoursLeft cX5_hoursLeft 5 (some .int) ∈ xB := xB_of (i := 672) (by rfl) rfl
theorem xw_673 : Cond.methodLink RX5 219 yX4_hoursToWindow ∈ xB := xB_of (i := 673) (by decide +kernel) rfl
theorem xw_674 : Cond.instanceMethod yX4_hoursToWindow ∈ xB := xB_of (i := 674) (by decide +kernel) rfl
theorem xw_675 : Cond.selects RX4 yX4_hoursToWindow yX4_hoursToWindow ∈ xB := xB_of (i := 675) (by decide +kernel) rfl
set_option maxRecDepth 100000 in
theorem xw_676 : Cond.code yX4_hoursToWindow cX4_hoursToWindow 2 (some .int) ∈ xB := xB_of (i := 676) (by rfl) rfl
theorem xw_677 : Cond.methodLink RX4 71 yX4_isInWindow ∈ xB := xB_of (i := 677) (by decide +kernel) rfl
theorem xw_678 : Cond.methodLink RL 170 yL_hoursByPassing ∈ xB := xB_of (i := 678) (by decide +kernel) rfl
theorem xw_679 : Cond.static yL_hoursByPassing ∈ xB := xB_of (i := 679) (by decide +kernel) rfl
set_option maxRecDepth 100000 in
theorem xw_680 : Cond.codeWith yL_hoursByPassing cL_hoursByPassing 4 (some .int) [(0, 9, 12, 21), (0, 9, 15, 63)] ∈ xB := xB_of (i := 680) (by rfl) rfl
theorem xw_681 : Cond.methodLink RL 68 yX5_hoursByPassing ∈ xB := xB_of (i := 681) (by decide +kernel) rfl
theorem xw_682 : Cond.instanceMethod yX5_hoursByPassing ∈ xB := xB_of (i := 682) (by decide +kernel) rfl
theorem xw_683 : Cond.selects RX5 yX5_hoursByPassing yX5_hoursByPassing ∈ xB := xB_of (i := 683) (by decide +kernel) rfl
set_option maxRecDepth 100000 in
theorem xw_684 : Cond.code yX5_hoursByPassing cX5_hoursByPassing 4 (some .int) ∈ xB := xB_of (i := 684) (by rfl) rfl
theorem xw_685 : Cond.methodLink RX5 222 yX1_copyFrom ∈ xB := xB_of (i := 685) (by decide +kernel) rfl
theorem xw_686 : Cond.instanceMethod yX1_copyFrom ∈ xB := xB_of (i := 686) (by decide +kernel) rfl
theorem xw_687 : Cond.selects RX1 yX1_copyFrom yX1_copyFrom ∈ xB := xB_of (i := 687) (by decide +kernel) rfl
set_option maxRecDepth 100000 in
theorem xw_688 : Cond.code yX1_copyFrom cX1_copyFrom 2 none ∈ xB := xB_of (i := 688) (by rfl) rfl
theorem xw_689 : Cond.methodLink RL 185 yL_servedBy ∈ xB := xB_of (i := 689) (by decide +kernel) rfl
theorem xw_690 : Cond.static yL_servedBy ∈ xB := xB_of (i := 690) (by decide +kernel) rfl
set_option maxRecDepth 100000 in
theorem xw_691 : Cond.codeWith yL_servedBy cL_servedBy 4 (some .int) [(0, 9, 12, 21)] ∈ xB := xB_of (i := 691) (by rfl) rfl
theorem xw_692 : Cond.methodLink RL 71 yX5_servedBy ∈ xB := xB_of (i := 692) (by decide +kernel) rfl
theorem xw_693 : Cond.instanceMethod yX5_servedBy ∈ xB := xB_of (i := 693) (by decide +kernel) rfl
theorem xw_694 : Cond.selects RX5 yX5_servedBy yX5_servedBy ∈ xB := xB_of (i := 694) (by decide +kernel) rfl
set_option maxRecDepth 100000 in
theorem xw_695 : Cond.code yX5_servedBy cX5_servedBy 2 (some .int) ∈ xB := xB_of (i := 695) (by rfl) rfl
theorem xw_696 : Cond.methodLink RL 188 yL_sizeOf ∈ xB := xB_of (i := 696) (by decide +kernel) rfl
theorem xw_697 : Cond.static yL_sizeOf ∈ xB := xB_of (i := 697) (by decide +kernel) rfl
set_option maxRecDepth 100000 in
theorem xw_698 : Cond.codeWith yL_sizeOf cL_sizeOf 5 (some .int) [(0, 10, 13, 21)] ∈ xB := xB_of (i := 698) (by rfl) rfl
theorem xw_699 : Cond.methodLink RL 74 yX5_sizeOf ∈ xB := xB_of (i := 699) (by decide +kernel) rfl
theorem xw_700 : Cond.instanceMethod yX5_sizeOf ∈ xB := xB_of (i := 700) (by decide +kernel) rfl
theorem xw_701 : Cond.selects RX5 yX5_sizeOf yX5_sizeOf ∈ xB := xB_of (i := 701) (by decide +kernel) rfl
set_option maxRecDepth 100000 in
theorem xw_702 : Cond.code yX5_sizeOf cX5_sizeOf 4 (some .int) ∈ xB := xB_of (i := 702) (by rfl) rfl
theorem xw_703 : Cond.methodLink RL 191 yL_used ∈ xB := xB_of (i := 703) (by decide +kernel) rfl
theorem xw_704 : Cond.static yL_used ∈ xB := xB_of (i := 704) (by decide +kernel) rfl
set_option maxRecDepth 100000 in
theorem xw_705 : Cond.codeWith yL_used cL_used 5 (some .int) [(0, 10, 13, 21)] ∈ xB := xB_of (i := 705) (by rfl) rfl
theorem xw_706 : Cond.methodLink RL 77 yX5_used ∈ xB := xB_of (i := 706) (by decide +kernel) rfl
theorem xw_707 : Cond.instanceMethod yX5_used ∈ xB := xB_of (i := 707) (by decide +kernel) rfl
theorem xw_708 : Cond.selects RX5 yX5_used yX5_used ∈ xB := xB_of (i := 708) (by decide +kernel) rfl
set_option maxRecDepth 100000 in
theorem xw_709 : Cond.code yX5_used cX5_used 4 (some .int) ∈ xB := xB_of (i := 709) (by rfl) rfl
theorem xw_710 : Cond.methodLink RL 194 yL_usedByLooking ∈ xB := xB_of (i := 710) (by decide +kernel) rfl
theorem xw_711 : Cond.static yL_usedByLooking ∈ xB := xB_of (i := 711) (by decide +kernel) rfl
set_option maxRecDepth 100000 in
theorem xw_712 : Cond.codeWith yL_usedByLooking cL_usedByLooking 5 (some .int) [(0, 10, 13, 21)] ∈ xB := xB_of (i := 712) (by rfl) rfl
theorem xw_713 : Cond.methodLink RL 80 yX5_usedByLooking ∈ xB := xB_of (i := 713) (by decide +kernel) rfl
theorem xw_714 : Cond.instanceMethod yX5_usedByLooking ∈ xB := xB_of (i := 714) (by decide +kernel) rfl
theorem xw_715 : Cond.selects RX5 yX5_usedByLooking yX5_usedByLooking ∈ xB := xB_of (i := 715) (by decide +kernel) rfl
set_option maxRecDepth 100000 in
theorem xw_716 : Cond.code yX5_usedByLooking cX5_usedByLooking 8 (some .int) ∈ xB := xB_of (i := 716) (by rfl) rfl
theorem xw_717 : Cond.methodLink RL 197 yL_isOver ∈ xB := xB_of (i := 717) (by decide +kernel) rfl
theorem xw_718 : Cond.static yL_isOver ∈ xB := xB_of (i := 718) (by decide +kernel) rfl
set_option maxRecDepth 100000 in
theorem xw_719 : Cond.codeWith yL_isOver cL_isOver 4 (some .int) [(0, 16, 19, 21)] ∈ xB := xB_of (i := 719) (by rfl) rfl
theorem xw_720 : Cond.methodLink RL 83 yX5_isOver ∈ xB := xB_of (i := 720) (by decide +kernel) rfl
theorem xw_721 : Cond.instanceMethod yX5_isOver ∈ xB := xB_of (i := 721) (by decide +kernel) rfl
theorem xw_722 : Cond.selects RX5 yX5_isOver yX5_isOver ∈ xB := xB_of (i := 722) (by decide +kernel) rfl
set_option maxRecDepth 100000 in
theorem xw_723 : Cond.code yX5_isOver cX5_isOver 2 (some .boolean) ∈ xB := xB_of (i := 723) (by rfl) rfl
theorem xw_724 : Cond.methodLink RL 200 yL_served ∈ xB := xB_of (i := 724) (by decide +kernel) rfl
theorem xw_725 : Cond.static yL_served ∈ xB := xB_of (i := 725) (by decide +kernel) rfl
set_option maxRecDepth 100000 in
theorem xw_726 : Cond.codeWith yL_served cL_served 4 (some .int) [(0, 9, 12, 21)] ∈ xB := xB_of (i := 726) (by rfl) rfl
theorem xw_727 : Cond.methodLink RL 87 yX5_served ∈ xB := xB_of (i := 727) (by decide +kernel) rfl
theorem xw_728 : Cond.instanceMethod yX5_served ∈ xB := xB_of (i := 728) (by decide +kernel) rfl
theorem xw_729 : Cond.selects RX5 yX5_served yX5_served ∈ xB := xB_of (i := 729) (by decide +kernel) rfl
set_option maxRecDepth 100000 in
theorem xw_730 : Cond.code yX5_served cX5_served 7 (some .int) ∈ xB := xB_of (i := 730) (by rfl) rfl
theorem xw_731 : Cond.methodLink RL 203 yL_fewestMoves ∈ xB := xB_of (i := 731) (by decide +kernel) rfl
theorem xw_732 : Cond.static yL_fewestMoves ∈ xB := xB_of (i := 732) (by decide +kernel) rfl
set_option maxRecDepth 100000 in
theorem xw_733 : Cond.codeWith yL_fewestMoves cL_fewestMoves 3 (some .int) [(0, 8, 11, 63)] ∈ xB := xB_of (i := 733) (by rfl) rfl
theorem xw_734 : Cond.methodLink RL 90 yX5_fewestMoves ∈ xB := xB_of (i := 734) (by decide +kernel) rfl
theorem xw_735 : Cond.instanceMethod yX5_fewestMoves ∈ xB := xB_of (i := 735) (by decide +kernel) rfl
theorem xw_736 : Cond.selects RX5 yX5_fewestMoves yX5_fewestMoves ∈ xB := xB_of (i := 736) (by decide +kernel) rfl
set_option maxRecDepth 100000 in
theorem xw_737 : Cond.code yX5_fewestMoves cX5_fewestMoves 2 (some .int) ∈ xB := xB_of (i := 737) (by rfl) rfl
theorem xw_738 : Cond.methodLink RX5 243 yX2_findBest ∈ xB := xB_of (i := 738) (by decide +kernel) rfl
theorem xw_739 : Cond.instanceMethod yX2_findBest ∈ xB := xB_of (i := 739) (by decide +kernel) rfl
theorem xw_740 : Cond.selects RX2 yX2_findBest yX2_findBest ∈ xB := xB_of (i := 740) (by decide +kernel) rfl
set_option maxRecDepth 100000 in
theorem xw_741 : Cond.code yX2_findBest cX2_findBest 4 (some .int) ∈ xB := xB_of (i := 741) (by rfl) rfl
theorem xw_742 : Cond.methodLink RX2 26 yX2_findFrom ∈ xB := xB_of (i := 742) (by decide +kernel) rfl
theorem xw_743 : Cond.static yX2_findFrom ∈ xB := xB_of (i := 743) (by decide +kernel) rfl
set_option maxRecDepth 100000 in
theorem xw_744 : Cond.code yX2_findFrom cX2_findFrom 8 (some .boolean) ∈ xB := xB_of (i := 744) (by rfl) rfl
theorem xw_745 : Cond.methodLink RX5 247 yX5_requirePlan ∈ xB := xB_of (i := 745) (by decide +kernel) rfl
theorem xw_746 : Cond.static yX5_requirePlan ∈ xB := xB_of (i := 746) (by decide +kernel) rfl
set_option maxRecDepth 100000 in
theorem xw_747 : Cond.code yX5_requirePlan cX5_requirePlan 1 none ∈ xB := xB_of (i := 747) (by rfl) rfl
theorem xw_749 : Cond.methodLink RL 207 yL_fewestByTrying ∈ xB := xB_of (i := 749) (by decide +kernel) rfl
theorem xw_750 : Cond.static yL_fewestByTrying ∈ xB := xB_of (i := 750) (by decide +kernel) rfl
set_option maxRecDepth 100000 in
theorem xw_751 : Cond.codeWith yL_fewestByTrying cL_fewestByTrying 3 (some .int) [(0, 8, 11, 63)] ∈ xB := xB_of (i := 751) (by rfl) rfl
theorem xw_752 : Cond.methodLink RL 94 yX5_fewestByTrying ∈ xB := xB_of (i := 752) (by decide +kernel) rfl
theorem xw_753 : Cond.instanceMethod yX5_fewestByTrying ∈ xB := xB_of (i := 753) (by decide +kernel) rfl
theorem xw_754 : Cond.selects RX5 yX5_fewestByTrying yX5_fewestByTrying ∈ xB := xB_of (i := 754) (by decide +kernel) rfl
set_option maxRecDepth 100000 in
theorem xw_755 : Cond.code yX5_fewestByTrying cX5_fewestByTrying 1 (some .int) ∈ xB := xB_of (i := 755) (by rfl) rfl
theorem xw_756 : Cond.methodLink RL 210 yL_planned ∈ xB := xB_of (i := 756) (by decide +kernel) rfl
theorem xw_757 : Cond.static yL_planned ∈ xB := xB_of (i := 757) (by decide +kernel) rfl
set_option maxRecDepth 100000 in
theorem xw_758 : Cond.codeWith yL_planned cL_planned 4 (some .int) [(0, 9, 12, 21), (0, 9, 15, 63)] ∈ xB := xB_of (i := 758) (by rfl) rfl
theorem xw_759 : Cond.methodLink RL 97 yX5_planned ∈ xB := xB_of (i := 759) (by decide +kernel) rfl
theorem xw_760 : Cond.instanceMethod yX5_planned ∈ xB := xB_of (i := 760) (by decide +kernel) rfl
theorem xw_761 : Cond.selects RX5 yX5_planned yX5_planned ∈ xB := xB_of (i := 761) (by decide +kernel) rfl
set_option maxRecDepth 100000 in
theorem xw_762 : Cond.code yX5_planned cX5_planned 3 (some .int) ∈ xB := xB_of (i := 762) (by rfl) rfl
theorem xw_763 : Cond.methodLink RL 226 yL_shareOf ∈ xB := xB_of (i := 763) (by decide +kernel) rfl
theorem xw_764 : Cond.static yL_shareOf ∈ xB := xB_of (i := 764) (by decide +kernel) rfl
set_option maxRecDepth 100000 in
theorem xw_765 : Cond.codeWith yL_shareOf cL_shareOf 5 (some .int) [(0, 10, 13, 21)] ∈ xB := xB_of (i := 765) (by rfl) rfl
theorem xw_766 : Cond.methodLink RL 100 yX5_shareOf ∈ xB := xB_of (i := 766) (by decide +kernel) rfl
theorem xw_767 : Cond.instanceMethod yX5_shareOf ∈ xB := xB_of (i := 767) (by decide +kernel) rfl
theorem xw_768 : Cond.selects RX5 yX5_shareOf yX5_shareOf ∈ xB := xB_of (i := 768) (by decide +kernel) rfl
set_option maxRecDepth 100000 in
theorem xw_769 : Cond.code yX5_shareOf cX5_shareOf 5 (some .float) ∈ xB := xB_of (i := 769) (by rfl) rfl
theorem xw_770 : Cond.methodLink RL 230 yL_meanStorage ∈ xB := xB_of (i := 770) (by decide +kernel) rfl
theorem xw_771 : Cond.static yL_meanStorage ∈ xB := xB_of (i := 771) (by decide +kernel) rfl
set_option maxRecDepth 100000 in
theorem xw_772 : Cond.codeWith yL_meanStorage cL_meanStorage 3 (some .int) [(0, 7, 10, 108)] ∈ xB := xB_of (i := 772) (by rfl) rfl
theorem xw_773 : Cond.classLink RL 108 "java/lang/ArithmeticException" ∈ xB := xB_of (i := 773) (by decide +kernel) rfl
theorem xw_774 : Cond.instantiable "java/lang/ArithmeticException" 6 ∈ xB := xB_of (i := 774) (by decide +kernel) rfl
theorem xw_775 : Cond.instanceMethod ⟨"java/lang/ArithmeticException", "<init>", "(Ljava/lang/String;)V"⟩ ∈ xB := xB_of (i := 775) (by decide +kernel) rfl
set_option maxRecDepth 100000 in
theorem xw_776 : Cond.code ⟨"java/lang/ArithmeticException", "<init>", "(Ljava/lang/String;)V"⟩ prog_10_method_2_code 2 none ∈ xB := xB_of (i := 776) (by rfl) rfl
theorem xw_777 : Cond.methodLink "java/lang/ArithmeticException" 7 ⟨"java/lang/RuntimeException", "<init>", "(Ljava/lang/String;)V"⟩ ∈ xB := xB_of (i := 777) (by decide +kernel) rfl
theorem xw_786 : Cond.selects "java/lang/ArithmeticException" ⟨"java/lang/Throwable", "fillInStackTrace", "(I)Ljava/lang/Throwable;"⟩ ⟨"java/lang/Throwable", "fillInStackTrace", "(I)Ljava/lang/Throwable;"⟩ ∈ xB := xB_of (i := 786) (by decide +kernel) rfl
theorem xw_787 : Cond.methodLink RL 104 yX5_meanStorage ∈ xB := xB_of (i := 787) (by decide +kernel) rfl
theorem xw_788 : Cond.instanceMethod yX5_meanStorage ∈ xB := xB_of (i := 788) (by decide +kernel) rfl
theorem xw_789 : Cond.selects RX5 yX5_meanStorage yX5_meanStorage ∈ xB := xB_of (i := 789) (by decide +kernel) rfl
set_option maxRecDepth 100000 in
theorem xw_790 : Cond.code yX5_meanStorage cX5_meanStorage 7 (some .double) ∈ xB := xB_of (i := 790) (by rfl) rfl
theorem xw_791 : Cond.classLink RX5 270 "java/lang/ArithmeticException" ∈ xB := xB_of (i := 791) (by decide +kernel) rfl
theorem xw_793 : Cond.methodLink RX5 274 ⟨"java/lang/ArithmeticException", "<init>", "(Ljava/lang/String;)V"⟩ ∈ xB := xB_of (i := 793) (by decide +kernel) rfl
theorem xw_794 : Cond.classLink RL 111 RX6 ∈ xB := xB_of (i := 794) (by decide +kernel) rfl
theorem xw_795 : Cond.instantiable RX6 23 ∈ xB := xB_of (i := 795) (by decide +kernel) rfl
theorem xw_796 : Cond.methodLink RL 113 yX6_init ∈ xB := xB_of (i := 796) (by decide +kernel) rfl
theorem xw_797 : Cond.instanceMethod yX6_init ∈ xB := xB_of (i := 797) (by decide +kernel) rfl
set_option maxRecDepth 100000 in
theorem xw_798 : Cond.code yX6_init cX6_init 1 none ∈ xB := xB_of (i := 798) (by rfl) rfl
theorem xw_799 : Cond.methodLink RX6 1 ⟨"java/lang/Object", "<init>", "()V"⟩ ∈ xB := xB_of (i := 799) (by decide +kernel) rfl
theorem xw_800 : Cond.fieldLink RX6 60 RX6 "shards" "I" ∈ xB := xB_of (i := 800) (by decide +kernel) rfl
theorem xw_801 : Cond.fieldLink RX6 7 RX6 "limits" "[I" ∈ xB := xB_of (i := 801) (by decide +kernel) rfl
theorem xw_802 : Cond.fieldLink RX6 13 RX6 "areClosed" "[Z" ∈ xB := xB_of (i := 802) (by decide +kernel) rfl
theorem xw_803 : Cond.fieldLink RX6 67 RX6 "tenants" "I" ∈ xB := xB_of (i := 803) (by decide +kernel) rfl
theorem xw_804 : Cond.fieldLink RX6 17 RX6 "sizes" "[I" ∈ xB := xB_of (i := 804) (by decide +kernel) rfl
theorem xw_805 : Cond.fieldLink RX6 20 RX6 "growths" "[I" ∈ xB := xB_of (i := 805) (by decide +kernel) rfl
theorem xw_806 : Cond.fieldLink RX6 23 RX6 "firsts" "[I" ∈ xB := xB_of (i := 806) (by decide +kernel) rfl
theorem xw_807 : Cond.fieldLink RX6 26 RX6 "ends" "[I" ∈ xB := xB_of (i := 807) (by decide +kernel) rfl
theorem xw_808 : Cond.fieldLink RX6 29 RX6 "servers" "[I" ∈ xB := xB_of (i := 808) (by decide +kernel) rfl
theorem xw_809 : Cond.fieldLink RX6 32 RX6 "phases" "[I" ∈ xB := xB_of (i := 809) (by decide +kernel) rfl
theorem xw_810 : Cond.fieldLink RX6 35 RX6 "sources" "[I" ∈ xB := xB_of (i := 810) (by decide +kernel) rfl
theorem xw_811 : Cond.fieldLink RX6 38 RX6 "targets" "[I" ∈ xB := xB_of (i := 811) (by decide +kernel) rfl
theorem xw_812 : Cond.fieldLink RX6 41 RX6 "lefts" "[I" ∈ xB := xB_of (i := 812) (by decide +kernel) rfl
theorem xw_813 : Cond.fieldLink RX6 97 RX6 "pairs" "I" ∈ xB := xB_of (i := 813) (by decide +kernel) rfl
theorem xw_814 : Cond.fieldLink RX6 44 RX6 "pairOnes" "[I" ∈ xB := xB_of (i := 814) (by decide +kernel) rfl
theorem xw_815 : Cond.fieldLink RX6 47 RX6 "pairOthers" "[I" ∈ xB := xB_of (i := 815) (by decide +kernel) rfl
theorem xw_816 : Cond.fieldLink RX6 120 RX6 "time" "I" ∈ xB := xB_of (i := 816) (by decide +kernel) rfl
theorem xw_817 : Cond.fieldLink RX6 117 RX6 "switches" "I" ∈ xB := xB_of (i := 817) (by decide +kernel) rfl
theorem xw_818 : Cond.fieldLink RX6 126 RX6 "over" "J" ∈ xB := xB_of (i := 818) (by decide +kernel) rfl
theorem xw_819 : Cond.fieldLink RX6 50 RX6 "plan" "[I" ∈ xB := xB_of (i := 819) (by decide +kernel) rfl
theorem xw_820 : Cond.fieldLink RX6 53 RX6 "best" "[I" ∈ xB := xB_of (i := 820) (by decide +kernel) rfl
theorem xw_821 : Cond.fieldLink RX6 155 RX6 "bestMoves" "I" ∈ xB := xB_of (i := 821) (by decide +kernel) rfl
theorem xw_822 : Cond.fieldLink RX6 56 RX6 "code" "I" ∈ xB := xB_of (i := 822) (by decide +kernel) rfl
theorem xw_870 : Cond.arrayClass .int ∈ xB := xB_of (i := 870) (by decide +kernel) rfl
theorem xw_871 : Cond.arrayClass .boolean ∈ xB := xB_of (i := 871) (by decide +kernel) rfl
theorem xw_872 : Cond.methodLink RL 120 yX6_thrown ∈ xB := xB_of (i := 872) (by decide +kernel) rfl
theorem xw_873 : Cond.instanceMethod yX6_thrown ∈ xB := xB_of (i := 873) (by decide +kernel) rfl
theorem xw_874 : Cond.selects RX6 yX6_thrown yX6_thrown ∈ xB := xB_of (i := 874) (by decide +kernel) rfl
set_option maxRecDepth 100000 in
theorem xw_875 : Cond.code yX6_thrown cX6_thrown 1 (some .int) ∈ xB := xB_of (i := 875) (by rfl) rfl
theorem xw_876 : Cond.methodLink RL 119 yX6_addShard ∈ xB := xB_of (i := 876) (by decide +kernel) rfl
theorem xw_877 : Cond.instanceMethod yX6_addShard ∈ xB := xB_of (i := 877) (by decide +kernel) rfl
theorem xw_878 : Cond.selects RX6 yX6_addShard yX6_addShard ∈ xB := xB_of (i := 878) (by decide +kernel) rfl
set_option maxRecDepth 100000 in
theorem xw_879 : Cond.code yX6_addShard cX6_addShard 4 (some .int) ∈ xB := xB_of (i := 879) (by rfl) rfl
theorem xw_880 : Cond.methodLink RX6 63 yX6_in ∈ xB := xB_of (i := 880) (by decide +kernel) rfl
theorem xw_881 : Cond.static yX6_in ∈ xB := xB_of (i := 881) (by decide +kernel) rfl
set_option maxRecDepth 100000 in
theorem xw_882 : Cond.code yX6_in cX6_in 3 (some .boolean) ∈ xB := xB_of (i := 882) (by rfl) rfl
theorem xw_883 : Cond.methodLink RX6 70 yX6_fails ∈ xB := xB_of (i := 883) (by decide +kernel) rfl
theorem xw_885 : Cond.instanceMethod yX6_fails ∈ xB := xB_of (i := 885) (by decide +kernel) rfl
set_option maxRecDepth 100000 in
theorem xw_886 : Cond.code yX6_fails cX6_fails 2 (some .boolean) ∈ xB := xB_of (i := 886) (by rfl) rfl
theorem xw_887 : Cond.methodLink RL 126 yX6_setOpen ∈ xB := xB_of (i := 887) (by decide +kernel) rfl
theorem xw_888 : Cond.instanceMethod yX6_setOpen ∈ xB := xB_of (i := 888) (by decide +kernel) rfl
theorem xw_889 : Cond.selects RX6 yX6_setOpen yX6_setOpen ∈ xB := xB_of (i := 889) (by decide +kernel) rfl
set_option maxRecDepth 100000 in
theorem xw_890 : Cond.code yX6_setOpen cX6_setOpen 4 (some .boolean) ∈ xB := xB_of (i := 890) (by rfl) rfl
theorem xw_891 : Cond.methodLink RX6 74 yX6_isNoShard ∈ xB := xB_of (i := 891) (by decide +kernel) rfl
theorem xw_893 : Cond.instanceMethod yX6_isNoShard ∈ xB := xB_of (i := 893) (by decide +kernel) rfl
set_option maxRecDepth 100000 in
theorem xw_894 : Cond.code yX6_isNoShard cX6_isNoShard 2 (some .boolean) ∈ xB := xB_of (i := 894) (by rfl) rfl
theorem xw_895 : Cond.methodLink RL 129 yX6_setLimit ∈ xB := xB_of (i := 895) (by decide +kernel) rfl
theorem xw_896 : Cond.instanceMethod yX6_setLimit ∈ xB := xB_of (i := 896) (by decide +kernel) rfl
theorem xw_897 : Cond.selects RX6 yX6_setLimit yX6_setLimit ∈ xB := xB_of (i := 897) (by decide +kernel) rfl
set_option maxRecDepth 100000 in
theorem xw_898 : Cond.code yX6_setLimit cX6_setLimit 5 (some .int) ∈ xB := xB_of (i := 898) (by rfl) rfl
theorem xw_899 : Cond.methodLink RX6 77 yX6_isMeasure ∈ xB := xB_of (i := 899) (by decide +kernel) rfl
theorem xw_900 : Cond.static yX6_isMeasure ∈ xB := xB_of (i := 900) (by decide +kernel) rfl
set_option maxRecDepth 100000 in
theorem xw_901 : Cond.code yX6_isMeasure cX6_isMeasure 1 (some .boolean) ∈ xB := xB_of (i := 901) (by rfl) rfl
theorem xw_902 : Cond.methodLink RL 133 yX6_addTenant ∈ xB := xB_of (i := 902) (by decide +kernel) rfl
theorem xw_903 : Cond.instanceMethod yX6_addTenant ∈ xB := xB_of (i := 903) (by decide +kernel) rfl
theorem xw_904 : Cond.selects RX6 yX6_addTenant yX6_addTenant ∈ xB := xB_of (i := 904) (by decide +kernel) rfl
set_option maxRecDepth 100000 in
theorem xw_905 : Cond.code yX6_addTenant cX6_addTenant 6 (some .int) ∈ xB := xB_of (i := 905) (by rfl) rfl
theorem xw_906 : Cond.methodLink RX6 91 yX6_isFull ∈ xB := xB_of (i := 906) (by decide +kernel) rfl
theorem xw_908 : Cond.instanceMethod yX6_isFull ∈ xB := xB_of (i := 908) (by decide +kernel) rfl
set_option maxRecDepth 100000 in
theorem xw_909 : Cond.code yX6_isFull cX6_isFull 4 (some .boolean) ∈ xB := xB_of (i := 909) (by rfl) rfl
theorem xw_910 : Cond.methodLink RX6 87 yX6_use ∈ xB := xB_of (i := 910) (by decide +kernel) rfl
theorem xw_912 : Cond.instanceMethod yX6_use ∈ xB := xB_of (i := 912) (by decide +kernel) rfl
set_option maxRecDepth 100000 in
theorem xw_913 : Cond.code yX6_use cX6_use 5 (some .int) ∈ xB := xB_of (i := 913) (by rfl) rfl
theorem xw_914 : Cond.methodLink RX6 84 yX6_isPresent ∈ xB := xB_of (i := 914) (by decide +kernel) rfl
theorem xw_916 : Cond.instanceMethod yX6_isPresent ∈ xB := xB_of (i := 916) (by decide +kernel) rfl
set_option maxRecDepth 100000 in
theorem xw_917 : Cond.code yX6_isPresent cX6_isPresent 3 (some .boolean) ∈ xB := xB_of (i := 917) (by rfl) rfl
theorem xw_918 : Cond.methodLink RX6 80 yX6_isComing ∈ xB := xB_of (i := 918) (by decide +kernel) rfl
theorem xw_920 : Cond.instanceMethod yX6_isComing ∈ xB := xB_of (i := 920) (by decide +kernel) rfl
set_option maxRecDepth 100000 in
theorem xw_921 : Cond.code yX6_isComing cX6_isComing 3 (some .boolean) ∈ xB := xB_of (i := 921) (by rfl) rfl
theorem xw_922 : Cond.methodLink RL 136 yX6_setSize ∈ xB := xB_of (i := 922) (by decide +kernel) rfl
theorem xw_923 : Cond.instanceMethod yX6_setSize ∈ xB := xB_of (i := 923) (by decide +kernel) rfl
theorem xw_924 : Cond.selects RX6 yX6_setSize yX6_setSize ∈ xB := xB_of (i := 924) (by decide +kernel) rfl
set_option maxRecDepth 100000 in
theorem xw_925 : Cond.code yX6_setSize cX6_setSize 5 (some .int) ∈ xB := xB_of (i := 925) (by rfl) rfl
theorem xw_926 : Cond.methodLink RX6 94 yX6_isNoTenant ∈ xB := xB_of (i := 926) (by decide +kernel) rfl
theorem xw_928 : Cond.instanceMethod yX6_isNoTenant ∈ xB := xB_of (i := 928) (by decide +kernel) rfl
set_option maxRecDepth 100000 in
theorem xw_929 : Cond.code yX6_isNoTenant cX6_isNoTenant 2 (some .boolean) ∈ xB := xB_of (i := 929) (by rfl) rfl
theorem xw_930 : Cond.methodLink RL 139 yX6_setWindow ∈ xB := xB_of (i := 930) (by decide +kernel) rfl
theorem xw_931 : Cond.instanceMethod yX6_setWindow ∈ xB := xB_of (i := 931) (by decide +kernel) rfl
theorem xw_932 : Cond.selects RX6 yX6_setWindow yX6_setWindow ∈ xB := xB_of (i := 932) (by decide +kernel) rfl
set_option maxRecDepth 100000 in
theorem xw_933 : Cond.code yX6_setWindow cX6_setWindow 4 (some .int) ∈ xB := xB_of (i := 933) (by rfl) rfl
theorem xw_934 : Cond.methodLink RL 143 yX6_keepApart ∈ xB := xB_of (i := 934) (by decide +kernel) rfl
theorem xw_935 : Cond.instanceMethod yX6_keepApart ∈ xB := xB_of (i := 935) (by decide +kernel) rfl
theorem xw_936 : Cond.selects RX6 yX6_keepApart yX6_keepApart ∈ xB := xB_of (i := 936) (by decide +kernel) rfl
set_option maxRecDepth 100000 in
theorem xw_937 : Cond.code yX6_keepApart cX6_keepApart 3 (some .int) ∈ xB := xB_of (i := 937) (by rfl) rfl
theorem xw_938 : Cond.methodLink RX6 100 yX6_areApart ∈ xB := xB_of (i := 938) (by decide +kernel) rfl
theorem xw_940 : Cond.instanceMethod yX6_areApart ∈ xB := xB_of (i := 940) (by decide +kernel) rfl
set_option maxRecDepth 100000 in
theorem xw_941 : Cond.code yX6_areApart cX6_areApart 4 (some .boolean) ∈ xB := xB_of (i := 941) (by rfl) rfl
theorem xw_942 : Cond.methodLink RL 146 yX6_move ∈ xB := xB_of (i := 942) (by decide +kernel) rfl
theorem xw_943 : Cond.instanceMethod yX6_move ∈ xB := xB_of (i := 943) (by decide +kernel) rfl
theorem xw_944 : Cond.selects RX6 yX6_move yX6_move ∈ xB := xB_of (i := 944) (by decide +kernel) rfl
set_option maxRecDepth 100000 in
theorem xw_945 : Cond.code yX6_move cX6_move 3 (some .int) ∈ xB := xB_of (i := 945) (by rfl) rfl
theorem xw_946 : Cond.methodLink RX6 109 yX6_why ∈ xB := xB_of (i := 946) (by decide +kernel) rfl
theorem xw_948 : Cond.instanceMethod yX6_why ∈ xB := xB_of (i := 948) (by decide +kernel) rfl
set_option maxRecDepth 100000 in
theorem xw_949 : Cond.code yX6_why cX6_why 3 (some .char) ∈ xB := xB_of (i := 949) (by rfl) rfl
theorem xw_950 : Cond.methodLink RX6 103 yX6_isBarred ∈ xB := xB_of (i := 950) (by decide +kernel) rfl
theorem xw_952 : Cond.instanceMethod yX6_isBarred ∈ xB := xB_of (i := 952) (by decide +kernel) rfl
set_option maxRecDepth 100000 in
theorem xw_953 : Cond.code yX6_isBarred cX6_isBarred 4 (some .boolean) ∈ xB := xB_of (i := 953) (by rfl) rfl
theorem xw_954 : Cond.methodLink RX6 106 yX6_hasRoom ∈ xB := xB_of (i := 954) (by decide +kernel) rfl
theorem xw_956 : Cond.instanceMethod yX6_hasRoom ∈ xB := xB_of (i := 956) (by decide +kernel) rfl
set_option maxRecDepth 100000 in
theorem xw_957 : Cond.code yX6_hasRoom cX6_hasRoom 5 (some .boolean) ∈ xB := xB_of (i := 957) (by rfl) rfl
theorem xw_958 : Cond.methodLink RX6 113 yX6_underWay ∈ xB := xB_of (i := 958) (by decide +kernel) rfl
theorem xw_960 : Cond.instanceMethod yX6_underWay ∈ xB := xB_of (i := 960) (by decide +kernel) rfl
set_option maxRecDepth 100000 in
theorem xw_961 : Cond.code yX6_underWay cX6_underWay 3 (some .int) ∈ xB := xB_of (i := 961) (by rfl) rfl
theorem xw_962 : Cond.methodLink RL 149 yX6_reason ∈ xB := xB_of (i := 962) (by decide +kernel) rfl
theorem xw_963 : Cond.instanceMethod yX6_reason ∈ xB := xB_of (i := 963) (by decide +kernel) rfl
theorem xw_964 : Cond.selects RX6 yX6_reason yX6_reason ∈ xB := xB_of (i := 964) (by decide +kernel) rfl
set_option maxRecDepth 100000 in
theorem xw_965 : Cond.code yX6_reason cX6_reason 3 (some .char) ∈ xB := xB_of (i := 965) (by rfl) rfl
theorem xw_966 : Cond.methodLink RL 153 yX6_fail ∈ xB := xB_of (i := 966) (by decide +kernel) rfl
theorem xw_967 : Cond.instanceMethod yX6_fail ∈ xB := xB_of (i := 967) (by decide +kernel) rfl
theorem xw_968 : Cond.selects RX6 yX6_fail yX6_fail ∈ xB := xB_of (i := 968) (by decide +kernel) rfl
set_option maxRecDepth 100000 in
theorem xw_969 : Cond.code yX6_fail cX6_fail 3 (some .char) ∈ xB := xB_of (i := 969) (by rfl) rfl
theorem xw_970 : Cond.methodLink RL 156 yX6_pass ∈ xB := xB_of (i := 970) (by decide +kernel) rfl
theorem xw_971 : Cond.instanceMethod yX6_pass ∈ xB := xB_of (i := 971) (by decide +kernel) rfl
theorem xw_972 : Cond.selects RX6 yX6_pass yX6_pass ∈ xB := xB_of (i := 972) (by decide +kernel) rfl
set_option maxRecDepth 100000 in
theorem xw_973 : Cond.code yX6_pass cX6_pass 4 (some .int) ∈ xB := xB_of (i := 973) (by rfl) rfl
theorem xw_974 : Cond.methodLink RX6 136 yX6_hour ∈ xB := xB_of (i := 974) (by decide +kernel) rfl
theorem xw_976 : Cond.instanceMethod yX6_hour ∈ xB := xB_of (i := 976) (by decide +kernel) rfl
set_option maxRecDepth 100000 in
theorem xw_977 : Cond.code yX6_hour cX6_hour 3 (some .int) ∈ xB := xB_of (i := 977) (by rfl) rfl
theorem xw_978 : Cond.methodLink RX6 130 yX6_isTooMuch ∈ xB := xB_of (i := 978) (by decide +kernel) rfl
theorem xw_980 : Cond.instanceMethod yX6_isTooMuch ∈ xB := xB_of (i := 980) (by decide +kernel) rfl
set_option maxRecDepth 100000 in
theorem xw_981 : Cond.code yX6_isTooMuch cX6_isTooMuch 3 (some .boolean) ∈ xB := xB_of (i := 981) (by rfl) rfl
theorem xw_982 : Cond.methodLink RX6 133 yX6_goesOn ∈ xB := xB_of (i := 982) (by decide +kernel) rfl
theorem xw_984 : Cond.instanceMethod yX6_goesOn ∈ xB := xB_of (i := 984) (by decide +kernel) rfl
set_option maxRecDepth 100000 in
theorem xw_985 : Cond.code yX6_goesOn cX6_goesOn 2 (some .boolean) ∈ xB := xB_of (i := 985) (by rfl) rfl
theorem xw_986 : Cond.methodLink RX6 123 yX6_isInWindow ∈ xB := xB_of (i := 986) (by decide +kernel) rfl
theorem xw_988 : Cond.instanceMethod yX6_isInWindow ∈ xB := xB_of (i := 988) (by decide +kernel) rfl
set_option maxRecDepth 100000 in
theorem xw_989 : Cond.code yX6_isInWindow cX6_isInWindow 5 (some .boolean) ∈ xB := xB_of (i := 989) (by rfl) rfl
theorem xw_990 : Cond.methodLink RL 160 yX6_time ∈ xB := xB_of (i := 990) (by decide +kernel) rfl
theorem xw_991 : Cond.instanceMethod yX6_time ∈ xB := xB_of (i := 991) (by decide +kernel) rfl
theorem xw_992 : Cond.selects RX6 yX6_time yX6_time ∈ xB := xB_of (i := 992) (by decide +kernel) rfl
set_option maxRecDepth 100000 in
theorem xw_993 : Cond.code yX6_time cX6_time 1 (some .int) ∈ xB := xB_of (i := 993) (by rfl) rfl
theorem xw_994 : Cond.methodLink RX6 139 yX6_tells ∈ xB := xB_of (i := 994) (by decide +kernel) rfl
theorem xw_996 : Cond.instanceMethod yX6_tells ∈ xB := xB_of (i := 996) (by decide +kernel) rfl
set_option maxRecDepth 100000 in
theorem xw_997 : Cond.code yX6_tells cX6_tells 2 (some .int) ∈ xB := xB_of (i := 997) (by rfl) rfl
theorem xw_998 : Cond.methodLink RL 163 yX6_phase ∈ xB := xB_of (i := 998) (by decide +kernel) rfl
theorem xw_999 : Cond.instanceMethod yX6_phase ∈ xB := xB_of (i := 999) (by decide +kernel) rfl
theorem xw_1000 : Cond.selects RX6 yX6_phase yX6_phase ∈ xB := xB_of (i := 1000) (by decide +kernel) rfl
set_option maxRecDepth 100000 in
theorem xw_1001 : Cond.code yX6_phase cX6_phase 2 (some .char) ∈ xB := xB_of (i := 1001) (by rfl) rfl
theorem xw_1002 : Cond.methodLink RL 166 yX6_targetOf ∈ xB := xB_of (i := 1002) (by decide +kernel) rfl
theorem xw_1003 : Cond.instanceMethod yX6_targetOf ∈ xB := xB_of (i := 1003) (by decide +kernel) rfl
theorem xw_1004 : Cond.selects RX6 yX6_targetOf yX6_targetOf ∈ xB := xB_of (i := 1004) (by decide +kernel) rfl
set_option maxRecDepth 100000 in
theorem xw_1005 : Cond.code yX6_targetOf cX6_targetOf 2 (some .int) ∈ xB := xB_of (i := 1005) (by rfl) rfl
theorem xw_1006 : Cond.methodLink RX6 143 yX6_hasNoMove ∈ xB := xB_of (i := 1006) (by decide +kernel) rfl
theorem xw_1008 : Cond.instanceMethod yX6_hasNoMove ∈ xB := xB_of (i := 1008) (by decide +kernel) rfl
set_option maxRecDepth 100000 in
theorem xw_1009 : Cond.code yX6_hasNoMove cX6_hasNoMove 2 (some .boolean) ∈ xB := xB_of (i := 1009) (by rfl) rfl
theorem xw_1010 : Cond.methodLink RL 169 yX6_hoursLeft ∈ xB := xB_of (i := 1010) (by decide +kernel) rfl
theorem xw_1011 : Cond.instanceMethod yX6_hoursLeft ∈ xB := xB_of (i := 1011) (by decide +kernel) rfl
theorem xw_1012 : Cond.selects RX6 yX6_hoursLeft yX6_hoursLeft ∈ xB := xB_of (i := 1012) (by decide +kernel) rfl
set_option maxRecDepth 100000 in
theorem xw_1013 : Cond.code yX6_hoursLeft cX6_hoursLeft 2 (some .int) ∈ xB := xB_of (i := 1013) (by rfl) rfl
theorem xw_1014 : Cond.methodLink RX6 146 yX6_goneOn ∈ xB := xB_of (i := 1014) (by decide +kernel) rfl
theorem xw_1016 : Cond.instanceMethod yX6_goneOn ∈ xB := xB_of (i := 1016) (by decide +kernel) rfl
set_option maxRecDepth 100000 in
theorem xw_1017 : Cond.code yX6_goneOn cX6_goneOn 3 (some .int) ∈ xB := xB_of (i := 1017) (by rfl) rfl
theorem xw_1018 : Cond.methodLink RL 172 yX6_hoursByPassing ∈ xB := xB_of (i := 1018) (by decide +kernel) rfl
theorem xw_1019 : Cond.instanceMethod yX6_hoursByPassing ∈ xB := xB_of (i := 1019) (by decide +kernel) rfl
theorem xw_1020 : Cond.selects RX6 yX6_hoursByPassing yX6_hoursByPassing ∈ xB := xB_of (i := 1020) (by decide +kernel) rfl
set_option maxRecDepth 100000 in
theorem xw_1021 : Cond.code yX6_hoursByPassing cX6_hoursByPassing 2 (some .int) ∈ xB := xB_of (i := 1021) (by rfl) rfl
theorem xw_1022 : Cond.methodLink RL 176 yX6_moves ∈ xB := xB_of (i := 1022) (by decide +kernel) rfl
theorem xw_1023 : Cond.instanceMethod yX6_moves ∈ xB := xB_of (i := 1023) (by decide +kernel) rfl
theorem xw_1024 : Cond.selects RX6 yX6_moves yX6_moves ∈ xB := xB_of (i := 1024) (by decide +kernel) rfl
set_option maxRecDepth 100000 in
theorem xw_1025 : Cond.code yX6_moves cX6_moves 1 (some .int) ∈ xB := xB_of (i := 1025) (by rfl) rfl
theorem xw_1026 : Cond.methodLink RL 180 yX6_shards ∈ xB := xB_of (i := 1026) (by decide +kernel) rfl
theorem xw_1027 : Cond.instanceMethod yX6_shards ∈ xB := xB_of (i := 1027) (by decide +kernel) rfl
theorem xw_1028 : Cond.selects RX6 yX6_shards yX6_shards ∈ xB := xB_of (i := 1028) (by decide +kernel) rfl
set_option maxRecDepth 100000 in
theorem xw_1029 : Cond.code yX6_shards cX6_shards 1 (some .int) ∈ xB := xB_of (i := 1029) (by rfl) rfl
theorem xw_1030 : Cond.methodLink RL 184 yX6_tenants ∈ xB := xB_of (i := 1030) (by decide +kernel) rfl
theorem xw_1031 : Cond.instanceMethod yX6_tenants ∈ xB := xB_of (i := 1031) (by decide +kernel) rfl
theorem xw_1032 : Cond.selects RX6 yX6_tenants yX6_tenants ∈ xB := xB_of (i := 1032) (by decide +kernel) rfl
set_option maxRecDepth 100000 in
theorem xw_1033 : Cond.code yX6_tenants cX6_tenants 1 (some .int) ∈ xB := xB_of (i := 1033) (by rfl) rfl
theorem xw_1034 : Cond.methodLink RL 187 yX6_servedBy ∈ xB := xB_of (i := 1034) (by decide +kernel) rfl
theorem xw_1035 : Cond.instanceMethod yX6_servedBy ∈ xB := xB_of (i := 1035) (by decide +kernel) rfl
theorem xw_1036 : Cond.selects RX6 yX6_servedBy yX6_servedBy ∈ xB := xB_of (i := 1036) (by decide +kernel) rfl
set_option maxRecDepth 100000 in
theorem xw_1037 : Cond.code yX6_servedBy cX6_servedBy 2 (some .int) ∈ xB := xB_of (i := 1037) (by rfl) rfl
theorem xw_1038 : Cond.methodLink RL 190 yX6_sizeOf ∈ xB := xB_of (i := 1038) (by decide +kernel) rfl
theorem xw_1039 : Cond.instanceMethod yX6_sizeOf ∈ xB := xB_of (i := 1039) (by decide +kernel) rfl
theorem xw_1040 : Cond.selects RX6 yX6_sizeOf yX6_sizeOf ∈ xB := xB_of (i := 1040) (by decide +kernel) rfl
set_option maxRecDepth 100000 in
theorem xw_1041 : Cond.code yX6_sizeOf cX6_sizeOf 3 (some .int) ∈ xB := xB_of (i := 1041) (by rfl) rfl
theorem xw_1042 : Cond.methodLink RL 193 yX6_used ∈ xB := xB_of (i := 1042) (by decide +kernel) rfl
theorem xw_1043 : Cond.instanceMethod yX6_used ∈ xB := xB_of (i := 1043) (by decide +kernel) rfl
theorem xw_1044 : Cond.selects RX6 yX6_used yX6_used ∈ xB := xB_of (i := 1044) (by decide +kernel) rfl
set_option maxRecDepth 100000 in
theorem xw_1045 : Cond.code yX6_used cX6_used 3 (some .int) ∈ xB := xB_of (i := 1045) (by rfl) rfl
theorem xw_1046 : Cond.methodLink RX6 149 yX6_cannotAsk ∈ xB := xB_of (i := 1046) (by decide +kernel) rfl
theorem xw_1048 : Cond.instanceMethod yX6_cannotAsk ∈ xB := xB_of (i := 1048) (by decide +kernel) rfl
set_option maxRecDepth 100000 in
theorem xw_1049 : Cond.code yX6_cannotAsk cX6_cannotAsk 3 (some .boolean) ∈ xB := xB_of (i := 1049) (by rfl) rfl
theorem xw_1050 : Cond.methodLink RL 196 yX6_usedByLooking ∈ xB := xB_of (i := 1050) (by decide +kernel) rfl
theorem xw_1051 : Cond.instanceMethod yX6_usedByLooking ∈ xB := xB_of (i := 1051) (by decide +kernel) rfl
theorem xw_1052 : Cond.selects RX6 yX6_usedByLooking yX6_usedByLooking ∈ xB := xB_of (i := 1052) (by decide +kernel) rfl
set_option maxRecDepth 100000 in
theorem xw_1053 : Cond.code yX6_usedByLooking cX6_usedByLooking 3 (some .int) ∈ xB := xB_of (i := 1053) (by rfl) rfl
theorem xw_1054 : Cond.methodLink RL 199 yX6_isOver ∈ xB := xB_of (i := 1054) (by decide +kernel) rfl
theorem xw_1055 : Cond.instanceMethod yX6_isOver ∈ xB := xB_of (i := 1055) (by decide +kernel) rfl
theorem xw_1056 : Cond.selects RX6 yX6_isOver yX6_isOver ∈ xB := xB_of (i := 1056) (by decide +kernel) rfl
set_option maxRecDepth 100000 in
theorem xw_1057 : Cond.code yX6_isOver cX6_isOver 2 (some .boolean) ∈ xB := xB_of (i := 1057) (by rfl) rfl
theorem xw_1058 : Cond.methodLink RL 202 yX6_served ∈ xB := xB_of (i := 1058) (by decide +kernel) rfl
theorem xw_1059 : Cond.instanceMethod yX6_served ∈ xB := xB_of (i := 1059) (by decide +kernel) rfl
theorem xw_1060 : Cond.selects RX6 yX6_served yX6_served ∈ xB := xB_of (i := 1060) (by decide +kernel) rfl
set_option maxRecDepth 100000 in
theorem xw_1061 : Cond.code yX6_served cX6_served 4 (some .int) ∈ xB := xB_of (i := 1061) (by rfl) rfl
theorem xw_1062 : Cond.methodLink RL 206 yX6_fewestMoves ∈ xB := xB_of (i := 1062) (by decide +kernel) rfl
theorem xw_1063 : Cond.instanceMethod yX6_fewestMoves ∈ xB := xB_of (i := 1063) (by decide +kernel) rfl
theorem xw_1064 : Cond.selects RX6 yX6_fewestMoves yX6_fewestMoves ∈ xB := xB_of (i := 1064) (by decide +kernel) rfl
set_option maxRecDepth 100000 in
theorem xw_1065 : Cond.code yX6_fewestMoves cX6_fewestMoves 1 (some .int) ∈ xB := xB_of (i := 1065) (by rfl) rfl
theorem xw_1066 : Cond.methodLink RX6 172 yX6_fewest ∈ xB := xB_of (i := 1066) (by decide +kernel) rfl
theorem xw_1068 : Cond.instanceMethod yX6_fewest ∈ xB := xB_of (i := 1068) (by decide +kernel) rfl
set_option maxRecDepth 100000 in
theorem xw_1069 : Cond.code yX6_fewest cX6_fewest 1 (some .int) ∈ xB := xB_of (i := 1069) (by rfl) rfl
theorem xw_1070 : Cond.methodLink RX6 169 yX6_sound ∈ xB := xB_of (i := 1070) (by decide +kernel) rfl
theorem xw_1072 : Cond.instanceMethod yX6_sound ∈ xB := xB_of (i := 1072) (by decide +kernel) rfl
set_option maxRecDepth 100000 in
theorem xw_1073 : Cond.code yX6_sound cX6_sound 5 (some .int) ∈ xB := xB_of (i := 1073) (by rfl) rfl
theorem xw_1074 : Cond.methodLink RX6 158 yX6_laysPlan ∈ xB := xB_of (i := 1074) (by decide +kernel) rfl
theorem xw_1076 : Cond.instanceMethod yX6_laysPlan ∈ xB := xB_of (i := 1076) (by decide +kernel) rfl
set_option maxRecDepth 100000 in
theorem xw_1077 : Cond.code yX6_laysPlan cX6_laysPlan 4 none ∈ xB := xB_of (i := 1077) (by rfl) rfl
theorem xw_1078 : Cond.methodLink RX6 162 yX6_isSound ∈ xB := xB_of (i := 1078) (by decide +kernel) rfl
theorem xw_1080 : Cond.instanceMethod yX6_isSound ∈ xB := xB_of (i := 1080) (by decide +kernel) rfl
set_option maxRecDepth 100000 in
theorem xw_1081 : Cond.code yX6_isSound cX6_isSound 3 (some .boolean) ∈ xB := xB_of (i := 1081) (by rfl) rfl
theorem xw_1082 : Cond.methodLink RX6 152 yX6_fits ∈ xB := xB_of (i := 1082) (by decide +kernel) rfl
theorem xw_1084 : Cond.instanceMethod yX6_fits ∈ xB := xB_of (i := 1084) (by decide +kernel) rfl
set_option maxRecDepth 100000 in
theorem xw_1085 : Cond.code yX6_fits cX6_fits 5 (some .boolean) ∈ xB := xB_of (i := 1085) (by rfl) rfl
theorem xw_1086 : Cond.methodLink RX6 166 yX6_movesOfPlan ∈ xB := xB_of (i := 1086) (by decide +kernel) rfl
theorem xw_1088 : Cond.instanceMethod yX6_movesOfPlan ∈ xB := xB_of (i := 1088) (by decide +kernel) rfl
set_option maxRecDepth 100000 in
theorem xw_1089 : Cond.code yX6_movesOfPlan cX6_movesOfPlan 3 (some .int) ∈ xB := xB_of (i := 1089) (by rfl) rfl
theorem xw_1090 : Cond.methodLink RL 209 yX6_fewestByTrying ∈ xB := xB_of (i := 1090) (by decide +kernel) rfl
theorem xw_1091 : Cond.instanceMethod yX6_fewestByTrying ∈ xB := xB_of (i := 1091) (by decide +kernel) rfl
theorem xw_1092 : Cond.selects RX6 yX6_fewestByTrying yX6_fewestByTrying ∈ xB := xB_of (i := 1092) (by decide +kernel) rfl
set_option maxRecDepth 100000 in
theorem xw_1093 : Cond.code yX6_fewestByTrying cX6_fewestByTrying 1 (some .int) ∈ xB := xB_of (i := 1093) (by rfl) rfl
theorem xw_1094 : Cond.methodLink RL 212 yX6_planned ∈ xB := xB_of (i := 1094) (by decide +kernel) rfl
theorem xw_1095 : Cond.instanceMethod yX6_planned ∈ xB := xB_of (i := 1095) (by decide +kernel) rfl
theorem xw_1096 : Cond.selects RX6 yX6_planned yX6_planned ∈ xB := xB_of (i := 1096) (by decide +kernel) rfl
set_option maxRecDepth 100000 in
theorem xw_1097 : Cond.code yX6_planned cX6_planned 2 (some .int) ∈ xB := xB_of (i := 1097) (by rfl) rfl
theorem xw_1098 : Cond.methodLink RL 216 yX6_soundPlans ∈ xB := xB_of (i := 1098) (by decide +kernel) rfl
theorem xw_1099 : Cond.instanceMethod yX6_soundPlans ∈ xB := xB_of (i := 1099) (by decide +kernel) rfl
theorem xw_1100 : Cond.selects RX6 yX6_soundPlans yX6_soundPlans ∈ xB := xB_of (i := 1100) (by decide +kernel) rfl
set_option maxRecDepth 100000 in
theorem xw_1101 : Cond.code yX6_soundPlans cX6_soundPlans 1 (some .int) ∈ xB := xB_of (i := 1101) (by rfl) rfl
theorem xw_1102 : Cond.methodLink RL 220 yX6_switches ∈ xB := xB_of (i := 1102) (by decide +kernel) rfl
theorem xw_1103 : Cond.instanceMethod yX6_switches ∈ xB := xB_of (i := 1103) (by decide +kernel) rfl
theorem xw_1104 : Cond.selects RX6 yX6_switches yX6_switches ∈ xB := xB_of (i := 1104) (by decide +kernel) rfl
set_option maxRecDepth 100000 in
theorem xw_1105 : Cond.code yX6_switches cX6_switches 1 (some .int) ∈ xB := xB_of (i := 1105) (by rfl) rfl
theorem xw_1106 : Cond.methodLink RL 225 yX6_hoursOver ∈ xB := xB_of (i := 1106) (by decide +kernel) rfl
theorem xw_1107 : Cond.instanceMethod yX6_hoursOver ∈ xB := xB_of (i := 1107) (by decide +kernel) rfl
theorem xw_1108 : Cond.selects RX6 yX6_hoursOver yX6_hoursOver ∈ xB := xB_of (i := 1108) (by decide +kernel) rfl
set_option maxRecDepth 100000 in
theorem xw_1109 : Cond.code yX6_hoursOver cX6_hoursOver 1 (some .long) ∈ xB := xB_of (i := 1109) (by rfl) rfl
theorem xw_1110 : Cond.methodLink RL 229 yX6_shareOf ∈ xB := xB_of (i := 1110) (by decide +kernel) rfl
theorem xw_1111 : Cond.instanceMethod yX6_shareOf ∈ xB := xB_of (i := 1111) (by decide +kernel) rfl
theorem xw_1112 : Cond.selects RX6 yX6_shareOf yX6_shareOf ∈ xB := xB_of (i := 1112) (by decide +kernel) rfl
set_option maxRecDepth 100000 in
theorem xw_1113 : Cond.code yX6_shareOf cX6_shareOf 3 (some .float) ∈ xB := xB_of (i := 1113) (by rfl) rfl
theorem xw_1114 : Cond.methodLink RL 233 yX6_meanStorage ∈ xB := xB_of (i := 1114) (by decide +kernel) rfl
theorem xw_1115 : Cond.instanceMethod yX6_meanStorage ∈ xB := xB_of (i := 1115) (by decide +kernel) rfl
theorem xw_1116 : Cond.selects RX6 yX6_meanStorage yX6_meanStorage ∈ xB := xB_of (i := 1116) (by decide +kernel) rfl
set_option maxRecDepth 100000 in
theorem xw_1117 : Cond.code yX6_meanStorage cX6_meanStorage 3 (some .double) ∈ xB := xB_of (i := 1117) (by rfl) rfl
theorem xw_1118 : Cond.arrayClass .long ∈ xB := xB_of (i := 1118) (by decide +kernel) rfl
theorem xw_1119 : Cond.arrayClass .double ∈ xB := xB_of (i := 1119) (by decide +kernel) rfl
theorem xwp_0 : Cond.selects RX2 yX2_noteSound yX2_noteSound ∈ xB := xB_ofp (i := 0) (by decide +kernel) rfl
theorem xwp_1 : Cond.selects "java/lang/Throwable" ⟨"java/lang/Throwable", "fillInStackTrace", "(I)Ljava/lang/Throwable;"⟩ ⟨"java/lang/Throwable", "fillInStackTrace", "(I)Ljava/lang/Throwable;"⟩ ∈ xB := xB_ofp (i := 1) (by decide +kernel) rfl
theorem xwp_2 : Cond.selects RX5 yX5_knownShard yX5_knownShard ∈ xB := xB_ofp (i := 2) (by decide +kernel) rfl
theorem xwp_3 : Cond.selects RX5 yX5_shardOrNull yX5_shardOrNull ∈ xB := xB_ofp (i := 3) (by decide +kernel) rfl
theorem xwp_4 : Cond.selects RX5 yX5_countUse yX5_countUse ∈ xB := xB_ofp (i := 4) (by decide +kernel) rfl
theorem xwp_5 : Cond.selects RX5 yX5_knownTenant yX5_knownTenant ∈ xB := xB_ofp (i := 5) (by decide +kernel) rfl
theorem xwp_6 : Cond.selects RX5 yX5_isBarred yX5_isBarred ∈ xB := xB_ofp (i := 6) (by decide +kernel) rfl
theorem xwp_7 : Cond.selects RX5 yX5_canGoBack yX5_canGoBack ∈ xB := xB_ofp (i := 7) (by decide +kernel) rfl
theorem xwp_8 : Cond.selects RX5 yX5_goBack yX5_goBack ∈ xB := xB_ofp (i := 8) (by decide +kernel) rfl
theorem xwp_9 : Cond.selects RX5 yX5_noteHoursOver yX5_noteHoursOver ∈ xB := xB_ofp (i := 9) (by decide +kernel) rfl
theorem xwp_10 : Cond.selects RX5 yX5_goOnWithMoves yX5_goOnWithMoves ∈ xB := xB_ofp (i := 10) (by decide +kernel) rfl
theorem xwp_11 : Cond.selects RX5 yX5_goOn yX5_goOn ∈ xB := xB_ofp (i := 11) (by decide +kernel) rfl
theorem xwp_12 : Cond.selects RX5 yX5_growStorage yX5_growStorage ∈ xB := xB_ofp (i := 12) (by decide +kernel) rfl
theorem xwp_13 : Cond.selects RX5 yX5_movingTenant yX5_movingTenant ∈ xB := xB_ofp (i := 13) (by decide +kernel) rfl
theorem xwp_14 : Cond.selects RX6 yX6_fails yX6_fails ∈ xB := xB_ofp (i := 14) (by decide +kernel) rfl
theorem xwp_15 : Cond.selects RX6 yX6_isNoShard yX6_isNoShard ∈ xB := xB_ofp (i := 15) (by decide +kernel) rfl
theorem xwp_16 : Cond.selects RX6 yX6_isFull yX6_isFull ∈ xB := xB_ofp (i := 16) (by decide +kernel) rfl
theorem xwp_17 : Cond.selects RX6 yX6_use yX6_use ∈ xB := xB_ofp (i := 17) (by decide +kernel) rfl
theorem xwp_18 : Cond.selects RX6 yX6_isPresent yX6_isPresent ∈ xB := xB_ofp (i := 18) (by decide +kernel) rfl
theorem xwp_19 : Cond.selects RX6 yX6_isComing yX6_isComing ∈ xB := xB_ofp (i := 19) (by decide +kernel) rfl
theorem xwp_20 : Cond.selects RX6 yX6_isNoTenant yX6_isNoTenant ∈ xB := xB_ofp (i := 20) (by decide +kernel) rfl
theorem xwp_21 : Cond.selects RX6 yX6_areApart yX6_areApart ∈ xB := xB_ofp (i := 21) (by decide +kernel) rfl
theorem xwp_22 : Cond.selects RX6 yX6_why yX6_why ∈ xB := xB_ofp (i := 22) (by decide +kernel) rfl
theorem xwp_23 : Cond.selects RX6 yX6_isBarred yX6_isBarred ∈ xB := xB_ofp (i := 23) (by decide +kernel) rfl
theorem xwp_24 : Cond.selects RX6 yX6_hasRoom yX6_hasRoom ∈ xB := xB_ofp (i := 24) (by decide +kernel) rfl
theorem xwp_25 : Cond.selects RX6 yX6_underWay yX6_underWay ∈ xB := xB_ofp (i := 25) (by decide +kernel) rfl
theorem xwp_26 : Cond.selects RX6 yX6_hour yX6_hour ∈ xB := xB_ofp (i := 26) (by decide +kernel) rfl
theorem xwp_27 : Cond.selects RX6 yX6_isTooMuch yX6_isTooMuch ∈ xB := xB_ofp (i := 27) (by decide +kernel) rfl
theorem xwp_28 : Cond.selects RX6 yX6_goesOn yX6_goesOn ∈ xB := xB_ofp (i := 28) (by decide +kernel) rfl
theorem xwp_29 : Cond.selects RX6 yX6_isInWindow yX6_isInWindow ∈ xB := xB_ofp (i := 29) (by decide +kernel) rfl
theorem xwp_30 : Cond.selects RX6 yX6_tells yX6_tells ∈ xB := xB_ofp (i := 30) (by decide +kernel) rfl
theorem xwp_31 : Cond.selects RX6 yX6_hasNoMove yX6_hasNoMove ∈ xB := xB_ofp (i := 31) (by decide +kernel) rfl
theorem xwp_32 : Cond.selects RX6 yX6_goneOn yX6_goneOn ∈ xB := xB_ofp (i := 32) (by decide +kernel) rfl
theorem xwp_33 : Cond.selects RX6 yX6_cannotAsk yX6_cannotAsk ∈ xB := xB_ofp (i := 33) (by decide +kernel) rfl
theorem xwp_34 : Cond.selects RX6 yX6_fewest yX6_fewest ∈ xB := xB_ofp (i := 34) (by decide +kernel) rfl
theorem xwp_35 : Cond.selects RX6 yX6_sound yX6_sound ∈ xB := xB_ofp (i := 35) (by decide +kernel) rfl
theorem xwp_36 : Cond.selects RX6 yX6_laysPlan yX6_laysPlan ∈ xB := xB_ofp (i := 36) (by decide +kernel) rfl
theorem xwp_37 : Cond.selects RX6 yX6_isSound yX6_isSound ∈ xB := xB_ofp (i := 37) (by decide +kernel) rfl
theorem xwp_38 : Cond.selects RX6 yX6_fits yX6_fits ∈ xB := xB_ofp (i := 38) (by decide +kernel) rfl
theorem xwp_39 : Cond.selects RX6 yX6_movesOfPlan yX6_movesOfPlan ∈ xB := xB_ofp (i := 39) (by decide +kernel) rfl
