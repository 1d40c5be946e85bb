/-! CONSTRUCTOR of NamedCallers (by program: wip/whole/mkcv.py) -/
def ma_X11_init : AM := (ka_X11, yX11_init, cX11_init, 2, none, 0, false)
set_option maxRecDepth 20000 in
theorem ok_X11_init : ax_ok ma_X11_init := ⟨List.mem_of_getElem? (i := 11) rfl, rfl, fun h => absurd h (by decide), ax_memi (ws := [Cond.code yX11_init cX11_init 2 none]) [132] rfl (by decide +kernel) _ List.mem_cons_self, ai_X11, by decide⟩
theorem kl_X11 : ax_cls 11 (RX11, TX11, 20) tyX11 := ⟨al_X11, rfl, tyX11_ok, nmX11, ay_X11⟩
set_option maxRecDepth 20000 in
theorem wo_X11 : Cond.methodLink ma_X11_init.1.2.1 1 objectInit ∈ ax_tb ∧ Cond.instanceMethod objectInit ∈ ax_tb ∧ Cond.code objectInit ⟨#[0xb1]⟩ 1 none ∈ ax_tb := ⟨ax_memi (ws := [Cond.methodLink RX11 1 objectInit]) [133] rfl (by decide +kernel) _ List.mem_cons_self, aw_oi, aw_oc⟩
abbrev fz_X11 : List Value := .null :: .null :: .null :: .null :: .null :: .null :: .null :: .null :: .null :: .null :: .null :: .null :: .null :: .null :: .null :: .null :: .int 0 :: .int 0 :: .int 0 :: .int 0 :: []
theorem hf_X11 : ∀ j, j < 20 → defaultValue (tyX11 j) = vp_V fz_X11 j := by decide +kernel
theorem dz_X11_0 : decode ma_X11_init.2.2.1 0 = .ok (.aload_n 0, 1) := by decide +kernel
theorem dz_X11_1 : decode ma_X11_init.2.2.1 1 = .ok (.invokespecial 1, 3) := by decide +kernel
theorem dz_X11_4 : decode ma_X11_init.2.2.1 4 = .ok (.aload_n 0, 1) := by decide +kernel
theorem dz_X11_5 : decode ma_X11_init.2.2.1 5 = .ok (.new 7, 3) := by decide +kernel
theorem dz_X11_8 : decode ma_X11_init.2.2.1 8 = .ok (.dup, 1) := by decide +kernel
theorem dz_X11_9 : decode ma_X11_init.2.2.1 9 = .ok (.invokespecial 9, 3) := by decide +kernel
theorem dz_X11_12 : decode ma_X11_init.2.2.1 12 = .ok (.putfield 10, 3) := by decide +kernel
theorem dz_X11_15 : decode ma_X11_init.2.2.1 15 = .ok (.aload_n 0, 1) := by decide +kernel
theorem dz_X11_16 : decode ma_X11_init.2.2.1 16 = .ok (.iconst 5, 1) := by decide +kernel
theorem dz_X11_17 : decode ma_X11_init.2.2.1 17 = .ok (.anewarray 16, 3) := by decide +kernel
theorem dz_X11_20 : decode ma_X11_init.2.2.1 20 = .ok (.putfield 18, 3) := by decide +kernel
theorem dz_X11_23 : decode ma_X11_init.2.2.1 23 = .ok (.aload_n 0, 1) := by decide +kernel
theorem dz_X11_24 : decode ma_X11_init.2.2.1 24 = .ok (.iconst 5, 1) := by decide +kernel
theorem dz_X11_25 : decode ma_X11_init.2.2.1 25 = .ok (.anewarray 22, 3) := by decide +kernel
theorem dz_X11_28 : decode ma_X11_init.2.2.1 28 = .ok (.putfield 24, 3) := by decide +kernel
theorem dz_X11_31 : decode ma_X11_init.2.2.1 31 = .ok (.aload_n 0, 1) := by decide +kernel
theorem dz_X11_32 : decode ma_X11_init.2.2.1 32 = .ok (.new 28, 3) := by decide +kernel
theorem dz_X11_35 : decode ma_X11_init.2.2.1 35 = .ok (.dup, 1) := by decide +kernel
theorem dz_X11_36 : decode ma_X11_init.2.2.1 36 = .ok (.invokespecial 30, 3) := by decide +kernel
theorem dz_X11_39 : decode ma_X11_init.2.2.1 39 = .ok (.putfield 31, 3) := by decide +kernel
theorem dz_X11_42 : decode ma_X11_init.2.2.1 42 = .ok (.aload_n 0, 1) := by decide +kernel
theorem dz_X11_43 : decode ma_X11_init.2.2.1 43 = .ok (.new 35, 3) := by decide +kernel
theorem dz_X11_46 : decode ma_X11_init.2.2.1 46 = .ok (.dup, 1) := by decide +kernel
theorem dz_X11_47 : decode ma_X11_init.2.2.1 47 = .ok (.invokespecial 37, 3) := by decide +kernel
theorem dz_X11_50 : decode ma_X11_init.2.2.1 50 = .ok (.putfield 38, 3) := by decide +kernel
theorem dz_X11_53 : decode ma_X11_init.2.2.1 53 = .ok (.aload_n 0, 1) := by decide +kernel
theorem dz_X11_54 : decode ma_X11_init.2.2.1 54 = .ok (.new 42, 3) := by decide +kernel
theorem dz_X11_57 : decode ma_X11_init.2.2.1 57 = .ok (.dup, 1) := by decide +kernel
theorem dz_X11_58 : decode ma_X11_init.2.2.1 58 = .ok (.invokespecial 44, 3) := by decide +kernel
theorem dz_X11_61 : decode ma_X11_init.2.2.1 61 = .ok (.putfield 45, 3) := by decide +kernel
theorem dz_X11_64 : decode ma_X11_init.2.2.1 64 = .ok (.aload_n 0, 1) := by decide +kernel
theorem dz_X11_65 : decode ma_X11_init.2.2.1 65 = .ok (.new 42, 3) := by decide +kernel
theorem dz_X11_68 : decode ma_X11_init.2.2.1 68 = .ok (.dup, 1) := by decide +kernel
theorem dz_X11_69 : decode ma_X11_init.2.2.1 69 = .ok (.invokespecial 44, 3) := by decide +kernel
theorem dz_X11_72 : decode ma_X11_init.2.2.1 72 = .ok (.putfield 49, 3) := by decide +kernel
theorem dz_X11_75 : decode ma_X11_init.2.2.1 75 = .ok (.aload_n 0, 1) := by decide +kernel
theorem dz_X11_76 : decode ma_X11_init.2.2.1 76 = .ok (.new 52, 3) := by decide +kernel
theorem dz_X11_79 : decode ma_X11_init.2.2.1 79 = .ok (.dup, 1) := by decide +kernel
theorem dz_X11_80 : decode ma_X11_init.2.2.1 80 = .ok (.invokespecial 54, 3) := by decide +kernel
theorem dz_X11_83 : decode ma_X11_init.2.2.1 83 = .ok (.putfield 55, 3) := by decide +kernel
theorem dz_X11_86 : decode ma_X11_init.2.2.1 86 = .ok (.aload_n 0, 1) := by decide +kernel
theorem dz_X11_87 : decode ma_X11_init.2.2.1 87 = .ok (.new 59, 3) := by decide +kernel
theorem dz_X11_90 : decode ma_X11_init.2.2.1 90 = .ok (.dup, 1) := by decide +kernel
theorem dz_X11_91 : decode ma_X11_init.2.2.1 91 = .ok (.invokespecial 61, 3) := by decide +kernel
theorem dz_X11_94 : decode ma_X11_init.2.2.1 94 = .ok (.putfield 62, 3) := by decide +kernel
theorem dz_X11_97 : decode ma_X11_init.2.2.1 97 = .ok (.aload_n 0, 1) := by decide +kernel
theorem dz_X11_98 : decode ma_X11_init.2.2.1 98 = .ok (.new 66, 3) := by decide +kernel
theorem dz_X11_101 : decode ma_X11_init.2.2.1 101 = .ok (.dup, 1) := by decide +kernel
theorem dz_X11_102 : decode ma_X11_init.2.2.1 102 = .ok (.invokespecial 68, 3) := by decide +kernel
theorem dz_X11_105 : decode ma_X11_init.2.2.1 105 = .ok (.putfield 69, 3) := by decide +kernel
theorem dz_X11_108 : decode ma_X11_init.2.2.1 108 = .ok (.aload_n 0, 1) := by decide +kernel
theorem dz_X11_109 : decode ma_X11_init.2.2.1 109 = .ok (.new 66, 3) := by decide +kernel
theorem dz_X11_112 : decode ma_X11_init.2.2.1 112 = .ok (.dup, 1) := by decide +kernel
theorem dz_X11_113 : decode ma_X11_init.2.2.1 113 = .ok (.invokespecial 68, 3) := by decide +kernel
theorem dz_X11_116 : decode ma_X11_init.2.2.1 116 = .ok (.putfield 73, 3) := by decide +kernel
theorem dz_X11_119 : decode ma_X11_init.2.2.1 119 = .ok (.aload_n 0, 1) := by decide +kernel
theorem dz_X11_120 : decode ma_X11_init.2.2.1 120 = .ok (.new 66, 3) := by decide +kernel
theorem dz_X11_123 : decode ma_X11_init.2.2.1 123 = .ok (.dup, 1) := by decide +kernel
theorem dz_X11_124 : decode ma_X11_init.2.2.1 124 = .ok (.invokespecial 68, 3) := by decide +kernel
theorem dz_X11_127 : decode ma_X11_init.2.2.1 127 = .ok (.putfield 76, 3) := by decide +kernel
theorem dz_X11_130 : decode ma_X11_init.2.2.1 130 = .ok (.aload_n 0, 1) := by decide +kernel
theorem dz_X11_131 : decode ma_X11_init.2.2.1 131 = .ok (.new 79, 3) := by decide +kernel
theorem dz_X11_134 : decode ma_X11_init.2.2.1 134 = .ok (.dup, 1) := by decide +kernel
theorem dz_X11_135 : decode ma_X11_init.2.2.1 135 = .ok (.invokespecial 81, 3) := by decide +kernel
theorem dz_X11_138 : decode ma_X11_init.2.2.1 138 = .ok (.putfield 82, 3) := by decide +kernel
theorem dz_X11_141 : decode ma_X11_init.2.2.1 141 = .ok (.aload_n 0, 1) := by decide +kernel
theorem dz_X11_142 : decode ma_X11_init.2.2.1 142 = .ok (.bipush 8, 2) := by decide +kernel
theorem dz_X11_144 : decode ma_X11_init.2.2.1 144 = .ok (.newarray .int, 2) := by decide +kernel
theorem dz_X11_146 : decode ma_X11_init.2.2.1 146 = .ok (.putfield 86, 3) := by decide +kernel
theorem dz_X11_149 : decode ma_X11_init.2.2.1 149 = .ok (.aload_n 0, 1) := by decide +kernel
theorem dz_X11_150 : decode ma_X11_init.2.2.1 150 = .ok (.new 90, 3) := by decide +kernel
theorem dz_X11_153 : decode ma_X11_init.2.2.1 153 = .ok (.dup, 1) := by decide +kernel
theorem dz_X11_154 : decode ma_X11_init.2.2.1 154 = .ok (.invokespecial 92, 3) := by decide +kernel
theorem dz_X11_157 : decode ma_X11_init.2.2.1 157 = .ok (.putfield 93, 3) := by decide +kernel
theorem dz_X11_160 : decode ma_X11_init.2.2.1 160 = .ok (.aload_n 0, 1) := by decide +kernel
theorem dz_X11_161 : decode ma_X11_init.2.2.1 161 = .ok (.new 90, 3) := by decide +kernel
theorem dz_X11_164 : decode ma_X11_init.2.2.1 164 = .ok (.dup, 1) := by decide +kernel
theorem dz_X11_165 : decode ma_X11_init.2.2.1 165 = .ok (.invokespecial 92, 3) := by decide +kernel
theorem dz_X11_168 : decode ma_X11_init.2.2.1 168 = .ok (.putfield 97, 3) := by decide +kernel
theorem dz_X11_171 : decode ma_X11_init.2.2.1 171 = .ok (.aload_n 0, 1) := by decide +kernel
theorem dz_X11_172 : decode ma_X11_init.2.2.1 172 = .ok (.iconst 0, 1) := by decide +kernel
theorem dz_X11_173 : decode ma_X11_init.2.2.1 173 = .ok (.putfield 100, 3) := by decide +kernel
theorem dz_X11_176 : decode ma_X11_init.2.2.1 176 = .ok (.aload_n 0, 1) := by decide +kernel
theorem dz_X11_177 : decode ma_X11_init.2.2.1 177 = .ok (.iconst 0, 1) := by decide +kernel
theorem dz_X11_178 : decode ma_X11_init.2.2.1 178 = .ok (.putfield 104, 3) := by decide +kernel
theorem dz_X11_181 : decode ma_X11_init.2.2.1 181 = .ok (.aload_n 0, 1) := by decide +kernel
theorem dz_X11_182 : decode ma_X11_init.2.2.1 182 = .ok (.iconst (-1), 1) := by decide +kernel
theorem dz_X11_183 : decode ma_X11_init.2.2.1 183 = .ok (.putfield 107, 3) := by decide +kernel
theorem dz_X11_186 : decode ma_X11_init.2.2.1 186 = .ok (.aload_n 0, 1) := by decide +kernel
theorem dz_X11_187 : decode ma_X11_init.2.2.1 187 = .ok (.iconst 0, 1) := by decide +kernel
theorem dz_X11_188 : decode ma_X11_init.2.2.1 188 = .ok (.putfield 110, 3) := by decide +kernel
theorem dz_X11_191 : decode ma_X11_init.2.2.1 191 = .ok (.iconst 0, 1) := by decide +kernel
theorem dz_X11_192 : decode ma_X11_init.2.2.1 192 = .ok (.istore_n 1, 1) := by decide +kernel
theorem dz_X11_193 : decode ma_X11_init.2.2.1 193 = .ok (.iload_n 1, 1) := by decide +kernel
theorem dz_X11_194 : decode ma_X11_init.2.2.1 194 = .ok (.iconst 4, 1) := by decide +kernel
theorem dz_X11_195 : decode ma_X11_init.2.2.1 195 = .ok (.if_icmp .gt 35, 3) := by decide +kernel
theorem dz_X11_198 : decode ma_X11_init.2.2.1 198 = .ok (.aload_n 0, 1) := by decide +kernel
theorem dz_X11_199 : decode ma_X11_init.2.2.1 199 = .ok (.getfield 18, 3) := by decide +kernel
theorem dz_X11_202 : decode ma_X11_init.2.2.1 202 = .ok (.iload_n 1, 1) := by decide +kernel
theorem dz_X11_203 : decode ma_X11_init.2.2.1 203 = .ok (.new 16, 3) := by decide +kernel
theorem dz_X11_206 : decode ma_X11_init.2.2.1 206 = .ok (.dup, 1) := by decide +kernel
theorem dz_X11_207 : decode ma_X11_init.2.2.1 207 = .ok (.invokespecial 114, 3) := by decide +kernel
theorem dz_X11_210 : decode ma_X11_init.2.2.1 210 = .ok (.aastore, 1) := by decide +kernel
theorem dz_X11_211 : decode ma_X11_init.2.2.1 211 = .ok (.aload_n 0, 1) := by decide +kernel
theorem dz_X11_212 : decode ma_X11_init.2.2.1 212 = .ok (.getfield 24, 3) := by decide +kernel
theorem dz_X11_215 : decode ma_X11_init.2.2.1 215 = .ok (.iload_n 1, 1) := by decide +kernel
theorem dz_X11_216 : decode ma_X11_init.2.2.1 216 = .ok (.new 22, 3) := by decide +kernel
theorem dz_X11_219 : decode ma_X11_init.2.2.1 219 = .ok (.dup, 1) := by decide +kernel
theorem dz_X11_220 : decode ma_X11_init.2.2.1 220 = .ok (.invokespecial 115, 3) := by decide +kernel
theorem dz_X11_223 : decode ma_X11_init.2.2.1 223 = .ok (.aastore, 1) := by decide +kernel
theorem dz_X11_224 : decode ma_X11_init.2.2.1 224 = .ok (.iinc 1 1, 3) := by decide +kernel
theorem dz_X11_227 : decode ma_X11_init.2.2.1 227 = .ok (.goto (-34), 3) := by decide +kernel
theorem dz_X11_230 : decode ma_X11_init.2.2.1 230 = .ok (.return_, 1) := by decide +kernel
set_option maxRecDepth 20000 in
theorem cl_X11_16 : Cond.classLink ma_X11_init.1.2.1 16 RX5 ∈ ax_tb := ax_memi (ws := [Cond.classLink RX11 16 RX5]) [156] rfl (by decide +kernel) _ List.mem_cons_self
set_option maxRecDepth 20000 in
theorem cl_X11_22 : Cond.classLink ma_X11_init.1.2.1 22 RX0 ∈ ax_tb := ax_memi (ws := [Cond.classLink RX11 22 RX0]) [158] rfl (by decide +kernel) _ List.mem_cons_self
set_option maxRecDepth 20000 in
theorem mk_X11_114 : cz_L ma_X11_init.1 16 RX5 4 ma_X5_init := ⟨ax_memi (ws := [Cond.classLink RX11 16 RX5]) [156] rfl (by decide +kernel) _ List.mem_cons_self, ax_memi (ws := [Cond.instantiable RX5 4]) [362] rfl (by decide +kernel) _ List.mem_cons_self, ai_X5, ax_memi (ws := [Cond.instanceMethod yX5_init]) [364] rfl (by decide +kernel) _ List.mem_cons_self, rfl, ⟨by decide +kernel, by decide +kernel, by decide +kernel⟩, rfl, by decide⟩
set_option maxRecDepth 20000 in
theorem mk_X11_115 : cz_L ma_X11_init.1 22 RX0 3 ma_X0_init := ⟨ax_memi (ws := [Cond.classLink RX11 22 RX0]) [158] rfl (by decide +kernel) _ List.mem_cons_self, ax_memi (ws := [Cond.instantiable RX0 3]) [380] rfl (by decide +kernel) _ List.mem_cons_self, ai_X0, ax_memi (ws := [Cond.instanceMethod yX0_init]) [382] rfl (by decide +kernel) _ List.mem_cons_self, rfl, ⟨by decide +kernel, by decide +kernel, by decide +kernel⟩, rfl, by decide⟩
set_option maxRecDepth 20000 in
theorem mk_X11_30 : cz_L ma_X11_init.1 28 RX6 3 ma_X6_init := ⟨ax_memi (ws := [Cond.classLink RX11 28 RX6]) [160] rfl (by decide +kernel) _ List.mem_cons_self, ax_memi (ws := [Cond.instantiable RX6 3]) [161] rfl (by decide +kernel) _ List.mem_cons_self, ai_X6, ax_memi (ws := [Cond.instanceMethod yX6_init]) [163] rfl (by decide +kernel) _ List.mem_cons_self, rfl, ⟨by decide +kernel, by decide +kernel, by decide +kernel⟩, rfl, by decide⟩
set_option maxRecDepth 20000 in
theorem mk_X11_37 : cz_L ma_X11_init.1 35 RX7 3 ma_X7_init := ⟨ax_memi (ws := [Cond.classLink RX11 35 RX7]) [176] rfl (by decide +kernel) _ List.mem_cons_self, ax_memi (ws := [Cond.instantiable RX7 3]) [177] rfl (by decide +kernel) _ List.mem_cons_self, ai_X7, ax_memi (ws := [Cond.instanceMethod yX7_init]) [179] rfl (by decide +kernel) _ List.mem_cons_self, rfl, ⟨by decide +kernel, by decide +kernel, by decide +kernel⟩, rfl, by decide⟩
set_option maxRecDepth 20000 in
theorem mk_X11_44 : cz_L ma_X11_init.1 42 RX2 1 ma_X2_init := ⟨ax_memi (ws := [Cond.classLink RX11 42 RX2]) [192] rfl (by decide +kernel) _ List.mem_cons_self, ax_memi (ws := [Cond.instantiable RX2 1]) [193] rfl (by decide +kernel) _ List.mem_cons_self, ai_X2, ax_memi (ws := [Cond.instanceMethod yX2_init]) [195] rfl (by decide +kernel) _ List.mem_cons_self, rfl, ⟨by decide +kernel, by decide +kernel, by decide +kernel⟩, rfl, by decide⟩
set_option maxRecDepth 20000 in
theorem mk_X11_54 : cz_L ma_X11_init.1 52 RX3 4 ma_X3_init := ⟨ax_memi (ws := [Cond.classLink RX11 52 RX3]) [202] rfl (by decide +kernel) _ List.mem_cons_self, ax_memi (ws := [Cond.instantiable RX3 4]) [203] rfl (by decide +kernel) _ List.mem_cons_self, ai_X3, ax_memi (ws := [Cond.instanceMethod yX3_init]) [205] rfl (by decide +kernel) _ List.mem_cons_self, rfl, ⟨by decide +kernel, by decide +kernel, by decide +kernel⟩, rfl, by decide⟩
set_option maxRecDepth 20000 in
theorem mk_X11_61 : cz_L ma_X11_init.1 59 RX8 10 ma_X8_init := ⟨ax_memi (ws := [Cond.classLink RX11 59 RX8]) [222] rfl (by decide +kernel) _ List.mem_cons_self, ax_memi (ws := [Cond.instantiable RX8 10]) [223] rfl (by decide +kernel) _ List.mem_cons_self, ai_X8, ax_memi (ws := [Cond.instanceMethod yX8_init]) [225] rfl (by decide +kernel) _ List.mem_cons_self, rfl, ⟨by decide +kernel, by decide +kernel, by decide +kernel⟩, rfl, by decide⟩
set_option maxRecDepth 20000 in
theorem mk_X11_68 : cz_L ma_X11_init.1 66 RX9 10 ma_X9_init := ⟨ax_memi (ws := [Cond.classLink RX11 66 RX9]) [259] rfl (by decide +kernel) _ List.mem_cons_self, ax_memi (ws := [Cond.instantiable RX9 10]) [260] rfl (by decide +kernel) _ List.mem_cons_self, ai_X9, ax_memi (ws := [Cond.instanceMethod yX9_init]) [262] rfl (by decide +kernel) _ List.mem_cons_self, rfl, ⟨by decide +kernel, by decide +kernel, by decide +kernel⟩, rfl, by decide⟩
set_option maxRecDepth 20000 in
theorem mk_X11_9 : cz_L ma_X11_init.1 7 RX10 4 ma_X10_init := ⟨ax_memi (ws := [Cond.classLink RX11 7 RX10]) [136] rfl (by decide +kernel) _ List.mem_cons_self, ax_memi (ws := [Cond.instantiable RX10 4]) [137] rfl (by decide +kernel) _ List.mem_cons_self, ai_X10, ax_memi (ws := [Cond.instanceMethod yX10_init]) [139] rfl (by decide +kernel) _ List.mem_cons_self, rfl, ⟨by decide +kernel, by decide +kernel, by decide +kernel⟩, rfl, by decide⟩
set_option maxRecDepth 20000 in
theorem mk_X11_81 : cz_L ma_X11_init.1 79 RX1 3 ma_X1_init := ⟨ax_memi (ws := [Cond.classLink RX11 79 RX1]) [319] rfl (by decide +kernel) _ List.mem_cons_self, ax_memi (ws := [Cond.instantiable RX1 3]) [320] rfl (by decide +kernel) _ List.mem_cons_self, ai_X1, ax_memi (ws := [Cond.instanceMethod yX1_init]) [322] rfl (by decide +kernel) _ List.mem_cons_self, rfl, ⟨by decide +kernel, by decide +kernel, by decide +kernel⟩, rfl, by decide⟩
set_option maxRecDepth 20000 in
theorem mk_X11_92 : cz_L ma_X11_init.1 90 RX4 6 ma_X4_init := ⟨ax_memi (ws := [Cond.classLink RX11 90 RX4]) [337] rfl (by decide +kernel) _ List.mem_cons_self, ax_memi (ws := [Cond.instantiable RX4 6]) [338] rfl (by decide +kernel) _ List.mem_cons_self, ai_X4, ax_memi (ws := [Cond.instanceMethod yX4_init]) [340] rfl (by decide +kernel) _ List.mem_cons_self, rfl, ⟨by decide +kernel, by decide +kernel, by decide +kernel⟩, rfl, by decide⟩
def w_X11t (cy : Nat → ClassId) (u : Nat → Nat) : va_W := (((((((((((((((((((((((([] ++ w_X10 cy (u 2) (fun j => u (3 + j))) ++ w_X6 cy (u 4) (fun j => u (5 + j))) ++ w_X7 cy (u 6) (fun j => u (7 + j))) ++ w_X2 cy (u 8) (fun j => u (9 + j))) ++ w_X2 cy (u 10) (fun j => u (11 + j))) ++ w_X3 cy (u 12) (fun j => u (13 + j))) ++ w_X8 cy (u 16) (fun j => u (17 + j))) ++ w_X9 cy (u 21) (fun j => u (22 + j))) ++ w_X9 cy (u 24) (fun j => u (25 + j))) ++ w_X9 cy (u 27) (fun j => u (28 + j))) ++ w_X1 cy (u 30) (fun j => u (31 + j))) ++ [(u 32, (.inl (cy 0, 8, .inl (fun _ => 0))))]) ++ w_X4 cy (u 33) (fun j => u (34 + j))) ++ w_X4 cy (u 37) (fun j => u (38 + j))) ++ w_X5 cy (u 41) (fun j => u (42 + j))) ++ w_X0 cy (u 44) (fun j => u (45 + j))) ++ w_X5 cy (u 47) (fun j => u (48 + j))) ++ w_X0 cy (u 50) (fun j => u (51 + j))) ++ w_X5 cy (u 53) (fun j => u (54 + j))) ++ w_X0 cy (u 56) (fun j => u (57 + j))) ++ w_X5 cy (u 59) (fun j => u (60 + j))) ++ w_X0 cy (u 62) (fun j => u (63 + j))) ++ w_X5 cy (u 65) (fun j => u (66 + j))) ++ w_X0 cy (u 68) (fun j => u (69 + j)))
def w_X11 (cy : Nat → ClassId) (h0 : Nat) (u : Nat → Nat) : va_W := (h0, .inr (11, [.ref (u 2), .ref (u 0), .ref (u 1), .ref (u 4), .ref (u 6), .ref (u 8), .ref (u 10), .ref (u 12), .ref (u 16), .ref (u 21), .ref (u 24), .ref (u 27), .ref (u 30), .ref (u 32), .ref (u 33), .ref (u 37), .int 0, .int 0, .int (-1), .int 0])) :: (u 0, .inl (cy 5, 5, .inr (.inr (.inr (.inr (fun j => some (u (41 + 6 * j)))))))) :: (u 1, .inl (cy 4, 5, .inr (.inr (.inr (.inr (fun j => some (u (44 + 6 * j)))))))) :: w_X11t cy u
def cz_nest : List (Nat × MethodName) := [(9, yX10_init), (30, yX6_init), (37, yX7_init), (44, yX2_init), (54, yX3_init), (61, yX8_init), (68, yX9_init), (81, yX1_init), (92, yX4_init), (114, yX5_init), (115, yX0_init)]
def g_X11 (U : State) : Prop := va_AO RX5 U ∧ va_AO RX0 U ∧ ∀ q ∈ cz_nest, va_Nw (.methodLinkNest RX11 q.1 q.2 RX11) U
theorem cz_front {s : State} {A : Nat → Prop} {dC : Nat → ClassId} {dI : Nat → Nat → Nat} {a b : va_W} {x : Nat × va_E} {H : Heap} {locs : List Loc} (h : cz_I s A dC dI ((a ++ b) ++ [x]) H locs) : cz_I s A dC dI (a ++ x :: b) H locs := by
  have h1 := va_P.swap h.1
  have h2 := va_D.swap h.2.1
  rw [List.append_assoc] at h1 h2
  exact ⟨h1, h2, h.2.2⟩
theorem cz_at3 {x y z v : Nat × va_E} {a b : va_W} : (x :: y :: z :: (a ++ v :: b))[a.length + 3]? = some v := by
  show (a ++ v :: b)[a.length]? = some v
  rw [List.getElem?_append_right (Nat.le_refl _), Nat.sub_self]
  rfl
theorem cz_row5 {dC : Nat → ClassId} {dI : Nat → Nat → Nat} {a : Nat} {cA : ClassId} {f g : Nat → Option Nat} (h : ∀ j, j < 5 → f j = g j) (H : Heap) (hv : va_at (dC, dI) vwCl (a, .inl (cA, 5, .inr (.inr (.inr (.inr f))))) H) : va_at (dC, dI) vwCl (a, .inl (cA, 5, .inr (.inr (.inr (.inr g))))) H := by
  have e : vp_cell cA (5, .inr (.inr (.inr (.inr f)))) = vp_cell cA (5, .inr (.inr (.inr (.inr g)))) := by
    show arrV cA 5 (fun j => va_rf (f j)) = arrV cA 5 (fun j => va_rf (g j))
    unfold arrV
    congr 1
    congr 1
    funext j
    show va_rf (f j.val) = va_rf (g j.val)
    rw [h j.val j.isLt]
  show H[a]? = some (vp_cell cA (5, .inr (.inr (.inr (.inr g)))))
  rw [← e]
  exact hv
set_option maxHeartbeats 8000000 in
set_option maxRecDepth 40000 in
theorem cb_X11 {l : Launch} : cz_B l ma_X11_init 11 fz_X11 w_X11 71 3535 2 g_X11 := by
  intro p e R s m args below meth c Q A dC dI cy h0 ls hC hnm hG hR hl hI kk
  have hx := hC.1
  have hb := hC.2.1
  have a0 := lv_at hl 0 rfl
  refine lv_aload_n hx hb dz_X11_0 rfl a0 ?_
  refine cz_obj hC hl.1 wo_X11 ⟨by omega, by omega⟩ dz_X11_1 ?_
  obtain ⟨w0, e0⟩ : ∃ z : va_W, z = [] := ⟨_, rfl⟩
  have hI : cz_I s A dC dI ((h0, .inr (11, [.null, .null, .null, .null, .null, .null, .null, .null, .null, .null, .null, .null, .null, .null, .null, .null, .int 0, .int 0, .int 0, .int 0])) :: w0) s.heap [] := by rw [e0]; exact hI
  refine lv_aload_n hx hb dz_X11_4 rfl a0 ?_
  refine cz_make cm_X10 ok_X10_init rfl kl_X10 hf_X10 mk_X11_9 (Or.inr ⟨RX11, hG.2.2 (9, yX10_init) (List.mem_of_getElem? (i := 0) rfl)⟩) (fun _ _ _ _ _ => trivial) (fun _ _ => trivial) hC hI hl.1 ⟨by omega, by omega⟩ (by omega) (by omega) dz_X11_5 dz_X11_8 dz_X11_9 (Nat.le_of_ble_eq_true rfl) (fun q0 u0 H locs hI => ?_)
  refine W.widen (k := 2) (n := 244) (by omega) (by omega) ?_
  obtain ⟨w1, e1⟩ : ∃ z : va_W, z = w0 ++ w_X10 cy q0 u0 := ⟨_, rfl⟩
  have hI : cz_I s A dC dI ((h0, .inr (11, [.null, .null, .null, .null, .null, .null, .null, .null, .null, .null, .null, .null, .null, .null, .null, .null, .int 0, .int 0, .int 0, .int 0])) :: w1) H locs := by rw [e1]; exact hI
  refine cz_put (sl := 0) hC hI rfl kl_X11 hnm (by decide) (by decide) rfl rfl rfl (by show 0 < 20; decide) dz_X11_12 (fun H locs hI => ?_)
  have hI : cz_I s A dC dI ((h0, .inr (11, [.ref q0, .null, .null, .null, .null, .null, .null, .null, .null, .null, .null, .null, .null, .null, .null, .null, .int 0, .int 0, .int 0, .int 0])) :: w1) H locs := hI
  refine lv_aload_n hx hb dz_X11_15 rfl a0 ?_
  refine lv_iconst (v := 5) hx hb dz_X11_16 (by decide) ?_
  refine cz_newq (t := 5) (C := RX5) (N' := 5) hC hI dz_X11_17 rfl cl_X11_16 hG.1 (by decide) (by decide) (by decide) (by omega) (by omega) (fun qL H hI => ?_)
  refine W.widen (k := 3) (n := 249) (by omega) (by omega) ?_
  have hI : cz_I s A dC dI ((h0, .inr (11, [.ref q0, .null, .null, .null, .null, .null, .null, .null, .null, .null, .null, .null, .null, .null, .null, .null, .int 0, .int 0, .int 0, .int 0])) :: (qL, .inl (cy 5, 5, .inr (.inr (.inr (.inr (fun _ => none)))))) :: w1) H locs := cz_front (a := [(h0, .inr (11, [.ref q0, .null, .null, .null, .null, .null, .null, .null, .null, .null, .null, .null, .null, .null, .null, .null, .int 0, .int 0, .int 0, .int 0]))]) hI
  refine cz_put (sl := 1) hC hI rfl kl_X11 hnm (by decide) (by decide) rfl rfl rfl (by show 1 < 20; decide) dz_X11_20 (fun H locs hI => ?_)
  have hI : cz_I s A dC dI ((h0, .inr (11, [.ref q0, .ref qL, .null, .null, .null, .null, .null, .null, .null, .null, .null, .null, .null, .null, .null, .null, .int 0, .int 0, .int 0, .int 0])) :: (qL, .inl (cy 5, 5, .inr (.inr (.inr (.inr (fun _ => none)))))) :: w1) H locs := hI
  refine lv_aload_n hx hb dz_X11_23 rfl a0 ?_
  refine lv_iconst (v := 5) hx hb dz_X11_24 (by decide) ?_
  refine cz_newq (t := 4) (C := RX0) (N' := 5) hC hI dz_X11_25 rfl cl_X11_22 hG.2.1 (by decide) (by decide) (by decide) (by omega) (by omega) (fun qA H hI => ?_)
  refine W.widen (k := 4) (n := 254) (by omega) (by omega) ?_
  have hI : cz_I s A dC dI ((h0, .inr (11, [.ref q0, .ref qL, .null, .null, .null, .null, .null, .null, .null, .null, .null, .null, .null, .null, .null, .null, .int 0, .int 0, .int 0, .int 0])) :: (qL, .inl (cy 5, 5, .inr (.inr (.inr (.inr (fun _ => none)))))) :: (qA, .inl (cy 4, 5, .inr (.inr (.inr (.inr (fun _ => none)))))) :: w1) H locs := cz_front (a := [(h0, .inr (11, [.ref q0, .ref qL, .null, .null, .null, .null, .null, .null, .null, .null, .null, .null, .null, .null, .null, .null, .int 0, .int 0, .int 0, .int 0])), (qL, .inl (cy 5, 5, .inr (.inr (.inr (.inr (fun _ => none))))))]) hI
  refine cz_put (sl := 2) hC hI rfl kl_X11 hnm (by decide) (by decide) rfl rfl rfl (by show 2 < 20; decide) dz_X11_28 (fun H locs hI => ?_)
  have hI : cz_I s A dC dI ((h0, .inr (11, [.ref q0, .ref qL, .ref qA, .null, .null, .null, .null, .null, .null, .null, .null, .null, .null, .null, .null, .null, .int 0, .int 0, .int 0, .int 0])) :: (qL, .inl (cy 5, 5, .inr (.inr (.inr (.inr (fun _ => none)))))) :: (qA, .inl (cy 4, 5, .inr (.inr (.inr (.inr (fun _ => none)))))) :: w1) H locs := hI
  refine lv_aload_n hx hb dz_X11_31 rfl a0 ?_
  refine cz_make cm_X6 ok_X6_init rfl kl_X6 hf_X6 mk_X11_30 (Or.inr ⟨RX11, hG.2.2 (30, yX6_init) (List.mem_of_getElem? (i := 1) rfl)⟩) (fun _ _ _ _ _ => trivial) (fun _ _ => trivial) hC hI hl.1 ⟨by omega, by omega⟩ (by omega) (by omega) dz_X11_32 dz_X11_35 dz_X11_36 (Nat.le_of_ble_eq_true rfl) (fun q1 u1 H locs hI => ?_)
  refine W.widen (k := 6) (n := 263) (by omega) (by omega) ?_
  obtain ⟨w2, e2⟩ : ∃ z : va_W, z = w1 ++ w_X6 cy q1 u1 := ⟨_, rfl⟩
  have hI : cz_I s A dC dI ((h0, .inr (11, [.ref q0, .ref qL, .ref qA, .null, .null, .null, .null, .null, .null, .null, .null, .null, .null, .null, .null, .null, .int 0, .int 0, .int 0, .int 0])) :: (qL, .inl (cy 5, 5, .inr (.inr (.inr (.inr (fun _ => none)))))) :: (qA, .inl (cy 4, 5, .inr (.inr (.inr (.inr (fun _ => none)))))) :: w2) H locs := by rw [e2]; exact hI
  refine cz_put (sl := 3) hC hI rfl kl_X11 hnm (by decide) (by decide) rfl rfl rfl (by show 3 < 20; decide) dz_X11_39 (fun H locs hI => ?_)
  have hI : cz_I s A dC dI ((h0, .inr (11, [.ref q0, .ref qL, .ref qA, .ref q1, .null, .null, .null, .null, .null, .null, .null, .null, .null, .null, .null, .null, .int 0, .int 0, .int 0, .int 0])) :: (qL, .inl (cy 5, 5, .inr (.inr (.inr (.inr (fun _ => none)))))) :: (qA, .inl (cy 4, 5, .inr (.inr (.inr (.inr (fun _ => none)))))) :: w2) H locs := hI
  refine lv_aload_n hx hb dz_X11_42 rfl a0 ?_
  refine cz_make cm_X7 ok_X7_init rfl kl_X7 hf_X7 mk_X11_37 (Or.inr ⟨RX11, hG.2.2 (37, yX7_init) (List.mem_of_getElem? (i := 2) rfl)⟩) (fun _ _ _ _ _ => trivial) (fun _ _ => trivial) hC hI hl.1 ⟨by omega, by omega⟩ (by omega) (by omega) dz_X11_43 dz_X11_46 dz_X11_47 (Nat.le_of_ble_eq_true rfl) (fun q2 u2 H locs hI => ?_)
  refine W.widen (k := 8) (n := 986) (by omega) (by omega) ?_
  obtain ⟨w3, e3⟩ : ∃ z : va_W, z = w2 ++ w_X7 cy q2 u2 := ⟨_, rfl⟩
  have hI : cz_I s A dC dI ((h0, .inr (11, [.ref q0, .ref qL, .ref qA, .ref q1, .null, .null, .null, .null, .null, .null, .null, .null, .null, .null, .null, .null, .int 0, .int 0, .int 0, .int 0])) :: (qL, .inl (cy 5, 5, .inr (.inr (.inr (.inr (fun _ => none)))))) :: (qA, .inl (cy 4, 5, .inr (.inr (.inr (.inr (fun _ => none)))))) :: w3) H locs := by rw [e3]; exact hI
  refine cz_put (sl := 4) hC hI rfl kl_X11 hnm (by decide) (by decide) rfl rfl rfl (by show 4 < 20; decide) dz_X11_50 (fun H locs hI => ?_)
  have hI : cz_I s A dC dI ((h0, .inr (11, [.ref q0, .ref qL, .ref qA, .ref q1, .ref q2, .null, .null, .null, .null, .null, .null, .null, .null, .null, .null, .null, .int 0, .int 0, .int 0, .int 0])) :: (qL, .inl (cy 5, 5, .inr (.inr (.inr (.inr (fun _ => none)))))) :: (qA, .inl (cy 4, 5, .inr (.inr (.inr (.inr (fun _ => none)))))) :: w3) H locs := hI
  refine lv_aload_n hx hb dz_X11_53 rfl a0 ?_
  refine cz_make cm_X2 ok_X2_init rfl kl_X2 hf_X2 mk_X11_44 (Or.inr ⟨RX11, hG.2.2 (44, yX2_init) (List.mem_of_getElem? (i := 3) rfl)⟩) (fun _ _ _ _ _ => trivial) (fun _ _ => trivial) hC hI hl.1 ⟨by omega, by omega⟩ (by omega) (by omega) dz_X11_54 dz_X11_57 dz_X11_58 (Nat.le_of_ble_eq_true rfl) (fun q3 u3 H locs hI => ?_)
  refine W.widen (k := 10) (n := 1287) (by omega) (by omega) ?_
  obtain ⟨w4, e4⟩ : ∃ z : va_W, z = w3 ++ w_X2 cy q3 u3 := ⟨_, rfl⟩
  have hI : cz_I s A dC dI ((h0, .inr (11, [.ref q0, .ref qL, .ref qA, .ref q1, .ref q2, .null, .null, .null, .null, .null, .null, .null, .null, .null, .null, .null, .int 0, .int 0, .int 0, .int 0])) :: (qL, .inl (cy 5, 5, .inr (.inr (.inr (.inr (fun _ => none)))))) :: (qA, .inl (cy 4, 5, .inr (.inr (.inr (.inr (fun _ => none)))))) :: w4) H locs := by rw [e4]; exact hI
  refine cz_put (sl := 5) hC hI rfl kl_X11 hnm (by decide) (by decide) rfl rfl rfl (by show 5 < 20; decide) dz_X11_61 (fun H locs hI => ?_)
  have hI : cz_I s A dC dI ((h0, .inr (11, [.ref q0, .ref qL, .ref qA, .ref q1, .ref q2, .ref q3, .null, .null, .null, .null, .null, .null, .null, .null, .null, .null, .int 0, .int 0, .int 0, .int 0])) :: (qL, .inl (cy 5, 5, .inr (.inr (.inr (.inr (fun _ => none)))))) :: (qA, .inl (cy 4, 5, .inr (.inr (.inr (.inr (fun _ => none)))))) :: w4) H locs := hI
  refine lv_aload_n hx hb dz_X11_64 rfl a0 ?_
  refine cz_make cm_X2 ok_X2_init rfl kl_X2 hf_X2 mk_X11_44 (Or.inr ⟨RX11, hG.2.2 (44, yX2_init) (List.mem_of_getElem? (i := 3) rfl)⟩) (fun _ _ _ _ _ => trivial) (fun _ _ => trivial) hC hI hl.1 ⟨by omega, by omega⟩ (by omega) (by omega) dz_X11_65 dz_X11_68 dz_X11_69 (Nat.le_of_ble_eq_true rfl) (fun q4 u4 H locs hI => ?_)
  refine W.widen (k := 12) (n := 1588) (by omega) (by omega) ?_
  obtain ⟨w5, e5⟩ : ∃ z : va_W, z = w4 ++ w_X2 cy q4 u4 := ⟨_, rfl⟩
  have hI : cz_I s A dC dI ((h0, .inr (11, [.ref q0, .ref qL, .ref qA, .ref q1, .ref q2, .ref q3, .null, .null, .null, .null, .null, .null, .null, .null, .null, .null, .int 0, .int 0, .int 0, .int 0])) :: (qL, .inl (cy 5, 5, .inr (.inr (.inr (.inr (fun _ => none)))))) :: (qA, .inl (cy 4, 5, .inr (.inr (.inr (.inr (fun _ => none)))))) :: w5) H locs := by rw [e5]; exact hI
  refine cz_put (sl := 6) hC hI rfl kl_X11 hnm (by decide) (by decide) rfl rfl rfl (by show 6 < 20; decide) dz_X11_72 (fun H locs hI => ?_)
  have hI : cz_I s A dC dI ((h0, .inr (11, [.ref q0, .ref qL, .ref qA, .ref q1, .ref q2, .ref q3, .ref q4, .null, .null, .null, .null, .null, .null, .null, .null, .null, .int 0, .int 0, .int 0, .int 0])) :: (qL, .inl (cy 5, 5, .inr (.inr (.inr (.inr (fun _ => none)))))) :: (qA, .inl (cy 4, 5, .inr (.inr (.inr (.inr (fun _ => none)))))) :: w5) H locs := hI
  refine lv_aload_n hx hb dz_X11_75 rfl a0 ?_
  refine cz_make cm_X3 ok_X3_init rfl kl_X3 hf_X3 mk_X11_54 (Or.inr ⟨RX11, hG.2.2 (54, yX3_init) (List.mem_of_getElem? (i := 4) rfl)⟩) (fun _ _ _ _ _ => trivial) (fun _ _ => trivial) hC hI hl.1 ⟨by omega, by omega⟩ (by omega) (by omega) dz_X11_76 dz_X11_79 dz_X11_80 (Nat.le_of_ble_eq_true rfl) (fun q5 u5 H locs hI => ?_)
  refine W.widen (k := 16) (n := 1622) (by omega) (by omega) ?_
  obtain ⟨w6, e6⟩ : ∃ z : va_W, z = w5 ++ w_X3 cy q5 u5 := ⟨_, rfl⟩
  have hI : cz_I s A dC dI ((h0, .inr (11, [.ref q0, .ref qL, .ref qA, .ref q1, .ref q2, .ref q3, .ref q4, .null, .null, .null, .null, .null, .null, .null, .null, .null, .int 0, .int 0, .int 0, .int 0])) :: (qL, .inl (cy 5, 5, .inr (.inr (.inr (.inr (fun _ => none)))))) :: (qA, .inl (cy 4, 5, .inr (.inr (.inr (.inr (fun _ => none)))))) :: w6) H locs := by rw [e6]; exact hI
  refine cz_put (sl := 7) hC hI rfl kl_X11 hnm (by decide) (by decide) rfl rfl rfl (by show 7 < 20; decide) dz_X11_83 (fun H locs hI => ?_)
  have hI : cz_I s A dC dI ((h0, .inr (11, [.ref q0, .ref qL, .ref qA, .ref q1, .ref q2, .ref q3, .ref q4, .ref q5, .null, .null, .null, .null, .null, .null, .null, .null, .int 0, .int 0, .int 0, .int 0])) :: (qL, .inl (cy 5, 5, .inr (.inr (.inr (.inr (fun _ => none)))))) :: (qA, .inl (cy 4, 5, .inr (.inr (.inr (.inr (fun _ => none)))))) :: w6) H locs := hI
  refine lv_aload_n hx hb dz_X11_86 rfl a0 ?_
  refine cz_make cm_X8 ok_X8_init rfl kl_X8 hf_X8 mk_X11_61 (Or.inr ⟨RX11, hG.2.2 (61, yX8_init) (List.mem_of_getElem? (i := 5) rfl)⟩) (fun _ _ _ _ _ => trivial) (fun _ _ => trivial) hC hI hl.1 ⟨by omega, by omega⟩ (by omega) (by omega) dz_X11_87 dz_X11_90 dz_X11_91 (Nat.le_of_ble_eq_true rfl) (fun q6 u6 H locs hI => ?_)
  refine W.widen (k := 21) (n := 1714) (by omega) (by omega) ?_
  obtain ⟨w7, e7⟩ : ∃ z : va_W, z = w6 ++ w_X8 cy q6 u6 := ⟨_, rfl⟩
  have hI : cz_I s A dC dI ((h0, .inr (11, [.ref q0, .ref qL, .ref qA, .ref q1, .ref q2, .ref q3, .ref q4, .ref q5, .null, .null, .null, .null, .null, .null, .null, .null, .int 0, .int 0, .int 0, .int 0])) :: (qL, .inl (cy 5, 5, .inr (.inr (.inr (.inr (fun _ => none)))))) :: (qA, .inl (cy 4, 5, .inr (.inr (.inr (.inr (fun _ => none)))))) :: w7) H locs := by rw [e7]; exact hI
  refine cz_put (sl := 8) hC hI rfl kl_X11 hnm (by decide) (by decide) rfl rfl rfl (by show 8 < 20; decide) dz_X11_94 (fun H locs hI => ?_)
  have hI : cz_I s A dC dI ((h0, .inr (11, [.ref q0, .ref qL, .ref qA, .ref q1, .ref q2, .ref q3, .ref q4, .ref q5, .ref q6, .null, .null, .null, .null, .null, .null, .null, .int 0, .int 0, .int 0, .int 0])) :: (qL, .inl (cy 5, 5, .inr (.inr (.inr (.inr (fun _ => none)))))) :: (qA, .inl (cy 4, 5, .inr (.inr (.inr (.inr (fun _ => none)))))) :: w7) H locs := hI
  refine lv_aload_n hx hb dz_X11_97 rfl a0 ?_
  refine cz_make cm_X9 ok_X9_init rfl kl_X9 hf_X9 mk_X11_68 (Or.inr ⟨RX11, hG.2.2 (68, yX9_init) (List.mem_of_getElem? (i := 6) rfl)⟩) (fun _ _ _ _ _ => trivial) (fun _ _ => trivial) hC hI hl.1 ⟨by omega, by omega⟩ (by omega) (by omega) dz_X11_98 dz_X11_101 dz_X11_102 (Nat.le_of_ble_eq_true rfl) (fun q7 u7 H locs hI => ?_)
  refine W.widen (k := 24) (n := 1734) (by omega) (by omega) ?_
  obtain ⟨w8, e8⟩ : ∃ z : va_W, z = w7 ++ w_X9 cy q7 u7 := ⟨_, rfl⟩
  have hI : cz_I s A dC dI ((h0, .inr (11, [.ref q0, .ref qL, .ref qA, .ref q1, .ref q2, .ref q3, .ref q4, .ref q5, .ref q6, .null, .null, .null, .null, .null, .null, .null, .int 0, .int 0, .int 0, .int 0])) :: (qL, .inl (cy 5, 5, .inr (.inr (.inr (.inr (fun _ => none)))))) :: (qA, .inl (cy 4, 5, .inr (.inr (.inr (.inr (fun _ => none)))))) :: w8) H locs := by rw [e8]; exact hI
  refine cz_put (sl := 9) hC hI rfl kl_X11 hnm (by decide) (by decide) rfl rfl rfl (by show 9 < 20; decide) dz_X11_105 (fun H locs hI => ?_)
  have hI : cz_I s A dC dI ((h0, .inr (11, [.ref q0, .ref qL, .ref qA, .ref q1, .ref q2, .ref q3, .ref q4, .ref q5, .ref q6, .ref q7, .null, .null, .null, .null, .null, .null, .int 0, .int 0, .int 0, .int 0])) :: (qL, .inl (cy 5, 5, .inr (.inr (.inr (.inr (fun _ => none)))))) :: (qA, .inl (cy 4, 5, .inr (.inr (.inr (.inr (fun _ => none)))))) :: w8) H locs := hI
  refine lv_aload_n hx hb dz_X11_108 rfl a0 ?_
  refine cz_make cm_X9 ok_X9_init rfl kl_X9 hf_X9 mk_X11_68 (Or.inr ⟨RX11, hG.2.2 (68, yX9_init) (List.mem_of_getElem? (i := 6) rfl)⟩) (fun _ _ _ _ _ => trivial) (fun _ _ => trivial) hC hI hl.1 ⟨by omega, by omega⟩ (by omega) (by omega) dz_X11_109 dz_X11_112 dz_X11_113 (Nat.le_of_ble_eq_true rfl) (fun q8 u8 H locs hI => ?_)
  refine W.widen (k := 27) (n := 1754) (by omega) (by omega) ?_
  obtain ⟨w9, e9⟩ : ∃ z : va_W, z = w8 ++ w_X9 cy q8 u8 := ⟨_, rfl⟩
  have hI : cz_I s A dC dI ((h0, .inr (11, [.ref q0, .ref qL, .ref qA, .ref q1, .ref q2, .ref q3, .ref q4, .ref q5, .ref q6, .ref q7, .null, .null, .null, .null, .null, .null, .int 0, .int 0, .int 0, .int 0])) :: (qL, .inl (cy 5, 5, .inr (.inr (.inr (.inr (fun _ => none)))))) :: (qA, .inl (cy 4, 5, .inr (.inr (.inr (.inr (fun _ => none)))))) :: w9) H locs := by rw [e9]; exact hI
  refine cz_put (sl := 10) hC hI rfl kl_X11 hnm (by decide) (by decide) rfl rfl rfl (by show 10 < 20; decide) dz_X11_116 (fun H locs hI => ?_)
  have hI : cz_I s A dC dI ((h0, .inr (11, [.ref q0, .ref qL, .ref qA, .ref q1, .ref q2, .ref q3, .ref q4, .ref q5, .ref q6, .ref q7, .ref q8, .null, .null, .null, .null, .null, .int 0, .int 0, .int 0, .int 0])) :: (qL, .inl (cy 5, 5, .inr (.inr (.inr (.inr (fun _ => none)))))) :: (qA, .inl (cy 4, 5, .inr (.inr (.inr (.inr (fun _ => none)))))) :: w9) H locs := hI
  refine lv_aload_n hx hb dz_X11_119 rfl a0 ?_
  refine cz_make cm_X9 ok_X9_init rfl kl_X9 hf_X9 mk_X11_68 (Or.inr ⟨RX11, hG.2.2 (68, yX9_init) (List.mem_of_getElem? (i := 6) rfl)⟩) (fun _ _ _ _ _ => trivial) (fun _ _ => trivial) hC hI hl.1 ⟨by omega, by omega⟩ (by omega) (by omega) dz_X11_120 dz_X11_123 dz_X11_124 (Nat.le_of_ble_eq_true rfl) (fun q9 u9 H locs hI => ?_)
  refine W.widen (k := 30) (n := 1774) (by omega) (by omega) ?_
  obtain ⟨w10, e10⟩ : ∃ z : va_W, z = w9 ++ w_X9 cy q9 u9 := ⟨_, rfl⟩
  have hI : cz_I s A dC dI ((h0, .inr (11, [.ref q0, .ref qL, .ref qA, .ref q1, .ref q2, .ref q3, .ref q4, .ref q5, .ref q6, .ref q7, .ref q8, .null, .null, .null, .null, .null, .int 0, .int 0, .int 0, .int 0])) :: (qL, .inl (cy 5, 5, .inr (.inr (.inr (.inr (fun _ => none)))))) :: (qA, .inl (cy 4, 5, .inr (.inr (.inr (.inr (fun _ => none)))))) :: w10) H locs := by rw [e10]; exact hI
  refine cz_put (sl := 11) hC hI rfl kl_X11 hnm (by decide) (by decide) rfl rfl rfl (by show 11 < 20; decide) dz_X11_127 (fun H locs hI => ?_)
  have hI : cz_I s A dC dI ((h0, .inr (11, [.ref q0, .ref qL, .ref qA, .ref q1, .ref q2, .ref q3, .ref q4, .ref q5, .ref q6, .ref q7, .ref q8, .ref q9, .null, .null, .null, .null, .int 0, .int 0, .int 0, .int 0])) :: (qL, .inl (cy 5, 5, .inr (.inr (.inr (.inr (fun _ => none)))))) :: (qA, .inl (cy 4, 5, .inr (.inr (.inr (.inr (fun _ => none)))))) :: w10) H locs := hI
  refine lv_aload_n hx hb dz_X11_130 rfl a0 ?_
  refine cz_make cm_X1 ok_X1_init rfl kl_X1 hf_X1 mk_X11_81 (Or.inr ⟨RX11, hG.2.2 (81, yX1_init) (List.mem_of_getElem? (i := 7) rfl)⟩) (fun _ _ _ _ _ => trivial) (fun _ _ => trivial) hC hI hl.1 ⟨by omega, by omega⟩ (by omega) (by omega) dz_X11_131 dz_X11_134 dz_X11_135 (Nat.le_of_ble_eq_true rfl) (fun q10 u10 H locs hI => ?_)
  refine W.widen (k := 32) (n := 1809) (by omega) (by omega) ?_
  obtain ⟨w11, e11⟩ : ∃ z : va_W, z = w10 ++ w_X1 cy q10 u10 := ⟨_, rfl⟩
  have hI : cz_I s A dC dI ((h0, .inr (11, [.ref q0, .ref qL, .ref qA, .ref q1, .ref q2, .ref q3, .ref q4, .ref q5, .ref q6, .ref q7, .ref q8, .ref q9, .null, .null, .null, .null, .int 0, .int 0, .int 0, .int 0])) :: (qL, .inl (cy 5, 5, .inr (.inr (.inr (.inr (fun _ => none)))))) :: (qA, .inl (cy 4, 5, .inr (.inr (.inr (.inr (fun _ => none)))))) :: w11) H locs := by rw [e11]; exact hI
  refine cz_put (sl := 12) hC hI rfl kl_X11 hnm (by decide) (by decide) rfl rfl rfl (by show 12 < 20; decide) dz_X11_138 (fun H locs hI => ?_)
  have hI : cz_I s A dC dI ((h0, .inr (11, [.ref q0, .ref qL, .ref qA, .ref q1, .ref q2, .ref q3, .ref q4, .ref q5, .ref q6, .ref q7, .ref q8, .ref q9, .ref q10, .null, .null, .null, .int 0, .int 0, .int 0, .int 0])) :: (qL, .inl (cy 5, 5, .inr (.inr (.inr (.inr (fun _ => none)))))) :: (qA, .inl (cy 4, 5, .inr (.inr (.inr (.inr (fun _ => none)))))) :: w11) H locs := hI
  refine lv_aload_n hx hb dz_X11_141 rfl a0 ?_
  refine lv_bipush (v := 8) hx hb dz_X11_142 (by decide) ?_
  refine cz_newi (N' := 8) hC hI dz_X11_144 aw_int (by decide) (by decide) (by decide) (by omega) (by omega) (fun q11 H hI => ?_)
  refine W.widen (k := 33) (n := 1817) (by omega) (by omega) ?_
  obtain ⟨w12, e12⟩ : ∃ z : va_W, z = w11 ++ [(q11, (.inl (cy 0, 8, .inl (fun _ => 0))))] := ⟨_, rfl⟩
  have hI : cz_I s A dC dI ((h0, .inr (11, [.ref q0, .ref qL, .ref qA, .ref q1, .ref q2, .ref q3, .ref q4, .ref q5, .ref q6, .ref q7, .ref q8, .ref q9, .ref q10, .null, .null, .null, .int 0, .int 0, .int 0, .int 0])) :: (qL, .inl (cy 5, 5, .inr (.inr (.inr (.inr (fun _ => none)))))) :: (qA, .inl (cy 4, 5, .inr (.inr (.inr (.inr (fun _ => none)))))) :: w12) H locs := by rw [e12]; exact hI
  refine cz_put (sl := 13) hC hI rfl kl_X11 hnm (by decide) (by decide) rfl rfl rfl (by show 13 < 20; decide) dz_X11_146 (fun H locs hI => ?_)
  have hI : cz_I s A dC dI ((h0, .inr (11, [.ref q0, .ref qL, .ref qA, .ref q1, .ref q2, .ref q3, .ref q4, .ref q5, .ref q6, .ref q7, .ref q8, .ref q9, .ref q10, .ref q11, .null, .null, .int 0, .int 0, .int 0, .int 0])) :: (qL, .inl (cy 5, 5, .inr (.inr (.inr (.inr (fun _ => none)))))) :: (qA, .inl (cy 4, 5, .inr (.inr (.inr (.inr (fun _ => none)))))) :: w12) H locs := hI
  refine lv_aload_n hx hb dz_X11_149 rfl a0 ?_
  refine cz_make cm_X4 ok_X4_init rfl kl_X4 hf_X4 mk_X11_92 (Or.inr ⟨RX11, hG.2.2 (92, yX4_init) (List.mem_of_getElem? (i := 8) rfl)⟩) (fun _ _ _ _ _ => trivial) (fun _ _ => trivial) hC hI hl.1 ⟨by omega, by omega⟩ (by omega) (by omega) dz_X11_150 dz_X11_153 dz_X11_154 (Nat.le_of_ble_eq_true rfl) (fun q12 u12 H locs hI => ?_)
  refine W.widen (k := 37) (n := 1876) (by omega) (by omega) ?_
  obtain ⟨w13, e13⟩ : ∃ z : va_W, z = w12 ++ w_X4 cy q12 u12 := ⟨_, rfl⟩
  have hI : cz_I s A dC dI ((h0, .inr (11, [.ref q0, .ref qL, .ref qA, .ref q1, .ref q2, .ref q3, .ref q4, .ref q5, .ref q6, .ref q7, .ref q8, .ref q9, .ref q10, .ref q11, .null, .null, .int 0, .int 0, .int 0, .int 0])) :: (qL, .inl (cy 5, 5, .inr (.inr (.inr (.inr (fun _ => none)))))) :: (qA, .inl (cy 4, 5, .inr (.inr (.inr (.inr (fun _ => none)))))) :: w13) H locs := by rw [e13]; exact hI
  refine cz_put (sl := 14) hC hI rfl kl_X11 hnm (by decide) (by decide) rfl rfl rfl (by show 14 < 20; decide) dz_X11_157 (fun H locs hI => ?_)
  have hI : cz_I s A dC dI ((h0, .inr (11, [.ref q0, .ref qL, .ref qA, .ref q1, .ref q2, .ref q3, .ref q4, .ref q5, .ref q6, .ref q7, .ref q8, .ref q9, .ref q10, .ref q11, .ref q12, .null, .int 0, .int 0, .int 0, .int 0])) :: (qL, .inl (cy 5, 5, .inr (.inr (.inr (.inr (fun _ => none)))))) :: (qA, .inl (cy 4, 5, .inr (.inr (.inr (.inr (fun _ => none)))))) :: w13) H locs := hI
  refine lv_aload_n hx hb dz_X11_160 rfl a0 ?_
  refine cz_make cm_X4 ok_X4_init rfl kl_X4 hf_X4 mk_X11_92 (Or.inr ⟨RX11, hG.2.2 (92, yX4_init) (List.mem_of_getElem? (i := 8) rfl)⟩) (fun _ _ _ _ _ => trivial) (fun _ _ => trivial) hC hI hl.1 ⟨by omega, by omega⟩ (by omega) (by omega) dz_X11_161 dz_X11_164 dz_X11_165 (Nat.le_of_ble_eq_true rfl) (fun q13 u13 H locs hI => ?_)
  refine W.widen (k := 41) (n := 1935) (by omega) (by omega) ?_
  obtain ⟨w14, e14⟩ : ∃ z : va_W, z = w13 ++ w_X4 cy q13 u13 := ⟨_, rfl⟩
  have hI : cz_I s A dC dI ((h0, .inr (11, [.ref q0, .ref qL, .ref qA, .ref q1, .ref q2, .ref q3, .ref q4, .ref q5, .ref q6, .ref q7, .ref q8, .ref q9, .ref q10, .ref q11, .ref q12, .null, .int 0, .int 0, .int 0, .int 0])) :: (qL, .inl (cy 5, 5, .inr (.inr (.inr (.inr (fun _ => none)))))) :: (qA, .inl (cy 4, 5, .inr (.inr (.inr (.inr (fun _ => none)))))) :: w14) H locs := by rw [e14]; exact hI
  refine cz_put (sl := 15) hC hI rfl kl_X11 hnm (by decide) (by decide) rfl rfl rfl (by show 15 < 20; decide) dz_X11_168 (fun H locs hI => ?_)
  have hI : cz_I s A dC dI ((h0, .inr (11, [.ref q0, .ref qL, .ref qA, .ref q1, .ref q2, .ref q3, .ref q4, .ref q5, .ref q6, .ref q7, .ref q8, .ref q9, .ref q10, .ref q11, .ref q12, .ref q13, .int 0, .int 0, .int 0, .int 0])) :: (qL, .inl (cy 5, 5, .inr (.inr (.inr (.inr (fun _ => none)))))) :: (qA, .inl (cy 4, 5, .inr (.inr (.inr (.inr (fun _ => none)))))) :: w14) H locs := hI
  refine lv_aload_n hx hb dz_X11_171 rfl a0 ?_
  refine lv_iconst (v := 0) hx hb dz_X11_172 (by decide) ?_
  refine cz_put (sl := 16) hC hI rfl kl_X11 hnm (by decide) (by decide) rfl rfl rfl (by show 16 < 20; decide) dz_X11_173 (fun H locs hI => ?_)
  have hI : cz_I s A dC dI ((h0, .inr (11, [.ref q0, .ref qL, .ref qA, .ref q1, .ref q2, .ref q3, .ref q4, .ref q5, .ref q6, .ref q7, .ref q8, .ref q9, .ref q10, .ref q11, .ref q12, .ref q13, .int 0, .int 0, .int 0, .int 0])) :: (qL, .inl (cy 5, 5, .inr (.inr (.inr (.inr (fun _ => none)))))) :: (qA, .inl (cy 4, 5, .inr (.inr (.inr (.inr (fun _ => none)))))) :: w14) H locs := hI
  refine lv_aload_n hx hb dz_X11_176 rfl a0 ?_
  refine lv_iconst (v := 0) hx hb dz_X11_177 (by decide) ?_
  refine cz_put (sl := 17) hC hI rfl kl_X11 hnm (by decide) (by decide) rfl rfl rfl (by show 17 < 20; decide) dz_X11_178 (fun H locs hI => ?_)
  have hI : cz_I s A dC dI ((h0, .inr (11, [.ref q0, .ref qL, .ref qA, .ref q1, .ref q2, .ref q3, .ref q4, .ref q5, .ref q6, .ref q7, .ref q8, .ref q9, .ref q10, .ref q11, .ref q12, .ref q13, .int 0, .int 0, .int 0, .int 0])) :: (qL, .inl (cy 5, 5, .inr (.inr (.inr (.inr (fun _ => none)))))) :: (qA, .inl (cy 4, 5, .inr (.inr (.inr (.inr (fun _ => none)))))) :: w14) H locs := hI
  refine lv_aload_n hx hb dz_X11_181 rfl a0 ?_
  refine lv_iconst (v := (-1)) hx hb dz_X11_182 (by decide) ?_
  refine cz_put (sl := 18) hC hI rfl kl_X11 hnm (by decide) (by decide) rfl rfl rfl (by show 18 < 20; decide) dz_X11_183 (fun H locs hI => ?_)
  have hI : cz_I s A dC dI ((h0, .inr (11, [.ref q0, .ref qL, .ref qA, .ref q1, .ref q2, .ref q3, .ref q4, .ref q5, .ref q6, .ref q7, .ref q8, .ref q9, .ref q10, .ref q11, .ref q12, .ref q13, .int 0, .int 0, .int (-1), .int 0])) :: (qL, .inl (cy 5, 5, .inr (.inr (.inr (.inr (fun _ => none)))))) :: (qA, .inl (cy 4, 5, .inr (.inr (.inr (.inr (fun _ => none)))))) :: w14) H locs := hI
  refine lv_aload_n hx hb dz_X11_186 rfl a0 ?_
  refine lv_iconst (v := 0) hx hb dz_X11_187 (by decide) ?_
  refine cz_put (sl := 19) hC hI rfl kl_X11 hnm (by decide) (by decide) rfl rfl rfl (by show 19 < 20; decide) dz_X11_188 (fun H locs hI => ?_)
  have hI : cz_I s A dC dI ((h0, .inr (11, [.ref q0, .ref qL, .ref qA, .ref q1, .ref q2, .ref q3, .ref q4, .ref q5, .ref q6, .ref q7, .ref q8, .ref q9, .ref q10, .ref q11, .ref q12, .ref q13, .int 0, .int 0, .int (-1), .int 0])) :: (qL, .inl (cy 5, 5, .inr (.inr (.inr (.inr (fun _ => none)))))) :: (qA, .inl (cy 4, 5, .inr (.inr (.inr (.inr (fun _ => none)))))) :: w14) H locs := hI
  refine lv_iconst (v := 0) hx hb dz_X11_191 (by decide) ?_
  refine lv_istore_n (lv' := [(1, .int 0), (0, .ref h0)]) hx hb dz_X11_192 rfl hl (by decide) rfl (fun ls hl => ?_)
  have a0 := lv_at hl 1 rfl
  refine lv_iload_n hx hb dz_X11_193 rfl (lv_at hl 0 rfl) ?_
  refine lv_iconst (v := 4) hx hb dz_X11_194 (by decide) ?_
  refine lv_icmp_gt (tgt := 230) hx hb dz_X11_195 (by decide) (fun z => absurd z (by decide)) (fun _ => ?_)
  refine lv_aload_n hx hb dz_X11_198 rfl a0 ?_
  refine cz_get (sl := 1) (v := .ref qL) hC hI rfl kl_X11 (by decide) (by decide) rfl dz_X11_199 ?_
  refine lv_iload_n hx hb dz_X11_202 rfl (lv_at hl 0 rfl) ?_
  refine cz_make cm_X5 ok_X5_init rfl kl_X5 hf_X5 mk_X11_114 (Or.inr ⟨RX11, hG.2.2 (114, yX5_init) (List.mem_of_getElem? (i := 9) rfl)⟩) (fun _ _ _ _ _ => trivial) (fun _ _ => trivial) hC hI hl.1 ⟨by omega, by omega⟩ (by omega) (by omega) dz_X11_203 dz_X11_206 dz_X11_207 (Nat.le_of_ble_eq_true rfl) (fun q14 u14 H locs hI => ?_)
  refine W.widen (k := 44) (n := 2220) (by omega) (by omega) ?_
  obtain ⟨w15, e15⟩ : ∃ z : va_W, z = w14 ++ w_X5 cy q14 u14 := ⟨_, rfl⟩
  have hI : cz_I s A dC dI ((h0, .inr (11, [.ref q0, .ref qL, .ref qA, .ref q1, .ref q2, .ref q3, .ref q4, .ref q5, .ref q6, .ref q7, .ref q8, .ref q9, .ref q10, .ref q11, .ref q12, .ref q13, .int 0, .int 0, .int (-1), .int 0])) :: (qL, .inl (cy 5, 5, .inr (.inr (.inr (.inr (fun _ => none)))))) :: (qA, .inl (cy 4, 5, .inr (.inr (.inr (.inr (fun _ => none)))))) :: w15) H locs := by rw [e15]; exact hI
  refine cz_ast (q0 := 1) (t := 5) (qk := w14.length + 3) (ci := 5) (r := (RX5, TX5, 4)) hC hI rfl rfl (by rw [e15]; exact cz_at3) rfl (ax_in_vp (by decide)) dz_X11_210 (fun H locs hI => ?_)
  have hI : cz_I s A dC dI ((h0, .inr (11, [.ref q0, .ref qL, .ref qA, .ref q1, .ref q2, .ref q3, .ref q4, .ref q5, .ref q6, .ref q7, .ref q8, .ref q9, .ref q10, .ref q11, .ref q12, .ref q13, .int 0, .int 0, .int (-1), .int 0])) :: (qL, .inl (cy 5, 5, .inr (.inr (.inr (.inr (va_up (fun _ => none) 0 (some q14))))))) :: (qA, .inl (cy 4, 5, .inr (.inr (.inr (.inr (fun _ => none)))))) :: w15) H locs := hI
  refine lv_aload_n hx hb dz_X11_211 rfl a0 ?_
  refine cz_get (sl := 2) (v := .ref qA) hC hI rfl kl_X11 (by decide) (by decide) rfl dz_X11_212 ?_
  refine lv_iload_n hx hb dz_X11_215 rfl (lv_at hl 0 rfl) ?_
  refine cz_make cm_X0 ok_X0_init rfl kl_X0 hf_X0 mk_X11_115 (Or.inr ⟨RX11, hG.2.2 (115, yX0_init) (List.mem_of_getElem? (i := 10) rfl)⟩) (fun _ _ _ _ _ => trivial) (fun _ _ => trivial) hC hI hl.1 ⟨by omega, by omega⟩ (by omega) (by omega) dz_X11_216 dz_X11_219 dz_X11_220 (Nat.le_of_ble_eq_true rfl) (fun q15 u15 H locs hI => ?_)
  refine W.widen (k := 47) (n := 2255) (by omega) (by omega) ?_
  obtain ⟨w16, e16⟩ : ∃ z : va_W, z = w15 ++ w_X0 cy q15 u15 := ⟨_, rfl⟩
  have hI : cz_I s A dC dI ((h0, .inr (11, [.ref q0, .ref qL, .ref qA, .ref q1, .ref q2, .ref q3, .ref q4, .ref q5, .ref q6, .ref q7, .ref q8, .ref q9, .ref q10, .ref q11, .ref q12, .ref q13, .int 0, .int 0, .int (-1), .int 0])) :: (qL, .inl (cy 5, 5, .inr (.inr (.inr (.inr (va_up (fun _ => none) 0 (some q14))))))) :: (qA, .inl (cy 4, 5, .inr (.inr (.inr (.inr (fun _ => none)))))) :: w16) H locs := by rw [e16]; exact hI
  refine cz_ast (q0 := 2) (t := 4) (qk := w15.length + 3) (ci := 0) (r := (RX0, TX0, 3)) hC hI rfl rfl (by rw [e16]; exact cz_at3) rfl (ax_in_vp (by decide)) dz_X11_223 (fun H locs hI => ?_)
  have hI : cz_I s A dC dI ((h0, .inr (11, [.ref q0, .ref qL, .ref qA, .ref q1, .ref q2, .ref q3, .ref q4, .ref q5, .ref q6, .ref q7, .ref q8, .ref q9, .ref q10, .ref q11, .ref q12, .ref q13, .int 0, .int 0, .int (-1), .int 0])) :: (qL, .inl (cy 5, 5, .inr (.inr (.inr (.inr (va_up (fun _ => none) 0 (some q14))))))) :: (qA, .inl (cy 4, 5, .inr (.inr (.inr (.inr (va_up (fun _ => none) 0 (some q15))))))) :: w16) H locs := hI
  refine lv_iinc (lv' := [(1, .int 1), (0, .ref h0)]) (k := 0) (v := 1) hx hb dz_X11_224 hl rfl (by decide) (by decide) rfl (fun ls hl => ?_)
  have a0 := lv_at hl 1 rfl
  refine lv_goto (tgt := 193) hx hb dz_X11_227 (by decide) ?_
  refine lv_iload_n hx hb dz_X11_193 rfl (lv_at hl 0 rfl) ?_
  refine lv_iconst (v := 4) hx hb dz_X11_194 (by decide) ?_
  refine lv_icmp_gt (tgt := 230) hx hb dz_X11_195 (by decide) (fun z => absurd z (by decide)) (fun _ => ?_)
  refine lv_aload_n hx hb dz_X11_198 rfl a0 ?_
  refine cz_get (sl := 1) (v := .ref qL) hC hI rfl kl_X11 (by decide) (by decide) rfl dz_X11_199 ?_
  refine lv_iload_n hx hb dz_X11_202 rfl (lv_at hl 0 rfl) ?_
  refine cz_make cm_X5 ok_X5_init rfl kl_X5 hf_X5 mk_X11_114 (Or.inr ⟨RX11, hG.2.2 (114, yX5_init) (List.mem_of_getElem? (i := 9) rfl)⟩) (fun _ _ _ _ _ => trivial) (fun _ _ => trivial) hC hI hl.1 ⟨by omega, by omega⟩ (by omega) (by omega) dz_X11_203 dz_X11_206 dz_X11_207 (Nat.le_of_ble_eq_true rfl) (fun q16 u16 H locs hI => ?_)
  refine W.widen (k := 50) (n := 2540) (by omega) (by omega) ?_
  obtain ⟨w17, e17⟩ : ∃ z : va_W, z = w16 ++ w_X5 cy q16 u16 := ⟨_, rfl⟩
  have hI : cz_I s A dC dI ((h0, .inr (11, [.ref q0, .ref qL, .ref qA, .ref q1, .ref q2, .ref q3, .ref q4, .ref q5, .ref q6, .ref q7, .ref q8, .ref q9, .ref q10, .ref q11, .ref q12, .ref q13, .int 0, .int 0, .int (-1), .int 0])) :: (qL, .inl (cy 5, 5, .inr (.inr (.inr (.inr (va_up (fun _ => none) 0 (some q14))))))) :: (qA, .inl (cy 4, 5, .inr (.inr (.inr (.inr (va_up (fun _ => none) 0 (some q15))))))) :: w17) H locs := by rw [e17]; exact hI
  refine cz_ast (q0 := 1) (t := 5) (qk := w16.length + 3) (ci := 5) (r := (RX5, TX5, 4)) hC hI rfl rfl (by rw [e17]; exact cz_at3) rfl (ax_in_vp (by decide)) dz_X11_210 (fun H locs hI => ?_)
  have hI : cz_I s A dC dI ((h0, .inr (11, [.ref q0, .ref qL, .ref qA, .ref q1, .ref q2, .ref q3, .ref q4, .ref q5, .ref q6, .ref q7, .ref q8, .ref q9, .ref q10, .ref q11, .ref q12, .ref q13, .int 0, .int 0, .int (-1), .int 0])) :: (qL, .inl (cy 5, 5, .inr (.inr (.inr (.inr (va_up (va_up (fun _ => none) 0 (some q14)) 1 (some q16))))))) :: (qA, .inl (cy 4, 5, .inr (.inr (.inr (.inr (va_up (fun _ => none) 0 (some q15))))))) :: w17) H locs := hI
  refine lv_aload_n hx hb dz_X11_211 rfl a0 ?_
  refine cz_get (sl := 2) (v := .ref qA) hC hI rfl kl_X11 (by decide) (by decide) rfl dz_X11_212 ?_
  refine lv_iload_n hx hb dz_X11_215 rfl (lv_at hl 0 rfl) ?_
  refine cz_make cm_X0 ok_X0_init rfl kl_X0 hf_X0 mk_X11_115 (Or.inr ⟨RX11, hG.2.2 (115, yX0_init) (List.mem_of_getElem? (i := 10) rfl)⟩) (fun _ _ _ _ _ => trivial) (fun _ _ => trivial) hC hI hl.1 ⟨by omega, by omega⟩ (by omega) (by omega) dz_X11_216 dz_X11_219 dz_X11_220 (Nat.le_of_ble_eq_true rfl) (fun q17 u17 H locs hI => ?_)
  refine W.widen (k := 53) (n := 2575) (by omega) (by omega) ?_
  obtain ⟨w18, e18⟩ : ∃ z : va_W, z = w17 ++ w_X0 cy q17 u17 := ⟨_, rfl⟩
  have hI : cz_I s A dC dI ((h0, .inr (11, [.ref q0, .ref qL, .ref qA, .ref q1, .ref q2, .ref q3, .ref q4, .ref q5, .ref q6, .ref q7, .ref q8, .ref q9, .ref q10, .ref q11, .ref q12, .ref q13, .int 0, .int 0, .int (-1), .int 0])) :: (qL, .inl (cy 5, 5, .inr (.inr (.inr (.inr (va_up (va_up (fun _ => none) 0 (some q14)) 1 (some q16))))))) :: (qA, .inl (cy 4, 5, .inr (.inr (.inr (.inr (va_up (fun _ => none) 0 (some q15))))))) :: w18) H locs := by rw [e18]; exact hI
  refine cz_ast (q0 := 2) (t := 4) (qk := w17.length + 3) (ci := 0) (r := (RX0, TX0, 3)) hC hI rfl rfl (by rw [e18]; exact cz_at3) rfl (ax_in_vp (by decide)) dz_X11_223 (fun H locs hI => ?_)
  have hI : cz_I s A dC dI ((h0, .inr (11, [.ref q0, .ref qL, .ref qA, .ref q1, .ref q2, .ref q3, .ref q4, .ref q5, .ref q6, .ref q7, .ref q8, .ref q9, .ref q10, .ref q11, .ref q12, .ref q13, .int 0, .int 0, .int (-1), .int 0])) :: (qL, .inl (cy 5, 5, .inr (.inr (.inr (.inr (va_up (va_up (fun _ => none) 0 (some q14)) 1 (some q16))))))) :: (qA, .inl (cy 4, 5, .inr (.inr (.inr (.inr (va_up (va_up (fun _ => none) 0 (some q15)) 1 (some q17))))))) :: w18) H locs := hI
  refine lv_iinc (lv' := [(1, .int 2), (0, .ref h0)]) (k := 0) (v := 2) hx hb dz_X11_224 hl rfl (by decide) (by decide) rfl (fun ls hl => ?_)
  have a0 := lv_at hl 1 rfl
  refine lv_goto (tgt := 193) hx hb dz_X11_227 (by decide) ?_
  refine lv_iload_n hx hb dz_X11_193 rfl (lv_at hl 0 rfl) ?_
  refine lv_iconst (v := 4) hx hb dz_X11_194 (by decide) ?_
  refine lv_icmp_gt (tgt := 230) hx hb dz_X11_195 (by decide) (fun z => absurd z (by decide)) (fun _ => ?_)
  refine lv_aload_n hx hb dz_X11_198 rfl a0 ?_
  refine cz_get (sl := 1) (v := .ref qL) hC hI rfl kl_X11 (by decide) (by decide) rfl dz_X11_199 ?_
  refine lv_iload_n hx hb dz_X11_202 rfl (lv_at hl 0 rfl) ?_
  refine cz_make cm_X5 ok_X5_init rfl kl_X5 hf_X5 mk_X11_114 (Or.inr ⟨RX11, hG.2.2 (114, yX5_init) (List.mem_of_getElem? (i := 9) rfl)⟩) (fun _ _ _ _ _ => trivial) (fun _ _ => trivial) hC hI hl.1 ⟨by omega, by omega⟩ (by omega) (by omega) dz_X11_203 dz_X11_206 dz_X11_207 (Nat.le_of_ble_eq_true rfl) (fun q18 u18 H locs hI => ?_)
  refine W.widen (k := 56) (n := 2860) (by omega) (by omega) ?_
  obtain ⟨w19, e19⟩ : ∃ z : va_W, z = w18 ++ w_X5 cy q18 u18 := ⟨_, rfl⟩
  have hI : cz_I s A dC dI ((h0, .inr (11, [.ref q0, .ref qL, .ref qA, .ref q1, .ref q2, .ref q3, .ref q4, .ref q5, .ref q6, .ref q7, .ref q8, .ref q9, .ref q10, .ref q11, .ref q12, .ref q13, .int 0, .int 0, .int (-1), .int 0])) :: (qL, .inl (cy 5, 5, .inr (.inr (.inr (.inr (va_up (va_up (fun _ => none) 0 (some q14)) 1 (some q16))))))) :: (qA, .inl (cy 4, 5, .inr (.inr (.inr (.inr (va_up (va_up (fun _ => none) 0 (some q15)) 1 (some q17))))))) :: w19) H locs := by rw [e19]; exact hI
  refine cz_ast (q0 := 1) (t := 5) (qk := w18.length + 3) (ci := 5) (r := (RX5, TX5, 4)) hC hI rfl rfl (by rw [e19]; exact cz_at3) rfl (ax_in_vp (by decide)) dz_X11_210 (fun H locs hI => ?_)
  have hI : cz_I s A dC dI ((h0, .inr (11, [.ref q0, .ref qL, .ref qA, .ref q1, .ref q2, .ref q3, .ref q4, .ref q5, .ref q6, .ref q7, .ref q8, .ref q9, .ref q10, .ref q11, .ref q12, .ref q13, .int 0, .int 0, .int (-1), .int 0])) :: (qL, .inl (cy 5, 5, .inr (.inr (.inr (.inr (va_up (va_up (va_up (fun _ => none) 0 (some q14)) 1 (some q16)) 2 (some q18))))))) :: (qA, .inl (cy 4, 5, .inr (.inr (.inr (.inr (va_up (va_up (fun _ => none) 0 (some q15)) 1 (some q17))))))) :: w19) H locs := hI
  refine lv_aload_n hx hb dz_X11_211 rfl a0 ?_
  refine cz_get (sl := 2) (v := .ref qA) hC hI rfl kl_X11 (by decide) (by decide) rfl dz_X11_212 ?_
  refine lv_iload_n hx hb dz_X11_215 rfl (lv_at hl 0 rfl) ?_
  refine cz_make cm_X0 ok_X0_init rfl kl_X0 hf_X0 mk_X11_115 (Or.inr ⟨RX11, hG.2.2 (115, yX0_init) (List.mem_of_getElem? (i := 10) rfl)⟩) (fun _ _ _ _ _ => trivial) (fun _ _ => trivial) hC hI hl.1 ⟨by omega, by omega⟩ (by omega) (by omega) dz_X11_216 dz_X11_219 dz_X11_220 (Nat.le_of_ble_eq_true rfl) (fun q19 u19 H locs hI => ?_)
  refine W.widen (k := 59) (n := 2895) (by omega) (by omega) ?_
  obtain ⟨w20, e20⟩ : ∃ z : va_W, z = w19 ++ w_X0 cy q19 u19 := ⟨_, rfl⟩
  have hI : cz_I s A dC dI ((h0, .inr (11, [.ref q0, .ref qL, .ref qA, .ref q1, .ref q2, .ref q3, .ref q4, .ref q5, .ref q6, .ref q7, .ref q8, .ref q9, .ref q10, .ref q11, .ref q12, .ref q13, .int 0, .int 0, .int (-1), .int 0])) :: (qL, .inl (cy 5, 5, .inr (.inr (.inr (.inr (va_up (va_up (va_up (fun _ => none) 0 (some q14)) 1 (some q16)) 2 (some q18))))))) :: (qA, .inl (cy 4, 5, .inr (.inr (.inr (.inr (va_up (va_up (fun _ => none) 0 (some q15)) 1 (some q17))))))) :: w20) H locs := by rw [e20]; exact hI
  refine cz_ast (q0 := 2) (t := 4) (qk := w19.length + 3) (ci := 0) (r := (RX0, TX0, 3)) hC hI rfl rfl (by rw [e20]; exact cz_at3) rfl (ax_in_vp (by decide)) dz_X11_223 (fun H locs hI => ?_)
  have hI : cz_I s A dC dI ((h0, .inr (11, [.ref q0, .ref qL, .ref qA, .ref q1, .ref q2, .ref q3, .ref q4, .ref q5, .ref q6, .ref q7, .ref q8, .ref q9, .ref q10, .ref q11, .ref q12, .ref q13, .int 0, .int 0, .int (-1), .int 0])) :: (qL, .inl (cy 5, 5, .inr (.inr (.inr (.inr (va_up (va_up (va_up (fun _ => none) 0 (some q14)) 1 (some q16)) 2 (some q18))))))) :: (qA, .inl (cy 4, 5, .inr (.inr (.inr (.inr (va_up (va_up (va_up (fun _ => none) 0 (some q15)) 1 (some q17)) 2 (some q19))))))) :: w20) H locs := hI
  refine lv_iinc (lv' := [(1, .int 3), (0, .ref h0)]) (k := 0) (v := 3) hx hb dz_X11_224 hl rfl (by decide) (by decide) rfl (fun ls hl => ?_)
  have a0 := lv_at hl 1 rfl
  refine lv_goto (tgt := 193) hx hb dz_X11_227 (by decide) ?_
  refine lv_iload_n hx hb dz_X11_193 rfl (lv_at hl 0 rfl) ?_
  refine lv_iconst (v := 4) hx hb dz_X11_194 (by decide) ?_
  refine lv_icmp_gt (tgt := 230) hx hb dz_X11_195 (by decide) (fun z => absurd z (by decide)) (fun _ => ?_)
  refine lv_aload_n hx hb dz_X11_198 rfl a0 ?_
  refine cz_get (sl := 1) (v := .ref qL) hC hI rfl kl_X11 (by decide) (by decide) rfl dz_X11_199 ?_
  refine lv_iload_n hx hb dz_X11_202 rfl (lv_at hl 0 rfl) ?_
  refine cz_make cm_X5 ok_X5_init rfl kl_X5 hf_X5 mk_X11_114 (Or.inr ⟨RX11, hG.2.2 (114, yX5_init) (List.mem_of_getElem? (i := 9) rfl)⟩) (fun _ _ _ _ _ => trivial) (fun _ _ => trivial) hC hI hl.1 ⟨by omega, by omega⟩ (by omega) (by omega) dz_X11_203 dz_X11_206 dz_X11_207 (Nat.le_of_ble_eq_true rfl) (fun q20 u20 H locs hI => ?_)
  refine W.widen (k := 62) (n := 3180) (by omega) (by omega) ?_
  obtain ⟨w21, e21⟩ : ∃ z : va_W, z = w20 ++ w_X5 cy q20 u20 := ⟨_, rfl⟩
  have hI : cz_I s A dC dI ((h0, .inr (11, [.ref q0, .ref qL, .ref qA, .ref q1, .ref q2, .ref q3, .ref q4, .ref q5, .ref q6, .ref q7, .ref q8, .ref q9, .ref q10, .ref q11, .ref q12, .ref q13, .int 0, .int 0, .int (-1), .int 0])) :: (qL, .inl (cy 5, 5, .inr (.inr (.inr (.inr (va_up (va_up (va_up (fun _ => none) 0 (some q14)) 1 (some q16)) 2 (some q18))))))) :: (qA, .inl (cy 4, 5, .inr (.inr (.inr (.inr (va_up (va_up (va_up (fun _ => none) 0 (some q15)) 1 (some q17)) 2 (some q19))))))) :: w21) H locs := by rw [e21]; exact hI
  refine cz_ast (q0 := 1) (t := 5) (qk := w20.length + 3) (ci := 5) (r := (RX5, TX5, 4)) hC hI rfl rfl (by rw [e21]; exact cz_at3) rfl (ax_in_vp (by decide)) dz_X11_210 (fun H locs hI => ?_)
  have hI : cz_I s A dC dI ((h0, .inr (11, [.ref q0, .ref qL, .ref qA, .ref q1, .ref q2, .ref q3, .ref q4, .ref q5, .ref q6, .ref q7, .ref q8, .ref q9, .ref q10, .ref q11, .ref q12, .ref q13, .int 0, .int 0, .int (-1), .int 0])) :: (qL, .inl (cy 5, 5, .inr (.inr (.inr (.inr (va_up (va_up (va_up (va_up (fun _ => none) 0 (some q14)) 1 (some q16)) 2 (some q18)) 3 (some q20))))))) :: (qA, .inl (cy 4, 5, .inr (.inr (.inr (.inr (va_up (va_up (va_up (fun _ => none) 0 (some q15)) 1 (some q17)) 2 (some q19))))))) :: w21) H locs := hI
  refine lv_aload_n hx hb dz_X11_211 rfl a0 ?_
  refine cz_get (sl := 2) (v := .ref qA) hC hI rfl kl_X11 (by decide) (by decide) rfl dz_X11_212 ?_
  refine lv_iload_n hx hb dz_X11_215 rfl (lv_at hl 0 rfl) ?_
  refine cz_make cm_X0 ok_X0_init rfl kl_X0 hf_X0 mk_X11_115 (Or.inr ⟨RX11, hG.2.2 (115, yX0_init) (List.mem_of_getElem? (i := 10) rfl)⟩) (fun _ _ _ _ _ => trivial) (fun _ _ => trivial) hC hI hl.1 ⟨by omega, by omega⟩ (by omega) (by omega) dz_X11_216 dz_X11_219 dz_X11_220 (Nat.le_of_ble_eq_true rfl) (fun q21 u21 H locs hI => ?_)
  refine W.widen (k := 65) (n := 3215) (by omega) (by omega) ?_
  obtain ⟨w22, e22⟩ : ∃ z : va_W, z = w21 ++ w_X0 cy q21 u21 := ⟨_, rfl⟩
  have hI : cz_I s A dC dI ((h0, .inr (11, [.ref q0, .ref qL, .ref qA, .ref q1, .ref q2, .ref q3, .ref q4, .ref q5, .ref q6, .ref q7, .ref q8, .ref q9, .ref q10, .ref q11, .ref q12, .ref q13, .int 0, .int 0, .int (-1), .int 0])) :: (qL, .inl (cy 5, 5, .inr (.inr (.inr (.inr (va_up (va_up (va_up (va_up (fun _ => none) 0 (some q14)) 1 (some q16)) 2 (some q18)) 3 (some q20))))))) :: (qA, .inl (cy 4, 5, .inr (.inr (.inr (.inr (va_up (va_up (va_up (fun _ => none) 0 (some q15)) 1 (some q17)) 2 (some q19))))))) :: w22) H locs := by rw [e22]; exact hI
  refine cz_ast (q0 := 2) (t := 4) (qk := w21.length + 3) (ci := 0) (r := (RX0, TX0, 3)) hC hI rfl rfl (by rw [e22]; exact cz_at3) rfl (ax_in_vp (by decide)) dz_X11_223 (fun H locs hI => ?_)
  have hI : cz_I s A dC dI ((h0, .inr (11, [.ref q0, .ref qL, .ref qA, .ref q1, .ref q2, .ref q3, .ref q4, .ref q5, .ref q6, .ref q7, .ref q8, .ref q9, .ref q10, .ref q11, .ref q12, .ref q13, .int 0, .int 0, .int (-1), .int 0])) :: (qL, .inl (cy 5, 5, .inr (.inr (.inr (.inr (va_up (va_up (va_up (va_up (fun _ => none) 0 (some q14)) 1 (some q16)) 2 (some q18)) 3 (some q20))))))) :: (qA, .inl (cy 4, 5, .inr (.inr (.inr (.inr (va_up (va_up (va_up (va_up (fun _ => none) 0 (some q15)) 1 (some q17)) 2 (some q19)) 3 (some q21))))))) :: w22) H locs := hI
  refine lv_iinc (lv' := [(1, .int 4), (0, .ref h0)]) (k := 0) (v := 4) hx hb dz_X11_224 hl rfl (by decide) (by decide) rfl (fun ls hl => ?_)
  have a0 := lv_at hl 1 rfl
  refine lv_goto (tgt := 193) hx hb dz_X11_227 (by decide) ?_
  refine lv_iload_n hx hb dz_X11_193 rfl (lv_at hl 0 rfl) ?_
  refine lv_iconst (v := 4) hx hb dz_X11_194 (by decide) ?_
  refine lv_icmp_gt (tgt := 230) hx hb dz_X11_195 (by decide) (fun z => absurd z (by decide)) (fun _ => ?_)
  refine lv_aload_n hx hb dz_X11_198 rfl a0 ?_
  refine cz_get (sl := 1) (v := .ref qL) hC hI rfl kl_X11 (by decide) (by decide) rfl dz_X11_199 ?_
  refine lv_iload_n hx hb dz_X11_202 rfl (lv_at hl 0 rfl) ?_
  refine cz_make cm_X5 ok_X5_init rfl kl_X5 hf_X5 mk_X11_114 (Or.inr ⟨RX11, hG.2.2 (114, yX5_init) (List.mem_of_getElem? (i := 9) rfl)⟩) (fun _ _ _ _ _ => trivial) (fun _ _ => trivial) hC hI hl.1 ⟨by omega, by omega⟩ (by omega) (by omega) dz_X11_203 dz_X11_206 dz_X11_207 (Nat.le_of_ble_eq_true rfl) (fun q22 u22 H locs hI => ?_)
  refine W.widen (k := 68) (n := 3500) (by omega) (by omega) ?_
  obtain ⟨w23, e23⟩ : ∃ z : va_W, z = w22 ++ w_X5 cy q22 u22 := ⟨_, rfl⟩
  have hI : cz_I s A dC dI ((h0, .inr (11, [.ref q0, .ref qL, .ref qA, .ref q1, .ref q2, .ref q3, .ref q4, .ref q5, .ref q6, .ref q7, .ref q8, .ref q9, .ref q10, .ref q11, .ref q12, .ref q13, .int 0, .int 0, .int (-1), .int 0])) :: (qL, .inl (cy 5, 5, .inr (.inr (.inr (.inr (va_up (va_up (va_up (va_up (fun _ => none) 0 (some q14)) 1 (some q16)) 2 (some q18)) 3 (some q20))))))) :: (qA, .inl (cy 4, 5, .inr (.inr (.inr (.inr (va_up (va_up (va_up (va_up (fun _ => none) 0 (some q15)) 1 (some q17)) 2 (some q19)) 3 (some q21))))))) :: w23) H locs := by rw [e23]; exact hI
  refine cz_ast (q0 := 1) (t := 5) (qk := w22.length + 3) (ci := 5) (r := (RX5, TX5, 4)) hC hI rfl rfl (by rw [e23]; exact cz_at3) rfl (ax_in_vp (by decide)) dz_X11_210 (fun H locs hI => ?_)
  have hI : cz_I s A dC dI ((h0, .inr (11, [.ref q0, .ref qL, .ref qA, .ref q1, .ref q2, .ref q3, .ref q4, .ref q5, .ref q6, .ref q7, .ref q8, .ref q9, .ref q10, .ref q11, .ref q12, .ref q13, .int 0, .int 0, .int (-1), .int 0])) :: (qL, .inl (cy 5, 5, .inr (.inr (.inr (.inr (va_up (va_up (va_up (va_up (va_up (fun _ => none) 0 (some q14)) 1 (some q16)) 2 (some q18)) 3 (some q20)) 4 (some q22))))))) :: (qA, .inl (cy 4, 5, .inr (.inr (.inr (.inr (va_up (va_up (va_up (va_up (fun _ => none) 0 (some q15)) 1 (some q17)) 2 (some q19)) 3 (some q21))))))) :: w23) H locs := hI
  refine lv_aload_n hx hb dz_X11_211 rfl a0 ?_
  refine cz_get (sl := 2) (v := .ref qA) hC hI rfl kl_X11 (by decide) (by decide) rfl dz_X11_212 ?_
  refine lv_iload_n hx hb dz_X11_215 rfl (lv_at hl 0 rfl) ?_
  refine cz_make cm_X0 ok_X0_init rfl kl_X0 hf_X0 mk_X11_115 (Or.inr ⟨RX11, hG.2.2 (115, yX0_init) (List.mem_of_getElem? (i := 10) rfl)⟩) (fun _ _ _ _ _ => trivial) (fun _ _ => trivial) hC hI hl.1 ⟨by omega, by omega⟩ (by omega) (by omega) dz_X11_216 dz_X11_219 dz_X11_220 (Nat.le_of_ble_eq_true rfl) (fun q23 u23 H locs hI => ?_)
  refine W.widen (k := 71) (n := 3535) (by omega) (by omega) ?_
  obtain ⟨w24, e24⟩ : ∃ z : va_W, z = w23 ++ w_X0 cy q23 u23 := ⟨_, rfl⟩
  have hI : cz_I s A dC dI ((h0, .inr (11, [.ref q0, .ref qL, .ref qA, .ref q1, .ref q2, .ref q3, .ref q4, .ref q5, .ref q6, .ref q7, .ref q8, .ref q9, .ref q10, .ref q11, .ref q12, .ref q13, .int 0, .int 0, .int (-1), .int 0])) :: (qL, .inl (cy 5, 5, .inr (.inr (.inr (.inr (va_up (va_up (va_up (va_up (va_up (fun _ => none) 0 (some q14)) 1 (some q16)) 2 (some q18)) 3 (some q20)) 4 (some q22))))))) :: (qA, .inl (cy 4, 5, .inr (.inr (.inr (.inr (va_up (va_up (va_up (va_up (fun _ => none) 0 (some q15)) 1 (some q17)) 2 (some q19)) 3 (some q21))))))) :: w24) H locs := by rw [e24]; exact hI
  refine cz_ast (q0 := 2) (t := 4) (qk := w23.length + 3) (ci := 0) (r := (RX0, TX0, 3)) hC hI rfl rfl (by rw [e24]; exact cz_at3) rfl (ax_in_vp (by decide)) dz_X11_223 (fun H locs hI => ?_)
  have hI : cz_I s A dC dI ((h0, .inr (11, [.ref q0, .ref qL, .ref qA, .ref q1, .ref q2, .ref q3, .ref q4, .ref q5, .ref q6, .ref q7, .ref q8, .ref q9, .ref q10, .ref q11, .ref q12, .ref q13, .int 0, .int 0, .int (-1), .int 0])) :: (qL, .inl (cy 5, 5, .inr (.inr (.inr (.inr (va_up (va_up (va_up (va_up (va_up (fun _ => none) 0 (some q14)) 1 (some q16)) 2 (some q18)) 3 (some q20)) 4 (some q22))))))) :: (qA, .inl (cy 4, 5, .inr (.inr (.inr (.inr (va_up (va_up (va_up (va_up (va_up (fun _ => none) 0 (some q15)) 1 (some q17)) 2 (some q19)) 3 (some q21)) 4 (some q23))))))) :: w24) H locs := hI
  refine lv_iinc (lv' := [(1, .int 5), (0, .ref h0)]) (k := 0) (v := 5) hx hb dz_X11_224 hl rfl (by decide) (by decide) rfl (fun ls hl => ?_)
  have a0 := lv_at hl 1 rfl
  refine lv_goto (tgt := 193) hx hb dz_X11_227 (by decide) ?_
  refine lv_iload_n hx hb dz_X11_193 rfl (lv_at hl 0 rfl) ?_
  refine lv_iconst (v := 4) hx hb dz_X11_194 (by decide) ?_
  refine lv_icmp_gt (tgt := 230) hx hb dz_X11_195 (by decide) (fun _ => ?_) (fun z => absurd (by decide) z)
  have hu : ∃ u : Nat → Nat, u = fun j => [qL, qA, q0, u0 0, q1, u1 0, q2, u2 0, q3, u3 0, q4, u4 0, q5, u5 0, u5 1, u5 2, q6, u6 0, u6 1, u6 2, u6 3, q7, u7 0, u7 1, q8, u8 0, u8 1, q9, u9 0, u9 1, q10, u10 0, q11, q12, u12 0, u12 1, u12 2, q13, u13 0, u13 1, u13 2, q14, u14 0, u14 1, q15, u15 0, u15 1, q16, u16 0, u16 1, q17, u17 0, u17 1, q18, u18 0, u18 1, q19, u19 0, u19 1, q20, u20 0, u20 1, q21, u21 0, u21 1, q22, u22 0, u22 1, q23, u23 0, u23 1].getD j 0 := ⟨_, rfl⟩
  obtain ⟨u, hu⟩ := hu
  have hI := cz_cell (q := 1) (e1 := .inl (cy 5, 5, .inr (.inr (.inr (.inr (fun j => some (u (41 + 6 * j)))))))) hI rfl (cz_row5 (fun j hj => by rw [hu]; match j, hj with | 0, _ => rfl | 1, _ => rfl | 2, _ => rfl | 3, _ => rfl | 4, _ => rfl | j + 5, hj => exact absurd hj (by omega)))
  have hI := cz_cell (q := 2) (e1 := .inl (cy 4, 5, .inr (.inr (.inr (.inr (fun j => some (u (44 + 6 * j)))))))) hI rfl (cz_row5 (fun j hj => by rw [hu]; match j, hj with | 0, _ => rfl | 1, _ => rfl | 2, _ => rfl | 3, _ => rfl | 4, _ => rfl | j + 5, hj => exact absurd hj (by omega)))
  have ht : w24 = w_X11t cy u := by
    subst e24 e23 e22 e21 e20 e19 e18 e17 e16 e15 e14 e13 e12 e11 e10 e9 e8 e7 e6 e5 e4 e3 e2 e1 e0
    rw [hu]
    rfl
  rw [ht] at hI
  refine kk u _ _ _ 230 dz_X11_230 ?_
  rw [hu] at hI ⊢
  exact hI
theorem cm_X11 {l : Launch} : cz_Met l ma_X11_init 11 fz_X11 w_X11 71 3535 2 g_X11 := cz_met ok_X11_init rfl (by decide) rfl cb_X11
