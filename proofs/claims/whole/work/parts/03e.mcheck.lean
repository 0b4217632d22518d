/-! each method's row: its word, its class's name is plain, few locals -/
def ox_np (y : MethodName) : Option Nat := (parseMethodDescriptor y.desc).map (fun d => d.parameters.length)
def ox_cw (j : Nat) : Prop := lw_tbl[(ox_mi j).2.2.2.2]? = some (.code (ox_mi j).1 (ox_mi j).2.1 (ox_mi j).2.2.1 (ox_mi j).2.2.2.1)
def ox_vN0 (j : Nat) : Bool := plainName (ox_mi j).1.cls && decide ((ox_mi j).2.2.1 ≤ 45) && decide ((ox_mi j).1.cls ≠ "java/lang/invoke/MethodHandle" ∧ (ox_mi j).1.cls ≠ "java/lang/invoke/VarHandle")
def ox_vM (j : Nat) : Prop := ox_cw j ∧ ox_vN0 j = true
/-- all but those of java.lang.Math, which the machine runs by itself -/
def ox_jok (j : Nat) : Bool := decide (j < 236) && !(decide (213 ≤ j) && decide (j ≤ 216)) && decide (j ≠ 46)
set_option maxRecDepth 100000 in
theorem oW_0 : ox_cw 0 := rfl
set_option maxRecDepth 100000 in
theorem oW_1 : ox_cw 1 := rfl
set_option maxRecDepth 100000 in
theorem oW_2 : ox_cw 2 := rfl
set_option maxRecDepth 100000 in
theorem oW_3 : ox_cw 3 := rfl
set_option maxRecDepth 100000 in
theorem oW_4 : ox_cw 4 := rfl
set_option maxRecDepth 100000 in
theorem oW_5 : ox_cw 5 := rfl
set_option maxRecDepth 100000 in
theorem oW_6 : ox_cw 6 := rfl
set_option maxRecDepth 100000 in
theorem oW_7 : ox_cw 7 := rfl
set_option maxRecDepth 100000 in
theorem oW_8 : ox_cw 8 := rfl
set_option maxRecDepth 100000 in
theorem oW_9 : ox_cw 9 := rfl
set_option maxRecDepth 100000 in
theorem oW_10 : ox_cw 10 := rfl
set_option maxRecDepth 100000 in
theorem oW_11 : ox_cw 11 := rfl
set_option maxRecDepth 100000 in
theorem oW_12 : ox_cw 12 := rfl
set_option maxRecDepth 100000 in
theorem oW_13 : ox_cw 13 := rfl
set_option maxRecDepth 100000 in
theorem oW_14 : ox_cw 14 := rfl
set_option maxRecDepth 100000 in
theorem oW_15 : ox_cw 15 := rfl
set_option maxRecDepth 100000 in
theorem oW_16 : ox_cw 16 := rfl
set_option maxRecDepth 100000 in
theorem oW_17 : ox_cw 17 := rfl
set_option maxRecDepth 100000 in
theorem oW_18 : ox_cw 18 := rfl
set_option maxRecDepth 100000 in
theorem oW_19 : ox_cw 19 := rfl
set_option maxRecDepth 100000 in
theorem oW_20 : ox_cw 20 := rfl
set_option maxRecDepth 100000 in
theorem oW_21 : ox_cw 21 := rfl
set_option maxRecDepth 100000 in
theorem oW_22 : ox_cw 22 := rfl
set_option maxRecDepth 100000 in
theorem oW_23 : ox_cw 23 := rfl
set_option maxRecDepth 100000 in
theorem oW_24 : ox_cw 24 := rfl
set_option maxRecDepth 100000 in
theorem oW_25 : ox_cw 25 := rfl
set_option maxRecDepth 100000 in
theorem oW_26 : ox_cw 26 := rfl
set_option maxRecDepth 100000 in
theorem oW_27 : ox_cw 27 := rfl
set_option maxRecDepth 100000 in
theorem oW_28 : ox_cw 28 := rfl
set_option maxRecDepth 100000 in
theorem oW_29 : ox_cw 29 := rfl
set_option maxRecDepth 100000 in
theorem oW_30 : ox_cw 30 := rfl
set_option maxRecDepth 100000 in
theorem oW_31 : ox_cw 31 := rfl
set_option maxRecDepth 100000 in
theorem oW_32 : ox_cw 32 := rfl
set_option maxRecDepth 100000 in
theorem oW_33 : ox_cw 33 := rfl
set_option maxRecDepth 100000 in
theorem oW_34 : ox_cw 34 := rfl
set_option maxRecDepth 100000 in
theorem oW_35 : ox_cw 35 := rfl
set_option maxRecDepth 100000 in
theorem oW_36 : ox_cw 36 := rfl
set_option maxRecDepth 100000 in
theorem oW_37 : ox_cw 37 := rfl
set_option maxRecDepth 100000 in
theorem oW_38 : ox_cw 38 := rfl
set_option maxRecDepth 100000 in
theorem oW_39 : ox_cw 39 := rfl
set_option maxRecDepth 100000 in
theorem oW_40 : ox_cw 40 := rfl
set_option maxRecDepth 100000 in
theorem oW_41 : ox_cw 41 := rfl
set_option maxRecDepth 100000 in
theorem oW_42 : ox_cw 42 := rfl
set_option maxRecDepth 100000 in
theorem oW_43 : ox_cw 43 := rfl
set_option maxRecDepth 100000 in
theorem oW_44 : ox_cw 44 := rfl
set_option maxRecDepth 100000 in
theorem oW_45 : ox_cw 45 := rfl
set_option maxRecDepth 100000 in
theorem oW_47 : ox_cw 47 := rfl
set_option maxRecDepth 100000 in
theorem oW_48 : ox_cw 48 := rfl
set_option maxRecDepth 100000 in
theorem oW_49 : ox_cw 49 := rfl
set_option maxRecDepth 100000 in
theorem oW_50 : ox_cw 50 := rfl
set_option maxRecDepth 100000 in
theorem oW_51 : ox_cw 51 := rfl
set_option maxRecDepth 100000 in
theorem oW_52 : ox_cw 52 := rfl
set_option maxRecDepth 100000 in
theorem oW_53 : ox_cw 53 := rfl
set_option maxRecDepth 100000 in
theorem oW_54 : ox_cw 54 := rfl
set_option maxRecDepth 100000 in
theorem oW_55 : ox_cw 55 := rfl
set_option maxRecDepth 100000 in
theorem oW_56 : ox_cw 56 := rfl
set_option maxRecDepth 100000 in
theorem oW_57 : ox_cw 57 := rfl
set_option maxRecDepth 100000 in
theorem oW_58 : ox_cw 58 := rfl
set_option maxRecDepth 100000 in
theorem oW_59 : ox_cw 59 := rfl
set_option maxRecDepth 100000 in
theorem oW_60 : ox_cw 60 := rfl
set_option maxRecDepth 100000 in
theorem oW_61 : ox_cw 61 := rfl
set_option maxRecDepth 100000 in
theorem oW_62 : ox_cw 62 := rfl
set_option maxRecDepth 100000 in
theorem oW_63 : ox_cw 63 := rfl
set_option maxRecDepth 100000 in
theorem oW_64 : ox_cw 64 := rfl
set_option maxRecDepth 100000 in
theorem oW_65 : ox_cw 65 := rfl
set_option maxRecDepth 100000 in
theorem oW_66 : ox_cw 66 := rfl
set_option maxRecDepth 100000 in
theorem oW_67 : ox_cw 67 := rfl
set_option maxRecDepth 100000 in
theorem oW_68 : ox_cw 68 := rfl
set_option maxRecDepth 100000 in
theorem oW_69 : ox_cw 69 := rfl
set_option maxRecDepth 100000 in
theorem oW_70 : ox_cw 70 := rfl
set_option maxRecDepth 100000 in
theorem oW_71 : ox_cw 71 := rfl
set_option maxRecDepth 100000 in
theorem oW_72 : ox_cw 72 := rfl
set_option maxRecDepth 100000 in
theorem oW_73 : ox_cw 73 := rfl
set_option maxRecDepth 100000 in
theorem oW_74 : ox_cw 74 := rfl
set_option maxRecDepth 100000 in
theorem oW_75 : ox_cw 75 := rfl
set_option maxRecDepth 100000 in
theorem oW_76 : ox_cw 76 := rfl
set_option maxRecDepth 100000 in
theorem oW_77 : ox_cw 77 := rfl
set_option maxRecDepth 100000 in
theorem oW_78 : ox_cw 78 := rfl
set_option maxRecDepth 100000 in
theorem oW_79 : ox_cw 79 := rfl
set_option maxRecDepth 100000 in
theorem oW_80 : ox_cw 80 := rfl
set_option maxRecDepth 100000 in
theorem oW_81 : ox_cw 81 := rfl
set_option maxRecDepth 100000 in
theorem oW_82 : ox_cw 82 := rfl
set_option maxRecDepth 100000 in
theorem oW_83 : ox_cw 83 := rfl
set_option maxRecDepth 100000 in
theorem oW_84 : ox_cw 84 := rfl
set_option maxRecDepth 100000 in
theorem oW_85 : ox_cw 85 := rfl
set_option maxRecDepth 100000 in
theorem oW_86 : ox_cw 86 := rfl
set_option maxRecDepth 100000 in
theorem oW_87 : ox_cw 87 := rfl
set_option maxRecDepth 100000 in
theorem oW_88 : ox_cw 88 := rfl
set_option maxRecDepth 100000 in
theorem oW_89 : ox_cw 89 := rfl
set_option maxRecDepth 100000 in
theorem oW_90 : ox_cw 90 := rfl
set_option maxRecDepth 100000 in
theorem oW_91 : ox_cw 91 := rfl
set_option maxRecDepth 100000 in
theorem oW_92 : ox_cw 92 := rfl
set_option maxRecDepth 100000 in
theorem oW_93 : ox_cw 93 := rfl
set_option maxRecDepth 100000 in
theorem oW_94 : ox_cw 94 := rfl
set_option maxRecDepth 100000 in
theorem oW_95 : ox_cw 95 := rfl
set_option maxRecDepth 100000 in
theorem oW_96 : ox_cw 96 := rfl
set_option maxRecDepth 100000 in
theorem oW_97 : ox_cw 97 := rfl
set_option maxRecDepth 100000 in
theorem oW_98 : ox_cw 98 := rfl
set_option maxRecDepth 100000 in
theorem oW_99 : ox_cw 99 := rfl
set_option maxRecDepth 100000 in
theorem oW_100 : ox_cw 100 := rfl
set_option maxRecDepth 100000 in
theorem oW_101 : ox_cw 101 := rfl
set_option maxRecDepth 100000 in
theorem oW_102 : ox_cw 102 := rfl
set_option maxRecDepth 100000 in
theorem oW_103 : ox_cw 103 := rfl
set_option maxRecDepth 100000 in
theorem oW_104 : ox_cw 104 := rfl
set_option maxRecDepth 100000 in
theorem oW_105 : ox_cw 105 := rfl
set_option maxRecDepth 100000 in
theorem oW_106 : ox_cw 106 := rfl
set_option maxRecDepth 100000 in
theorem oW_107 : ox_cw 107 := rfl
set_option maxRecDepth 100000 in
theorem oW_108 : ox_cw 108 := rfl
set_option maxRecDepth 100000 in
theorem oW_109 : ox_cw 109 := rfl
set_option maxRecDepth 100000 in
theorem oW_110 : ox_cw 110 := rfl
set_option maxRecDepth 100000 in
theorem oW_111 : ox_cw 111 := rfl
set_option maxRecDepth 100000 in
theorem oW_112 : ox_cw 112 := rfl
set_option maxRecDepth 100000 in
theorem oW_113 : ox_cw 113 := rfl
set_option maxRecDepth 100000 in
theorem oW_114 : ox_cw 114 := rfl
set_option maxRecDepth 100000 in
theorem oW_115 : ox_cw 115 := rfl
set_option maxRecDepth 100000 in
theorem oW_116 : ox_cw 116 := rfl
set_option maxRecDepth 100000 in
theorem oW_117 : ox_cw 117 := rfl
set_option maxRecDepth 100000 in
theorem oW_118 : ox_cw 118 := rfl
set_option maxRecDepth 100000 in
theorem oW_119 : ox_cw 119 := rfl
set_option maxRecDepth 100000 in
theorem oW_120 : ox_cw 120 := rfl
set_option maxRecDepth 100000 in
theorem oW_121 : ox_cw 121 := rfl
set_option maxRecDepth 100000 in
theorem oW_122 : ox_cw 122 := rfl
set_option maxRecDepth 100000 in
theorem oW_123 : ox_cw 123 := rfl
set_option maxRecDepth 100000 in
theorem oW_124 : ox_cw 124 := rfl
set_option maxRecDepth 100000 in
theorem oW_125 : ox_cw 125 := rfl
set_option maxRecDepth 100000 in
theorem oW_126 : ox_cw 126 := rfl
set_option maxRecDepth 100000 in
theorem oW_127 : ox_cw 127 := rfl
set_option maxRecDepth 100000 in
theorem oW_128 : ox_cw 128 := rfl
set_option maxRecDepth 100000 in
theorem oW_129 : ox_cw 129 := rfl
set_option maxRecDepth 100000 in
theorem oW_130 : ox_cw 130 := rfl
set_option maxRecDepth 100000 in
theorem oW_131 : ox_cw 131 := rfl
set_option maxRecDepth 100000 in
theorem oW_132 : ox_cw 132 := rfl
set_option maxRecDepth 100000 in
theorem oW_133 : ox_cw 133 := rfl
set_option maxRecDepth 100000 in
theorem oW_134 : ox_cw 134 := rfl
set_option maxRecDepth 100000 in
theorem oW_135 : ox_cw 135 := rfl
set_option maxRecDepth 100000 in
theorem oW_136 : ox_cw 136 := rfl
set_option maxRecDepth 100000 in
theorem oW_137 : ox_cw 137 := rfl
set_option maxRecDepth 100000 in
theorem oW_138 : ox_cw 138 := rfl
set_option maxRecDepth 100000 in
theorem oW_139 : ox_cw 139 := rfl
set_option maxRecDepth 100000 in
theorem oW_140 : ox_cw 140 := rfl
set_option maxRecDepth 100000 in
theorem oW_141 : ox_cw 141 := rfl
set_option maxRecDepth 100000 in
theorem oW_142 : ox_cw 142 := rfl
set_option maxRecDepth 100000 in
theorem oW_143 : ox_cw 143 := rfl
set_option maxRecDepth 100000 in
theorem oW_144 : ox_cw 144 := rfl
set_option maxRecDepth 100000 in
theorem oW_145 : ox_cw 145 := rfl
set_option maxRecDepth 100000 in
theorem oW_146 : ox_cw 146 := rfl
set_option maxRecDepth 100000 in
theorem oW_147 : ox_cw 147 := rfl
set_option maxRecDepth 100000 in
theorem oW_148 : ox_cw 148 := rfl
set_option maxRecDepth 100000 in
theorem oW_149 : ox_cw 149 := rfl
set_option maxRecDepth 100000 in
theorem oW_150 : ox_cw 150 := rfl
set_option maxRecDepth 100000 in
theorem oW_151 : ox_cw 151 := rfl
set_option maxRecDepth 100000 in
theorem oW_152 : ox_cw 152 := rfl
set_option maxRecDepth 100000 in
theorem oW_153 : ox_cw 153 := rfl
set_option maxRecDepth 100000 in
theorem oW_154 : ox_cw 154 := rfl
set_option maxRecDepth 100000 in
theorem oW_155 : ox_cw 155 := rfl
set_option maxRecDepth 100000 in
theorem oW_156 : ox_cw 156 := rfl
set_option maxRecDepth 100000 in
theorem oW_157 : ox_cw 157 := rfl
set_option maxRecDepth 100000 in
theorem oW_158 : ox_cw 158 := rfl
set_option maxRecDepth 100000 in
theorem oW_159 : ox_cw 159 := rfl
set_option maxRecDepth 100000 in
theorem oW_160 : ox_cw 160 := rfl
set_option maxRecDepth 100000 in
theorem oW_161 : ox_cw 161 := rfl
set_option maxRecDepth 100000 in
theorem oW_162 : ox_cw 162 := rfl
set_option maxRecDepth 100000 in
theorem oW_163 : ox_cw 163 := rfl
set_option maxRecDepth 100000 in
theorem oW_164 : ox_cw 164 := rfl
set_option maxRecDepth 100000 in
theorem oW_165 : ox_cw 165 := rfl
set_option maxRecDepth 100000 in
theorem oW_166 : ox_cw 166 := rfl
set_option maxRecDepth 100000 in
theorem oW_167 : ox_cw 167 := rfl
set_option maxRecDepth 100000 in
theorem oW_168 : ox_cw 168 := rfl
set_option maxRecDepth 100000 in
theorem oW_169 : ox_cw 169 := rfl
set_option maxRecDepth 100000 in
theorem oW_170 : ox_cw 170 := rfl
set_option maxRecDepth 100000 in
theorem oW_171 : ox_cw 171 := rfl
set_option maxRecDepth 100000 in
theorem oW_172 : ox_cw 172 := rfl
set_option maxRecDepth 100000 in
theorem oW_173 : ox_cw 173 := rfl
set_option maxRecDepth 100000 in
theorem oW_174 : ox_cw 174 := rfl
set_option maxRecDepth 100000 in
theorem oW_175 : ox_cw 175 := rfl
set_option maxRecDepth 100000 in
theorem oW_176 : ox_cw 176 := rfl
set_option maxRecDepth 100000 in
theorem oW_177 : ox_cw 177 := rfl
set_option maxRecDepth 100000 in
theorem oW_178 : ox_cw 178 := rfl
set_option maxRecDepth 100000 in
theorem oW_179 : ox_cw 179 := rfl
set_option maxRecDepth 100000 in
theorem oW_180 : ox_cw 180 := rfl
set_option maxRecDepth 100000 in
theorem oW_181 : ox_cw 181 := rfl
set_option maxRecDepth 100000 in
theorem oW_182 : ox_cw 182 := rfl
set_option maxRecDepth 100000 in
theorem oW_183 : ox_cw 183 := rfl
set_option maxRecDepth 100000 in
theorem oW_184 : ox_cw 184 := rfl
set_option maxRecDepth 100000 in
theorem oW_185 : ox_cw 185 := rfl
set_option maxRecDepth 100000 in
theorem oW_186 : ox_cw 186 := rfl
set_option maxRecDepth 100000 in
theorem oW_187 : ox_cw 187 := rfl
set_option maxRecDepth 100000 in
theorem oW_188 : ox_cw 188 := rfl
set_option maxRecDepth 100000 in
theorem oW_189 : ox_cw 189 := rfl
set_option maxRecDepth 100000 in
theorem oW_190 : ox_cw 190 := rfl
set_option maxRecDepth 100000 in
theorem oW_191 : ox_cw 191 := rfl
set_option maxRecDepth 100000 in
theorem oW_192 : ox_cw 192 := rfl
set_option maxRecDepth 100000 in
theorem oW_193 : ox_cw 193 := rfl
set_option maxRecDepth 100000 in
theorem oW_194 : ox_cw 194 := rfl
set_option maxRecDepth 100000 in
theorem oW_195 : ox_cw 195 := rfl
set_option maxRecDepth 100000 in
theorem oW_196 : ox_cw 196 := rfl
set_option maxRecDepth 100000 in
theorem oW_197 : ox_cw 197 := rfl
set_option maxRecDepth 100000 in
theorem oW_198 : ox_cw 198 := rfl
set_option maxRecDepth 100000 in
theorem oW_199 : ox_cw 199 := rfl
set_option maxRecDepth 100000 in
theorem oW_200 : ox_cw 200 := rfl
set_option maxRecDepth 100000 in
theorem oW_201 : ox_cw 201 := rfl
set_option maxRecDepth 100000 in
theorem oW_202 : ox_cw 202 := rfl
set_option maxRecDepth 100000 in
theorem oW_203 : ox_cw 203 := rfl
set_option maxRecDepth 100000 in
theorem oW_204 : ox_cw 204 := rfl
set_option maxRecDepth 100000 in
theorem oW_205 : ox_cw 205 := rfl
set_option maxRecDepth 100000 in
theorem oW_206 : ox_cw 206 := rfl
set_option maxRecDepth 100000 in
theorem oW_207 : ox_cw 207 := rfl
set_option maxRecDepth 100000 in
theorem oW_208 : ox_cw 208 := rfl
set_option maxRecDepth 100000 in
theorem oW_209 : ox_cw 209 := rfl
set_option maxRecDepth 100000 in
theorem oW_210 : ox_cw 210 := rfl
set_option maxRecDepth 100000 in
theorem oW_211 : ox_cw 211 := rfl
set_option maxRecDepth 100000 in
theorem oW_212 : ox_cw 212 := rfl
set_option maxRecDepth 100000 in
theorem oW_217 : ox_cw 217 := rfl
set_option maxRecDepth 100000 in
theorem oW_218 : ox_cw 218 := rfl
set_option maxRecDepth 100000 in
theorem oW_219 : ox_cw 219 := rfl
set_option maxRecDepth 100000 in
theorem oW_220 : ox_cw 220 := rfl
set_option maxRecDepth 100000 in
theorem oW_221 : ox_cw 221 := rfl
set_option maxRecDepth 100000 in
theorem oW_222 : ox_cw 222 := rfl
set_option maxRecDepth 100000 in
theorem oW_223 : ox_cw 223 := rfl
set_option maxRecDepth 100000 in
theorem oW_224 : ox_cw 224 := rfl
set_option maxRecDepth 100000 in
theorem oW_225 : ox_cw 225 := rfl
set_option maxRecDepth 100000 in
theorem oW_226 : ox_cw 226 := rfl
set_option maxRecDepth 100000 in
theorem oW_227 : ox_cw 227 := rfl
set_option maxRecDepth 100000 in
theorem oW_228 : ox_cw 228 := rfl
set_option maxRecDepth 100000 in
theorem oW_229 : ox_cw 229 := rfl
set_option maxRecDepth 100000 in
theorem oW_230 : ox_cw 230 := rfl
set_option maxRecDepth 100000 in
theorem oW_231 : ox_cw 231 := rfl
set_option maxRecDepth 100000 in
theorem oW_232 : ox_cw 232 := rfl
set_option maxRecDepth 100000 in
theorem oW_233 : ox_cw 233 := rfl
set_option maxRecDepth 100000 in
theorem oW_234 : ox_cw 234 := rfl
set_option maxRecDepth 100000 in
theorem oW_235 : ox_cw 235 := rfl
theorem oV_0 : ∀ j ∈ [0, 1, 2, 3, 4, 5, 6, 7, 8, 9, 10, 11, 12, 13, 14, 15, 16, 17, 18, 19], ox_cw j := List.forall_mem_cons.mpr ⟨oW_0, List.forall_mem_cons.mpr ⟨oW_1, List.forall_mem_cons.mpr ⟨oW_2, List.forall_mem_cons.mpr ⟨oW_3, List.forall_mem_cons.mpr ⟨oW_4, List.forall_mem_cons.mpr ⟨oW_5, List.forall_mem_cons.mpr ⟨oW_6, List.forall_mem_cons.mpr ⟨oW_7, List.forall_mem_cons.mpr ⟨oW_8, List.forall_mem_cons.mpr ⟨oW_9, List.forall_mem_cons.mpr ⟨oW_10, List.forall_mem_cons.mpr ⟨oW_11, List.forall_mem_cons.mpr ⟨oW_12, List.forall_mem_cons.mpr ⟨oW_13, List.forall_mem_cons.mpr ⟨oW_14, List.forall_mem_cons.mpr ⟨oW_15, List.forall_mem_cons.mpr ⟨oW_16, List.forall_mem_cons.mpr ⟨oW_17, List.forall_mem_cons.mpr ⟨oW_18, List.forall_mem_cons.mpr ⟨oW_19, fun _ h => absurd h List.not_mem_nil⟩⟩⟩⟩⟩⟩⟩⟩⟩⟩⟩⟩⟩⟩⟩⟩⟩⟩⟩⟩
theorem oV_1 : ∀ j ∈ [20, 21, 22, 23, 24, 25, 26, 27, 28, 29, 30, 31, 32, 33, 34, 35, 36, 37, 38, 39], ox_cw j := List.forall_mem_cons.mpr ⟨oW_20, List.forall_mem_cons.mpr ⟨oW_21, List.forall_mem_cons.mpr ⟨oW_22, List.forall_mem_cons.mpr ⟨oW_23, List.forall_mem_cons.mpr ⟨oW_24, List.forall_mem_cons.mpr ⟨oW_25, List.forall_mem_cons.mpr ⟨oW_26, List.forall_mem_cons.mpr ⟨oW_27, List.forall_mem_cons.mpr ⟨oW_28, List.forall_mem_cons.mpr ⟨oW_29, List.forall_mem_cons.mpr ⟨oW_30, List.forall_mem_cons.mpr ⟨oW_31, List.forall_mem_cons.mpr ⟨oW_32, List.forall_mem_cons.mpr ⟨oW_33, List.forall_mem_cons.mpr ⟨oW_34, List.forall_mem_cons.mpr ⟨oW_35, List.forall_mem_cons.mpr ⟨oW_36, List.forall_mem_cons.mpr ⟨oW_37, List.forall_mem_cons.mpr ⟨oW_38, List.forall_mem_cons.mpr ⟨oW_39, fun _ h => absurd h List.not_mem_nil⟩⟩⟩⟩⟩⟩⟩⟩⟩⟩⟩⟩⟩⟩⟩⟩⟩⟩⟩⟩
theorem oV_2 : ∀ j ∈ [40, 41, 42, 43, 44, 45, 47, 48, 49, 50, 51, 52, 53, 54, 55, 56, 57, 58, 59, 60], ox_cw j := List.forall_mem_cons.mpr ⟨oW_40, List.forall_mem_cons.mpr ⟨oW_41, List.forall_mem_cons.mpr ⟨oW_42, List.forall_mem_cons.mpr ⟨oW_43, List.forall_mem_cons.mpr ⟨oW_44, List.forall_mem_cons.mpr ⟨oW_45, List.forall_mem_cons.mpr ⟨oW_47, List.forall_mem_cons.mpr ⟨oW_48, List.forall_mem_cons.mpr ⟨oW_49, List.forall_mem_cons.mpr ⟨oW_50, List.forall_mem_cons.mpr ⟨oW_51, List.forall_mem_cons.mpr ⟨oW_52, List.forall_mem_cons.mpr ⟨oW_53, List.forall_mem_cons.mpr ⟨oW_54, List.forall_mem_cons.mpr ⟨oW_55, List.forall_mem_cons.mpr ⟨oW_56, List.forall_mem_cons.mpr ⟨oW_57, List.forall_mem_cons.mpr ⟨oW_58, List.forall_mem_cons.mpr ⟨oW_59, List.forall_mem_cons.mpr ⟨oW_60, fun _ h => absurd h List.not_mem_nil⟩⟩⟩⟩⟩⟩⟩⟩⟩⟩⟩⟩⟩⟩⟩⟩⟩⟩⟩⟩
theorem oV_3 : ∀ j ∈ [61, 62, 63, 64, 65, 66, 67, 68, 69, 70, 71, 72, 73, 74, 75, 76, 77, 78, 79, 80], ox_cw j := List.forall_mem_cons.mpr ⟨oW_61, List.forall_mem_cons.mpr ⟨oW_62, List.forall_mem_cons.mpr ⟨oW_63, List.forall_mem_cons.mpr ⟨oW_64, List.forall_mem_cons.mpr ⟨oW_65, List.forall_mem_cons.mpr ⟨oW_66, List.forall_mem_cons.mpr ⟨oW_67, List.forall_mem_cons.mpr ⟨oW_68, List.forall_mem_cons.mpr ⟨oW_69, List.forall_mem_cons.mpr ⟨oW_70, List.forall_mem_cons.mpr ⟨oW_71, List.forall_mem_cons.mpr ⟨oW_72, List.forall_mem_cons.mpr ⟨oW_73, List.forall_mem_cons.mpr ⟨oW_74, List.forall_mem_cons.mpr ⟨oW_75, List.forall_mem_cons.mpr ⟨oW_76, List.forall_mem_cons.mpr ⟨oW_77, List.forall_mem_cons.mpr ⟨oW_78, List.forall_mem_cons.mpr ⟨oW_79, List.forall_mem_cons.mpr ⟨oW_80, fun _ h => absurd h List.not_mem_nil⟩⟩⟩⟩⟩⟩⟩⟩⟩⟩⟩⟩⟩⟩⟩⟩⟩⟩⟩⟩
theorem oV_4 : ∀ j ∈ [81, 82, 83, 84, 85, 86, 87, 88, 89, 90, 91, 92, 93, 94, 95, 96, 97, 98, 99, 100], ox_cw j := List.forall_mem_cons.mpr ⟨oW_81, List.forall_mem_cons.mpr ⟨oW_82, List.forall_mem_cons.mpr ⟨oW_83, List.forall_mem_cons.mpr ⟨oW_84, List.forall_mem_cons.mpr ⟨oW_85, List.forall_mem_cons.mpr ⟨oW_86, List.forall_mem_cons.mpr ⟨oW_87, List.forall_mem_cons.mpr ⟨oW_88, List.forall_mem_cons.mpr ⟨oW_89, List.forall_mem_cons.mpr ⟨oW_90, List.forall_mem_cons.mpr ⟨oW_91, List.forall_mem_cons.mpr ⟨oW_92, List.forall_mem_cons.mpr ⟨oW_93, List.forall_mem_cons.mpr ⟨oW_94, List.forall_mem_cons.mpr ⟨oW_95, List.forall_mem_cons.mpr ⟨oW_96, List.forall_mem_cons.mpr ⟨oW_97, List.forall_mem_cons.mpr ⟨oW_98, List.forall_mem_cons.mpr ⟨oW_99, List.forall_mem_cons.mpr ⟨oW_100, fun _ h => absurd h List.not_mem_nil⟩⟩⟩⟩⟩⟩⟩⟩⟩⟩⟩⟩⟩⟩⟩⟩⟩⟩⟩⟩
theorem oV_5 : ∀ j ∈ [101, 102, 103, 104, 105, 106, 107, 108, 109, 110, 111, 112, 113, 114, 115, 116, 117, 118, 119, 120], ox_cw j := List.forall_mem_cons.mpr ⟨oW_101, List.forall_mem_cons.mpr ⟨oW_102, List.forall_mem_cons.mpr ⟨oW_103, List.forall_mem_cons.mpr ⟨oW_104, List.forall_mem_cons.mpr ⟨oW_105, List.forall_mem_cons.mpr ⟨oW_106, List.forall_mem_cons.mpr ⟨oW_107, List.forall_mem_cons.mpr ⟨oW_108, List.forall_mem_cons.mpr ⟨oW_109, List.forall_mem_cons.mpr ⟨oW_110, List.forall_mem_cons.mpr ⟨oW_111, List.forall_mem_cons.mpr ⟨oW_112, List.forall_mem_cons.mpr ⟨oW_113, List.forall_mem_cons.mpr ⟨oW_114, List.forall_mem_cons.mpr ⟨oW_115, List.forall_mem_cons.mpr ⟨oW_116, List.forall_mem_cons.mpr ⟨oW_117, List.forall_mem_cons.mpr ⟨oW_118, List.forall_mem_cons.mpr ⟨oW_119, List.forall_mem_cons.mpr ⟨oW_120, fun _ h => absurd h List.not_mem_nil⟩⟩⟩⟩⟩⟩⟩⟩⟩⟩⟩⟩⟩⟩⟩⟩⟩⟩⟩⟩
theorem oV_6 : ∀ j ∈ [121, 122, 123, 124, 125, 126, 127, 128, 129, 130, 131, 132, 133, 134, 135, 136, 137, 138, 139, 140], ox_cw j := List.forall_mem_cons.mpr ⟨oW_121, List.forall_mem_cons.mpr ⟨oW_122, List.forall_mem_cons.mpr ⟨oW_123, List.forall_mem_cons.mpr ⟨oW_124, List.forall_mem_cons.mpr ⟨oW_125, List.forall_mem_cons.mpr ⟨oW_126, List.forall_mem_cons.mpr ⟨oW_127, List.forall_mem_cons.mpr ⟨oW_128, List.forall_mem_cons.mpr ⟨oW_129, List.forall_mem_cons.mpr ⟨oW_130, List.forall_mem_cons.mpr ⟨oW_131, List.forall_mem_cons.mpr ⟨oW_132, List.forall_mem_cons.mpr ⟨oW_133, List.forall_mem_cons.mpr ⟨oW_134, List.forall_mem_cons.mpr ⟨oW_135, List.forall_mem_cons.mpr ⟨oW_136, List.forall_mem_cons.mpr ⟨oW_137, List.forall_mem_cons.mpr ⟨oW_138, List.forall_mem_cons.mpr ⟨oW_139, List.forall_mem_cons.mpr ⟨oW_140, fun _ h => absurd h List.not_mem_nil⟩⟩⟩⟩⟩⟩⟩⟩⟩⟩⟩⟩⟩⟩⟩⟩⟩⟩⟩⟩
theorem oV_7 : ∀ j ∈ [141, 142, 143, 144, 145, 146, 147, 148, 149, 150, 151, 152, 153, 154, 155, 156, 157, 158, 159, 160], ox_cw j := List.forall_mem_cons.mpr ⟨oW_141, List.forall_mem_cons.mpr ⟨oW_142, List.forall_mem_cons.mpr ⟨oW_143, List.forall_mem_cons.mpr ⟨oW_144, List.forall_mem_cons.mpr ⟨oW_145, List.forall_mem_cons.mpr ⟨oW_146, List.forall_mem_cons.mpr ⟨oW_147, List.forall_mem_cons.mpr ⟨oW_148, List.forall_mem_cons.mpr ⟨oW_149, List.forall_mem_cons.mpr ⟨oW_150, List.forall_mem_cons.mpr ⟨oW_151, List.forall_mem_cons.mpr ⟨oW_152, List.forall_mem_cons.mpr ⟨oW_153, List.forall_mem_cons.mpr ⟨oW_154, List.forall_mem_cons.mpr ⟨oW_155, List.forall_mem_cons.mpr ⟨oW_156, List.forall_mem_cons.mpr ⟨oW_157, List.forall_mem_cons.mpr ⟨oW_158, List.forall_mem_cons.mpr ⟨oW_159, List.forall_mem_cons.mpr ⟨oW_160, fun _ h => absurd h List.not_mem_nil⟩⟩⟩⟩⟩⟩⟩⟩⟩⟩⟩⟩⟩⟩⟩⟩⟩⟩⟩⟩
theorem oV_8 : ∀ j ∈ [161, 162, 163, 164, 165, 166, 167, 168, 169, 170, 171, 172, 173, 174, 175, 176, 177, 178, 179, 180], ox_cw j := List.forall_mem_cons.mpr ⟨oW_161, List.forall_mem_cons.mpr ⟨oW_162, List.forall_mem_cons.mpr ⟨oW_163, List.forall_mem_cons.mpr ⟨oW_164, List.forall_mem_cons.mpr ⟨oW_165, List.forall_mem_cons.mpr ⟨oW_166, List.forall_mem_cons.mpr ⟨oW_167, List.forall_mem_cons.mpr ⟨oW_168, List.forall_mem_cons.mpr ⟨oW_169, List.forall_mem_cons.mpr ⟨oW_170, List.forall_mem_cons.mpr ⟨oW_171, List.forall_mem_cons.mpr ⟨oW_172, List.forall_mem_cons.mpr ⟨oW_173, List.forall_mem_cons.mpr ⟨oW_174, List.forall_mem_cons.mpr ⟨oW_175, List.forall_mem_cons.mpr ⟨oW_176, List.forall_mem_cons.mpr ⟨oW_177, List.forall_mem_cons.mpr ⟨oW_178, List.forall_mem_cons.mpr ⟨oW_179, List.forall_mem_cons.mpr ⟨oW_180, fun _ h => absurd h List.not_mem_nil⟩⟩⟩⟩⟩⟩⟩⟩⟩⟩⟩⟩⟩⟩⟩⟩⟩⟩⟩⟩
theorem oV_9 : ∀ j ∈ [181, 182, 183, 184, 185, 186, 187, 188, 189, 190, 191, 192, 193, 194, 195, 196, 197, 198, 199, 200], ox_cw j := List.forall_mem_cons.mpr ⟨oW_181, List.forall_mem_cons.mpr ⟨oW_182, List.forall_mem_cons.mpr ⟨oW_183, List.forall_mem_cons.mpr ⟨oW_184, List.forall_mem_cons.mpr ⟨oW_185, List.forall_mem_cons.mpr ⟨oW_186, List.forall_mem_cons.mpr ⟨oW_187, List.forall_mem_cons.mpr ⟨oW_188, List.forall_mem_cons.mpr ⟨oW_189, List.forall_mem_cons.mpr ⟨oW_190, List.forall_mem_cons.mpr ⟨oW_191, List.forall_mem_cons.mpr ⟨oW_192, List.forall_mem_cons.mpr ⟨oW_193, List.forall_mem_cons.mpr ⟨oW_194, List.forall_mem_cons.mpr ⟨oW_195, List.forall_mem_cons.mpr ⟨oW_196, List.forall_mem_cons.mpr ⟨oW_197, List.forall_mem_cons.mpr ⟨oW_198, List.forall_mem_cons.mpr ⟨oW_199, List.forall_mem_cons.mpr ⟨oW_200, fun _ h => absurd h List.not_mem_nil⟩⟩⟩⟩⟩⟩⟩⟩⟩⟩⟩⟩⟩⟩⟩⟩⟩⟩⟩⟩
theorem oV_10 : ∀ j ∈ [201, 202, 203, 204, 205, 206, 207, 208, 209, 210, 211, 212, 217, 218, 219, 220, 221, 222, 223, 224], ox_cw j := List.forall_mem_cons.mpr ⟨oW_201, List.forall_mem_cons.mpr ⟨oW_202, List.forall_mem_cons.mpr ⟨oW_203, List.forall_mem_cons.mpr ⟨oW_204, List.forall_mem_cons.mpr ⟨oW_205, List.forall_mem_cons.mpr ⟨oW_206, List.forall_mem_cons.mpr ⟨oW_207, List.forall_mem_cons.mpr ⟨oW_208, List.forall_mem_cons.mpr ⟨oW_209, List.forall_mem_cons.mpr ⟨oW_210, List.forall_mem_cons.mpr ⟨oW_211, List.forall_mem_cons.mpr ⟨oW_212, List.forall_mem_cons.mpr ⟨oW_217, List.forall_mem_cons.mpr ⟨oW_218, List.forall_mem_cons.mpr ⟨oW_219, List.forall_mem_cons.mpr ⟨oW_220, List.forall_mem_cons.mpr ⟨oW_221, List.forall_mem_cons.mpr ⟨oW_222, List.forall_mem_cons.mpr ⟨oW_223, List.forall_mem_cons.mpr ⟨oW_224, fun _ h => absurd h List.not_mem_nil⟩⟩⟩⟩⟩⟩⟩⟩⟩⟩⟩⟩⟩⟩⟩⟩⟩⟩⟩⟩
theorem oV_11 : ∀ j ∈ [225, 226, 227, 228, 229, 230, 231, 232, 233, 234, 235], ox_cw j := List.forall_mem_cons.mpr ⟨oW_225, List.forall_mem_cons.mpr ⟨oW_226, List.forall_mem_cons.mpr ⟨oW_227, List.forall_mem_cons.mpr ⟨oW_228, List.forall_mem_cons.mpr ⟨oW_229, List.forall_mem_cons.mpr ⟨oW_230, List.forall_mem_cons.mpr ⟨oW_231, List.forall_mem_cons.mpr ⟨oW_232, List.forall_mem_cons.mpr ⟨oW_233, List.forall_mem_cons.mpr ⟨oW_234, List.forall_mem_cons.mpr ⟨oW_235, fun _ h => absurd h List.not_mem_nil⟩⟩⟩⟩⟩⟩⟩⟩⟩⟩⟩
set_option maxRecDepth 100000 in
theorem ox_vN1 : ((List.range 236).all (fun j => !(ox_jok j) || ox_vN0 j)) = true := by decide +kernel
theorem ox_jok_at {j : Nat} (h : ox_jok j = true) : j < 236 ∧ ¬ (213 ≤ j ∧ j ≤ 216) ∧ j ≠ 46 := by
  simp only [ox_jok, Bool.and_eq_true, Bool.not_eq_true', decide_eq_true_eq, Bool.and_eq_false_iff, decide_eq_false_iff_not] at h
  omega
theorem ox_vMs {j : Nat} (h : ox_jok j = true) : ox_vM j := by
  obtain ⟨h1, h2, h46⟩ := ox_jok_at h
  refine ⟨?_, ?_⟩
  · by_cases q0 : j < 20
    · exact oV_0 j (by simp; omega)
    by_cases q1 : j < 40
    · exact oV_1 j (by simp; omega)
    by_cases q2 : j < 61
    · exact oV_2 j (by simp; omega)
    by_cases q3 : j < 81
    · exact oV_3 j (by simp; omega)
    by_cases q4 : j < 101
    · exact oV_4 j (by simp; omega)
    by_cases q5 : j < 121
    · exact oV_5 j (by simp; omega)
    by_cases q6 : j < 141
    · exact oV_6 j (by simp; omega)
    by_cases q7 : j < 161
    · exact oV_7 j (by simp; omega)
    by_cases q8 : j < 181
    · exact oV_8 j (by simp; omega)
    by_cases q9 : j < 201
    · exact oV_9 j (by simp; omega)
    by_cases q10 : j < 225
    · exact oV_10 j (by simp; omega)
    exact oV_11 j (by simp; omega)
  · have := List.all_eq_true.mp ox_vN1 j (List.mem_range.mpr h1)
    rw [h] at this
    simpa using this
