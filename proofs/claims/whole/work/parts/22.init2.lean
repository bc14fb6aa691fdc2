def ws_HM (cA : Nat → ClassId) (h0 : Nat) (u : Nat → Nat) : va_W := [(h0, .inr (9, [.ref (u 0), .ref (u 1), .ref (u 2), .int 0, .ref (u 3), .int 0, .int 0, .ref (u 4), .ref (u 5), .ref (u 6), .ref (u 7), .ref (u 8), .ref (u 9), .ref (u 10), .ref (u 11), .ref (u 12), .int 0, .ref (u 13), .ref (u 14), .ref (u 15), .ref (u 16), .int 0, .ref (u 17), .int 0, .int 0, .int 0, .int 0, .int 0, .ref (u 18), .ref (u 19), .ref (u 20), .int 0, .int 0, .ref (u 21), .ref (u 22), .ref (u 23), .ref (u 24), .ref (u 25), .int 0, .int 0])), (u 0, .inl (cA 1, 8, .inl (upd (upd (upd (upd (upd (upd (upd (upd (fun _ => 0) (Int32.toNatClampNeg 0) (-1)) (Int32.toNatClampNeg 1) (-1)) (Int32.toNatClampNeg 2) (-1)) (Int32.toNatClampNeg 3) (-1)) (Int32.toNatClampNeg 4) (-1)) (Int32.toNatClampNeg 5) (-1)) (Int32.toNatClampNeg 6) (-1)) (Int32.toNatClampNeg 7) (-1)))), (u 1, .inl (cA 1, 8, .inl (fun _ => 0))), (u 2, .inl (cA 1, 320, .inl (fun _ => 0))), (u 3, .inl (cA 1, 600, .inl (fun _ => 0))), (u 4, .inl (cA 1, 120, .inl (fun _ => 0))), (u 5, .inl (cA 1, 120, .inl (fun _ => 0))), (u 6, .inl (cA 1, 120, .inl (fun _ => 0))), (u 7, .inl (cA 1, 120, .inl (fun _ => 0))), (u 8, .inl (cA 1, 120, .inl (fun _ => 0))), (u 9, .inl (cA 1, 120, .inl (fun _ => 0))), (u 10, .inl (cA 1, 120, .inl (fun _ => 0))), (u 11, .inl (cA 1, 120, .inl (fun _ => 0))), (u 12, .inl (cA 1, 480, .inl (fun _ => 0))), (u 13, .inl (cA 1, 20, .inl (upd (upd (upd (upd (upd (upd (upd (upd (upd (upd (upd (upd (upd (upd (upd (upd (upd (upd (upd (upd (fun _ => 0) (Int32.toNatClampNeg 0) (-1)) (Int32.toNatClampNeg 1) (-1)) (Int32.toNatClampNeg 2) (-1)) (Int32.toNatClampNeg 3) (-1)) (Int32.toNatClampNeg 4) (-1)) (Int32.toNatClampNeg 5) (-1)) (Int32.toNatClampNeg 6) (-1)) (Int32.toNatClampNeg 7) (-1)) (Int32.toNatClampNeg 8) (-1)) (Int32.toNatClampNeg 9) (-1)) (Int32.toNatClampNeg 10) (-1)) (Int32.toNatClampNeg 11) (-1)) (Int32.toNatClampNeg 12) (-1)) (Int32.toNatClampNeg 13) (-1)) (Int32.toNatClampNeg 14) (-1)) (Int32.toNatClampNeg 15) (-1)) (Int32.toNatClampNeg 16) (-1)) (Int32.toNatClampNeg 17) (-1)) (Int32.toNatClampNeg 18) (-1)) (Int32.toNatClampNeg 19) (-1)))), (u 14, .inl (cA 1, 20, .inl (fun _ => 0))), (u 15, .inl (cA 1, 30, .inl (fun _ => 0))), (u 16, .inl (cA 1, 600, .inl (fun _ => 0))), (u 17, .inl (cA 1, 16, .inl (fun _ => 0))), (u 18, .inl (cA 1, 9, .inl (fun _ => 0))), (u 19, .inl (cA 1, 9, .inl (fun _ => 0))), (u 20, .inl (cA 1, 9, .inl (fun _ => 0))), (u 21, .inl (cA 4, 60, .inr (.inl (fun _ => 0)))), (u 22, .inl (cA 4, 60, .inr (.inl (fun _ => 0)))), (u 23, .inl (cA 1, 60, .inl (fun _ => 0))), (u 24, .inl (cA 4, 60, .inr (.inl (fun _ => 0)))), (u 25, .inl (cA 1, 60, .inl (fun _ => 0)))]
def fs0_HM : List Value := [.null, .null, .null, .int 0, .null, .int 0, .int 0, .null, .null, .null, .null, .null, .null, .null, .null, .null, .int 0, .null, .null, .null, .null, .int 0, .null, .int 0, .int 0, .int 0, .int 0, .int 0, .null, .null, .null, .int 0, .int 0, .null, .null, .null, .null, .null, .int 0, .int 0]
theorem fs0_HM_ok : ∀ j, j < 40 → defaultValue (tyX9 j) = vp_V fs0_HM j := by decide +kernel
def rm_HM : Room := { frames := 3, cells := 26, slots := 3389, locals := 200 }
theorem dX9_init_0 : decode cX9_init 0 = .ok (.aload_n 0, 1) := by decide +kernel
theorem dX9_init_1 : decode cX9_init 1 = .ok (.invokespecial 1, 3) := by decide +kernel
theorem dX9_init_4 : decode cX9_init 4 = .ok (.aload_n 0, 1) := by decide +kernel
theorem dX9_init_5 : decode cX9_init 5 = .ok (.bipush 8, 2) := by decide +kernel
theorem dX9_init_7 : decode cX9_init 7 = .ok (.newarray .int, 2) := by decide +kernel
theorem dX9_init_9 : decode cX9_init 9 = .ok (.dup, 1) := by decide +kernel
theorem dX9_init_10 : decode cX9_init 10 = .ok (.iconst 0, 1) := by decide +kernel
theorem dX9_init_11 : decode cX9_init 11 = .ok (.iconst (-1), 1) := by decide +kernel
theorem dX9_init_12 : decode cX9_init 12 = .ok (.iastore, 1) := by decide +kernel
theorem dX9_init_13 : decode cX9_init 13 = .ok (.dup, 1) := by decide +kernel
theorem dX9_init_14 : decode cX9_init 14 = .ok (.iconst 1, 1) := by decide +kernel
theorem dX9_init_15 : decode cX9_init 15 = .ok (.iconst (-1), 1) := by decide +kernel
theorem dX9_init_16 : decode cX9_init 16 = .ok (.iastore, 1) := by decide +kernel
theorem dX9_init_17 : decode cX9_init 17 = .ok (.dup, 1) := by decide +kernel
theorem dX9_init_18 : decode cX9_init 18 = .ok (.iconst 2, 1) := by decide +kernel
theorem dX9_init_19 : decode cX9_init 19 = .ok (.iconst (-1), 1) := by decide +kernel
theorem dX9_init_20 : decode cX9_init 20 = .ok (.iastore, 1) := by decide +kernel
theorem dX9_init_21 : decode cX9_init 21 = .ok (.dup, 1) := by decide +kernel
theorem dX9_init_22 : decode cX9_init 22 = .ok (.iconst 3, 1) := by decide +kernel
theorem dX9_init_23 : decode cX9_init 23 = .ok (.iconst (-1), 1) := by decide +kernel
theorem dX9_init_24 : decode cX9_init 24 = .ok (.iastore, 1) := by decide +kernel
theorem dX9_init_25 : decode cX9_init 25 = .ok (.dup, 1) := by decide +kernel
theorem dX9_init_26 : decode cX9_init 26 = .ok (.iconst 4, 1) := by decide +kernel
theorem dX9_init_27 : decode cX9_init 27 = .ok (.iconst (-1), 1) := by decide +kernel
theorem dX9_init_28 : decode cX9_init 28 = .ok (.iastore, 1) := by decide +kernel
theorem dX9_init_29 : decode cX9_init 29 = .ok (.dup, 1) := by decide +kernel
theorem dX9_init_30 : decode cX9_init 30 = .ok (.iconst 5, 1) := by decide +kernel
theorem dX9_init_31 : decode cX9_init 31 = .ok (.iconst (-1), 1) := by decide +kernel
theorem dX9_init_32 : decode cX9_init 32 = .ok (.iastore, 1) := by decide +kernel
theorem dX9_init_33 : decode cX9_init 33 = .ok (.dup, 1) := by decide +kernel
theorem dX9_init_34 : decode cX9_init 34 = .ok (.bipush 6, 2) := by decide +kernel
theorem dX9_init_36 : decode cX9_init 36 = .ok (.iconst (-1), 1) := by decide +kernel
theorem dX9_init_37 : decode cX9_init 37 = .ok (.iastore, 1) := by decide +kernel
theorem dX9_init_38 : decode cX9_init 38 = .ok (.dup, 1) := by decide +kernel
theorem dX9_init_39 : decode cX9_init 39 = .ok (.bipush 7, 2) := by decide +kernel
theorem dX9_init_41 : decode cX9_init 41 = .ok (.iconst (-1), 1) := by decide +kernel
theorem dX9_init_42 : decode cX9_init 42 = .ok (.iastore, 1) := by decide +kernel
theorem dX9_init_43 : decode cX9_init 43 = .ok (.putfield 7, 3) := by decide +kernel
theorem dX9_init_46 : decode cX9_init 46 = .ok (.aload_n 0, 1) := by decide +kernel
theorem dX9_init_47 : decode cX9_init 47 = .ok (.bipush 8, 2) := by decide +kernel
theorem dX9_init_49 : decode cX9_init 49 = .ok (.newarray .int, 2) := by decide +kernel
theorem dX9_init_51 : decode cX9_init 51 = .ok (.putfield 13, 3) := by decide +kernel
theorem dX9_init_54 : decode cX9_init 54 = .ok (.aload_n 0, 1) := by decide +kernel
theorem dX9_init_55 : decode cX9_init 55 = .ok (.sipush 320, 3) := by decide +kernel
theorem dX9_init_58 : decode cX9_init 58 = .ok (.newarray .int, 2) := by decide +kernel
theorem dX9_init_60 : decode cX9_init 60 = .ok (.putfield 16, 3) := by decide +kernel
theorem dX9_init_63 : decode cX9_init 63 = .ok (.aload_n 0, 1) := by decide +kernel
theorem dX9_init_64 : decode cX9_init 64 = .ok (.sipush 600, 3) := by decide +kernel
theorem dX9_init_67 : decode cX9_init 67 = .ok (.newarray .int, 2) := by decide +kernel
theorem dX9_init_69 : decode cX9_init 69 = .ok (.putfield 19, 3) := by decide +kernel
theorem dX9_init_72 : decode cX9_init 72 = .ok (.aload_n 0, 1) := by decide +kernel
theorem dX9_init_73 : decode cX9_init 73 = .ok (.bipush 120, 2) := by decide +kernel
theorem dX9_init_75 : decode cX9_init 75 = .ok (.newarray .int, 2) := by decide +kernel
theorem dX9_init_77 : decode cX9_init 77 = .ok (.putfield 22, 3) := by decide +kernel
theorem dX9_init_80 : decode cX9_init 80 = .ok (.aload_n 0, 1) := by decide +kernel
theorem dX9_init_81 : decode cX9_init 81 = .ok (.bipush 120, 2) := by decide +kernel
theorem dX9_init_83 : decode cX9_init 83 = .ok (.newarray .int, 2) := by decide +kernel
theorem dX9_init_85 : decode cX9_init 85 = .ok (.putfield 25, 3) := by decide +kernel
theorem dX9_init_88 : decode cX9_init 88 = .ok (.aload_n 0, 1) := by decide +kernel
theorem dX9_init_89 : decode cX9_init 89 = .ok (.bipush 120, 2) := by decide +kernel
theorem dX9_init_91 : decode cX9_init 91 = .ok (.newarray .int, 2) := by decide +kernel
theorem dX9_init_93 : decode cX9_init 93 = .ok (.putfield 28, 3) := by decide +kernel
theorem dX9_init_96 : decode cX9_init 96 = .ok (.aload_n 0, 1) := by decide +kernel
theorem dX9_init_97 : decode cX9_init 97 = .ok (.bipush 120, 2) := by decide +kernel
theorem dX9_init_99 : decode cX9_init 99 = .ok (.newarray .int, 2) := by decide +kernel
theorem dX9_init_101 : decode cX9_init 101 = .ok (.putfield 31, 3) := by decide +kernel
theorem dX9_init_104 : decode cX9_init 104 = .ok (.aload_n 0, 1) := by decide +kernel
theorem dX9_init_105 : decode cX9_init 105 = .ok (.bipush 120, 2) := by decide +kernel
theorem dX9_init_107 : decode cX9_init 107 = .ok (.newarray .int, 2) := by decide +kernel
theorem dX9_init_109 : decode cX9_init 109 = .ok (.putfield 34, 3) := by decide +kernel
theorem dX9_init_112 : decode cX9_init 112 = .ok (.aload_n 0, 1) := by decide +kernel
theorem dX9_init_113 : decode cX9_init 113 = .ok (.bipush 120, 2) := by decide +kernel
theorem dX9_init_115 : decode cX9_init 115 = .ok (.newarray .int, 2) := by decide +kernel
theorem dX9_init_117 : decode cX9_init 117 = .ok (.putfield 37, 3) := by decide +kernel
theorem dX9_init_120 : decode cX9_init 120 = .ok (.aload_n 0, 1) := by decide +kernel
theorem dX9_init_121 : decode cX9_init 121 = .ok (.bipush 120, 2) := by decide +kernel
theorem dX9_init_123 : decode cX9_init 123 = .ok (.newarray .int, 2) := by decide +kernel
theorem dX9_init_125 : decode cX9_init 125 = .ok (.putfield 40, 3) := by decide +kernel
theorem dX9_init_128 : decode cX9_init 128 = .ok (.aload_n 0, 1) := by decide +kernel
theorem dX9_init_129 : decode cX9_init 129 = .ok (.bipush 120, 2) := by decide +kernel
theorem dX9_init_131 : decode cX9_init 131 = .ok (.newarray .int, 2) := by decide +kernel
theorem dX9_init_133 : decode cX9_init 133 = .ok (.putfield 43, 3) := by decide +kernel
theorem dX9_init_136 : decode cX9_init 136 = .ok (.aload_n 0, 1) := by decide +kernel
theorem dX9_init_137 : decode cX9_init 137 = .ok (.sipush 480, 3) := by decide +kernel
theorem dX9_init_140 : decode cX9_init 140 = .ok (.newarray .int, 2) := by decide +kernel
theorem dX9_init_142 : decode cX9_init 142 = .ok (.putfield 46, 3) := by decide +kernel
theorem dX9_init_145 : decode cX9_init 145 = .ok (.aload_n 0, 1) := by decide +kernel
theorem dX9_init_146 : decode cX9_init 146 = .ok (.bipush 20, 2) := by decide +kernel
theorem dX9_init_148 : decode cX9_init 148 = .ok (.newarray .int, 2) := by decide +kernel
theorem dX9_init_150 : decode cX9_init 150 = .ok (.dup, 1) := by decide +kernel
theorem dX9_init_151 : decode cX9_init 151 = .ok (.iconst 0, 1) := by decide +kernel
theorem dX9_init_152 : decode cX9_init 152 = .ok (.iconst (-1), 1) := by decide +kernel
theorem dX9_init_153 : decode cX9_init 153 = .ok (.iastore, 1) := by decide +kernel
theorem dX9_init_154 : decode cX9_init 154 = .ok (.dup, 1) := by decide +kernel
theorem dX9_init_155 : decode cX9_init 155 = .ok (.iconst 1, 1) := by decide +kernel
theorem dX9_init_156 : decode cX9_init 156 = .ok (.iconst (-1), 1) := by decide +kernel
theorem dX9_init_157 : decode cX9_init 157 = .ok (.iastore, 1) := by decide +kernel
theorem dX9_init_158 : decode cX9_init 158 = .ok (.dup, 1) := by decide +kernel
theorem dX9_init_159 : decode cX9_init 159 = .ok (.iconst 2, 1) := by decide +kernel
theorem dX9_init_160 : decode cX9_init 160 = .ok (.iconst (-1), 1) := by decide +kernel
theorem dX9_init_161 : decode cX9_init 161 = .ok (.iastore, 1) := by decide +kernel
theorem dX9_init_162 : decode cX9_init 162 = .ok (.dup, 1) := by decide +kernel
theorem dX9_init_163 : decode cX9_init 163 = .ok (.iconst 3, 1) := by decide +kernel
theorem dX9_init_164 : decode cX9_init 164 = .ok (.iconst (-1), 1) := by decide +kernel
theorem dX9_init_165 : decode cX9_init 165 = .ok (.iastore, 1) := by decide +kernel
theorem dX9_init_166 : decode cX9_init 166 = .ok (.dup, 1) := by decide +kernel
theorem dX9_init_167 : decode cX9_init 167 = .ok (.iconst 4, 1) := by decide +kernel
theorem dX9_init_168 : decode cX9_init 168 = .ok (.iconst (-1), 1) := by decide +kernel
theorem dX9_init_169 : decode cX9_init 169 = .ok (.iastore, 1) := by decide +kernel
theorem dX9_init_170 : decode cX9_init 170 = .ok (.dup, 1) := by decide +kernel
theorem dX9_init_171 : decode cX9_init 171 = .ok (.iconst 5, 1) := by decide +kernel
theorem dX9_init_172 : decode cX9_init 172 = .ok (.iconst (-1), 1) := by decide +kernel
theorem dX9_init_173 : decode cX9_init 173 = .ok (.iastore, 1) := by decide +kernel
theorem dX9_init_174 : decode cX9_init 174 = .ok (.dup, 1) := by decide +kernel
theorem dX9_init_175 : decode cX9_init 175 = .ok (.bipush 6, 2) := by decide +kernel
theorem dX9_init_177 : decode cX9_init 177 = .ok (.iconst (-1), 1) := by decide +kernel
theorem dX9_init_178 : decode cX9_init 178 = .ok (.iastore, 1) := by decide +kernel
theorem dX9_init_179 : decode cX9_init 179 = .ok (.dup, 1) := by decide +kernel
theorem dX9_init_180 : decode cX9_init 180 = .ok (.bipush 7, 2) := by decide +kernel
theorem dX9_init_182 : decode cX9_init 182 = .ok (.iconst (-1), 1) := by decide +kernel
theorem dX9_init_183 : decode cX9_init 183 = .ok (.iastore, 1) := by decide +kernel
theorem dX9_init_184 : decode cX9_init 184 = .ok (.dup, 1) := by decide +kernel
theorem dX9_init_185 : decode cX9_init 185 = .ok (.bipush 8, 2) := by decide +kernel
theorem dX9_init_187 : decode cX9_init 187 = .ok (.iconst (-1), 1) := by decide +kernel
theorem dX9_init_188 : decode cX9_init 188 = .ok (.iastore, 1) := by decide +kernel
theorem dX9_init_189 : decode cX9_init 189 = .ok (.dup, 1) := by decide +kernel
theorem dX9_init_190 : decode cX9_init 190 = .ok (.bipush 9, 2) := by decide +kernel
theorem dX9_init_192 : decode cX9_init 192 = .ok (.iconst (-1), 1) := by decide +kernel
theorem dX9_init_193 : decode cX9_init 193 = .ok (.iastore, 1) := by decide +kernel
theorem dX9_init_194 : decode cX9_init 194 = .ok (.dup, 1) := by decide +kernel
theorem dX9_init_195 : decode cX9_init 195 = .ok (.bipush 10, 2) := by decide +kernel
theorem dX9_init_197 : decode cX9_init 197 = .ok (.iconst (-1), 1) := by decide +kernel
theorem dX9_init_198 : decode cX9_init 198 = .ok (.iastore, 1) := by decide +kernel
theorem dX9_init_199 : decode cX9_init 199 = .ok (.dup, 1) := by decide +kernel
theorem dX9_init_200 : decode cX9_init 200 = .ok (.bipush 11, 2) := by decide +kernel
theorem dX9_init_202 : decode cX9_init 202 = .ok (.iconst (-1), 1) := by decide +kernel
theorem dX9_init_203 : decode cX9_init 203 = .ok (.iastore, 1) := by decide +kernel
theorem dX9_init_204 : decode cX9_init 204 = .ok (.dup, 1) := by decide +kernel
theorem dX9_init_205 : decode cX9_init 205 = .ok (.bipush 12, 2) := by decide +kernel
theorem dX9_init_207 : decode cX9_init 207 = .ok (.iconst (-1), 1) := by decide +kernel
theorem dX9_init_208 : decode cX9_init 208 = .ok (.iastore, 1) := by decide +kernel
theorem dX9_init_209 : decode cX9_init 209 = .ok (.dup, 1) := by decide +kernel
theorem dX9_init_210 : decode cX9_init 210 = .ok (.bipush 13, 2) := by decide +kernel
theorem dX9_init_212 : decode cX9_init 212 = .ok (.iconst (-1), 1) := by decide +kernel
theorem dX9_init_213 : decode cX9_init 213 = .ok (.iastore, 1) := by decide +kernel
theorem dX9_init_214 : decode cX9_init 214 = .ok (.dup, 1) := by decide +kernel
theorem dX9_init_215 : decode cX9_init 215 = .ok (.bipush 14, 2) := by decide +kernel
theorem dX9_init_217 : decode cX9_init 217 = .ok (.iconst (-1), 1) := by decide +kernel
theorem dX9_init_218 : decode cX9_init 218 = .ok (.iastore, 1) := by decide +kernel
theorem dX9_init_219 : decode cX9_init 219 = .ok (.dup, 1) := by decide +kernel
theorem dX9_init_220 : decode cX9_init 220 = .ok (.bipush 15, 2) := by decide +kernel
theorem dX9_init_222 : decode cX9_init 222 = .ok (.iconst (-1), 1) := by decide +kernel
theorem dX9_init_223 : decode cX9_init 223 = .ok (.iastore, 1) := by decide +kernel
theorem dX9_init_224 : decode cX9_init 224 = .ok (.dup, 1) := by decide +kernel
theorem dX9_init_225 : decode cX9_init 225 = .ok (.bipush 16, 2) := by decide +kernel
theorem dX9_init_227 : decode cX9_init 227 = .ok (.iconst (-1), 1) := by decide +kernel
theorem dX9_init_228 : decode cX9_init 228 = .ok (.iastore, 1) := by decide +kernel
theorem dX9_init_229 : decode cX9_init 229 = .ok (.dup, 1) := by decide +kernel
theorem dX9_init_230 : decode cX9_init 230 = .ok (.bipush 17, 2) := by decide +kernel
theorem dX9_init_232 : decode cX9_init 232 = .ok (.iconst (-1), 1) := by decide +kernel
theorem dX9_init_233 : decode cX9_init 233 = .ok (.iastore, 1) := by decide +kernel
theorem dX9_init_234 : decode cX9_init 234 = .ok (.dup, 1) := by decide +kernel
theorem dX9_init_235 : decode cX9_init 235 = .ok (.bipush 18, 2) := by decide +kernel
theorem dX9_init_237 : decode cX9_init 237 = .ok (.iconst (-1), 1) := by decide +kernel
theorem dX9_init_238 : decode cX9_init 238 = .ok (.iastore, 1) := by decide +kernel
theorem dX9_init_239 : decode cX9_init 239 = .ok (.dup, 1) := by decide +kernel
theorem dX9_init_240 : decode cX9_init 240 = .ok (.bipush 19, 2) := by decide +kernel
theorem dX9_init_242 : decode cX9_init 242 = .ok (.iconst (-1), 1) := by decide +kernel
theorem dX9_init_243 : decode cX9_init 243 = .ok (.iastore, 1) := by decide +kernel
theorem dX9_init_244 : decode cX9_init 244 = .ok (.putfield 49, 3) := by decide +kernel
theorem dX9_init_247 : decode cX9_init 247 = .ok (.aload_n 0, 1) := by decide +kernel
theorem dX9_init_248 : decode cX9_init 248 = .ok (.bipush 20, 2) := by decide +kernel
theorem dX9_init_250 : decode cX9_init 250 = .ok (.newarray .int, 2) := by decide +kernel
theorem dX9_init_252 : decode cX9_init 252 = .ok (.putfield 52, 3) := by decide +kernel
theorem dX9_init_255 : decode cX9_init 255 = .ok (.aload_n 0, 1) := by decide +kernel
theorem dX9_init_256 : decode cX9_init 256 = .ok (.bipush 30, 2) := by decide +kernel
theorem dX9_init_258 : decode cX9_init 258 = .ok (.newarray .int, 2) := by decide +kernel
theorem dX9_init_260 : decode cX9_init 260 = .ok (.putfield 55, 3) := by decide +kernel
theorem dX9_init_263 : decode cX9_init 263 = .ok (.aload_n 0, 1) := by decide +kernel
theorem dX9_init_264 : decode cX9_init 264 = .ok (.sipush 600, 3) := by decide +kernel
theorem dX9_init_267 : decode cX9_init 267 = .ok (.newarray .int, 2) := by decide +kernel
theorem dX9_init_269 : decode cX9_init 269 = .ok (.putfield 58, 3) := by decide +kernel
theorem dX9_init_272 : decode cX9_init 272 = .ok (.aload_n 0, 1) := by decide +kernel
theorem dX9_init_273 : decode cX9_init 273 = .ok (.bipush 16, 2) := by decide +kernel
theorem dX9_init_275 : decode cX9_init 275 = .ok (.newarray .int, 2) := by decide +kernel
theorem dX9_init_277 : decode cX9_init 277 = .ok (.putfield 61, 3) := by decide +kernel
theorem dX9_init_280 : decode cX9_init 280 = .ok (.aload_n 0, 1) := by decide +kernel
theorem dX9_init_281 : decode cX9_init 281 = .ok (.bipush 9, 2) := by decide +kernel
theorem dX9_init_283 : decode cX9_init 283 = .ok (.newarray .int, 2) := by decide +kernel
theorem dX9_init_285 : decode cX9_init 285 = .ok (.putfield 64, 3) := by decide +kernel
theorem dX9_init_288 : decode cX9_init 288 = .ok (.aload_n 0, 1) := by decide +kernel
theorem dX9_init_289 : decode cX9_init 289 = .ok (.bipush 9, 2) := by decide +kernel
theorem dX9_init_291 : decode cX9_init 291 = .ok (.newarray .int, 2) := by decide +kernel
theorem dX9_init_293 : decode cX9_init 293 = .ok (.putfield 67, 3) := by decide +kernel
theorem dX9_init_296 : decode cX9_init 296 = .ok (.aload_n 0, 1) := by decide +kernel
theorem dX9_init_297 : decode cX9_init 297 = .ok (.bipush 9, 2) := by decide +kernel
theorem dX9_init_299 : decode cX9_init 299 = .ok (.newarray .int, 2) := by decide +kernel
theorem dX9_init_301 : decode cX9_init 301 = .ok (.putfield 70, 3) := by decide +kernel
theorem dX9_init_304 : decode cX9_init 304 = .ok (.aload_n 0, 1) := by decide +kernel
theorem dX9_init_305 : decode cX9_init 305 = .ok (.bipush 60, 2) := by decide +kernel
theorem dX9_init_307 : decode cX9_init 307 = .ok (.newarray .long, 2) := by decide +kernel
theorem dX9_init_309 : decode cX9_init 309 = .ok (.putfield 73, 3) := by decide +kernel
theorem dX9_init_312 : decode cX9_init 312 = .ok (.aload_n 0, 1) := by decide +kernel
theorem dX9_init_313 : decode cX9_init 313 = .ok (.bipush 60, 2) := by decide +kernel
theorem dX9_init_315 : decode cX9_init 315 = .ok (.newarray .long, 2) := by decide +kernel
theorem dX9_init_317 : decode cX9_init 317 = .ok (.putfield 77, 3) := by decide +kernel
theorem dX9_init_320 : decode cX9_init 320 = .ok (.aload_n 0, 1) := by decide +kernel
theorem dX9_init_321 : decode cX9_init 321 = .ok (.bipush 60, 2) := by decide +kernel
theorem dX9_init_323 : decode cX9_init 323 = .ok (.newarray .int, 2) := by decide +kernel
theorem dX9_init_325 : decode cX9_init 325 = .ok (.putfield 80, 3) := by decide +kernel
theorem dX9_init_328 : decode cX9_init 328 = .ok (.aload_n 0, 1) := by decide +kernel
theorem dX9_init_329 : decode cX9_init 329 = .ok (.bipush 60, 2) := by decide +kernel
theorem dX9_init_331 : decode cX9_init 331 = .ok (.newarray .long, 2) := by decide +kernel
theorem dX9_init_333 : decode cX9_init 333 = .ok (.putfield 83, 3) := by decide +kernel
theorem dX9_init_336 : decode cX9_init 336 = .ok (.aload_n 0, 1) := by decide +kernel
theorem dX9_init_337 : decode cX9_init 337 = .ok (.bipush 60, 2) := by decide +kernel
theorem dX9_init_339 : decode cX9_init 339 = .ok (.newarray .int, 2) := by decide +kernel
theorem dX9_init_341 : decode cX9_init 341 = .ok (.putfield 86, 3) := by decide +kernel
theorem dX9_init_344 : decode cX9_init 344 = .ok (.return_, 1) := by decide +kernel
set_option maxRecDepth 20000 in
set_option maxHeartbeats 4000000 in
theorem c_HM_init (l : Launch) (D : va_G) (cA : Nat → ClassId) (h0 sz : Nat) : iM l D cA yX9_init cX9_init rm_HM 9 fs0_HM (ws_HM cA) h0 sz := by
  refine iM_of (by decide) rfl (fun E A hl X hR1 hme hret => ?_)
  refine i_eq (V' := (h0, .inr (9, [.null, .null, .null, .int 0, .null, .int 0, .int 0, .null, .null, .null, .null, .null, .null, .null, .null, .null, .int 0, .null, .null, .null, .null, .int 0, .null, .int 0, .int 0, .int 0, .int 0, .int 0, .null, .null, .null, .int 0, .int 0, .null, .null, .null, .null, .null, .int 0, .int 0])) :: ([])) rfl ?_
  refine i_aload_n X dX9_init_0 rfl rfl ?_
  refine i_obj X (idx := 1) (tq4 117 rfl) (by rw [hR1]; exact ⟨Nat.le_of_ble_eq_true rfl, Nat.le_of_ble_eq_true rfl⟩) dX9_init_1 rfl ?_
  refine i_aload_n X dX9_init_4 rfl rfl ?_
  refine i_bipush X kB_8 dX9_init_5 rfl ?_
  refine j_new_int X (N := 8) ⟨by decide, by decide, by decide⟩ (by rw [hR1]; exact ⟨Nat.le_of_ble_eq_true rfl, Nat.le_of_ble_eq_true rfl⟩) dX9_init_7 rfl (fun q0 => ?_)
  refine i_dup X dX9_init_9 rfl rfl ?_
  refine i_iconst X kI_0 dX9_init_10 rfl ?_
  refine i_iconst X kI_m1 dX9_init_11 rfl ?_
  refine j_iastL X (ib_e (by decide)) dX9_init_12 rfl ?_
  refine i_dup X dX9_init_13 rfl rfl ?_
  refine i_iconst X kI_1 dX9_init_14 rfl ?_
  refine i_iconst X kI_m1 dX9_init_15 rfl ?_
  refine j_iastL X (ib_e (by decide)) dX9_init_16 rfl ?_
  refine i_dup X dX9_init_17 rfl rfl ?_
  refine i_iconst X kI_2 dX9_init_18 rfl ?_
  refine i_iconst X kI_m1 dX9_init_19 rfl ?_
  refine j_iastL X (ib_e (by decide)) dX9_init_20 rfl ?_
  refine i_dup X dX9_init_21 rfl rfl ?_
  refine i_iconst X kI_3 dX9_init_22 rfl ?_
  refine i_iconst X kI_m1 dX9_init_23 rfl ?_
  refine j_iastL X (ib_e (by decide)) dX9_init_24 rfl ?_
  refine i_dup X dX9_init_25 rfl rfl ?_
  refine i_iconst X kI_4 dX9_init_26 rfl ?_
  refine i_iconst X kI_m1 dX9_init_27 rfl ?_
  refine j_iastL X (ib_e (by decide)) dX9_init_28 rfl ?_
  refine i_dup X dX9_init_29 rfl rfl ?_
  refine i_iconst X kI_5 dX9_init_30 rfl ?_
  refine i_iconst X kI_m1 dX9_init_31 rfl ?_
  refine j_iastL X (ib_e (by decide)) dX9_init_32 rfl ?_
  refine i_dup X dX9_init_33 rfl rfl ?_
  refine i_bipush X kB_6 dX9_init_34 rfl ?_
  refine i_iconst X kI_m1 dX9_init_36 rfl ?_
  refine j_iastL X (ib_e (by decide)) dX9_init_37 rfl ?_
  refine i_dup X dX9_init_38 rfl rfl ?_
  refine i_bipush X kB_7 dX9_init_39 rfl ?_
  refine i_iconst X kI_m1 dX9_init_41 rfl ?_
  refine j_iastL X (ib_e (by decide)) dX9_init_42 rfl ?_
  refine i_putF X hme (j := 0) (ty := (.array .int)) tyX9 tyX9_ok nmX9 (ci := 9) rfl (by decide) uw_9 gl_RX9_7 rfl rfl rfl (by decide +kernel) rfl rfl (Nat.le_of_ble_eq_true rfl) [.ref q0, .null, .null, .int 0, .null, .int 0, .int 0, .null, .null, .null, .null, .null, .null, .null, .null, .null, .int 0, .null, .null, .null, .null, .int 0, .null, .int 0, .int 0, .int 0, .int 0, .int 0, .null, .null, .null, .int 0, .int 0, .null, .null, .null, .null, .null, .int 0, .int 0] rfl dX9_init_43 rfl ?_
  refine i_aload_n X dX9_init_46 rfl rfl ?_
  refine i_bipush X kB_8 dX9_init_47 rfl ?_
  refine j_new_int X (N := 8) ⟨by decide, by decide, by decide⟩ (by rw [hR1]; exact ⟨Nat.le_of_ble_eq_true rfl, Nat.le_of_ble_eq_true rfl⟩) dX9_init_49 rfl (fun q1 => ?_)
  refine i_putF X hme (j := 1) (ty := (.array .int)) tyX9 tyX9_ok nmX9 (ci := 9) rfl (by decide) uw_9 gl_RX9_13 rfl rfl rfl (by decide +kernel) rfl rfl (Nat.le_of_ble_eq_true rfl) [.ref q0, .ref q1, .null, .int 0, .null, .int 0, .int 0, .null, .null, .null, .null, .null, .null, .null, .null, .null, .int 0, .null, .null, .null, .null, .int 0, .null, .int 0, .int 0, .int 0, .int 0, .int 0, .null, .null, .null, .int 0, .int 0, .null, .null, .null, .null, .null, .int 0, .int 0] rfl dX9_init_51 rfl ?_
  refine i_aload_n X dX9_init_54 rfl rfl ?_
  refine i_sipush X kS_320 dX9_init_55 rfl ?_
  refine j_new_int X (N := 320) ⟨by decide, by decide, by decide⟩ (by rw [hR1]; exact ⟨Nat.le_of_ble_eq_true rfl, Nat.le_of_ble_eq_true rfl⟩) dX9_init_58 rfl (fun q2 => ?_)
  refine i_putF X hme (j := 2) (ty := (.array .int)) tyX9 tyX9_ok nmX9 (ci := 9) rfl (by decide) uw_9 gl_RX9_16 rfl rfl rfl (by decide +kernel) rfl rfl (Nat.le_of_ble_eq_true rfl) [.ref q0, .ref q1, .ref q2, .int 0, .null, .int 0, .int 0, .null, .null, .null, .null, .null, .null, .null, .null, .null, .int 0, .null, .null, .null, .null, .int 0, .null, .int 0, .int 0, .int 0, .int 0, .int 0, .null, .null, .null, .int 0, .int 0, .null, .null, .null, .null, .null, .int 0, .int 0] rfl dX9_init_60 rfl ?_
  refine i_aload_n X dX9_init_63 rfl rfl ?_
  refine i_sipush X kS_600 dX9_init_64 rfl ?_
  refine j_new_int X (N := 600) ⟨by decide, by decide, by decide⟩ (by rw [hR1]; exact ⟨Nat.le_of_ble_eq_true rfl, Nat.le_of_ble_eq_true rfl⟩) dX9_init_67 rfl (fun q3 => ?_)
  refine i_putF X hme (j := 4) (ty := (.array .int)) tyX9 tyX9_ok nmX9 (ci := 9) rfl (by decide) uw_9 gl_RX9_19 rfl rfl rfl (by decide +kernel) rfl rfl (Nat.le_of_ble_eq_true rfl) [.ref q0, .ref q1, .ref q2, .int 0, .ref q3, .int 0, .int 0, .null, .null, .null, .null, .null, .null, .null, .null, .null, .int 0, .null, .null, .null, .null, .int 0, .null, .int 0, .int 0, .int 0, .int 0, .int 0, .null, .null, .null, .int 0, .int 0, .null, .null, .null, .null, .null, .int 0, .int 0] rfl dX9_init_69 rfl ?_
  refine i_aload_n X dX9_init_72 rfl rfl ?_
  refine i_bipush X kB_120 dX9_init_73 rfl ?_
  refine j_new_int X (N := 120) ⟨by decide, by decide, by decide⟩ (by rw [hR1]; exact ⟨Nat.le_of_ble_eq_true rfl, Nat.le_of_ble_eq_true rfl⟩) dX9_init_75 rfl (fun q4 => ?_)
  refine i_putF X hme (j := 7) (ty := (.array .int)) tyX9 tyX9_ok nmX9 (ci := 9) rfl (by decide) uw_9 gl_RX9_22 rfl rfl rfl (by decide +kernel) rfl rfl (Nat.le_of_ble_eq_true rfl) [.ref q0, .ref q1, .ref q2, .int 0, .ref q3, .int 0, .int 0, .ref q4, .null, .null, .null, .null, .null, .null, .null, .null, .int 0, .null, .null, .null, .null, .int 0, .null, .int 0, .int 0, .int 0, .int 0, .int 0, .null, .null, .null, .int 0, .int 0, .null, .null, .null, .null, .null, .int 0, .int 0] rfl dX9_init_77 rfl ?_
  refine i_aload_n X dX9_init_80 rfl rfl ?_
  refine i_bipush X kB_120 dX9_init_81 rfl ?_
  refine j_new_int X (N := 120) ⟨by decide, by decide, by decide⟩ (by rw [hR1]; exact ⟨Nat.le_of_ble_eq_true rfl, Nat.le_of_ble_eq_true rfl⟩) dX9_init_83 rfl (fun q5 => ?_)
  refine i_putF X hme (j := 8) (ty := (.array .int)) tyX9 tyX9_ok nmX9 (ci := 9) rfl (by decide) uw_9 gl_RX9_25 rfl rfl rfl (by decide +kernel) rfl rfl (Nat.le_of_ble_eq_true rfl) [.ref q0, .ref q1, .ref q2, .int 0, .ref q3, .int 0, .int 0, .ref q4, .ref q5, .null, .null, .null, .null, .null, .null, .null, .int 0, .null, .null, .null, .null, .int 0, .null, .int 0, .int 0, .int 0, .int 0, .int 0, .null, .null, .null, .int 0, .int 0, .null, .null, .null, .null, .null, .int 0, .int 0] rfl dX9_init_85 rfl ?_
  refine i_aload_n X dX9_init_88 rfl rfl ?_
  refine i_bipush X kB_120 dX9_init_89 rfl ?_
  refine j_new_int X (N := 120) ⟨by decide, by decide, by decide⟩ (by rw [hR1]; exact ⟨Nat.le_of_ble_eq_true rfl, Nat.le_of_ble_eq_true rfl⟩) dX9_init_91 rfl (fun q6 => ?_)
  refine i_putF X hme (j := 9) (ty := (.array .int)) tyX9 tyX9_ok nmX9 (ci := 9) rfl (by decide) uw_9 gl_RX9_28 rfl rfl rfl (by decide +kernel) rfl rfl (Nat.le_of_ble_eq_true rfl) [.ref q0, .ref q1, .ref q2, .int 0, .ref q3, .int 0, .int 0, .ref q4, .ref q5, .ref q6, .null, .null, .null, .null, .null, .null, .int 0, .null, .null, .null, .null, .int 0, .null, .int 0, .int 0, .int 0, .int 0, .int 0, .null, .null, .null, .int 0, .int 0, .null, .null, .null, .null, .null, .int 0, .int 0] rfl dX9_init_93 rfl ?_
  refine i_aload_n X dX9_init_96 rfl rfl ?_
  refine i_bipush X kB_120 dX9_init_97 rfl ?_
  refine j_new_int X (N := 120) ⟨by decide, by decide, by decide⟩ (by rw [hR1]; exact ⟨Nat.le_of_ble_eq_true rfl, Nat.le_of_ble_eq_true rfl⟩) dX9_init_99 rfl (fun q7 => ?_)
  refine i_putF X hme (j := 10) (ty := (.array .int)) tyX9 tyX9_ok nmX9 (ci := 9) rfl (by decide) uw_9 gl_RX9_31 rfl rfl rfl (by decide +kernel) rfl rfl (Nat.le_of_ble_eq_true rfl) [.ref q0, .ref q1, .ref q2, .int 0, .ref q3, .int 0, .int 0, .ref q4, .ref q5, .ref q6, .ref q7, .null, .null, .null, .null, .null, .int 0, .null, .null, .null, .null, .int 0, .null, .int 0, .int 0, .int 0, .int 0, .int 0, .null, .null, .null, .int 0, .int 0, .null, .null, .null, .null, .null, .int 0, .int 0] rfl dX9_init_101 rfl ?_
  refine i_aload_n X dX9_init_104 rfl rfl ?_
  refine i_bipush X kB_120 dX9_init_105 rfl ?_
  refine j_new_int X (N := 120) ⟨by decide, by decide, by decide⟩ (by rw [hR1]; exact ⟨Nat.le_of_ble_eq_true rfl, Nat.le_of_ble_eq_true rfl⟩) dX9_init_107 rfl (fun q8 => ?_)
  refine i_putF X hme (j := 11) (ty := (.array .int)) tyX9 tyX9_ok nmX9 (ci := 9) rfl (by decide) uw_9 gl_RX9_34 rfl rfl rfl (by decide +kernel) rfl rfl (Nat.le_of_ble_eq_true rfl) [.ref q0, .ref q1, .ref q2, .int 0, .ref q3, .int 0, .int 0, .ref q4, .ref q5, .ref q6, .ref q7, .ref q8, .null, .null, .null, .null, .int 0, .null, .null, .null, .null, .int 0, .null, .int 0, .int 0, .int 0, .int 0, .int 0, .null, .null, .null, .int 0, .int 0, .null, .null, .null, .null, .null, .int 0, .int 0] rfl dX9_init_109 rfl ?_
  refine i_aload_n X dX9_init_112 rfl rfl ?_
  refine i_bipush X kB_120 dX9_init_113 rfl ?_
  refine j_new_int X (N := 120) ⟨by decide, by decide, by decide⟩ (by rw [hR1]; exact ⟨Nat.le_of_ble_eq_true rfl, Nat.le_of_ble_eq_true rfl⟩) dX9_init_115 rfl (fun q9 => ?_)
  refine i_putF X hme (j := 12) (ty := (.array .int)) tyX9 tyX9_ok nmX9 (ci := 9) rfl (by decide) uw_9 gl_RX9_37 rfl rfl rfl (by decide +kernel) rfl rfl (Nat.le_of_ble_eq_true rfl) [.ref q0, .ref q1, .ref q2, .int 0, .ref q3, .int 0, .int 0, .ref q4, .ref q5, .ref q6, .ref q7, .ref q8, .ref q9, .null, .null, .null, .int 0, .null, .null, .null, .null, .int 0, .null, .int 0, .int 0, .int 0, .int 0, .int 0, .null, .null, .null, .int 0, .int 0, .null, .null, .null, .null, .null, .int 0, .int 0] rfl dX9_init_117 rfl ?_
  refine i_aload_n X dX9_init_120 rfl rfl ?_
  refine i_bipush X kB_120 dX9_init_121 rfl ?_
  refine j_new_int X (N := 120) ⟨by decide, by decide, by decide⟩ (by rw [hR1]; exact ⟨Nat.le_of_ble_eq_true rfl, Nat.le_of_ble_eq_true rfl⟩) dX9_init_123 rfl (fun q10 => ?_)
  refine i_putF X hme (j := 13) (ty := (.array .int)) tyX9 tyX9_ok nmX9 (ci := 9) rfl (by decide) uw_9 gl_RX9_40 rfl rfl rfl (by decide +kernel) rfl rfl (Nat.le_of_ble_eq_true rfl) [.ref q0, .ref q1, .ref q2, .int 0, .ref q3, .int 0, .int 0, .ref q4, .ref q5, .ref q6, .ref q7, .ref q8, .ref q9, .ref q10, .null, .null, .int 0, .null, .null, .null, .null, .int 0, .null, .int 0, .int 0, .int 0, .int 0, .int 0, .null, .null, .null, .int 0, .int 0, .null, .null, .null, .null, .null, .int 0, .int 0] rfl dX9_init_125 rfl ?_
  refine i_aload_n X dX9_init_128 rfl rfl ?_
  refine i_bipush X kB_120 dX9_init_129 rfl ?_
  refine j_new_int X (N := 120) ⟨by decide, by decide, by decide⟩ (by rw [hR1]; exact ⟨Nat.le_of_ble_eq_true rfl, Nat.le_of_ble_eq_true rfl⟩) dX9_init_131 rfl (fun q11 => ?_)
  refine i_putF X hme (j := 14) (ty := (.array .int)) tyX9 tyX9_ok nmX9 (ci := 9) rfl (by decide) uw_9 gl_RX9_43 rfl rfl rfl (by decide +kernel) rfl rfl (Nat.le_of_ble_eq_true rfl) [.ref q0, .ref q1, .ref q2, .int 0, .ref q3, .int 0, .int 0, .ref q4, .ref q5, .ref q6, .ref q7, .ref q8, .ref q9, .ref q10, .ref q11, .null, .int 0, .null, .null, .null, .null, .int 0, .null, .int 0, .int 0, .int 0, .int 0, .int 0, .null, .null, .null, .int 0, .int 0, .null, .null, .null, .null, .null, .int 0, .int 0] rfl dX9_init_133 rfl ?_
  refine i_aload_n X dX9_init_136 rfl rfl ?_
  refine i_sipush X kS_480 dX9_init_137 rfl ?_
  refine j_new_int X (N := 480) ⟨by decide, by decide, by decide⟩ (by rw [hR1]; exact ⟨Nat.le_of_ble_eq_true rfl, Nat.le_of_ble_eq_true rfl⟩) dX9_init_140 rfl (fun q12 => ?_)
  refine i_putF X hme (j := 15) (ty := (.array .int)) tyX9 tyX9_ok nmX9 (ci := 9) rfl (by decide) uw_9 gl_RX9_46 rfl rfl rfl (by decide +kernel) rfl rfl (Nat.le_of_ble_eq_true rfl) [.ref q0, .ref q1, .ref q2, .int 0, .ref q3, .int 0, .int 0, .ref q4, .ref q5, .ref q6, .ref q7, .ref q8, .ref q9, .ref q10, .ref q11, .ref q12, .int 0, .null, .null, .null, .null, .int 0, .null, .int 0, .int 0, .int 0, .int 0, .int 0, .null, .null, .null, .int 0, .int 0, .null, .null, .null, .null, .null, .int 0, .int 0] rfl dX9_init_142 rfl ?_
  refine i_aload_n X dX9_init_145 rfl rfl ?_
  refine i_bipush X kB_20 dX9_init_146 rfl ?_
  refine j_new_int X (N := 20) ⟨by decide, by decide, by decide⟩ (by rw [hR1]; exact ⟨Nat.le_of_ble_eq_true rfl, Nat.le_of_ble_eq_true rfl⟩) dX9_init_148 rfl (fun q13 => ?_)
  refine i_dup X dX9_init_150 rfl rfl ?_
  refine i_iconst X kI_0 dX9_init_151 rfl ?_
  refine i_iconst X kI_m1 dX9_init_152 rfl ?_
  refine j_iastL X (ib_e (by decide)) dX9_init_153 rfl ?_
  refine i_dup X dX9_init_154 rfl rfl ?_
  refine i_iconst X kI_1 dX9_init_155 rfl ?_
  refine i_iconst X kI_m1 dX9_init_156 rfl ?_
  refine j_iastL X (ib_e (by decide)) dX9_init_157 rfl ?_
  refine i_dup X dX9_init_158 rfl rfl ?_
  refine i_iconst X kI_2 dX9_init_159 rfl ?_
  refine i_iconst X kI_m1 dX9_init_160 rfl ?_
  refine j_iastL X (ib_e (by decide)) dX9_init_161 rfl ?_
  refine i_dup X dX9_init_162 rfl rfl ?_
  refine i_iconst X kI_3 dX9_init_163 rfl ?_
  refine i_iconst X kI_m1 dX9_init_164 rfl ?_
  refine j_iastL X (ib_e (by decide)) dX9_init_165 rfl ?_
  refine i_dup X dX9_init_166 rfl rfl ?_
  refine i_iconst X kI_4 dX9_init_167 rfl ?_
  refine i_iconst X kI_m1 dX9_init_168 rfl ?_
  refine j_iastL X (ib_e (by decide)) dX9_init_169 rfl ?_
  refine i_dup X dX9_init_170 rfl rfl ?_
  refine i_iconst X kI_5 dX9_init_171 rfl ?_
  refine i_iconst X kI_m1 dX9_init_172 rfl ?_
  refine j_iastL X (ib_e (by decide)) dX9_init_173 rfl ?_
  refine i_dup X dX9_init_174 rfl rfl ?_
  refine i_bipush X kB_6 dX9_init_175 rfl ?_
  refine i_iconst X kI_m1 dX9_init_177 rfl ?_
  refine j_iastL X (ib_e (by decide)) dX9_init_178 rfl ?_
  refine i_dup X dX9_init_179 rfl rfl ?_
  refine i_bipush X kB_7 dX9_init_180 rfl ?_
  refine i_iconst X kI_m1 dX9_init_182 rfl ?_
  refine j_iastL X (ib_e (by decide)) dX9_init_183 rfl ?_
  refine i_dup X dX9_init_184 rfl rfl ?_
  refine i_bipush X kB_8 dX9_init_185 rfl ?_
  refine i_iconst X kI_m1 dX9_init_187 rfl ?_
  refine j_iastL X (ib_e (by decide)) dX9_init_188 rfl ?_
  refine i_dup X dX9_init_189 rfl rfl ?_
  refine i_bipush X kB_9 dX9_init_190 rfl ?_
  refine i_iconst X kI_m1 dX9_init_192 rfl ?_
  refine j_iastL X (ib_e (by decide)) dX9_init_193 rfl ?_
  refine i_dup X dX9_init_194 rfl rfl ?_
  refine i_bipush X kB_10 dX9_init_195 rfl ?_
  refine i_iconst X kI_m1 dX9_init_197 rfl ?_
  refine j_iastL X (ib_e (by decide)) dX9_init_198 rfl ?_
  refine i_dup X dX9_init_199 rfl rfl ?_
  refine i_bipush X kB_11 dX9_init_200 rfl ?_
  refine i_iconst X kI_m1 dX9_init_202 rfl ?_
  refine j_iastL X (ib_e (by decide)) dX9_init_203 rfl ?_
  refine i_dup X dX9_init_204 rfl rfl ?_
  refine i_bipush X kB_12 dX9_init_205 rfl ?_
  refine i_iconst X kI_m1 dX9_init_207 rfl ?_
  refine j_iastL X (ib_e (by decide)) dX9_init_208 rfl ?_
  refine i_dup X dX9_init_209 rfl rfl ?_
  refine i_bipush X kB_13 dX9_init_210 rfl ?_
  refine i_iconst X kI_m1 dX9_init_212 rfl ?_
  refine j_iastL X (ib_e (by decide)) dX9_init_213 rfl ?_
  refine i_dup X dX9_init_214 rfl rfl ?_
  refine i_bipush X kB_14 dX9_init_215 rfl ?_
  refine i_iconst X kI_m1 dX9_init_217 rfl ?_
  refine j_iastL X (ib_e (by decide)) dX9_init_218 rfl ?_
  refine i_dup X dX9_init_219 rfl rfl ?_
  refine i_bipush X kB_15 dX9_init_220 rfl ?_
  refine i_iconst X kI_m1 dX9_init_222 rfl ?_
  refine j_iastL X (ib_e (by decide)) dX9_init_223 rfl ?_
  refine i_dup X dX9_init_224 rfl rfl ?_
  refine i_bipush X kB_16 dX9_init_225 rfl ?_
  refine i_iconst X kI_m1 dX9_init_227 rfl ?_
  refine j_iastL X (ib_e (by decide)) dX9_init_228 rfl ?_
  refine i_dup X dX9_init_229 rfl rfl ?_
  refine i_bipush X kB_17 dX9_init_230 rfl ?_
  refine i_iconst X kI_m1 dX9_init_232 rfl ?_
  refine j_iastL X (ib_e (by decide)) dX9_init_233 rfl ?_
  refine i_dup X dX9_init_234 rfl rfl ?_
  refine i_bipush X kB_18 dX9_init_235 rfl ?_
  refine i_iconst X kI_m1 dX9_init_237 rfl ?_
  refine j_iastL X (ib_e (by decide)) dX9_init_238 rfl ?_
  refine i_dup X dX9_init_239 rfl rfl ?_
  refine i_bipush X kB_19 dX9_init_240 rfl ?_
  refine i_iconst X kI_m1 dX9_init_242 rfl ?_
  refine j_iastL X (ib_e (by decide)) dX9_init_243 rfl ?_
  refine i_putF X hme (j := 17) (ty := (.array .int)) tyX9 tyX9_ok nmX9 (ci := 9) rfl (by decide) uw_9 gl_RX9_49 rfl rfl rfl (by decide +kernel) rfl rfl (Nat.le_of_ble_eq_true rfl) [.ref q0, .ref q1, .ref q2, .int 0, .ref q3, .int 0, .int 0, .ref q4, .ref q5, .ref q6, .ref q7, .ref q8, .ref q9, .ref q10, .ref q11, .ref q12, .int 0, .ref q13, .null, .null, .null, .int 0, .null, .int 0, .int 0, .int 0, .int 0, .int 0, .null, .null, .null, .int 0, .int 0, .null, .null, .null, .null, .null, .int 0, .int 0] rfl dX9_init_244 rfl ?_
  refine i_aload_n X dX9_init_247 rfl rfl ?_
  refine i_bipush X kB_20 dX9_init_248 rfl ?_
  refine j_new_int X (N := 20) ⟨by decide, by decide, by decide⟩ (by rw [hR1]; exact ⟨Nat.le_of_ble_eq_true rfl, Nat.le_of_ble_eq_true rfl⟩) dX9_init_250 rfl (fun q14 => ?_)
  refine i_putF X hme (j := 18) (ty := (.array .int)) tyX9 tyX9_ok nmX9 (ci := 9) rfl (by decide) uw_9 gl_RX9_52 rfl rfl rfl (by decide +kernel) rfl rfl (Nat.le_of_ble_eq_true rfl) [.ref q0, .ref q1, .ref q2, .int 0, .ref q3, .int 0, .int 0, .ref q4, .ref q5, .ref q6, .ref q7, .ref q8, .ref q9, .ref q10, .ref q11, .ref q12, .int 0, .ref q13, .ref q14, .null, .null, .int 0, .null, .int 0, .int 0, .int 0, .int 0, .int 0, .null, .null, .null, .int 0, .int 0, .null, .null, .null, .null, .null, .int 0, .int 0] rfl dX9_init_252 rfl ?_
  refine i_aload_n X dX9_init_255 rfl rfl ?_
  refine i_bipush X kB_30 dX9_init_256 rfl ?_
  refine j_new_int X (N := 30) ⟨by decide, by decide, by decide⟩ (by rw [hR1]; exact ⟨Nat.le_of_ble_eq_true rfl, Nat.le_of_ble_eq_true rfl⟩) dX9_init_258 rfl (fun q15 => ?_)
  refine i_putF X hme (j := 19) (ty := (.array .int)) tyX9 tyX9_ok nmX9 (ci := 9) rfl (by decide) uw_9 gl_RX9_55 rfl rfl rfl (by decide +kernel) rfl rfl (Nat.le_of_ble_eq_true rfl) [.ref q0, .ref q1, .ref q2, .int 0, .ref q3, .int 0, .int 0, .ref q4, .ref q5, .ref q6, .ref q7, .ref q8, .ref q9, .ref q10, .ref q11, .ref q12, .int 0, .ref q13, .ref q14, .ref q15, .null, .int 0, .null, .int 0, .int 0, .int 0, .int 0, .int 0, .null, .null, .null, .int 0, .int 0, .null, .null, .null, .null, .null, .int 0, .int 0] rfl dX9_init_260 rfl ?_
  refine i_aload_n X dX9_init_263 rfl rfl ?_
  refine i_sipush X kS_600 dX9_init_264 rfl ?_
  refine j_new_int X (N := 600) ⟨by decide, by decide, by decide⟩ (by rw [hR1]; exact ⟨Nat.le_of_ble_eq_true rfl, Nat.le_of_ble_eq_true rfl⟩) dX9_init_267 rfl (fun q16 => ?_)
  refine i_putF X hme (j := 20) (ty := (.array .int)) tyX9 tyX9_ok nmX9 (ci := 9) rfl (by decide) uw_9 gl_RX9_58 rfl rfl rfl (by decide +kernel) rfl rfl (Nat.le_of_ble_eq_true rfl) [.ref q0, .ref q1, .ref q2, .int 0, .ref q3, .int 0, .int 0, .ref q4, .ref q5, .ref q6, .ref q7, .ref q8, .ref q9, .ref q10, .ref q11, .ref q12, .int 0, .ref q13, .ref q14, .ref q15, .ref q16, .int 0, .null, .int 0, .int 0, .int 0, .int 0, .int 0, .null, .null, .null, .int 0, .int 0, .null, .null, .null, .null, .null, .int 0, .int 0] rfl dX9_init_269 rfl ?_
  refine i_aload_n X dX9_init_272 rfl rfl ?_
  refine i_bipush X kB_16 dX9_init_273 rfl ?_
  refine j_new_int X (N := 16) ⟨by decide, by decide, by decide⟩ (by rw [hR1]; exact ⟨Nat.le_of_ble_eq_true rfl, Nat.le_of_ble_eq_true rfl⟩) dX9_init_275 rfl (fun q17 => ?_)
  refine i_putF X hme (j := 22) (ty := (.array .int)) tyX9 tyX9_ok nmX9 (ci := 9) rfl (by decide) uw_9 gl_RX9_61 rfl rfl rfl (by decide +kernel) rfl rfl (Nat.le_of_ble_eq_true rfl) [.ref q0, .ref q1, .ref q2, .int 0, .ref q3, .int 0, .int 0, .ref q4, .ref q5, .ref q6, .ref q7, .ref q8, .ref q9, .ref q10, .ref q11, .ref q12, .int 0, .ref q13, .ref q14, .ref q15, .ref q16, .int 0, .ref q17, .int 0, .int 0, .int 0, .int 0, .int 0, .null, .null, .null, .int 0, .int 0, .null, .null, .null, .null, .null, .int 0, .int 0] rfl dX9_init_277 rfl ?_
  refine i_aload_n X dX9_init_280 rfl rfl ?_
  refine i_bipush X kB_9 dX9_init_281 rfl ?_
  refine j_new_int X (N := 9) ⟨by decide, by decide, by decide⟩ (by rw [hR1]; exact ⟨Nat.le_of_ble_eq_true rfl, Nat.le_of_ble_eq_true rfl⟩) dX9_init_283 rfl (fun q18 => ?_)
  refine i_putF X hme (j := 28) (ty := (.array .int)) tyX9 tyX9_ok nmX9 (ci := 9) rfl (by decide) uw_9 gl_RX9_64 rfl rfl rfl (by decide +kernel) rfl rfl (Nat.le_of_ble_eq_true rfl) [.ref q0, .ref q1, .ref q2, .int 0, .ref q3, .int 0, .int 0, .ref q4, .ref q5, .ref q6, .ref q7, .ref q8, .ref q9, .ref q10, .ref q11, .ref q12, .int 0, .ref q13, .ref q14, .ref q15, .ref q16, .int 0, .ref q17, .int 0, .int 0, .int 0, .int 0, .int 0, .ref q18, .null, .null, .int 0, .int 0, .null, .null, .null, .null, .null, .int 0, .int 0] rfl dX9_init_285 rfl ?_
  refine i_aload_n X dX9_init_288 rfl rfl ?_
  refine i_bipush X kB_9 dX9_init_289 rfl ?_
  refine j_new_int X (N := 9) ⟨by decide, by decide, by decide⟩ (by rw [hR1]; exact ⟨Nat.le_of_ble_eq_true rfl, Nat.le_of_ble_eq_true rfl⟩) dX9_init_291 rfl (fun q19 => ?_)
  refine i_putF X hme (j := 29) (ty := (.array .int)) tyX9 tyX9_ok nmX9 (ci := 9) rfl (by decide) uw_9 gl_RX9_67 rfl rfl rfl (by decide +kernel) rfl rfl (Nat.le_of_ble_eq_true rfl) [.ref q0, .ref q1, .ref q2, .int 0, .ref q3, .int 0, .int 0, .ref q4, .ref q5, .ref q6, .ref q7, .ref q8, .ref q9, .ref q10, .ref q11, .ref q12, .int 0, .ref q13, .ref q14, .ref q15, .ref q16, .int 0, .ref q17, .int 0, .int 0, .int 0, .int 0, .int 0, .ref q18, .ref q19, .null, .int 0, .int 0, .null, .null, .null, .null, .null, .int 0, .int 0] rfl dX9_init_293 rfl ?_
  refine i_aload_n X dX9_init_296 rfl rfl ?_
  refine i_bipush X kB_9 dX9_init_297 rfl ?_
  refine j_new_int X (N := 9) ⟨by decide, by decide, by decide⟩ (by rw [hR1]; exact ⟨Nat.le_of_ble_eq_true rfl, Nat.le_of_ble_eq_true rfl⟩) dX9_init_299 rfl (fun q20 => ?_)
  refine i_putF X hme (j := 30) (ty := (.array .int)) tyX9 tyX9_ok nmX9 (ci := 9) rfl (by decide) uw_9 gl_RX9_70 rfl rfl rfl (by decide +kernel) rfl rfl (Nat.le_of_ble_eq_true rfl) [.ref q0, .ref q1, .ref q2, .int 0, .ref q3, .int 0, .int 0, .ref q4, .ref q5, .ref q6, .ref q7, .ref q8, .ref q9, .ref q10, .ref q11, .ref q12, .int 0, .ref q13, .ref q14, .ref q15, .ref q16, .int 0, .ref q17, .int 0, .int 0, .int 0, .int 0, .int 0, .ref q18, .ref q19, .ref q20, .int 0, .int 0, .null, .null, .null, .null, .null, .int 0, .int 0] rfl dX9_init_301 rfl ?_
  refine i_aload_n X dX9_init_304 rfl rfl ?_
  refine i_bipush X kB_60 dX9_init_305 rfl ?_
  refine j_new_long X (N := 60) ⟨by decide, by decide, by decide⟩ (by rw [hR1]; exact ⟨Nat.le_of_ble_eq_true rfl, Nat.le_of_ble_eq_true rfl⟩) dX9_init_307 rfl (fun q21 => ?_)
  refine i_putF X hme (j := 33) (ty := (.array .long)) tyX9 tyX9_ok nmX9 (ci := 9) rfl (by decide) uw_9 gl_RX9_73 rfl rfl rfl (by decide +kernel) rfl rfl (Nat.le_of_ble_eq_true rfl) [.ref q0, .ref q1, .ref q2, .int 0, .ref q3, .int 0, .int 0, .ref q4, .ref q5, .ref q6, .ref q7, .ref q8, .ref q9, .ref q10, .ref q11, .ref q12, .int 0, .ref q13, .ref q14, .ref q15, .ref q16, .int 0, .ref q17, .int 0, .int 0, .int 0, .int 0, .int 0, .ref q18, .ref q19, .ref q20, .int 0, .int 0, .ref q21, .null, .null, .null, .null, .int 0, .int 0] rfl dX9_init_309 rfl ?_
  refine i_aload_n X dX9_init_312 rfl rfl ?_
  refine i_bipush X kB_60 dX9_init_313 rfl ?_
  refine j_new_long X (N := 60) ⟨by decide, by decide, by decide⟩ (by rw [hR1]; exact ⟨Nat.le_of_ble_eq_true rfl, Nat.le_of_ble_eq_true rfl⟩) dX9_init_315 rfl (fun q22 => ?_)
  refine i_putF X hme (j := 34) (ty := (.array .long)) tyX9 tyX9_ok nmX9 (ci := 9) rfl (by decide) uw_9 gl_RX9_77 rfl rfl rfl (by decide +kernel) rfl rfl (Nat.le_of_ble_eq_true rfl) [.ref q0, .ref q1, .ref q2, .int 0, .ref q3, .int 0, .int 0, .ref q4, .ref q5, .ref q6, .ref q7, .ref q8, .ref q9, .ref q10, .ref q11, .ref q12, .int 0, .ref q13, .ref q14, .ref q15, .ref q16, .int 0, .ref q17, .int 0, .int 0, .int 0, .int 0, .int 0, .ref q18, .ref q19, .ref q20, .int 0, .int 0, .ref q21, .ref q22, .null, .null, .null, .int 0, .int 0] rfl dX9_init_317 rfl ?_
  refine i_aload_n X dX9_init_320 rfl rfl ?_
  refine i_bipush X kB_60 dX9_init_321 rfl ?_
  refine j_new_int X (N := 60) ⟨by decide, by decide, by decide⟩ (by rw [hR1]; exact ⟨Nat.le_of_ble_eq_true rfl, Nat.le_of_ble_eq_true rfl⟩) dX9_init_323 rfl (fun q23 => ?_)
  refine i_putF X hme (j := 35) (ty := (.array .int)) tyX9 tyX9_ok nmX9 (ci := 9) rfl (by decide) uw_9 gl_RX9_80 rfl rfl rfl (by decide +kernel) rfl rfl (Nat.le_of_ble_eq_true rfl) [.ref q0, .ref q1, .ref q2, .int 0, .ref q3, .int 0, .int 0, .ref q4, .ref q5, .ref q6, .ref q7, .ref q8, .ref q9, .ref q10, .ref q11, .ref q12, .int 0, .ref q13, .ref q14, .ref q15, .ref q16, .int 0, .ref q17, .int 0, .int 0, .int 0, .int 0, .int 0, .ref q18, .ref q19, .ref q20, .int 0, .int 0, .ref q21, .ref q22, .ref q23, .null, .null, .int 0, .int 0] rfl dX9_init_325 rfl ?_
  refine i_aload_n X dX9_init_328 rfl rfl ?_
  refine i_bipush X kB_60 dX9_init_329 rfl ?_
  refine j_new_long X (N := 60) ⟨by decide, by decide, by decide⟩ (by rw [hR1]; exact ⟨Nat.le_of_ble_eq_true rfl, Nat.le_of_ble_eq_true rfl⟩) dX9_init_331 rfl (fun q24 => ?_)
  refine i_putF X hme (j := 36) (ty := (.array .long)) tyX9 tyX9_ok nmX9 (ci := 9) rfl (by decide) uw_9 gl_RX9_83 rfl rfl rfl (by decide +kernel) rfl rfl (Nat.le_of_ble_eq_true rfl) [.ref q0, .ref q1, .ref q2, .int 0, .ref q3, .int 0, .int 0, .ref q4, .ref q5, .ref q6, .ref q7, .ref q8, .ref q9, .ref q10, .ref q11, .ref q12, .int 0, .ref q13, .ref q14, .ref q15, .ref q16, .int 0, .ref q17, .int 0, .int 0, .int 0, .int 0, .int 0, .ref q18, .ref q19, .ref q20, .int 0, .int 0, .ref q21, .ref q22, .ref q23, .ref q24, .null, .int 0, .int 0] rfl dX9_init_333 rfl ?_
  refine i_aload_n X dX9_init_336 rfl rfl ?_
  refine i_bipush X kB_60 dX9_init_337 rfl ?_
  refine j_new_int X (N := 60) ⟨by decide, by decide, by decide⟩ (by rw [hR1]; exact ⟨Nat.le_of_ble_eq_true rfl, Nat.le_of_ble_eq_true rfl⟩) dX9_init_339 rfl (fun q25 => ?_)
  refine i_putF X hme (j := 37) (ty := (.array .int)) tyX9 tyX9_ok nmX9 (ci := 9) rfl (by decide) uw_9 gl_RX9_86 rfl rfl rfl (by decide +kernel) rfl rfl (Nat.le_of_ble_eq_true rfl) [.ref q0, .ref q1, .ref q2, .int 0, .ref q3, .int 0, .int 0, .ref q4, .ref q5, .ref q6, .ref q7, .ref q8, .ref q9, .ref q10, .ref q11, .ref q12, .int 0, .ref q13, .ref q14, .ref q15, .ref q16, .int 0, .ref q17, .int 0, .int 0, .int 0, .int 0, .int 0, .ref q18, .ref q19, .ref q20, .int 0, .int 0, .ref q21, .ref q22, .ref q23, .ref q24, .ref q25, .int 0, .int 0] rfl dX9_init_341 rfl ?_
  refine i_eq (V' := ws_HM cA h0 (fun k => [q0, q1, q2, q3, q4, q5, q6, q7, q8, q9, q10, q11, q12, q13, q14, q15, q16, q17, q18, q19, q20, q21, q22, q23, q24, q25].getD k 0)) (by (try simp only [List.nil_append, List.cons_append, List.append_assoc]); rfl) ?_
  exact hret _ _ _ dX9_init_344
