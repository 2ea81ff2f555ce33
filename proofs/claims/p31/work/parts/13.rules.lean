theorem dX6_clear_0 : decode cX6_clear 0 = .ok (.aload_n 0, 1) := by decide +kernel
theorem dX6_clear_1 : decode cX6_clear 1 = .ok (.iconst 0, 1) := by decide +kernel
theorem dX6_clear_2 : decode cX6_clear 2 = .ok (.putfield 31, 3) := by decide +kernel
theorem dX6_clear_5 : decode cX6_clear 5 = .ok (.aload_n 0, 1) := by decide +kernel
theorem dX6_clear_6 : decode cX6_clear 6 = .ok (.getfield 18, 3) := by decide +kernel
theorem dX6_clear_9 : decode cX6_clear 9 = .ok (.iconst 0, 1) := by decide +kernel
theorem dX6_clear_10 : decode cX6_clear 10 = .ok (.invokestatic 35, 3) := by decide +kernel
theorem dX6_clear_13 : decode cX6_clear 13 = .ok (.aload_n 0, 1) := by decide +kernel
theorem dX6_clear_14 : decode cX6_clear 14 = .ok (.getfield 21, 3) := by decide +kernel
theorem dX6_clear_17 : decode cX6_clear 17 = .ok (.iconst 0, 1) := by decide +kernel
theorem dX6_clear_18 : decode cX6_clear 18 = .ok (.invokestatic 35, 3) := by decide +kernel
theorem dX6_clear_21 : decode cX6_clear 21 = .ok (.return_, 1) := by decide +kernel
theorem dX6_add_0 : decode cX6_add 0 = .ok (.aload_n 0, 1) := by decide +kernel
theorem dX6_add_1 : decode cX6_add 1 = .ok (.getfield 31, 3) := by decide +kernel
theorem dX6_add_4 : decode cX6_add 4 = .ok (.bipush 64, 2) := by decide +kernel
theorem dX6_add_39 : decode cX6_add 39 = .ok (.return_, 1) := by decide +kernel
theorem dX6_add_9 : decode cX6_add 9 = .ok (.aload_n 0, 1) := by decide +kernel
theorem dX6_add_10 : decode cX6_add 10 = .ok (.getfield 9, 3) := by decide +kernel
theorem dX6_add_13 : decode cX6_add 13 = .ok (.aload_n 0, 1) := by decide +kernel
theorem dX6_add_14 : decode cX6_add 14 = .ok (.getfield 31, 3) := by decide +kernel
theorem dX6_add_17 : decode cX6_add 17 = .ok (.iload_n 1, 1) := by decide +kernel
theorem dX6_add_19 : decode cX6_add 19 = .ok (.aload_n 0, 1) := by decide +kernel
theorem dX6_add_20 : decode cX6_add 20 = .ok (.getfield 15, 3) := by decide +kernel
theorem dX6_add_23 : decode cX6_add 23 = .ok (.aload_n 0, 1) := by decide +kernel
theorem dX6_add_24 : decode cX6_add 24 = .ok (.getfield 31, 3) := by decide +kernel
theorem dX6_add_27 : decode cX6_add 27 = .ok (.iload_n 2, 1) := by decide +kernel
theorem dX6_add_29 : decode cX6_add 29 = .ok (.aload_n 0, 1) := by decide +kernel
theorem dX6_add_30 : decode cX6_add 30 = .ok (.dup, 1) := by decide +kernel
theorem dX6_add_31 : decode cX6_add 31 = .ok (.getfield 31, 3) := by decide +kernel
theorem dX6_add_34 : decode cX6_add 34 = .ok (.iconst 1, 1) := by decide +kernel
theorem dX6_add_36 : decode cX6_add 36 = .ok (.putfield 31, 3) := by decide +kernel
theorem dX6_add_6 : decode cX6_add 6 = .ok (.if_icmp .ge 33, 3) := by decide +kernel
theorem dX6_add_18 : decode cX6_add 18 = .ok (.iastore, 1) := by decide +kernel
theorem dX6_add_28 : decode cX6_add 28 = .ok (.iastore, 1) := by decide +kernel
theorem dX6_add_35 : decode cX6_add 35 = .ok (.iadd, 1) := by decide +kernel
theorem dX6_has_0 : decode cX6_has 0 = .ok (.aload_n 0, 1) := by decide +kernel
theorem dX6_has_1 : decode cX6_has 1 = .ok (.getfield 18, 3) := by decide +kernel
theorem dX6_has_4 : decode cX6_has 4 = .ok (.iload_n 1, 1) := by decide +kernel
theorem dX6_has_6 : decode cX6_has 6 = .ok (.aload_n 0, 1) := by decide +kernel
theorem dX6_has_7 : decode cX6_has 7 = .ok (.getfield 21, 3) := by decide +kernel
theorem dX6_has_10 : decode cX6_has 10 = .ok (.iload_n 1, 1) := by decide +kernel
theorem dX6_has_19 : decode cX6_has 19 = .ok (.iconst 0, 1) := by decide +kernel
theorem dX6_has_20 : decode cX6_has 20 = .ok (.ireturn, 1) := by decide +kernel
theorem dX6_has_15 : decode cX6_has 15 = .ok (.iconst 1, 1) := by decide +kernel
theorem dX6_has_16 : decode cX6_has 16 = .ok (.goto 4, 3) := by decide +kernel
theorem dX6_has_5 : decode cX6_has 5 = .ok (.iaload, 1) := by decide +kernel
theorem dX6_has_11 : decode cX6_has 11 = .ok (.iaload, 1) := by decide +kernel
theorem dX6_has_12 : decode cX6_has 12 = .ok (.if_icmp .ge 7, 3) := by decide +kernel
theorem dX6_name_0 : decode cX6_name 0 = .ok (.aload_n 0, 1) := by decide +kernel
theorem dX6_name_1 : decode cX6_name 1 = .ok (.getfield 24, 3) := by decide +kernel
theorem dX6_name_4 : decode cX6_name 4 = .ok (.iconst 0, 1) := by decide +kernel
theorem dX6_name_5 : decode cX6_name 5 = .ok (.iload_n 1, 1) := by decide +kernel
theorem dX6_name_8 : decode cX6_name 8 = .ok (.aload_n 0, 1) := by decide +kernel
theorem dX6_name_9 : decode cX6_name 9 = .ok (.getfield 24, 3) := by decide +kernel
theorem dX6_name_12 : decode cX6_name 12 = .ok (.iconst 1, 1) := by decide +kernel
theorem dX6_name_13 : decode cX6_name 13 = .ok (.iload_n 2, 1) := by decide +kernel
theorem dX6_name_16 : decode cX6_name 16 = .ok (.aload_n 0, 1) := by decide +kernel
theorem dX6_name_17 : decode cX6_name 17 = .ok (.getfield 24, 3) := by decide +kernel
theorem dX6_name_20 : decode cX6_name 20 = .ok (.iconst 2, 1) := by decide +kernel
theorem dX6_name_21 : decode cX6_name 21 = .ok (.iload_n 3, 1) := by decide +kernel
theorem dX6_name_24 : decode cX6_name 24 = .ok (.aload_n 0, 1) := by decide +kernel
theorem dX6_name_25 : decode cX6_name 25 = .ok (.getfield 24, 3) := by decide +kernel
theorem dX6_name_28 : decode cX6_name 28 = .ok (.iconst 3, 1) := by decide +kernel
theorem dX6_name_29 : decode cX6_name 29 = .ok (.iload 4, 2) := by decide +kernel
theorem dX6_name_31 : decode cX6_name 31 = .ok (.bipush 24, 2) := by decide +kernel
theorem dX6_name_36 : decode cX6_name 36 = .ok (.aload_n 0, 1) := by decide +kernel
theorem dX6_name_37 : decode cX6_name 37 = .ok (.getfield 24, 3) := by decide +kernel
theorem dX6_name_40 : decode cX6_name 40 = .ok (.iconst 4, 1) := by decide +kernel
theorem dX6_name_41 : decode cX6_name 41 = .ok (.iload 4, 2) := by decide +kernel
theorem dX6_name_43 : decode cX6_name 43 = .ok (.bipush 24, 2) := by decide +kernel
theorem dX6_name_46 : decode cX6_name 46 = .ok (.bipush 7, 2) := by decide +kernel
theorem dX6_name_51 : decode cX6_name 51 = .ok (.return_, 1) := by decide +kernel
theorem dX6_name_6 : decode cX6_name 6 = .ok (.i2l, 1) := by decide +kernel
theorem dX6_name_7 : decode cX6_name 7 = .ok (.lastore, 1) := by decide +kernel
theorem dX6_name_14 : decode cX6_name 14 = .ok (.i2l, 1) := by decide +kernel
theorem dX6_name_15 : decode cX6_name 15 = .ok (.lastore, 1) := by decide +kernel
theorem dX6_name_22 : decode cX6_name 22 = .ok (.i2l, 1) := by decide +kernel
theorem dX6_name_23 : decode cX6_name 23 = .ok (.lastore, 1) := by decide +kernel
theorem dX6_name_33 : decode cX6_name 33 = .ok (.irem, 1) := by decide +kernel
theorem dX6_name_34 : decode cX6_name 34 = .ok (.i2l, 1) := by decide +kernel
theorem dX6_name_35 : decode cX6_name 35 = .ok (.lastore, 1) := by decide +kernel
theorem dX6_name_45 : decode cX6_name 45 = .ok (.idiv, 1) := by decide +kernel
theorem dX6_name_48 : decode cX6_name 48 = .ok (.irem, 1) := by decide +kernel
theorem dX6_name_49 : decode cX6_name 49 = .ok (.i2l, 1) := by decide +kernel
theorem dX6_name_50 : decode cX6_name 50 = .ok (.lastore, 1) := by decide +kernel
theorem dX6_joined_0 : decode cX6_joined 0 = .ok (.iload_n 0, 1) := by decide +kernel
theorem dX6_joined_1 : decode cX6_joined 1 = .ok (.tableswitch 287 7 33 #[123, 127, 131, 163, 179, 191, 203, 215, 227, 239, 287, 287, 287, 287, 287, 287, 287, 287, 287, 287, 287, 287, 287, 287, 287, 269, 251], 123) := by decide +kernel
theorem dX6_joined_124 : decode cX6_joined 124 = .ok (.lload_n 1, 1) := by decide +kernel
theorem dX6_joined_125 : decode cX6_joined 125 = .ok (.lload_n 3, 1) := by decide +kernel
theorem dX6_joined_126 : decode cX6_joined 126 = .ok (.ladd, 1) := by decide +kernel
theorem dX6_joined_127 : decode cX6_joined 127 = .ok (.lreturn, 1) := by decide +kernel
theorem dX6_joined_128 : decode cX6_joined 128 = .ok (.lload_n 1, 1) := by decide +kernel
theorem dX6_joined_129 : decode cX6_joined 129 = .ok (.lload_n 3, 1) := by decide +kernel
theorem dX6_joined_130 : decode cX6_joined 130 = .ok (.lsub, 1) := by decide +kernel
theorem dX6_joined_131 : decode cX6_joined 131 = .ok (.lreturn, 1) := by decide +kernel
theorem dX6_joined_132 : decode cX6_joined 132 = .ok (.lload_n 1, 1) := by decide +kernel
theorem dX6_joined_133 : decode cX6_joined 133 = .ok (.lconst 0, 1) := by decide +kernel
theorem dX6_joined_160 : decode cX6_joined 160 = .ok (.lload_n 1, 1) := by decide +kernel
theorem dX6_joined_161 : decode cX6_joined 161 = .ok (.lload_n 3, 1) := by decide +kernel
theorem dX6_joined_162 : decode cX6_joined 162 = .ok (.lmul, 1) := by decide +kernel
theorem dX6_joined_163 : decode cX6_joined 163 = .ok (.lreturn, 1) := by decide +kernel
theorem dX6_joined_138 : decode cX6_joined 138 = .ok (.lload_n 3, 1) := by decide +kernel
theorem dX6_joined_139 : decode cX6_joined 139 = .ok (.invokestatic 51, 3) := by decide +kernel
theorem dX6_joined_142 : decode cX6_joined 142 = .ok (.ldc2_w 47, 3) := by decide +kernel
theorem dX6_joined_145 : decode cX6_joined 145 = .ok (.lload_n 1, 1) := by decide +kernel
theorem dX6_joined_146 : decode cX6_joined 146 = .ok (.invokestatic 51, 3) := by decide +kernel
theorem dX6_joined_154 : decode cX6_joined 154 = .ok (.ldc2_w 41, 3) := by decide +kernel
theorem dX6_joined_157 : decode cX6_joined 157 = .ok (.goto 6, 3) := by decide +kernel
theorem dX6_joined_164 : decode cX6_joined 164 = .ok (.lload_n 3, 1) := by decide +kernel
theorem dX6_joined_165 : decode cX6_joined 165 = .ok (.lconst 0, 1) := by decide +kernel
theorem dX6_joined_176 : decode cX6_joined 176 = .ok (.lload_n 1, 1) := by decide +kernel
theorem dX6_joined_177 : decode cX6_joined 177 = .ok (.lload_n 3, 1) := by decide +kernel
theorem dX6_joined_179 : decode cX6_joined 179 = .ok (.lreturn, 1) := by decide +kernel
theorem dX6_joined_170 : decode cX6_joined 170 = .ok (.ldc2_w 41, 3) := by decide +kernel
theorem dX6_joined_173 : decode cX6_joined 173 = .ok (.goto 6, 3) := by decide +kernel
theorem dX6_joined_180 : decode cX6_joined 180 = .ok (.lload_n 1, 1) := by decide +kernel
theorem dX6_joined_181 : decode cX6_joined 181 = .ok (.lload_n 3, 1) := by decide +kernel
theorem dX6_joined_190 : decode cX6_joined 190 = .ok (.lconst 0, 1) := by decide +kernel
theorem dX6_joined_191 : decode cX6_joined 191 = .ok (.lreturn, 1) := by decide +kernel
theorem dX6_joined_186 : decode cX6_joined 186 = .ok (.lconst 1, 1) := by decide +kernel
theorem dX6_joined_187 : decode cX6_joined 187 = .ok (.goto 4, 3) := by decide +kernel
theorem dX6_joined_192 : decode cX6_joined 192 = .ok (.lload_n 1, 1) := by decide +kernel
theorem dX6_joined_193 : decode cX6_joined 193 = .ok (.lload_n 3, 1) := by decide +kernel
theorem dX6_joined_202 : decode cX6_joined 202 = .ok (.lconst 0, 1) := by decide +kernel
theorem dX6_joined_203 : decode cX6_joined 203 = .ok (.lreturn, 1) := by decide +kernel
theorem dX6_joined_198 : decode cX6_joined 198 = .ok (.lconst 1, 1) := by decide +kernel
theorem dX6_joined_199 : decode cX6_joined 199 = .ok (.goto 4, 3) := by decide +kernel
theorem dX6_joined_204 : decode cX6_joined 204 = .ok (.lload_n 1, 1) := by decide +kernel
theorem dX6_joined_205 : decode cX6_joined 205 = .ok (.lload_n 3, 1) := by decide +kernel
theorem dX6_joined_214 : decode cX6_joined 214 = .ok (.lconst 0, 1) := by decide +kernel
theorem dX6_joined_215 : decode cX6_joined 215 = .ok (.lreturn, 1) := by decide +kernel
theorem dX6_joined_210 : decode cX6_joined 210 = .ok (.lconst 1, 1) := by decide +kernel
theorem dX6_joined_211 : decode cX6_joined 211 = .ok (.goto 4, 3) := by decide +kernel
theorem dX6_joined_216 : decode cX6_joined 216 = .ok (.lload_n 1, 1) := by decide +kernel
theorem dX6_joined_217 : decode cX6_joined 217 = .ok (.lload_n 3, 1) := by decide +kernel
theorem dX6_joined_226 : decode cX6_joined 226 = .ok (.lconst 0, 1) := by decide +kernel
theorem dX6_joined_227 : decode cX6_joined 227 = .ok (.lreturn, 1) := by decide +kernel
theorem dX6_joined_222 : decode cX6_joined 222 = .ok (.lconst 1, 1) := by decide +kernel
theorem dX6_joined_223 : decode cX6_joined 223 = .ok (.goto 4, 3) := by decide +kernel
theorem dX6_joined_228 : decode cX6_joined 228 = .ok (.lload_n 1, 1) := by decide +kernel
theorem dX6_joined_229 : decode cX6_joined 229 = .ok (.lload_n 3, 1) := by decide +kernel
theorem dX6_joined_238 : decode cX6_joined 238 = .ok (.lconst 0, 1) := by decide +kernel
theorem dX6_joined_239 : decode cX6_joined 239 = .ok (.lreturn, 1) := by decide +kernel
theorem dX6_joined_234 : decode cX6_joined 234 = .ok (.lconst 1, 1) := by decide +kernel
theorem dX6_joined_235 : decode cX6_joined 235 = .ok (.goto 4, 3) := by decide +kernel
theorem dX6_joined_240 : decode cX6_joined 240 = .ok (.lload_n 1, 1) := by decide +kernel
theorem dX6_joined_241 : decode cX6_joined 241 = .ok (.lload_n 3, 1) := by decide +kernel
theorem dX6_joined_250 : decode cX6_joined 250 = .ok (.lconst 0, 1) := by decide +kernel
theorem dX6_joined_251 : decode cX6_joined 251 = .ok (.lreturn, 1) := by decide +kernel
theorem dX6_joined_246 : decode cX6_joined 246 = .ok (.lconst 1, 1) := by decide +kernel
theorem dX6_joined_247 : decode cX6_joined 247 = .ok (.goto 4, 3) := by decide +kernel
theorem dX6_joined_288 : decode cX6_joined 288 = .ok (.ldc2_w 41, 3) := by decide +kernel
theorem dX6_joined_291 : decode cX6_joined 291 = .ok (.lreturn, 1) := by decide +kernel
theorem dX6_joined_270 : decode cX6_joined 270 = .ok (.lload_n 1, 1) := by decide +kernel
theorem dX6_joined_271 : decode cX6_joined 271 = .ok (.lconst 0, 1) := by decide +kernel
theorem dX6_joined_282 : decode cX6_joined 282 = .ok (.lconst 1, 1) := by decide +kernel
theorem dX6_joined_283 : decode cX6_joined 283 = .ok (.goto 4, 3) := by decide +kernel
theorem dX6_joined_287 : decode cX6_joined 287 = .ok (.lreturn, 1) := by decide +kernel
theorem dX6_joined_276 : decode cX6_joined 276 = .ok (.lload_n 3, 1) := by decide +kernel
theorem dX6_joined_277 : decode cX6_joined 277 = .ok (.lconst 0, 1) := by decide +kernel
theorem dX6_joined_286 : decode cX6_joined 286 = .ok (.lconst 0, 1) := by decide +kernel
theorem dX6_joined_252 : decode cX6_joined 252 = .ok (.lload_n 1, 1) := by decide +kernel
theorem dX6_joined_253 : decode cX6_joined 253 = .ok (.lconst 0, 1) := by decide +kernel
theorem dX6_joined_268 : decode cX6_joined 268 = .ok (.lconst 0, 1) := by decide +kernel
theorem dX6_joined_269 : decode cX6_joined 269 = .ok (.lreturn, 1) := by decide +kernel
theorem dX6_joined_258 : decode cX6_joined 258 = .ok (.lload_n 3, 1) := by decide +kernel
theorem dX6_joined_259 : decode cX6_joined 259 = .ok (.lconst 0, 1) := by decide +kernel
theorem dX6_joined_264 : decode cX6_joined 264 = .ok (.lconst 1, 1) := by decide +kernel
theorem dX6_joined_265 : decode cX6_joined 265 = .ok (.goto 4, 3) := by decide +kernel
theorem dX6_joined_134 : decode cX6_joined 134 = .ok (.lcmp, 1) := by decide +kernel
theorem dX6_joined_135 : decode cX6_joined 135 = .ok (.ifCond .eq 25, 3) := by decide +kernel
theorem dX6_joined_149 : decode cX6_joined 149 = .ok (.ldiv, 1) := by decide +kernel
theorem dX6_joined_150 : decode cX6_joined 150 = .ok (.lcmp, 1) := by decide +kernel
theorem dX6_joined_151 : decode cX6_joined 151 = .ok (.ifCond .le 9, 3) := by decide +kernel
theorem dX6_joined_166 : decode cX6_joined 166 = .ok (.lcmp, 1) := by decide +kernel
theorem dX6_joined_167 : decode cX6_joined 167 = .ok (.ifCond .ne 9, 3) := by decide +kernel
theorem dX6_joined_178 : decode cX6_joined 178 = .ok (.ldiv, 1) := by decide +kernel
theorem dX6_joined_182 : decode cX6_joined 182 = .ok (.lcmp, 1) := by decide +kernel
theorem dX6_joined_183 : decode cX6_joined 183 = .ok (.ifCond .ge 7, 3) := by decide +kernel
theorem dX6_joined_194 : decode cX6_joined 194 = .ok (.lcmp, 1) := by decide +kernel
theorem dX6_joined_195 : decode cX6_joined 195 = .ok (.ifCond .gt 7, 3) := by decide +kernel
theorem dX6_joined_206 : decode cX6_joined 206 = .ok (.lcmp, 1) := by decide +kernel
theorem dX6_joined_207 : decode cX6_joined 207 = .ok (.ifCond .ne 7, 3) := by decide +kernel
theorem dX6_joined_218 : decode cX6_joined 218 = .ok (.lcmp, 1) := by decide +kernel
theorem dX6_joined_219 : decode cX6_joined 219 = .ok (.ifCond .eq 7, 3) := by decide +kernel
theorem dX6_joined_230 : decode cX6_joined 230 = .ok (.lcmp, 1) := by decide +kernel
theorem dX6_joined_231 : decode cX6_joined 231 = .ok (.ifCond .lt 7, 3) := by decide +kernel
theorem dX6_joined_242 : decode cX6_joined 242 = .ok (.lcmp, 1) := by decide +kernel
theorem dX6_joined_243 : decode cX6_joined 243 = .ok (.ifCond .le 7, 3) := by decide +kernel
theorem dX6_joined_272 : decode cX6_joined 272 = .ok (.lcmp, 1) := by decide +kernel
theorem dX6_joined_273 : decode cX6_joined 273 = .ok (.ifCond .ne 9, 3) := by decide +kernel
theorem dX6_joined_278 : decode cX6_joined 278 = .ok (.lcmp, 1) := by decide +kernel
theorem dX6_joined_279 : decode cX6_joined 279 = .ok (.ifCond .eq 7, 3) := by decide +kernel
theorem dX6_joined_254 : decode cX6_joined 254 = .ok (.lcmp, 1) := by decide +kernel
theorem dX6_joined_255 : decode cX6_joined 255 = .ok (.ifCond .eq 13, 3) := by decide +kernel
theorem dX6_joined_260 : decode cX6_joined 260 = .ok (.lcmp, 1) := by decide +kernel
theorem dX6_joined_261 : decode cX6_joined 261 = .ok (.ifCond .eq 7, 3) := by decide +kernel
abbrev q_X6_clear (dC : Nat → ClassId) (dI : Nat → Nat → Nat) (A : Nat → Prop) (ru : Nat) (ru_knots : Int32) (ru_kind : Nat) (ru_number : Nat) (ru_from : Nat) (ru_until : Nat) (ru_names : Nat) (ru_stack : Nat) (k_ru_from : ClassId) (f_ru_from : Nat → Int32) (k_ru_until : ClassId) (f_ru_until : Nat → Int32) : Array Value → State → Outcome → State → Prop := va_Qv (fun _ : Unit => True) (fun (_ : Unit) (t : State) => ∃ (g_ru_from : Nat → Int32), ∃ (g_ru_until : Nat → Int32), (Rg g_ru_from 0 64) ∧ (Rg g_ru_until 0 64) ∧ (FLt g_ru_from (0 : Int32) 5) ∧ (FLt g_ru_until (0 : Int32) 5) ∧ va_P (dC, dI) vwCl [(ru, .inr (6, [.int 0, .ref ru_kind, .ref ru_number, .ref ru_from, .ref ru_until, .ref ru_names, .ref ru_stack])), (ru_from, .inl (k_ru_from, 5, .inl g_ru_from)), (ru_until, .inl (k_ru_until, 5, .inl g_ru_until))] t.heap ∧ va_D A [(ru, .inr (6, [.int 0, .ref ru_kind, .ref ru_number, .ref ru_from, .ref ru_until, .ref ru_names, .ref ru_stack])), (ru_from, .inl (k_ru_from, 5, .inl g_ru_from)), (ru_until, .inl (k_ru_until, 5, .inl g_ru_until))]) A
set_option maxHeartbeats 4000000 in
set_option maxRecDepth 100000 in
theorem c_X6_clear (l : Launch) (dC : Nat → ClassId) (dI : Nat → Nat → Nat) (sz : Nat) (ru : Nat) (ru_knots : Int32) (ru_kind : Nat) (ru_number : Nat) (ru_from : Nat) (ru_until : Nat) (ru_names : Nat) (ru_stack : Nat) (k_ru_from : ClassId) (f_ru_from : Nat → Int32) (k_ru_until : ClassId) (f_ru_until : Nat → Int32) (h_ru_knots : 0 ≤ ru_knots.toInt ∧ ru_knots.toInt ≤ 64) (h_f_ru_from : Rg f_ru_from 0 64) (h_f_ru_until : Rg f_ru_until 0 64) : Met l yX6_clear (pw_w yX6_clear cX6_clear 1 none) ({ frames := 1, cells := 0, slots := 0, locals := 23 }) (va_Pc [.ref ru] (fun U => U.heap.size = sz ∧ va_P (dC, dI) vwCl [(ru, .inr (6, [.int ru_knots, .ref ru_kind, .ref ru_number, .ref ru_from, .ref ru_until, .ref ru_names, .ref ru_stack])), (ru_from, .inl (k_ru_from, 5, .inl f_ru_from)), (ru_until, .inl (k_ru_until, 5, .inl f_ru_until))] U.heap ∧ va_K (dC, dI) vwCl [(k_ru_from, .int), (k_ru_until, .int)] U ∧ va_D (fun _ => True) [(ru, .inr (6, [.int ru_knots, .ref ru_kind, .ref ru_number, .ref ru_from, .ref ru_until, .ref ru_names, .ref ru_stack])), (ru_from, .inl (k_ru_from, 5, .inl f_ru_from)), (ru_until, .inl (k_ru_until, 5, .inl f_ru_until))])) (q_X6_clear dC dI (va_A [(ru, .inr (6, [.int ru_knots, .ref ru_kind, .ref ru_number, .ref ru_from, .ref ru_until, .ref ru_names, .ref ru_stack])), (ru_from, .inl (k_ru_from, 5, .inl f_ru_from)), (ru_until, .inl (k_ru_until, 5, .inl f_ru_until))] sz) ru ru_knots ru_kind ru_number ru_from ru_until ru_names ru_stack k_ru_from f_ru_from k_ru_until f_ru_until) 0 0 (va_A [(ru, .inr (6, [.int ru_knots, .ref ru_kind, .ref ru_number, .ref ru_from, .ref ru_until, .ref ru_names, .ref ru_stack])), (ru_from, .inl (k_ru_from, 5, .inl f_ru_from)), (ru_until, .inl (k_ru_until, 5, .inl f_ru_until))] sz) := by
  refine Met.ofW (cc := cX6_clear) (maxL := 1) (ret := none) (by decide) rfl ?_
  intro p e s m args below meth c s₁ B hml hv
  obtain ⟨rfl, hsz, hP, hK, hD0⟩ := hv
  have hx := B.exec
  have hb := B.bytes
  have hr := B.returns
  have hts := atoms_spec (ws := (pw_w yX6_clear cX6_clear 1 none)) B.pre
  have hT : ∀ w ∈ pw_T, w.before _ s = true := fun w h => hts w (List.mem_cons_of_mem _ h)
  have hown : s.vm.findClass RX6 = some m.cls := findClass_of_methodNamed B.named
  have hlocks := B.notSynchronized
  subst hsz
  have hD := hD0.self (sz := s.heap.size)
  generalize hAe : va_A [(ru, .inr (6, [.int ru_knots, .ref ru_kind, .ref ru_number, .ref ru_from, .ref ru_until, .ref ru_names, .ref ru_stack])), (ru_from, .inl (k_ru_from, 5, .inl f_ru_from)), (ru_until, .inl (k_ru_until, 5, .inl f_ru_until))] s.heap.size = A at hD ⊢
  have hA : ∀ q : Nat, s.heap.size ≤ q → A q := fun q h => by rw [← hAe]; exact Or.inr h
  have hS : va_S A s.heap s.heap [] := va_S.rf
  have hP : va_P (dC, dI) vwCl [(ru, .inr (6, [.int ru_knots, .ref ru_kind, .ref ru_number, .ref ru_from, .ref ru_until, .ref ru_names, .ref ru_stack])), (ru_from, .inl (k_ru_from, 5, .inl f_ru_from)), (ru_until, .inl (k_ru_until, 5, .inl f_ru_until))] s.heap := hP
  have hl := lv_entry ([.ref ru]) (n := 1) (Nat.le_of_ble_eq_true rfl)
  rw [lg_entry_eq]
  generalize (lg_sl ([.ref ru]) ++ List.replicate (1 - (lg_sl ([.ref ru])).length) Slot.unset).toArray = ls at hl ⊢
  have hl : lv_has ls 1 [(0, .ref ru)] := hl
  refine lv_aload_n hx hb dX6_clear_0 rfl (lv_at hl 0 rfl) ?_
  refine lv_iconst (v := 0) hx hb dX6_clear_1 (by decide) ?_
  refine va_put (D := (dC, dI)) (ci := 6) (v := .int 0) (ty := .int) (C := RX6) (T := TX6) (N := 7) hx hb hT inX6 tyX6 tyX6_ok nmX6 hown hK hP hD hS 0 rfl rfl 0 (by decide) (hT _ mw_1_163) (fun _ h9 => h9) rfl (by decide +kernel) rfl rfl (Nat.le_of_ble_eq_true rfl) dX6_clear_2 (fun H locs hP hD hS => ?_)
  have hP : va_P (dC, dI) vwCl [(ru, .inr (6, [.int 0, .ref ru_kind, .ref ru_number, .ref ru_from, .ref ru_until, .ref ru_names, .ref ru_stack])), (ru_from, .inl (k_ru_from, 5, .inl f_ru_from)), (ru_until, .inl (k_ru_until, 5, .inl f_ru_until))] H := hP
  have hD : va_D A [(ru, .inr (6, [.int 0, .ref ru_kind, .ref ru_number, .ref ru_from, .ref ru_until, .ref ru_names, .ref ru_stack])), (ru_from, .inl (k_ru_from, 5, .inl f_ru_from)), (ru_until, .inl (k_ru_until, 5, .inl f_ru_until))] := hD
  refine lv_aload_n hx hb dX6_clear_5 rfl (lv_at hl 0 rfl) ?_
  refine va_get (D := (dC, dI)) (ci := 6) (v := .ref ru_from) (C := RX6) (T := TX6) (N := 7) hx hb hT inX6 hown hK hP 0 rfl rfl 3 (by decide) (hT _ mw_1_168) (fun _ h9 => h9) rfl dX6_clear_6 ?_
  refine lv_iconst (v := 0) hx hb dX6_clear_9 (by decide) ?_
  have hPc := hP.sub (ws' := [(ru_from, .inl (k_ru_from, 5, .inl f_ru_from))]) [1] rfl
  have hDc := hD.sub (ws' := [(ru_from, .inl (k_ru_from, 5, .inl f_ru_from))]) [1] (by decide) rfl
  have hKc := hK.sub (tys' := [(k_ru_from, .int)]) [0] rfl
  have hFc := va_free (wc := [(ru_from, .inl (k_ru_from, 5, .inl f_ru_from))]) hD hS hA [1] rfl
  refine va_callv (va_runS (As := [.ref ru_from, .int 0]) (rest := []) ⟨hx, hb, hml, hown, hT⟩ (c_fill5b l dC dI H.size ru_from k_ru_from f_ru_from h_f_ru_from) (va_cwS 2 hT (gwS mw_3_123 mw_3_117 mw_1_18 mw_3_118) rfl rfl rfl (by decide +kernel) ⟨Nat.le_of_ble_eq_true rfl, Nat.le_of_ble_eq_true rfl⟩) ⟨fun a U g mk q => by obtain ⟨q0, q1, qP, qK, qD⟩ := q; exact ⟨q0, q1, qP, va_K.moved (u := U) (U := U.calling g mk a) (Vm.Alike.refl U.vm) qK, qD⟩, fun U hU hW => ⟨rfl, by rw [hU], by rw [hU]; exact hPc, va_K.moved hW.alike hKc, hDc.weaken (fun _ _ _ _ => trivial)⟩⟩ rfl rfl hl.1 rfl (lv_room (Nat.le_of_ble_eq_true rfl)) dX6_clear_10 ⟨Nat.le_of_ble_eq_true rfl, Nat.le_of_ble_eq_true rfl⟩) hS (fun q _ h => hFc q h) hFc (fun u t H1 locs ht hvm hw hB hz1 hk1 hS => ?_)
  obtain ⟨x_2, hpr_1_0, hpr_1_1, hP1, hD1⟩ := hB
  rw [ht] at hP1
  obtain ⟨hP, hD⟩ := va_join (wr := [(ru, .inr (6, [.int 0, .ref ru_kind, .ref ru_number, .ref ru_from, .ref ru_until, .ref ru_names, .ref ru_stack])), (ru_until, .inl (k_ru_until, 5, .inl f_ru_until))]) (w1 := [(ru_from, .inl (k_ru_from, 5, .inl x_2))]) hP hD [1] [0, 2] rfl rfl (by decide) (by decide) hk1 hFc hP1 hD1
  generalize H1 = H at hP hS ⊢
  have hP : va_P (dC, dI) vwCl [(ru, .inr (6, [.int 0, .ref ru_kind, .ref ru_number, .ref ru_from, .ref ru_until, .ref ru_names, .ref ru_stack])), (ru_until, .inl (k_ru_until, 5, .inl f_ru_until)), (ru_from, .inl (k_ru_from, 5, .inl x_2))] H := hP
  have hD : va_D A [(ru, .inr (6, [.int 0, .ref ru_kind, .ref ru_number, .ref ru_from, .ref ru_until, .ref ru_names, .ref ru_stack])), (ru_until, .inl (k_ru_until, 5, .inl f_ru_until)), (ru_from, .inl (k_ru_from, 5, .inl x_2))] := hD
  clear hPc hDc hKc hFc hP1 hD1 hk1 hz1 ht hvm
  clear hw
  refine lv_aload_n hx hb dX6_clear_13 rfl (lv_at hl 0 rfl) ?_
  refine va_get (D := (dC, dI)) (ci := 6) (v := .ref ru_until) (C := RX6) (T := TX6) (N := 7) hx hb hT inX6 hown hK hP 0 rfl rfl 4 (by decide) (hT _ mw_1_170) (fun _ h9 => h9) rfl dX6_clear_14 ?_
  refine lv_iconst (v := 0) hx hb dX6_clear_17 (by decide) ?_
  have hPc := hP.sub (ws' := [(ru_until, .inl (k_ru_until, 5, .inl f_ru_until))]) [1] rfl
  have hDc := hD.sub (ws' := [(ru_until, .inl (k_ru_until, 5, .inl f_ru_until))]) [1] (by decide) rfl
  have hKc := hK.sub (tys' := [(k_ru_until, .int)]) [1] rfl
  have hFc := va_free (wc := [(ru_until, .inl (k_ru_until, 5, .inl f_ru_until))]) hD hS hA [1] rfl
  refine va_callv (va_runS (As := [.ref ru_until, .int 0]) (rest := []) ⟨hx, hb, hml, hown, hT⟩ (c_fill5b l dC dI H.size ru_until k_ru_until f_ru_until h_f_ru_until) (va_cwS 2 hT (gwS mw_3_123 mw_3_117 mw_1_18 mw_3_118) rfl rfl rfl (by decide +kernel) ⟨Nat.le_of_ble_eq_true rfl, Nat.le_of_ble_eq_true rfl⟩) ⟨fun a U g mk q => by obtain ⟨q0, q1, qP, qK, qD⟩ := q; exact ⟨q0, q1, qP, va_K.moved (u := U) (U := U.calling g mk a) (Vm.Alike.refl U.vm) qK, qD⟩, fun U hU hW => ⟨rfl, by rw [hU], by rw [hU]; exact hPc, va_K.moved hW.alike hKc, hDc.weaken (fun _ _ _ _ => trivial)⟩⟩ rfl rfl hl.1 rfl (lv_room (Nat.le_of_ble_eq_true rfl)) dX6_clear_18 ⟨Nat.le_of_ble_eq_true rfl, Nat.le_of_ble_eq_true rfl⟩) hS (fun q _ h => hFc q h) hFc (fun u t H1 locs ht hvm hw hB hz1 hk1 hS => ?_)
  obtain ⟨x_4, hpr_3_0, hpr_3_1, hP1, hD1⟩ := hB
  rw [ht] at hP1
  obtain ⟨hP, hD⟩ := va_join (wr := [(ru, .inr (6, [.int 0, .ref ru_kind, .ref ru_number, .ref ru_from, .ref ru_until, .ref ru_names, .ref ru_stack])), (ru_from, .inl (k_ru_from, 5, .inl x_2))]) (w1 := [(ru_until, .inl (k_ru_until, 5, .inl x_4))]) hP hD [1] [0, 2] rfl rfl (by decide) (by decide) hk1 hFc hP1 hD1
  generalize H1 = H at hP hS ⊢
  have hP : va_P (dC, dI) vwCl [(ru, .inr (6, [.int 0, .ref ru_kind, .ref ru_number, .ref ru_from, .ref ru_until, .ref ru_names, .ref ru_stack])), (ru_from, .inl (k_ru_from, 5, .inl x_2)), (ru_until, .inl (k_ru_until, 5, .inl x_4))] H := hP
  have hD : va_D A [(ru, .inr (6, [.int 0, .ref ru_kind, .ref ru_number, .ref ru_from, .ref ru_until, .ref ru_names, .ref ru_stack])), (ru_from, .inl (k_ru_from, 5, .inl x_2)), (ru_until, .inl (k_ru_until, 5, .inl x_4))] := hD
  clear hPc hDc hKc hFc hP1 hD1 hk1 hz1 ht hvm
  clear hw
  have hP9 := hP.sub (ws' := [(ru, .inr (6, [.int 0, .ref ru_kind, .ref ru_number, .ref ru_from, .ref ru_until, .ref ru_names, .ref ru_stack])), (ru_from, .inl (k_ru_from, 5, .inl x_2)), (ru_until, .inl (k_ru_until, 5, .inl x_4))]) [0, 1, 2] rfl
  have hD9 := hD.sub (ws' := [(ru, .inr (6, [.int 0, .ref ru_kind, .ref ru_number, .ref ru_from, .ref ru_until, .ref ru_names, .ref ru_stack])), (ru_from, .inl (k_ru_from, 5, .inl x_2)), (ru_until, .inl (k_ru_until, 5, .inl x_4))]) [0, 1, 2] (by decide) rfl
  exact W.vret hx hb hr (fun t ht hW => ⟨⟨(), rfl, trivial, x_2, x_4, hpr_1_0, hpr_3_0, hpr_1_1, hpr_3_1, by rw [ht]; exact hP9, hD9⟩, hS.F ht⟩) hS.2.2 dX6_clear_21
abbrev q_X6_add (dC : Nat → ClassId) (dI : Nat → Nat → Nat) (A : Nat → Prop) (ru : Nat) (vk : Int32) (vn : Int32) (ru_knots : Int32) (ru_kind : Nat) (ru_number : Nat) (ru_from : Nat) (ru_until : Nat) (ru_names : Nat) (ru_stack : Nat) (k_ru_kind : ClassId) (f_ru_kind : Nat → Int32) (k_ru_number : ClassId) (f_ru_number : Nat → Int32) : Array Value → State → Outcome → State → Prop := va_Qv (fun _ : Unit => True) (fun (_ : Unit) (t : State) => ∃ (e_ru_knots : Int32), ∃ (g_ru_kind : Nat → Int32), ∃ (g_ru_number : Nat → Int32), (0 ≤ e_ru_knots.toInt ∧ e_ru_knots.toInt ≤ 64) ∧ (Rg g_ru_kind 0 39) ∧ (ADx vk vn ru_knots f_ru_kind f_ru_number e_ru_knots g_ru_kind g_ru_number) ∧ va_P (dC, dI) vwCl [(ru, .inr (6, [.int e_ru_knots, .ref ru_kind, .ref ru_number, .ref ru_from, .ref ru_until, .ref ru_names, .ref ru_stack])), (ru_kind, .inl (k_ru_kind, 64, .inl g_ru_kind)), (ru_number, .inl (k_ru_number, 64, .inl g_ru_number))] t.heap ∧ va_D A [(ru, .inr (6, [.int e_ru_knots, .ref ru_kind, .ref ru_number, .ref ru_from, .ref ru_until, .ref ru_names, .ref ru_stack])), (ru_kind, .inl (k_ru_kind, 64, .inl g_ru_kind)), (ru_number, .inl (k_ru_number, 64, .inl g_ru_number))]) A
set_option maxHeartbeats 4000000 in
set_option maxRecDepth 100000 in
theorem c_X6_add (l : Launch) (dC : Nat → ClassId) (dI : Nat → Nat → Nat) (sz : Nat) (ru : Nat) (vk : Int32) (vn : Int32) (ru_knots : Int32) (ru_kind : Nat) (ru_number : Nat) (ru_from : Nat) (ru_until : Nat) (ru_names : Nat) (ru_stack : Nat) (k_ru_kind : ClassId) (f_ru_kind : Nat → Int32) (k_ru_number : ClassId) (f_ru_number : Nat → Int32) (h_ru_knots : 0 ≤ ru_knots.toInt ∧ ru_knots.toInt ≤ 64) (h_f_ru_kind : Rg f_ru_kind 0 39) (h_vk : 0 ≤ vk.toInt ∧ vk.toInt ≤ 39) : Met l yX6_add (pw_w yX6_add cX6_add 3 none) ({ frames := 0, cells := 0, slots := 0, locals := 0 }) (va_Pc [.ref ru, .int vk, .int vn] (fun U => U.heap.size = sz ∧ va_P (dC, dI) vwCl [(ru, .inr (6, [.int ru_knots, .ref ru_kind, .ref ru_number, .ref ru_from, .ref ru_until, .ref ru_names, .ref ru_stack])), (ru_kind, .inl (k_ru_kind, 64, .inl f_ru_kind)), (ru_number, .inl (k_ru_number, 64, .inl f_ru_number))] U.heap ∧ va_K (dC, dI) vwCl [(k_ru_kind, .int), (k_ru_number, .int)] U ∧ va_D (fun _ => True) [(ru, .inr (6, [.int ru_knots, .ref ru_kind, .ref ru_number, .ref ru_from, .ref ru_until, .ref ru_names, .ref ru_stack])), (ru_kind, .inl (k_ru_kind, 64, .inl f_ru_kind)), (ru_number, .inl (k_ru_number, 64, .inl f_ru_number))])) (q_X6_add dC dI (va_A [(ru, .inr (6, [.int ru_knots, .ref ru_kind, .ref ru_number, .ref ru_from, .ref ru_until, .ref ru_names, .ref ru_stack])), (ru_kind, .inl (k_ru_kind, 64, .inl f_ru_kind)), (ru_number, .inl (k_ru_number, 64, .inl f_ru_number))] sz) ru vk vn ru_knots ru_kind ru_number ru_from ru_until ru_names ru_stack k_ru_kind f_ru_kind k_ru_number f_ru_number) 0 0 (va_A [(ru, .inr (6, [.int ru_knots, .ref ru_kind, .ref ru_number, .ref ru_from, .ref ru_until, .ref ru_names, .ref ru_stack])), (ru_kind, .inl (k_ru_kind, 64, .inl f_ru_kind)), (ru_number, .inl (k_ru_number, 64, .inl f_ru_number))] sz) := by
  refine Met.ofW (cc := cX6_add) (maxL := 3) (ret := none) (by decide) rfl ?_
  intro p e s m args below meth c s₁ B hml hv
  obtain ⟨rfl, hsz, hP, hK, hD0⟩ := hv
  have hx := B.exec
  have hb := B.bytes
  have hr := B.returns
  have hts := atoms_spec (ws := (pw_w yX6_add cX6_add 3 none)) B.pre
  have hT : ∀ w ∈ pw_T, w.before _ s = true := fun w h => hts w (List.mem_cons_of_mem _ h)
  have hown : s.vm.findClass RX6 = some m.cls := findClass_of_methodNamed B.named
  have hlocks := B.notSynchronized
  subst hsz
  have hD := hD0.self (sz := s.heap.size)
  generalize hAe : va_A [(ru, .inr (6, [.int ru_knots, .ref ru_kind, .ref ru_number, .ref ru_from, .ref ru_until, .ref ru_names, .ref ru_stack])), (ru_kind, .inl (k_ru_kind, 64, .inl f_ru_kind)), (ru_number, .inl (k_ru_number, 64, .inl f_ru_number))] s.heap.size = A at hD ⊢
  have hA : ∀ q : Nat, s.heap.size ≤ q → A q := fun q h => by rw [← hAe]; exact Or.inr h
  have hS : va_S A s.heap s.heap [] := va_S.rf
  have hP : va_P (dC, dI) vwCl [(ru, .inr (6, [.int ru_knots, .ref ru_kind, .ref ru_number, .ref ru_from, .ref ru_until, .ref ru_names, .ref ru_stack])), (ru_kind, .inl (k_ru_kind, 64, .inl f_ru_kind)), (ru_number, .inl (k_ru_number, 64, .inl f_ru_number))] s.heap := hP
  have hl := lv_entry ([.ref ru, .int vk, .int vn]) (n := 3) (Nat.le_of_ble_eq_true rfl)
  rw [lg_entry_eq]
  generalize (lg_sl ([.ref ru, .int vk, .int vn]) ++ List.replicate (3 - (lg_sl ([.ref ru, .int vk, .int vn])).length) Slot.unset).toArray = ls at hl ⊢
  have hl : lv_has ls 3 [(0, .ref ru), (1, .int vk), (2, .int vn)] := hl
  refine lv_aload_n hx hb dX6_add_0 rfl (lv_at hl 0 rfl) ?_
  refine va_get (D := (dC, dI)) (ci := 6) (v := .int ru_knots) (C := RX6) (T := TX6) (N := 7) hx hb hT inX6 hown hK hP 0 rfl rfl 0 (by decide) (hT _ mw_1_163) (fun _ h9 => h9) rfl dX6_add_1 ?_
  refine lv_bipush (v := 64) hx hb dX6_add_4 (by decide) ?_
  refine lv_icmp_ge (tgt := 39) hx hb dX6_add_6 (by decide) (fun c_1 => ?_) (fun c_1 => ?_)
  · have kc_1 := il_le c_1
    have := (by decide : (64 : Int32).toInt = 64)
    have hP9 := hP.sub (ws' := [(ru, .inr (6, [.int ru_knots, .ref ru_kind, .ref ru_number, .ref ru_from, .ref ru_until, .ref ru_names, .ref ru_stack])), (ru_kind, .inl (k_ru_kind, 64, .inl f_ru_kind)), (ru_number, .inl (k_ru_number, 64, .inl f_ru_number))]) [0, 1, 2] rfl
    have hD9 := hD.sub (ws' := [(ru, .inr (6, [.int ru_knots, .ref ru_kind, .ref ru_number, .ref ru_from, .ref ru_until, .ref ru_names, .ref ru_stack])), (ru_kind, .inl (k_ru_kind, 64, .inl f_ru_kind)), (ru_number, .inl (k_ru_number, 64, .inl f_ru_number))]) [0, 1, 2] (by decide) rfl
    exact W.vret hx hb hr (fun t ht hW => ⟨⟨(), rfl, trivial, ru_knots, f_ru_kind, f_ru_number, (by omega), h_f_ru_kind, (Or.inr ⟨(by omega), rfl, rfl, rfl⟩), by rw [ht]; exact hP9, hD9⟩, hS.F ht⟩) hS.2.2 dX6_add_39
  · have kc_1 := il_nle c_1
    have := (by decide : (64 : Int32).toInt = 64)
    refine lv_aload_n hx hb dX6_add_9 rfl (lv_at hl 0 rfl) ?_
    refine va_get (D := (dC, dI)) (ci := 6) (v := .ref ru_kind) (C := RX6) (T := TX6) (N := 7) hx hb hT inX6 hown hK hP 0 rfl rfl 1 (by decide) (hT _ mw_1_166) (fun _ h9 => h9) rfl dX6_add_10 ?_
    refine lv_aload_n hx hb dX6_add_13 rfl (lv_at hl 0 rfl) ?_
    refine va_get (D := (dC, dI)) (ci := 6) (v := .int ru_knots) (C := RX6) (T := TX6) (N := 7) hx hb hT inX6 hown hK hP 0 rfl rfl 0 (by decide) (hT _ mw_1_163) (fun _ h9 => h9) rfl dX6_add_14 ?_
    refine lv_iload_n hx hb dX6_add_17 rfl (lv_at hl 1 rfl) ?_
    refine va_iast hx hb hK hP hD hS 1 0 rfl rfl (vp_in_iff.mpr (by omega)) dX6_add_18 (fun H locs hP hD hS => ?_)
    have hP : va_P (dC, dI) vwCl [(ru, .inr (6, [.int ru_knots, .ref ru_kind, .ref ru_number, .ref ru_from, .ref ru_until, .ref ru_names, .ref ru_stack])), (ru_kind, .inl (k_ru_kind, 64, .inl (upd f_ru_kind (ru_knots : Int32).toNatClampNeg (vk : Int32)))), (ru_number, .inl (k_ru_number, 64, .inl f_ru_number))] H := hP
    have hD : va_D A [(ru, .inr (6, [.int ru_knots, .ref ru_kind, .ref ru_number, .ref ru_from, .ref ru_until, .ref ru_names, .ref ru_stack])), (ru_kind, .inl (k_ru_kind, 64, .inl (upd f_ru_kind (ru_knots : Int32).toNatClampNeg (vk : Int32)))), (ru_number, .inl (k_ru_number, 64, .inl f_ru_number))] := hD
    obtain ⟨f_2, hf_2, ef_2⟩ : ∃ g : Nat → Int32, Rg g 0 39 ∧ (upd f_ru_kind (ru_knots : Int32).toNatClampNeg (vk : Int32)) = g := ⟨_, Rg_upd h_f_ru_kind (by omega), rfl⟩
    rw [ef_2] at hP hD
    refine lv_aload_n hx hb dX6_add_19 rfl (lv_at hl 0 rfl) ?_
    refine va_get (D := (dC, dI)) (ci := 6) (v := .ref ru_number) (C := RX6) (T := TX6) (N := 7) hx hb hT inX6 hown hK hP 0 rfl rfl 2 (by decide) (hT _ mw_1_167) (fun _ h9 => h9) rfl dX6_add_20 ?_
    refine lv_aload_n hx hb dX6_add_23 rfl (lv_at hl 0 rfl) ?_
    refine va_get (D := (dC, dI)) (ci := 6) (v := .int ru_knots) (C := RX6) (T := TX6) (N := 7) hx hb hT inX6 hown hK hP 0 rfl rfl 0 (by decide) (hT _ mw_1_163) (fun _ h9 => h9) rfl dX6_add_24 ?_
    refine lv_iload_n hx hb dX6_add_27 rfl (lv_at hl 2 rfl) ?_
    refine va_iast hx hb hK hP hD hS 2 1 rfl rfl (vp_in_iff.mpr (by omega)) dX6_add_28 (fun H locs hP hD hS => ?_)
    have hP : va_P (dC, dI) vwCl [(ru, .inr (6, [.int ru_knots, .ref ru_kind, .ref ru_number, .ref ru_from, .ref ru_until, .ref ru_names, .ref ru_stack])), (ru_kind, .inl (k_ru_kind, 64, .inl f_2)), (ru_number, .inl (k_ru_number, 64, .inl (upd f_ru_number (ru_knots : Int32).toNatClampNeg (vn : Int32))))] H := hP
    have hD : va_D A [(ru, .inr (6, [.int ru_knots, .ref ru_kind, .ref ru_number, .ref ru_from, .ref ru_until, .ref ru_names, .ref ru_stack])), (ru_kind, .inl (k_ru_kind, 64, .inl f_2)), (ru_number, .inl (k_ru_number, 64, .inl (upd f_ru_number (ru_knots : Int32).toNatClampNeg (vn : Int32))))] := hD
    obtain ⟨f_3, ef_3⟩ : ∃ g : Nat → Int32, (upd f_ru_number (ru_knots : Int32).toNatClampNeg (vn : Int32)) = g := ⟨_, rfl⟩
    rw [ef_3] at hP hD
    refine lv_aload_n hx hb dX6_add_29 rfl (lv_at hl 0 rfl) ?_
    refine lv_dup hx hb dX6_add_30 rfl ?_
    refine va_get (D := (dC, dI)) (ci := 6) (v := .int ru_knots) (C := RX6) (T := TX6) (N := 7) hx hb hT inX6 hown hK hP 0 rfl rfl 0 (by decide) (hT _ mw_1_163) (fun _ h9 => h9) rfl dX6_add_31 ?_
    refine lv_iconst (v := 1) hx hb dX6_add_34 (by decide) ?_
    refine lv_iadd hx hb dX6_add_35 ?_
    refine lv_topi (fun z_4 ez_4 => ?_)
    have kz_4 : z_4.toInt = ru_knots.toInt + 1 := ti_add ez_4 rfl (by decide) (by omega) (by omega)
    clear ez_4
    refine va_put (D := (dC, dI)) (ci := 6) (v := .int z_4) (ty := .int) (C := RX6) (T := TX6) (N := 7) hx hb hT inX6 tyX6 tyX6_ok nmX6 hown hK hP hD hS 0 rfl rfl 0 (by decide) (hT _ mw_1_163) (fun _ h9 => h9) rfl (by decide +kernel) rfl rfl (Nat.le_of_ble_eq_true rfl) dX6_add_36 (fun H locs hP hD hS => ?_)
    have hP : va_P (dC, dI) vwCl [(ru, .inr (6, [.int z_4, .ref ru_kind, .ref ru_number, .ref ru_from, .ref ru_until, .ref ru_names, .ref ru_stack])), (ru_kind, .inl (k_ru_kind, 64, .inl f_2)), (ru_number, .inl (k_ru_number, 64, .inl f_3))] H := hP
    have hD : va_D A [(ru, .inr (6, [.int z_4, .ref ru_kind, .ref ru_number, .ref ru_from, .ref ru_until, .ref ru_names, .ref ru_stack])), (ru_kind, .inl (k_ru_kind, 64, .inl f_2)), (ru_number, .inl (k_ru_number, 64, .inl f_3))] := hD
    have hP9 := hP.sub (ws' := [(ru, .inr (6, [.int z_4, .ref ru_kind, .ref ru_number, .ref ru_from, .ref ru_until, .ref ru_names, .ref ru_stack])), (ru_kind, .inl (k_ru_kind, 64, .inl f_2)), (ru_number, .inl (k_ru_number, 64, .inl f_3))]) [0, 1, 2] rfl
    have hD9 := hD.sub (ws' := [(ru, .inr (6, [.int z_4, .ref ru_kind, .ref ru_number, .ref ru_from, .ref ru_until, .ref ru_names, .ref ru_stack])), (ru_kind, .inl (k_ru_kind, 64, .inl f_2)), (ru_number, .inl (k_ru_number, 64, .inl f_3))]) [0, 1, 2] (by decide) rfl
    exact W.vret hx hb hr (fun t ht hW => ⟨⟨(), rfl, trivial, z_4, f_2, f_3, (by omega), hf_2, (Or.inl ⟨(by omega), (by omega), ef_2, ef_3⟩), by rw [ht]; exact hP9, hD9⟩, hS.F ht⟩) hS.2.2 dX6_add_39
abbrev q_X6_has (dC : Nat → ClassId) (dI : Nat → Nat → Nat) (A : Nat → Prop) (ru : Nat) (vp : Int32) (ru_knots : Int32) (ru_kind : Nat) (ru_number : Nat) (ru_from : Nat) (ru_until : Nat) (ru_names : Nat) (ru_stack : Nat) (k_ru_from : ClassId) (f_ru_from : Nat → Int32) (k_ru_until : ClassId) (f_ru_until : Nat → Int32) : Array Value → State → Outcome → State → Prop := va_Qi (fun (r : Int32) (_ : Unit) => (0 ≤ r.toInt ∧ r.toInt ≤ 1)) (fun (_ : Unit) (t : State) => va_P (dC, dI) vwCl [(ru, .inr (6, [.int ru_knots, .ref ru_kind, .ref ru_number, .ref ru_from, .ref ru_until, .ref ru_names, .ref ru_stack])), (ru_from, .inl (k_ru_from, 5, .inl f_ru_from)), (ru_until, .inl (k_ru_until, 5, .inl f_ru_until))] t.heap ∧ va_D A [(ru, .inr (6, [.int ru_knots, .ref ru_kind, .ref ru_number, .ref ru_from, .ref ru_until, .ref ru_names, .ref ru_stack])), (ru_from, .inl (k_ru_from, 5, .inl f_ru_from)), (ru_until, .inl (k_ru_until, 5, .inl f_ru_until))]) A
set_option maxHeartbeats 4000000 in
set_option maxRecDepth 100000 in
theorem c_X6_has (l : Launch) (dC : Nat → ClassId) (dI : Nat → Nat → Nat) (sz : Nat) (ru : Nat) (vp : Int32) (ru_knots : Int32) (ru_kind : Nat) (ru_number : Nat) (ru_from : Nat) (ru_until : Nat) (ru_names : Nat) (ru_stack : Nat) (k_ru_from : ClassId) (f_ru_from : Nat → Int32) (k_ru_until : ClassId) (f_ru_until : Nat → Int32) (h_ru_knots : 0 ≤ ru_knots.toInt ∧ ru_knots.toInt ≤ 64) (h_f_ru_from : Rg f_ru_from 0 64) (h_f_ru_until : Rg f_ru_until 0 64) (h_vp : 0 ≤ vp.toInt ∧ vp.toInt ≤ 4) : Met l yX6_has (pw_w yX6_has cX6_has 2 (some .boolean)) ({ frames := 0, cells := 0, slots := 0, locals := 0 }) (va_Pc [.ref ru, .int vp] (fun U => U.heap.size = sz ∧ va_P (dC, dI) vwCl [(ru, .inr (6, [.int ru_knots, .ref ru_kind, .ref ru_number, .ref ru_from, .ref ru_until, .ref ru_names, .ref ru_stack])), (ru_from, .inl (k_ru_from, 5, .inl f_ru_from)), (ru_until, .inl (k_ru_until, 5, .inl f_ru_until))] U.heap ∧ va_K (dC, dI) vwCl [(k_ru_from, .int), (k_ru_until, .int)] U ∧ va_D (fun _ => True) [(ru, .inr (6, [.int ru_knots, .ref ru_kind, .ref ru_number, .ref ru_from, .ref ru_until, .ref ru_names, .ref ru_stack])), (ru_from, .inl (k_ru_from, 5, .inl f_ru_from)), (ru_until, .inl (k_ru_until, 5, .inl f_ru_until))])) (q_X6_has dC dI (va_A [(ru, .inr (6, [.int ru_knots, .ref ru_kind, .ref ru_number, .ref ru_from, .ref ru_until, .ref ru_names, .ref ru_stack])), (ru_from, .inl (k_ru_from, 5, .inl f_ru_from)), (ru_until, .inl (k_ru_until, 5, .inl f_ru_until))] sz) ru vp ru_knots ru_kind ru_number ru_from ru_until ru_names ru_stack k_ru_from f_ru_from k_ru_until f_ru_until) 0 0 (va_A [(ru, .inr (6, [.int ru_knots, .ref ru_kind, .ref ru_number, .ref ru_from, .ref ru_until, .ref ru_names, .ref ru_stack])), (ru_from, .inl (k_ru_from, 5, .inl f_ru_from)), (ru_until, .inl (k_ru_until, 5, .inl f_ru_until))] sz) := by
  refine Met.ofW (cc := cX6_has) (maxL := 2) (ret := (some .boolean)) (by decide) rfl ?_
  intro p e s m args below meth c s₁ B hml hv
  obtain ⟨rfl, hsz, hP, hK, hD0⟩ := hv
  have hx := B.exec
  have hb := B.bytes
  have hr := B.returns
  have hts := atoms_spec (ws := (pw_w yX6_has cX6_has 2 (some .boolean))) B.pre
  have hT : ∀ w ∈ pw_T, w.before _ s = true := fun w h => hts w (List.mem_cons_of_mem _ h)
  have hown : s.vm.findClass RX6 = some m.cls := findClass_of_methodNamed B.named
  have hlocks := B.notSynchronized
  subst hsz
  have hD := hD0.self (sz := s.heap.size)
  generalize hAe : va_A [(ru, .inr (6, [.int ru_knots, .ref ru_kind, .ref ru_number, .ref ru_from, .ref ru_until, .ref ru_names, .ref ru_stack])), (ru_from, .inl (k_ru_from, 5, .inl f_ru_from)), (ru_until, .inl (k_ru_until, 5, .inl f_ru_until))] s.heap.size = A at hD ⊢
  have hA : ∀ q : Nat, s.heap.size ≤ q → A q := fun q h => by rw [← hAe]; exact Or.inr h
  have hS : va_S A s.heap s.heap [] := va_S.rf
  have hP : va_P (dC, dI) vwCl [(ru, .inr (6, [.int ru_knots, .ref ru_kind, .ref ru_number, .ref ru_from, .ref ru_until, .ref ru_names, .ref ru_stack])), (ru_from, .inl (k_ru_from, 5, .inl f_ru_from)), (ru_until, .inl (k_ru_until, 5, .inl f_ru_until))] s.heap := hP
  have hl := lv_entry ([.ref ru, .int vp]) (n := 2) (Nat.le_of_ble_eq_true rfl)
  rw [lg_entry_eq]
  generalize (lg_sl ([.ref ru, .int vp]) ++ List.replicate (2 - (lg_sl ([.ref ru, .int vp])).length) Slot.unset).toArray = ls at hl ⊢
  have hl : lv_has ls 2 [(0, .ref ru), (1, .int vp)] := hl
  refine lv_aload_n hx hb dX6_has_0 rfl (lv_at hl 0 rfl) ?_
  refine va_get (D := (dC, dI)) (ci := 6) (v := .ref ru_from) (C := RX6) (T := TX6) (N := 7) hx hb hT inX6 hown hK hP 0 rfl rfl 3 (by decide) (hT _ mw_1_168) (fun _ h9 => h9) rfl dX6_has_1 ?_
  refine lv_iload_n hx hb dX6_has_4 rfl (lv_at hl 1 rfl) ?_
  refine va_iald hx hb hK hP 1 0 rfl rfl (vp_in_iff.mpr (by omega)) dX6_has_5 ?_
  refine lv_topi (fun z_1 ez_1 => ?_)
  have kz_1 : 0 ≤ z_1.toInt ∧ z_1.toInt ≤ 64 := by rw [ez_1]; exact h_f_ru_from _
  refine lv_aload_n hx hb dX6_has_6 rfl (lv_at hl 0 rfl) ?_
  refine va_get (D := (dC, dI)) (ci := 6) (v := .ref ru_until) (C := RX6) (T := TX6) (N := 7) hx hb hT inX6 hown hK hP 0 rfl rfl 4 (by decide) (hT _ mw_1_170) (fun _ h9 => h9) rfl dX6_has_7 ?_
  refine lv_iload_n hx hb dX6_has_10 rfl (lv_at hl 1 rfl) ?_
  refine va_iald hx hb hK hP 2 1 rfl rfl (vp_in_iff.mpr (by omega)) dX6_has_11 ?_
  refine lv_topi (fun z_2 ez_2 => ?_)
  have kz_2 : 0 ≤ z_2.toInt ∧ z_2.toInt ≤ 64 := by rw [ez_2]; exact h_f_ru_until _
  refine lv_icmp_ge (tgt := 19) hx hb dX6_has_12 (by decide) (fun c_3 => ?_) (fun c_3 => ?_)
  · have kc_3 := il_le c_3
    refine lv_iconst (v := 0) hx hb dX6_has_19 (by decide) ?_
    have hP9 := hP.sub (ws' := [(ru, .inr (6, [.int ru_knots, .ref ru_kind, .ref ru_number, .ref ru_from, .ref ru_until, .ref ru_names, .ref ru_stack])), (ru_from, .inl (k_ru_from, 5, .inl f_ru_from)), (ru_until, .inl (k_ru_until, 5, .inl f_ru_until))]) [0, 1, 2] rfl
    have hD9 := hD.sub (ws' := [(ru, .inr (6, [.int ru_knots, .ref ru_kind, .ref ru_number, .ref ru_from, .ref ru_until, .ref ru_names, .ref ru_stack])), (ru_from, .inl (k_ru_from, 5, .inl f_ru_from)), (ru_until, .inl (k_ru_until, 5, .inl f_ru_until))]) [0, 1, 2] (by decide) rfl
    have := (by decide : (0 : Int32).toInt = 0)
    exact W.zret (v := 0) hx hb hr (by decide) (fun t ht hW => ⟨⟨0, (), rfl, (by first | omega | (refine ⟨?_, ?_⟩ <;> omega) | rfl | (intros; omega)), by rw [ht]; exact hP9, hD9⟩, hS.F ht⟩) hS.2.2 dX6_has_20
  · have kc_3 := il_nle c_3
    refine lv_iconst (v := 1) hx hb dX6_has_15 (by decide) ?_
    refine lv_goto (tgt := 20) hx hb dX6_has_16 (by decide) ?_
    have hP9 := hP.sub (ws' := [(ru, .inr (6, [.int ru_knots, .ref ru_kind, .ref ru_number, .ref ru_from, .ref ru_until, .ref ru_names, .ref ru_stack])), (ru_from, .inl (k_ru_from, 5, .inl f_ru_from)), (ru_until, .inl (k_ru_until, 5, .inl f_ru_until))]) [0, 1, 2] rfl
    have hD9 := hD.sub (ws' := [(ru, .inr (6, [.int ru_knots, .ref ru_kind, .ref ru_number, .ref ru_from, .ref ru_until, .ref ru_names, .ref ru_stack])), (ru_from, .inl (k_ru_from, 5, .inl f_ru_from)), (ru_until, .inl (k_ru_until, 5, .inl f_ru_until))]) [0, 1, 2] (by decide) rfl
    have := (by decide : (1 : Int32).toInt = 1)
    exact W.zret (v := 1) hx hb hr (by decide) (fun t ht hW => ⟨⟨1, (), rfl, (by first | omega | (refine ⟨?_, ?_⟩ <;> omega) | rfl | (intros; omega)), by rw [ht]; exact hP9, hD9⟩, hS.F ht⟩) hS.2.2 dX6_has_20
abbrev q_X6_name (dC : Nat → ClassId) (dI : Nat → Nat → Nat) (A : Nat → Prop) (ru : Nat) (v0 : Int32) (v1 : Int32) (v2 : Int32) (v3 : Int32) (ru_knots : Int32) (ru_kind : Nat) (ru_number : Nat) (ru_from : Nat) (ru_until : Nat) (ru_names : Nat) (ru_stack : Nat) (k_ru_names : ClassId) (f_ru_names : Nat → Int64) : Array Value → State → Outcome → State → Prop := va_Qv (fun _ : Unit => True) (fun (_ : Unit) (t : State) => ∃ (g_ru_names : Nat → Int64), va_P (dC, dI) vwCl [(ru, .inr (6, [.int ru_knots, .ref ru_kind, .ref ru_number, .ref ru_from, .ref ru_until, .ref ru_names, .ref ru_stack])), (ru_names, .inl (k_ru_names, 5, .inr (.inl g_ru_names)))] t.heap ∧ va_D A [(ru, .inr (6, [.int ru_knots, .ref ru_kind, .ref ru_number, .ref ru_from, .ref ru_until, .ref ru_names, .ref ru_stack])), (ru_names, .inl (k_ru_names, 5, .inr (.inl g_ru_names)))]) A
set_option maxHeartbeats 4000000 in
set_option maxRecDepth 100000 in
theorem c_X6_name (l : Launch) (dC : Nat → ClassId) (dI : Nat → Nat → Nat) (sz : Nat) (ru : Nat) (v0 : Int32) (v1 : Int32) (v2 : Int32) (v3 : Int32) (ru_knots : Int32) (ru_kind : Nat) (ru_number : Nat) (ru_from : Nat) (ru_until : Nat) (ru_names : Nat) (ru_stack : Nat) (k_ru_names : ClassId) (f_ru_names : Nat → Int64) (h_ru_knots : 0 ≤ ru_knots.toInt ∧ ru_knots.toInt ≤ 64) : Met l yX6_name (pw_w yX6_name cX6_name 5 none) ({ frames := 0, cells := 0, slots := 0, locals := 0 }) (va_Pc [.ref ru, .int v0, .int v1, .int v2, .int v3] (fun U => U.heap.size = sz ∧ va_P (dC, dI) vwCl [(ru, .inr (6, [.int ru_knots, .ref ru_kind, .ref ru_number, .ref ru_from, .ref ru_until, .ref ru_names, .ref ru_stack])), (ru_names, .inl (k_ru_names, 5, .inr (.inl f_ru_names)))] U.heap ∧ va_K (dC, dI) vwCl [(k_ru_names, .long)] U ∧ va_D (fun _ => True) [(ru, .inr (6, [.int ru_knots, .ref ru_kind, .ref ru_number, .ref ru_from, .ref ru_until, .ref ru_names, .ref ru_stack])), (ru_names, .inl (k_ru_names, 5, .inr (.inl f_ru_names)))])) (q_X6_name dC dI (va_A [(ru, .inr (6, [.int ru_knots, .ref ru_kind, .ref ru_number, .ref ru_from, .ref ru_until, .ref ru_names, .ref ru_stack])), (ru_names, .inl (k_ru_names, 5, .inr (.inl f_ru_names)))] sz) ru v0 v1 v2 v3 ru_knots ru_kind ru_number ru_from ru_until ru_names ru_stack k_ru_names f_ru_names) 0 0 (va_A [(ru, .inr (6, [.int ru_knots, .ref ru_kind, .ref ru_number, .ref ru_from, .ref ru_until, .ref ru_names, .ref ru_stack])), (ru_names, .inl (k_ru_names, 5, .inr (.inl f_ru_names)))] sz) := by
  refine Met.ofW (cc := cX6_name) (maxL := 5) (ret := none) (by decide) rfl ?_
  intro p e s m args below meth c s₁ B hml hv
  obtain ⟨rfl, hsz, hP, hK, hD0⟩ := hv
  have hx := B.exec
  have hb := B.bytes
  have hr := B.returns
  have hts := atoms_spec (ws := (pw_w yX6_name cX6_name 5 none)) B.pre
  have hT : ∀ w ∈ pw_T, w.before _ s = true := fun w h => hts w (List.mem_cons_of_mem _ h)
  have hown : s.vm.findClass RX6 = some m.cls := findClass_of_methodNamed B.named
  have hlocks := B.notSynchronized
  subst hsz
  have hD := hD0.self (sz := s.heap.size)
  generalize hAe : va_A [(ru, .inr (6, [.int ru_knots, .ref ru_kind, .ref ru_number, .ref ru_from, .ref ru_until, .ref ru_names, .ref ru_stack])), (ru_names, .inl (k_ru_names, 5, .inr (.inl f_ru_names)))] s.heap.size = A at hD ⊢
  have hA : ∀ q : Nat, s.heap.size ≤ q → A q := fun q h => by rw [← hAe]; exact Or.inr h
  have hS : va_S A s.heap s.heap [] := va_S.rf
  have hP : va_P (dC, dI) vwCl [(ru, .inr (6, [.int ru_knots, .ref ru_kind, .ref ru_number, .ref ru_from, .ref ru_until, .ref ru_names, .ref ru_stack])), (ru_names, .inl (k_ru_names, 5, .inr (.inl f_ru_names)))] s.heap := hP
  have hl := lv_entry ([.ref ru, .int v0, .int v1, .int v2, .int v3]) (n := 5) (Nat.le_of_ble_eq_true rfl)
  rw [lg_entry_eq]
  generalize (lg_sl ([.ref ru, .int v0, .int v1, .int v2, .int v3]) ++ List.replicate (5 - (lg_sl ([.ref ru, .int v0, .int v1, .int v2, .int v3])).length) Slot.unset).toArray = ls at hl ⊢
  have hl : lv_has ls 5 [(0, .ref ru), (1, .int v0), (2, .int v1), (3, .int v2), (4, .int v3)] := hl
  refine lv_aload_n hx hb dX6_name_0 rfl (lv_at hl 0 rfl) ?_
  refine va_get (D := (dC, dI)) (ci := 6) (v := .ref ru_names) (C := RX6) (T := TX6) (N := 7) hx hb hT inX6 hown hK hP 0 rfl rfl 5 (by decide) (hT _ mw_1_172) (fun _ h9 => h9) rfl dX6_name_1 ?_
  refine lv_iconst (v := 0) hx hb dX6_name_4 (by decide) ?_
  refine lv_iload_n hx hb dX6_name_5 rfl (lv_at hl 1 rfl) ?_
  refine lv_i2l hx hb dX6_name_6 rfl ?_
  refine lv_topl (fun z_1 ez_1 => ?_)
  refine va_last hx hb hK hP hD hS 1 0 rfl rfl (pk_in 0 5 (by decide) (by decide) (by decide)) dX6_name_7 (fun H locs hP hD hS => ?_)
  have hP : va_P (dC, dI) vwCl [(ru, .inr (6, [.int ru_knots, .ref ru_kind, .ref ru_number, .ref ru_from, .ref ru_until, .ref ru_names, .ref ru_stack])), (ru_names, .inl (k_ru_names, 5, .inr (.inl (vp_updL f_ru_names (0 : Int32).toNatClampNeg z_1))))] H := hP
  have hD : va_D A [(ru, .inr (6, [.int ru_knots, .ref ru_kind, .ref ru_number, .ref ru_from, .ref ru_until, .ref ru_names, .ref ru_stack])), (ru_names, .inl (k_ru_names, 5, .inr (.inl (vp_updL f_ru_names (0 : Int32).toNatClampNeg z_1))))] := hD
  obtain ⟨f_2, ef_2⟩ : ∃ g : Nat → Int64, (vp_updL f_ru_names (0 : Int32).toNatClampNeg z_1) = g := ⟨_, rfl⟩
  rw [ef_2] at hP hD
  clear ef_2
  refine lv_aload_n hx hb dX6_name_8 rfl (lv_at hl 0 rfl) ?_
  refine va_get (D := (dC, dI)) (ci := 6) (v := .ref ru_names) (C := RX6) (T := TX6) (N := 7) hx hb hT inX6 hown hK hP 0 rfl rfl 5 (by decide) (hT _ mw_1_172) (fun _ h9 => h9) rfl dX6_name_9 ?_
  refine lv_iconst (v := 1) hx hb dX6_name_12 (by decide) ?_
  refine lv_iload_n hx hb dX6_name_13 rfl (lv_at hl 2 rfl) ?_
  refine lv_i2l hx hb dX6_name_14 rfl ?_
  refine lv_topl (fun z_3 ez_3 => ?_)
  refine va_last hx hb hK hP hD hS 1 0 rfl rfl (pk_in 1 5 (by decide) (by decide) (by decide)) dX6_name_15 (fun H locs hP hD hS => ?_)
  have hP : va_P (dC, dI) vwCl [(ru, .inr (6, [.int ru_knots, .ref ru_kind, .ref ru_number, .ref ru_from, .ref ru_until, .ref ru_names, .ref ru_stack])), (ru_names, .inl (k_ru_names, 5, .inr (.inl (vp_updL f_2 (1 : Int32).toNatClampNeg z_3))))] H := hP
  have hD : va_D A [(ru, .inr (6, [.int ru_knots, .ref ru_kind, .ref ru_number, .ref ru_from, .ref ru_until, .ref ru_names, .ref ru_stack])), (ru_names, .inl (k_ru_names, 5, .inr (.inl (vp_updL f_2 (1 : Int32).toNatClampNeg z_3))))] := hD
  obtain ⟨f_4, ef_4⟩ : ∃ g : Nat → Int64, (vp_updL f_2 (1 : Int32).toNatClampNeg z_3) = g := ⟨_, rfl⟩
  rw [ef_4] at hP hD
  clear ef_4
  refine lv_aload_n hx hb dX6_name_16 rfl (lv_at hl 0 rfl) ?_
  refine va_get (D := (dC, dI)) (ci := 6) (v := .ref ru_names) (C := RX6) (T := TX6) (N := 7) hx hb hT inX6 hown hK hP 0 rfl rfl 5 (by decide) (hT _ mw_1_172) (fun _ h9 => h9) rfl dX6_name_17 ?_
  refine lv_iconst (v := 2) hx hb dX6_name_20 (by decide) ?_
  refine lv_iload_n hx hb dX6_name_21 rfl (lv_at hl 3 rfl) ?_
  refine lv_i2l hx hb dX6_name_22 rfl ?_
  refine lv_topl (fun z_5 ez_5 => ?_)
  refine va_last hx hb hK hP hD hS 1 0 rfl rfl (pk_in 2 5 (by decide) (by decide) (by decide)) dX6_name_23 (fun H locs hP hD hS => ?_)
  have hP : va_P (dC, dI) vwCl [(ru, .inr (6, [.int ru_knots, .ref ru_kind, .ref ru_number, .ref ru_from, .ref ru_until, .ref ru_names, .ref ru_stack])), (ru_names, .inl (k_ru_names, 5, .inr (.inl (vp_updL f_4 (2 : Int32).toNatClampNeg z_5))))] H := hP
  have hD : va_D A [(ru, .inr (6, [.int ru_knots, .ref ru_kind, .ref ru_number, .ref ru_from, .ref ru_until, .ref ru_names, .ref ru_stack])), (ru_names, .inl (k_ru_names, 5, .inr (.inl (vp_updL f_4 (2 : Int32).toNatClampNeg z_5))))] := hD
  obtain ⟨f_6, ef_6⟩ : ∃ g : Nat → Int64, (vp_updL f_4 (2 : Int32).toNatClampNeg z_5) = g := ⟨_, rfl⟩
  rw [ef_6] at hP hD
  clear ef_6
  refine lv_aload_n hx hb dX6_name_24 rfl (lv_at hl 0 rfl) ?_
  refine va_get (D := (dC, dI)) (ci := 6) (v := .ref ru_names) (C := RX6) (T := TX6) (N := 7) hx hb hT inX6 hown hK hP 0 rfl rfl 5 (by decide) (hT _ mw_1_172) (fun _ h9 => h9) rfl dX6_name_25 ?_
  refine lv_iconst (v := 3) hx hb dX6_name_28 (by decide) ?_
  refine lv_iload hx hb dX6_name_29 (lv_at hl 4 rfl) ?_
  refine lv_bipush (v := 24) hx hb dX6_name_31 (by decide) ?_
  refine lv_irem hx hb dX6_name_33 (by decide) ?_
  refine lv_topi (fun z_7 ez_7 => ?_)
  clear ez_7
  refine lv_i2l hx hb dX6_name_34 rfl ?_
  refine lv_topl (fun z_8 ez_8 => ?_)
  refine va_last hx hb hK hP hD hS 1 0 rfl rfl (pk_in 3 5 (by decide) (by decide) (by decide)) dX6_name_35 (fun H locs hP hD hS => ?_)
  have hP : va_P (dC, dI) vwCl [(ru, .inr (6, [.int ru_knots, .ref ru_kind, .ref ru_number, .ref ru_from, .ref ru_until, .ref ru_names, .ref ru_stack])), (ru_names, .inl (k_ru_names, 5, .inr (.inl (vp_updL f_6 (3 : Int32).toNatClampNeg z_8))))] H := hP
  have hD : va_D A [(ru, .inr (6, [.int ru_knots, .ref ru_kind, .ref ru_number, .ref ru_from, .ref ru_until, .ref ru_names, .ref ru_stack])), (ru_names, .inl (k_ru_names, 5, .inr (.inl (vp_updL f_6 (3 : Int32).toNatClampNeg z_8))))] := hD
  obtain ⟨f_9, ef_9⟩ : ∃ g : Nat → Int64, (vp_updL f_6 (3 : Int32).toNatClampNeg z_8) = g := ⟨_, rfl⟩
  rw [ef_9] at hP hD
  clear ef_9
  refine lv_aload_n hx hb dX6_name_36 rfl (lv_at hl 0 rfl) ?_
  refine va_get (D := (dC, dI)) (ci := 6) (v := .ref ru_names) (C := RX6) (T := TX6) (N := 7) hx hb hT inX6 hown hK hP 0 rfl rfl 5 (by decide) (hT _ mw_1_172) (fun _ h9 => h9) rfl dX6_name_37 ?_
  refine lv_iconst (v := 4) hx hb dX6_name_40 (by decide) ?_
  refine lv_iload hx hb dX6_name_41 (lv_at hl 4 rfl) ?_
  refine lv_bipush (v := 24) hx hb dX6_name_43 (by decide) ?_
  refine lv_idiv hx hb dX6_name_45 (by decide) ?_
  refine lv_topi (fun z_10 ez_10 => ?_)
  clear ez_10
  refine lv_bipush (v := 7) hx hb dX6_name_46 (by decide) ?_
  refine lv_irem hx hb dX6_name_48 (by decide) ?_
  refine lv_topi (fun z_11 ez_11 => ?_)
  clear ez_11
  refine lv_i2l hx hb dX6_name_49 rfl ?_
  refine lv_topl (fun z_12 ez_12 => ?_)
  refine va_last hx hb hK hP hD hS 1 0 rfl rfl (pk_in 4 5 (by decide) (by decide) (by decide)) dX6_name_50 (fun H locs hP hD hS => ?_)
  have hP : va_P (dC, dI) vwCl [(ru, .inr (6, [.int ru_knots, .ref ru_kind, .ref ru_number, .ref ru_from, .ref ru_until, .ref ru_names, .ref ru_stack])), (ru_names, .inl (k_ru_names, 5, .inr (.inl (vp_updL f_9 (4 : Int32).toNatClampNeg z_12))))] H := hP
  have hD : va_D A [(ru, .inr (6, [.int ru_knots, .ref ru_kind, .ref ru_number, .ref ru_from, .ref ru_until, .ref ru_names, .ref ru_stack])), (ru_names, .inl (k_ru_names, 5, .inr (.inl (vp_updL f_9 (4 : Int32).toNatClampNeg z_12))))] := hD
  obtain ⟨f_13, ef_13⟩ : ∃ g : Nat → Int64, (vp_updL f_9 (4 : Int32).toNatClampNeg z_12) = g := ⟨_, rfl⟩
  rw [ef_13] at hP hD
  clear ef_13
  have hP9 := hP.sub (ws' := [(ru, .inr (6, [.int ru_knots, .ref ru_kind, .ref ru_number, .ref ru_from, .ref ru_until, .ref ru_names, .ref ru_stack])), (ru_names, .inl (k_ru_names, 5, .inr (.inl f_13)))]) [0, 1] rfl
  have hD9 := hD.sub (ws' := [(ru, .inr (6, [.int ru_knots, .ref ru_kind, .ref ru_number, .ref ru_from, .ref ru_until, .ref ru_names, .ref ru_stack])), (ru_names, .inl (k_ru_names, 5, .inr (.inl f_13)))]) [0, 1] (by decide) rfl
  exact W.vret hx hb hr (fun t ht hW => ⟨⟨(), rfl, trivial, f_13, by rw [ht]; exact hP9, hD9⟩, hS.F ht⟩) hS.2.2 dX6_name_51
abbrev q_X6_joined (dC : Nat → ClassId) (dI : Nat → Nat → Nat) (A : Nat → Prop) (v0 : Int32) (w1 : Int64) (w2 : Int64) : Array Value → State → Outcome → State → Prop := va_Ql (fun (r : Int64) (_ : Unit) => True) (fun (_ : Unit) (t : State) => va_P (dC, dI) vwCl [] t.heap ∧ va_D A []) A
set_option maxHeartbeats 4000000 in
set_option maxRecDepth 100000 in
theorem c_X6_joined (l : Launch) (dC : Nat → ClassId) (dI : Nat → Nat → Nat) (sz : Nat) (v0 : Int32) (w1 : Int64) (w2 : Int64)  : Met l yX6_joined (pw_w yX6_joined cX6_joined 5 (some .long)) ({ frames := 1, cells := 0, slots := 0, locals := 21 }) (va_Pc [.int v0, .long w1, .long w2] (fun U => U.heap.size = sz ∧ va_P (dC, dI) vwCl [] U.heap ∧ va_K (dC, dI) vwCl [] U ∧ va_D (fun _ => True) [])) (q_X6_joined dC dI (va_A [] sz) v0 w1 w2) 0 0 (va_A [] sz) := by
  refine Met.ofW (cc := cX6_joined) (maxL := 5) (ret := (some .long)) (by decide) rfl ?_
  intro p e s m args below meth c s₁ B hml hv
  obtain ⟨rfl, hsz, hP, hK, hD0⟩ := hv
  have hx := B.exec
  have hb := B.bytes
  have hr := B.returns
  have hts := atoms_spec (ws := (pw_w yX6_joined cX6_joined 5 (some .long))) B.pre
  have hT : ∀ w ∈ pw_T, w.before _ s = true := fun w h => hts w (List.mem_cons_of_mem _ h)
  have hown : s.vm.findClass RX6 = some m.cls := findClass_of_methodNamed B.named
  have hlocks := B.notSynchronized
  subst hsz
  have hD := hD0.self (sz := s.heap.size)
  generalize hAe : va_A [] s.heap.size = A at hD ⊢
  have hA : ∀ q : Nat, s.heap.size ≤ q → A q := fun q h => by rw [← hAe]; exact Or.inr h
  have hS : va_S A s.heap s.heap [] := va_S.rf
  have hP : va_P (dC, dI) vwCl [] s.heap := hP
  have hl := lv_entry ([.int v0, .long w1, .long w2]) (n := 5) (Nat.le_of_ble_eq_true rfl)
  rw [lg_entry_eq]
  generalize (lg_sl ([.int v0, .long w1, .long w2]) ++ List.replicate (5 - (lg_sl ([.int v0, .long w1, .long w2])).length) Slot.unset).toArray = ls at hl ⊢
  have hl : lv_has ls 5 [(0, .int v0), (1, .long w1), (3, .long w2)] := hl
  refine lv_iload_n hx hb dX6_joined_0 rfl (lv_at hl 0 rfl) ?_
  by_cases w_1 : v0 = 7
  · have kw_1 := il_eq w_1
    have := (by decide : (7 : Int32).toInt = 7)
    refine lv_tableIn (off := 123) (tgt := 124) hx hb dX6_joined_1 (by rw [w_1]; decide) (by rw [w_1]; decide) (by rw [w_1]; decide) (by decide) ?_
    refine lv_lload_n hx hb dX6_joined_124 rfl (lv_at hl 1 rfl) ?_
    refine lv_lload_n hx hb dX6_joined_125 rfl (lv_at hl 2 rfl) ?_
    refine lv_ladd hx hb dX6_joined_126 ?_
    refine lv_topl (fun z_2 ez_2 => ?_)
    clear ez_2
    have hP9 := hP.sub (ws' := []) [] rfl
    have hD9 := hD.sub (ws' := []) [] (by decide) rfl
    exact W.lret (v := z_2) hx hb hr (fun t ht hW => ⟨⟨z_2, (), rfl, trivial, by rw [ht]; exact hP9, hD9⟩, hS.F ht⟩) hS.2.2 dX6_joined_127
  · have kw_1 := il_ne w_1
    have := (by decide : (7 : Int32).toInt = 7)
    by_cases w_3 : v0 = 8
    · have kw_3 := il_eq w_3
      have := (by decide : (8 : Int32).toInt = 8)
      refine lv_tableIn (off := 127) (tgt := 128) hx hb dX6_joined_1 (by rw [w_3]; decide) (by rw [w_3]; decide) (by rw [w_3]; decide) (by decide) ?_
      refine lv_lload_n hx hb dX6_joined_128 rfl (lv_at hl 1 rfl) ?_
      refine lv_lload_n hx hb dX6_joined_129 rfl (lv_at hl 2 rfl) ?_
      refine lv_lsub hx hb dX6_joined_130 ?_
      refine lv_topl (fun z_4 ez_4 => ?_)
      clear ez_4
      have hP9 := hP.sub (ws' := []) [] rfl
      have hD9 := hD.sub (ws' := []) [] (by decide) rfl
      exact W.lret (v := z_4) hx hb hr (fun t ht hW => ⟨⟨z_4, (), rfl, trivial, by rw [ht]; exact hP9, hD9⟩, hS.F ht⟩) hS.2.2 dX6_joined_131
    · have kw_3 := il_ne w_3
      have := (by decide : (8 : Int32).toInt = 8)
      by_cases w_5 : v0 = 9
      · have kw_5 := il_eq w_5
        have := (by decide : (9 : Int32).toInt = 9)
        refine lv_tableIn (off := 131) (tgt := 132) hx hb dX6_joined_1 (by rw [w_5]; decide) (by rw [w_5]; decide) (by rw [w_5]; decide) (by decide) ?_
        refine lv_lload_n hx hb dX6_joined_132 rfl (lv_at hl 1 rfl) ?_
        refine lv_lconst (v := 0) hx hb dX6_joined_133 (by decide) ?_
        refine W.lcmp hx hb dX6_joined_134 ?_
        refine lv_topi (fun z_6 ez_6 => ?_)
        have kz_6 : -1 ≤ z_6.toInt ∧ z_6.toInt ≤ 1 := lc_rng ez_6
        refine lv_if_eq (tgt := 160) hx hb dX6_joined_135 (by decide) (fun c_7 => ?_) (fun c_7 => ?_)
        · have kc_7 := il_eq c_7
          have := (by decide : (0 : Int32).toInt = 0)
          refine lv_lload_n hx hb dX6_joined_160 rfl (lv_at hl 1 rfl) ?_
          refine lv_lload_n hx hb dX6_joined_161 rfl (lv_at hl 2 rfl) ?_
          refine lv_lmul hx hb dX6_joined_162 ?_
          refine lv_topl (fun z_8 ez_8 => ?_)
          clear ez_8
          have hP9 := hP.sub (ws' := []) [] rfl
          have hD9 := hD.sub (ws' := []) [] (by decide) rfl
          exact W.lret (v := z_8) hx hb hr (fun t ht hW => ⟨⟨z_8, (), rfl, trivial, by rw [ht]; exact hP9, hD9⟩, hS.F ht⟩) hS.2.2 dX6_joined_163
        · have kc_7 := il_ne c_7
          have := (by decide : (0 : Int32).toInt = 0)
          have nc_7 : ¬ w1 = 0 := lc_ne ez_6 (by omega)
          refine lv_lload_n hx hb dX6_joined_138 rfl (lv_at hl 2 rfl) ?_
          have hPc := hP.sub (ws' := []) [] rfl
          have hDc := hD.sub (ws' := []) [] (by decide) rfl
          have hKc := hK.sub (tys' := []) [] rfl
          have hFc := va_free (wc := []) hD hS hA [] rfl
          refine va_calll (va_runS (As := [.long w2]) (rest := []) ⟨hx, hb, hml, hown, hT⟩ (c_J9_abs_067f4 l dC dI s.heap.size w2 ) (va_cwS 1 hT (gwS mw_4_96 mw_4_97 mw_1_17 mw_4_98) rfl rfl rfl (by decide +kernel) ⟨Nat.le_of_ble_eq_true rfl, Nat.le_of_ble_eq_true rfl⟩) ⟨fun a U g mk q => by obtain ⟨q0, q1, qP, qK, qD⟩ := q; exact ⟨q0, q1, qP, va_K.moved (u := U) (U := U.calling g mk a) (Vm.Alike.refl U.vm) qK, qD⟩, fun U hU hW => ⟨rfl, by rw [hU], by rw [hU]; exact hPc, va_K.moved hW.alike hKc, hDc.weaken (fun _ _ _ _ => trivial)⟩⟩ rfl rfl hl.1 rfl (lv_room (Nat.le_of_ble_eq_true rfl)) dX6_joined_139 ⟨Nat.le_of_ble_eq_true rfl, Nat.le_of_ble_eq_true rfl⟩) hS (fun q _ h => hFc q h) hFc (fun r_9 u t H1 locs ht hvm hw hB hz1 hk1 hS => ?_)
          obtain ⟨hP1, hD1⟩ := hB
          rw [ht] at hP1
          obtain ⟨hP, hD⟩ := va_join (wr := []) (w1 := []) hP hD [] [] rfl rfl (by decide) (by decide) hk1 hFc hP1 hD1
          generalize H1 = H at hP hS ⊢
          have hP : va_P (dC, dI) vwCl [] H := hP
          have hD : va_D A [] := hD
          clear hPc hDc hKc hFc hP1 hD1 hk1 hz1 ht hvm
          have hwr_9 : ¬ w2 = 0 → ¬ r_9 = 0 := hw
          clear hw
          refine lv_ldc2 (v := 1000000000000) hx hb hown (hT _ mw_4_99) dX6_joined_142 ?_
          refine lv_lload_n hx hb dX6_joined_145 rfl (lv_at hl 1 rfl) ?_
          have hPc := hP.sub (ws' := []) [] rfl
          have hDc := hD.sub (ws' := []) [] (by decide) rfl
          have hKc := hK.sub (tys' := []) [] rfl
          have hFc := va_free (wc := []) hD hS hA [] rfl
          refine va_calll (va_runS (As := [.long w1]) (rest := [.long 1000000000000, .long r_9]) ⟨hx, hb, hml, hown, hT⟩ (c_J9_abs_067f4 l dC dI H.size w1 ) (va_cwS 1 hT (gwS mw_4_96 mw_4_97 mw_1_17 mw_4_98) rfl rfl rfl (by decide +kernel) ⟨Nat.le_of_ble_eq_true rfl, Nat.le_of_ble_eq_true rfl⟩) ⟨fun a U g mk q => by obtain ⟨q0, q1, qP, qK, qD⟩ := q; exact ⟨q0, q1, qP, va_K.moved (u := U) (U := U.calling g mk a) (Vm.Alike.refl U.vm) qK, qD⟩, fun U hU hW => ⟨rfl, by rw [hU], by rw [hU]; exact hPc, va_K.moved hW.alike hKc, hDc.weaken (fun _ _ _ _ => trivial)⟩⟩ rfl rfl hl.1 rfl (lv_room (Nat.le_of_ble_eq_true rfl)) dX6_joined_146 ⟨Nat.le_of_ble_eq_true rfl, Nat.le_of_ble_eq_true rfl⟩) hS (fun q _ h => hFc q h) hFc (fun r_10 u t H1 locs ht hvm hw hB hz1 hk1 hS => ?_)
          obtain ⟨hP1, hD1⟩ := hB
          rw [ht] at hP1
          obtain ⟨hP, hD⟩ := va_join (wr := []) (w1 := []) hP hD [] [] rfl rfl (by decide) (by decide) hk1 hFc hP1 hD1
          generalize H1 = H at hP hS ⊢
          have hP : va_P (dC, dI) vwCl [] H := hP
          have hD : va_D A [] := hD
          clear hPc hDc hKc hFc hP1 hD1 hk1 hz1 ht hvm
          have hwr_10 : ¬ w1 = 0 → ¬ r_10 = 0 := hw
          clear hw
          refine lv_ldiv hx hb dX6_joined_149 (hwr_10 nc_7) ?_
          refine lv_topl (fun z_11 ez_11 => ?_)
          clear ez_11
          refine W.lcmp hx hb dX6_joined_150 ?_
          refine lv_topi (fun z_12 ez_12 => ?_)
          have kz_12 : -1 ≤ z_12.toInt ∧ z_12.toInt ≤ 1 := lc_rng ez_12
          refine lv_if_le (tgt := 160) hx hb dX6_joined_151 (by decide) (fun c_13 => ?_) (fun c_13 => ?_)
          · have kc_13 := il_le c_13
            have := (by decide : (0 : Int32).toInt = 0)
            refine lv_lload_n hx hb dX6_joined_160 rfl (lv_at hl 1 rfl) ?_
            refine lv_lload_n hx hb dX6_joined_161 rfl (lv_at hl 2 rfl) ?_
            refine lv_lmul hx hb dX6_joined_162 ?_
            refine lv_topl (fun z_14 ez_14 => ?_)
            clear ez_14
            have hP9 := hP.sub (ws' := []) [] rfl
            have hD9 := hD.sub (ws' := []) [] (by decide) rfl
            exact W.lret (v := z_14) hx hb hr (fun t ht hW => ⟨⟨z_14, (), rfl, trivial, by rw [ht]; exact hP9, hD9⟩, hS.F ht⟩) hS.2.2 dX6_joined_163
          · have kc_13 := il_nle c_13
            have := (by decide : (0 : Int32).toInt = 0)
            refine lv_ldc2 (v := (-9223372036854775808)) hx hb hown (hT _ mw_4_92) dX6_joined_154 ?_
            refine lv_goto (tgt := 163) hx hb dX6_joined_157 (by decide) ?_
            have hP9 := hP.sub (ws' := []) [] rfl
            have hD9 := hD.sub (ws' := []) [] (by decide) rfl
            exact W.lret (v := (-9223372036854775808)) hx hb hr (fun t ht hW => ⟨⟨(-9223372036854775808), (), rfl, trivial, by rw [ht]; exact hP9, hD9⟩, hS.F ht⟩) hS.2.2 dX6_joined_163
      · have kw_5 := il_ne w_5
        have := (by decide : (9 : Int32).toInt = 9)
        by_cases w_15 : v0 = 10
        · have kw_15 := il_eq w_15
          have := (by decide : (10 : Int32).toInt = 10)
          refine lv_tableIn (off := 163) (tgt := 164) hx hb dX6_joined_1 (by rw [w_15]; decide) (by rw [w_15]; decide) (by rw [w_15]; decide) (by decide) ?_
          refine lv_lload_n hx hb dX6_joined_164 rfl (lv_at hl 2 rfl) ?_
          refine lv_lconst (v := 0) hx hb dX6_joined_165 (by decide) ?_
          refine W.lcmp hx hb dX6_joined_166 ?_
          refine lv_topi (fun z_16 ez_16 => ?_)
          have kz_16 : -1 ≤ z_16.toInt ∧ z_16.toInt ≤ 1 := lc_rng ez_16
          refine lv_if_ne (tgt := 176) hx hb dX6_joined_167 (by decide) (fun c_17 => ?_) (fun c_17 => ?_)
          · have kc_17 := il_ne c_17
            have := (by decide : (0 : Int32).toInt = 0)
            have nc_17 : ¬ w2 = 0 := lc_ne ez_16 (by omega)
            refine lv_lload_n hx hb dX6_joined_176 rfl (lv_at hl 1 rfl) ?_
            refine lv_lload_n hx hb dX6_joined_177 rfl (lv_at hl 2 rfl) ?_
            refine lv_ldiv hx hb dX6_joined_178 nc_17 ?_
            refine lv_topl (fun z_18 ez_18 => ?_)
            clear ez_18
            have hP9 := hP.sub (ws' := []) [] rfl
            have hD9 := hD.sub (ws' := []) [] (by decide) rfl
            exact W.lret (v := z_18) hx hb hr (fun t ht hW => ⟨⟨z_18, (), rfl, trivial, by rw [ht]; exact hP9, hD9⟩, hS.F ht⟩) hS.2.2 dX6_joined_179
          · have kc_17 := il_eq c_17
            have := (by decide : (0 : Int32).toInt = 0)
            refine lv_ldc2 (v := (-9223372036854775808)) hx hb hown (hT _ mw_4_92) dX6_joined_170 ?_
            refine lv_goto (tgt := 179) hx hb dX6_joined_173 (by decide) ?_
            have hP9 := hP.sub (ws' := []) [] rfl
            have hD9 := hD.sub (ws' := []) [] (by decide) rfl
            exact W.lret (v := (-9223372036854775808)) hx hb hr (fun t ht hW => ⟨⟨(-9223372036854775808), (), rfl, trivial, by rw [ht]; exact hP9, hD9⟩, hS.F ht⟩) hS.2.2 dX6_joined_179
        · have kw_15 := il_ne w_15
          have := (by decide : (10 : Int32).toInt = 10)
          by_cases w_19 : v0 = 11
          · have kw_19 := il_eq w_19
            have := (by decide : (11 : Int32).toInt = 11)
            refine lv_tableIn (off := 179) (tgt := 180) hx hb dX6_joined_1 (by rw [w_19]; decide) (by rw [w_19]; decide) (by rw [w_19]; decide) (by decide) ?_
            refine lv_lload_n hx hb dX6_joined_180 rfl (lv_at hl 1 rfl) ?_
            refine lv_lload_n hx hb dX6_joined_181 rfl (lv_at hl 2 rfl) ?_
            refine W.lcmp hx hb dX6_joined_182 ?_
            refine lv_topi (fun z_20 ez_20 => ?_)
            have kz_20 : -1 ≤ z_20.toInt ∧ z_20.toInt ≤ 1 := lc_rng ez_20
            refine lv_if_ge (tgt := 190) hx hb dX6_joined_183 (by decide) (fun c_21 => ?_) (fun c_21 => ?_)
            · have kc_21 := il_le c_21
              have := (by decide : (0 : Int32).toInt = 0)
              refine lv_lconst (v := 0) hx hb dX6_joined_190 (by decide) ?_
              have hP9 := hP.sub (ws' := []) [] rfl
              have hD9 := hD.sub (ws' := []) [] (by decide) rfl
              exact W.lret (v := 0) hx hb hr (fun t ht hW => ⟨⟨0, (), rfl, trivial, by rw [ht]; exact hP9, hD9⟩, hS.F ht⟩) hS.2.2 dX6_joined_191
            · have kc_21 := il_nle c_21
              have := (by decide : (0 : Int32).toInt = 0)
              refine lv_lconst (v := 1) hx hb dX6_joined_186 (by decide) ?_
              refine lv_goto (tgt := 191) hx hb dX6_joined_187 (by decide) ?_
              have hP9 := hP.sub (ws' := []) [] rfl
              have hD9 := hD.sub (ws' := []) [] (by decide) rfl
              exact W.lret (v := 1) hx hb hr (fun t ht hW => ⟨⟨1, (), rfl, trivial, by rw [ht]; exact hP9, hD9⟩, hS.F ht⟩) hS.2.2 dX6_joined_191
          · have kw_19 := il_ne w_19
            have := (by decide : (11 : Int32).toInt = 11)
            by_cases w_22 : v0 = 12
            · have kw_22 := il_eq w_22
              have := (by decide : (12 : Int32).toInt = 12)
              refine lv_tableIn (off := 191) (tgt := 192) hx hb dX6_joined_1 (by rw [w_22]; decide) (by rw [w_22]; decide) (by rw [w_22]; decide) (by decide) ?_
              refine lv_lload_n hx hb dX6_joined_192 rfl (lv_at hl 1 rfl) ?_
              refine lv_lload_n hx hb dX6_joined_193 rfl (lv_at hl 2 rfl) ?_
              refine W.lcmp hx hb dX6_joined_194 ?_
              refine lv_topi (fun z_23 ez_23 => ?_)
              have kz_23 : -1 ≤ z_23.toInt ∧ z_23.toInt ≤ 1 := lc_rng ez_23
              refine lv_if_gt (tgt := 202) hx hb dX6_joined_195 (by decide) (fun c_24 => ?_) (fun c_24 => ?_)
              · have kc_24 := il_lt c_24
                have := (by decide : (0 : Int32).toInt = 0)
                refine lv_lconst (v := 0) hx hb dX6_joined_202 (by decide) ?_
                have hP9 := hP.sub (ws' := []) [] rfl
                have hD9 := hD.sub (ws' := []) [] (by decide) rfl
                exact W.lret (v := 0) hx hb hr (fun t ht hW => ⟨⟨0, (), rfl, trivial, by rw [ht]; exact hP9, hD9⟩, hS.F ht⟩) hS.2.2 dX6_joined_203
              · have kc_24 := il_nlt c_24
                have := (by decide : (0 : Int32).toInt = 0)
                refine lv_lconst (v := 1) hx hb dX6_joined_198 (by decide) ?_
                refine lv_goto (tgt := 203) hx hb dX6_joined_199 (by decide) ?_
                have hP9 := hP.sub (ws' := []) [] rfl
                have hD9 := hD.sub (ws' := []) [] (by decide) rfl
                exact W.lret (v := 1) hx hb hr (fun t ht hW => ⟨⟨1, (), rfl, trivial, by rw [ht]; exact hP9, hD9⟩, hS.F ht⟩) hS.2.2 dX6_joined_203
            · have kw_22 := il_ne w_22
              have := (by decide : (12 : Int32).toInt = 12)
              by_cases w_25 : v0 = 13
              · have kw_25 := il_eq w_25
                have := (by decide : (13 : Int32).toInt = 13)
                refine lv_tableIn (off := 203) (tgt := 204) hx hb dX6_joined_1 (by rw [w_25]; decide) (by rw [w_25]; decide) (by rw [w_25]; decide) (by decide) ?_
                refine lv_lload_n hx hb dX6_joined_204 rfl (lv_at hl 1 rfl) ?_
                refine lv_lload_n hx hb dX6_joined_205 rfl (lv_at hl 2 rfl) ?_
                refine W.lcmp hx hb dX6_joined_206 ?_
                refine lv_topi (fun z_26 ez_26 => ?_)
                have kz_26 : -1 ≤ z_26.toInt ∧ z_26.toInt ≤ 1 := lc_rng ez_26
                refine lv_if_ne (tgt := 214) hx hb dX6_joined_207 (by decide) (fun c_27 => ?_) (fun c_27 => ?_)
                · have kc_27 := il_ne c_27
                  have := (by decide : (0 : Int32).toInt = 0)
                  refine lv_lconst (v := 0) hx hb dX6_joined_214 (by decide) ?_
                  have hP9 := hP.sub (ws' := []) [] rfl
                  have hD9 := hD.sub (ws' := []) [] (by decide) rfl
                  exact W.lret (v := 0) hx hb hr (fun t ht hW => ⟨⟨0, (), rfl, trivial, by rw [ht]; exact hP9, hD9⟩, hS.F ht⟩) hS.2.2 dX6_joined_215
                · have kc_27 := il_eq c_27
                  have := (by decide : (0 : Int32).toInt = 0)
                  refine lv_lconst (v := 1) hx hb dX6_joined_210 (by decide) ?_
                  refine lv_goto (tgt := 215) hx hb dX6_joined_211 (by decide) ?_
                  have hP9 := hP.sub (ws' := []) [] rfl
                  have hD9 := hD.sub (ws' := []) [] (by decide) rfl
                  exact W.lret (v := 1) hx hb hr (fun t ht hW => ⟨⟨1, (), rfl, trivial, by rw [ht]; exact hP9, hD9⟩, hS.F ht⟩) hS.2.2 dX6_joined_215
              · have kw_25 := il_ne w_25
                have := (by decide : (13 : Int32).toInt = 13)
                by_cases w_28 : v0 = 14
                · have kw_28 := il_eq w_28
                  have := (by decide : (14 : Int32).toInt = 14)
                  refine lv_tableIn (off := 215) (tgt := 216) hx hb dX6_joined_1 (by rw [w_28]; decide) (by rw [w_28]; decide) (by rw [w_28]; decide) (by decide) ?_
                  refine lv_lload_n hx hb dX6_joined_216 rfl (lv_at hl 1 rfl) ?_
                  refine lv_lload_n hx hb dX6_joined_217 rfl (lv_at hl 2 rfl) ?_
                  refine W.lcmp hx hb dX6_joined_218 ?_
                  refine lv_topi (fun z_29 ez_29 => ?_)
                  have kz_29 : -1 ≤ z_29.toInt ∧ z_29.toInt ≤ 1 := lc_rng ez_29
                  refine lv_if_eq (tgt := 226) hx hb dX6_joined_219 (by decide) (fun c_30 => ?_) (fun c_30 => ?_)
                  · have kc_30 := il_eq c_30
                    have := (by decide : (0 : Int32).toInt = 0)
                    refine lv_lconst (v := 0) hx hb dX6_joined_226 (by decide) ?_
                    have hP9 := hP.sub (ws' := []) [] rfl
                    have hD9 := hD.sub (ws' := []) [] (by decide) rfl
                    exact W.lret (v := 0) hx hb hr (fun t ht hW => ⟨⟨0, (), rfl, trivial, by rw [ht]; exact hP9, hD9⟩, hS.F ht⟩) hS.2.2 dX6_joined_227
                  · have kc_30 := il_ne c_30
                    have := (by decide : (0 : Int32).toInt = 0)
                    refine lv_lconst (v := 1) hx hb dX6_joined_222 (by decide) ?_
                    refine lv_goto (tgt := 227) hx hb dX6_joined_223 (by decide) ?_
                    have hP9 := hP.sub (ws' := []) [] rfl
                    have hD9 := hD.sub (ws' := []) [] (by decide) rfl
                    exact W.lret (v := 1) hx hb hr (fun t ht hW => ⟨⟨1, (), rfl, trivial, by rw [ht]; exact hP9, hD9⟩, hS.F ht⟩) hS.2.2 dX6_joined_227
                · have kw_28 := il_ne w_28
                  have := (by decide : (14 : Int32).toInt = 14)
                  by_cases w_31 : v0 = 15
                  · have kw_31 := il_eq w_31
                    have := (by decide : (15 : Int32).toInt = 15)
                    refine lv_tableIn (off := 227) (tgt := 228) hx hb dX6_joined_1 (by rw [w_31]; decide) (by rw [w_31]; decide) (by rw [w_31]; decide) (by decide) ?_
                    refine lv_lload_n hx hb dX6_joined_228 rfl (lv_at hl 1 rfl) ?_
                    refine lv_lload_n hx hb dX6_joined_229 rfl (lv_at hl 2 rfl) ?_
                    refine W.lcmp hx hb dX6_joined_230 ?_
                    refine lv_topi (fun z_32 ez_32 => ?_)
                    have kz_32 : -1 ≤ z_32.toInt ∧ z_32.toInt ≤ 1 := lc_rng ez_32
                    refine lv_if_lt (tgt := 238) hx hb dX6_joined_231 (by decide) (fun c_33 => ?_) (fun c_33 => ?_)
                    · have kc_33 := il_lt c_33
                      have := (by decide : (0 : Int32).toInt = 0)
                      refine lv_lconst (v := 0) hx hb dX6_joined_238 (by decide) ?_
                      have hP9 := hP.sub (ws' := []) [] rfl
                      have hD9 := hD.sub (ws' := []) [] (by decide) rfl
                      exact W.lret (v := 0) hx hb hr (fun t ht hW => ⟨⟨0, (), rfl, trivial, by rw [ht]; exact hP9, hD9⟩, hS.F ht⟩) hS.2.2 dX6_joined_239
                    · have kc_33 := il_nlt c_33
                      have := (by decide : (0 : Int32).toInt = 0)
                      refine lv_lconst (v := 1) hx hb dX6_joined_234 (by decide) ?_
                      refine lv_goto (tgt := 239) hx hb dX6_joined_235 (by decide) ?_
                      have hP9 := hP.sub (ws' := []) [] rfl
                      have hD9 := hD.sub (ws' := []) [] (by decide) rfl
                      exact W.lret (v := 1) hx hb hr (fun t ht hW => ⟨⟨1, (), rfl, trivial, by rw [ht]; exact hP9, hD9⟩, hS.F ht⟩) hS.2.2 dX6_joined_239
                  · have kw_31 := il_ne w_31
                    have := (by decide : (15 : Int32).toInt = 15)
                    by_cases w_34 : v0 = 16
                    · have kw_34 := il_eq w_34
                      have := (by decide : (16 : Int32).toInt = 16)
                      refine lv_tableIn (off := 239) (tgt := 240) hx hb dX6_joined_1 (by rw [w_34]; decide) (by rw [w_34]; decide) (by rw [w_34]; decide) (by decide) ?_
                      refine lv_lload_n hx hb dX6_joined_240 rfl (lv_at hl 1 rfl) ?_
                      refine lv_lload_n hx hb dX6_joined_241 rfl (lv_at hl 2 rfl) ?_
                      refine W.lcmp hx hb dX6_joined_242 ?_
                      refine lv_topi (fun z_35 ez_35 => ?_)
                      have kz_35 : -1 ≤ z_35.toInt ∧ z_35.toInt ≤ 1 := lc_rng ez_35
                      refine lv_if_le (tgt := 250) hx hb dX6_joined_243 (by decide) (fun c_36 => ?_) (fun c_36 => ?_)
                      · have kc_36 := il_le c_36
                        have := (by decide : (0 : Int32).toInt = 0)
                        refine lv_lconst (v := 0) hx hb dX6_joined_250 (by decide) ?_
                        have hP9 := hP.sub (ws' := []) [] rfl
                        have hD9 := hD.sub (ws' := []) [] (by decide) rfl
                        exact W.lret (v := 0) hx hb hr (fun t ht hW => ⟨⟨0, (), rfl, trivial, by rw [ht]; exact hP9, hD9⟩, hS.F ht⟩) hS.2.2 dX6_joined_251
                      · have kc_36 := il_nle c_36
                        have := (by decide : (0 : Int32).toInt = 0)
                        refine lv_lconst (v := 1) hx hb dX6_joined_246 (by decide) ?_
                        refine lv_goto (tgt := 251) hx hb dX6_joined_247 (by decide) ?_
                        have hP9 := hP.sub (ws' := []) [] rfl
                        have hD9 := hD.sub (ws' := []) [] (by decide) rfl
                        exact W.lret (v := 1) hx hb hr (fun t ht hW => ⟨⟨1, (), rfl, trivial, by rw [ht]; exact hP9, hD9⟩, hS.F ht⟩) hS.2.2 dX6_joined_251
                    · have kw_34 := il_ne w_34
                      have := (by decide : (16 : Int32).toInt = 16)
                      by_cases w_37 : v0 = 17
                      · have kw_37 := il_eq w_37
                        have := (by decide : (17 : Int32).toInt = 17)
                        refine lv_tableIn (off := 287) (tgt := 288) hx hb dX6_joined_1 (by rw [w_37]; decide) (by rw [w_37]; decide) (by rw [w_37]; decide) (by decide) ?_
                        refine lv_ldc2 (v := (-9223372036854775808)) hx hb hown (hT _ mw_4_92) dX6_joined_288 ?_
                        have hP9 := hP.sub (ws' := []) [] rfl
                        have hD9 := hD.sub (ws' := []) [] (by decide) rfl
                        exact W.lret (v := (-9223372036854775808)) hx hb hr (fun t ht hW => ⟨⟨(-9223372036854775808), (), rfl, trivial, by rw [ht]; exact hP9, hD9⟩, hS.F ht⟩) hS.2.2 dX6_joined_291
                      · have kw_37 := il_ne w_37
                        have := (by decide : (17 : Int32).toInt = 17)
                        by_cases w_38 : v0 = 18
                        · have kw_38 := il_eq w_38
                          have := (by decide : (18 : Int32).toInt = 18)
                          refine lv_tableIn (off := 287) (tgt := 288) hx hb dX6_joined_1 (by rw [w_38]; decide) (by rw [w_38]; decide) (by rw [w_38]; decide) (by decide) ?_
                          refine lv_ldc2 (v := (-9223372036854775808)) hx hb hown (hT _ mw_4_92) dX6_joined_288 ?_
                          have hP9 := hP.sub (ws' := []) [] rfl
                          have hD9 := hD.sub (ws' := []) [] (by decide) rfl
                          exact W.lret (v := (-9223372036854775808)) hx hb hr (fun t ht hW => ⟨⟨(-9223372036854775808), (), rfl, trivial, by rw [ht]; exact hP9, hD9⟩, hS.F ht⟩) hS.2.2 dX6_joined_291
                        · have kw_38 := il_ne w_38
                          have := (by decide : (18 : Int32).toInt = 18)
                          by_cases w_39 : v0 = 19
                          · have kw_39 := il_eq w_39
                            have := (by decide : (19 : Int32).toInt = 19)
                            refine lv_tableIn (off := 287) (tgt := 288) hx hb dX6_joined_1 (by rw [w_39]; decide) (by rw [w_39]; decide) (by rw [w_39]; decide) (by decide) ?_
                            refine lv_ldc2 (v := (-9223372036854775808)) hx hb hown (hT _ mw_4_92) dX6_joined_288 ?_
                            have hP9 := hP.sub (ws' := []) [] rfl
                            have hD9 := hD.sub (ws' := []) [] (by decide) rfl
                            exact W.lret (v := (-9223372036854775808)) hx hb hr (fun t ht hW => ⟨⟨(-9223372036854775808), (), rfl, trivial, by rw [ht]; exact hP9, hD9⟩, hS.F ht⟩) hS.2.2 dX6_joined_291
                          · have kw_39 := il_ne w_39
                            have := (by decide : (19 : Int32).toInt = 19)
                            by_cases w_40 : v0 = 20
                            · have kw_40 := il_eq w_40
                              have := (by decide : (20 : Int32).toInt = 20)
                              refine lv_tableIn (off := 287) (tgt := 288) hx hb dX6_joined_1 (by rw [w_40]; decide) (by rw [w_40]; decide) (by rw [w_40]; decide) (by decide) ?_
                              refine lv_ldc2 (v := (-9223372036854775808)) hx hb hown (hT _ mw_4_92) dX6_joined_288 ?_
                              have hP9 := hP.sub (ws' := []) [] rfl
                              have hD9 := hD.sub (ws' := []) [] (by decide) rfl
                              exact W.lret (v := (-9223372036854775808)) hx hb hr (fun t ht hW => ⟨⟨(-9223372036854775808), (), rfl, trivial, by rw [ht]; exact hP9, hD9⟩, hS.F ht⟩) hS.2.2 dX6_joined_291
                            · have kw_40 := il_ne w_40
                              have := (by decide : (20 : Int32).toInt = 20)
                              by_cases w_41 : v0 = 21
                              · have kw_41 := il_eq w_41
                                have := (by decide : (21 : Int32).toInt = 21)
                                refine lv_tableIn (off := 287) (tgt := 288) hx hb dX6_joined_1 (by rw [w_41]; decide) (by rw [w_41]; decide) (by rw [w_41]; decide) (by decide) ?_
                                refine lv_ldc2 (v := (-9223372036854775808)) hx hb hown (hT _ mw_4_92) dX6_joined_288 ?_
                                have hP9 := hP.sub (ws' := []) [] rfl
                                have hD9 := hD.sub (ws' := []) [] (by decide) rfl
                                exact W.lret (v := (-9223372036854775808)) hx hb hr (fun t ht hW => ⟨⟨(-9223372036854775808), (), rfl, trivial, by rw [ht]; exact hP9, hD9⟩, hS.F ht⟩) hS.2.2 dX6_joined_291
                              · have kw_41 := il_ne w_41
                                have := (by decide : (21 : Int32).toInt = 21)
                                by_cases w_42 : v0 = 22
                                · have kw_42 := il_eq w_42
                                  have := (by decide : (22 : Int32).toInt = 22)
                                  refine lv_tableIn (off := 287) (tgt := 288) hx hb dX6_joined_1 (by rw [w_42]; decide) (by rw [w_42]; decide) (by rw [w_42]; decide) (by decide) ?_
                                  refine lv_ldc2 (v := (-9223372036854775808)) hx hb hown (hT _ mw_4_92) dX6_joined_288 ?_
                                  have hP9 := hP.sub (ws' := []) [] rfl
                                  have hD9 := hD.sub (ws' := []) [] (by decide) rfl
                                  exact W.lret (v := (-9223372036854775808)) hx hb hr (fun t ht hW => ⟨⟨(-9223372036854775808), (), rfl, trivial, by rw [ht]; exact hP9, hD9⟩, hS.F ht⟩) hS.2.2 dX6_joined_291
                                · have kw_42 := il_ne w_42
                                  have := (by decide : (22 : Int32).toInt = 22)
                                  by_cases w_43 : v0 = 23
                                  · have kw_43 := il_eq w_43
                                    have := (by decide : (23 : Int32).toInt = 23)
                                    refine lv_tableIn (off := 287) (tgt := 288) hx hb dX6_joined_1 (by rw [w_43]; decide) (by rw [w_43]; decide) (by rw [w_43]; decide) (by decide) ?_
                                    refine lv_ldc2 (v := (-9223372036854775808)) hx hb hown (hT _ mw_4_92) dX6_joined_288 ?_
                                    have hP9 := hP.sub (ws' := []) [] rfl
                                    have hD9 := hD.sub (ws' := []) [] (by decide) rfl
                                    exact W.lret (v := (-9223372036854775808)) hx hb hr (fun t ht hW => ⟨⟨(-9223372036854775808), (), rfl, trivial, by rw [ht]; exact hP9, hD9⟩, hS.F ht⟩) hS.2.2 dX6_joined_291
                                  · have kw_43 := il_ne w_43
                                    have := (by decide : (23 : Int32).toInt = 23)
                                    by_cases w_44 : v0 = 24
                                    · have kw_44 := il_eq w_44
                                      have := (by decide : (24 : Int32).toInt = 24)
                                      refine lv_tableIn (off := 287) (tgt := 288) hx hb dX6_joined_1 (by rw [w_44]; decide) (by rw [w_44]; decide) (by rw [w_44]; decide) (by decide) ?_
                                      refine lv_ldc2 (v := (-9223372036854775808)) hx hb hown (hT _ mw_4_92) dX6_joined_288 ?_
                                      have hP9 := hP.sub (ws' := []) [] rfl
                                      have hD9 := hD.sub (ws' := []) [] (by decide) rfl
                                      exact W.lret (v := (-9223372036854775808)) hx hb hr (fun t ht hW => ⟨⟨(-9223372036854775808), (), rfl, trivial, by rw [ht]; exact hP9, hD9⟩, hS.F ht⟩) hS.2.2 dX6_joined_291
                                    · have kw_44 := il_ne w_44
                                      have := (by decide : (24 : Int32).toInt = 24)
                                      by_cases w_45 : v0 = 25
                                      · have kw_45 := il_eq w_45
                                        have := (by decide : (25 : Int32).toInt = 25)
                                        refine lv_tableIn (off := 287) (tgt := 288) hx hb dX6_joined_1 (by rw [w_45]; decide) (by rw [w_45]; decide) (by rw [w_45]; decide) (by decide) ?_
                                        refine lv_ldc2 (v := (-9223372036854775808)) hx hb hown (hT _ mw_4_92) dX6_joined_288 ?_
                                        have hP9 := hP.sub (ws' := []) [] rfl
                                        have hD9 := hD.sub (ws' := []) [] (by decide) rfl
                                        exact W.lret (v := (-9223372036854775808)) hx hb hr (fun t ht hW => ⟨⟨(-9223372036854775808), (), rfl, trivial, by rw [ht]; exact hP9, hD9⟩, hS.F ht⟩) hS.2.2 dX6_joined_291
                                      · have kw_45 := il_ne w_45
                                        have := (by decide : (25 : Int32).toInt = 25)
                                        by_cases w_46 : v0 = 26
                                        · have kw_46 := il_eq w_46
                                          have := (by decide : (26 : Int32).toInt = 26)
                                          refine lv_tableIn (off := 287) (tgt := 288) hx hb dX6_joined_1 (by rw [w_46]; decide) (by rw [w_46]; decide) (by rw [w_46]; decide) (by decide) ?_
                                          refine lv_ldc2 (v := (-9223372036854775808)) hx hb hown (hT _ mw_4_92) dX6_joined_288 ?_
                                          have hP9 := hP.sub (ws' := []) [] rfl
                                          have hD9 := hD.sub (ws' := []) [] (by decide) rfl
                                          exact W.lret (v := (-9223372036854775808)) hx hb hr (fun t ht hW => ⟨⟨(-9223372036854775808), (), rfl, trivial, by rw [ht]; exact hP9, hD9⟩, hS.F ht⟩) hS.2.2 dX6_joined_291
                                        · have kw_46 := il_ne w_46
                                          have := (by decide : (26 : Int32).toInt = 26)
                                          by_cases w_47 : v0 = 27
                                          · have kw_47 := il_eq w_47
                                            have := (by decide : (27 : Int32).toInt = 27)
                                            refine lv_tableIn (off := 287) (tgt := 288) hx hb dX6_joined_1 (by rw [w_47]; decide) (by rw [w_47]; decide) (by rw [w_47]; decide) (by decide) ?_
                                            refine lv_ldc2 (v := (-9223372036854775808)) hx hb hown (hT _ mw_4_92) dX6_joined_288 ?_
                                            have hP9 := hP.sub (ws' := []) [] rfl
                                            have hD9 := hD.sub (ws' := []) [] (by decide) rfl
                                            exact W.lret (v := (-9223372036854775808)) hx hb hr (fun t ht hW => ⟨⟨(-9223372036854775808), (), rfl, trivial, by rw [ht]; exact hP9, hD9⟩, hS.F ht⟩) hS.2.2 dX6_joined_291
                                          · have kw_47 := il_ne w_47
                                            have := (by decide : (27 : Int32).toInt = 27)
                                            by_cases w_48 : v0 = 28
                                            · have kw_48 := il_eq w_48
                                              have := (by decide : (28 : Int32).toInt = 28)
                                              refine lv_tableIn (off := 287) (tgt := 288) hx hb dX6_joined_1 (by rw [w_48]; decide) (by rw [w_48]; decide) (by rw [w_48]; decide) (by decide) ?_
                                              refine lv_ldc2 (v := (-9223372036854775808)) hx hb hown (hT _ mw_4_92) dX6_joined_288 ?_
                                              have hP9 := hP.sub (ws' := []) [] rfl
                                              have hD9 := hD.sub (ws' := []) [] (by decide) rfl
                                              exact W.lret (v := (-9223372036854775808)) hx hb hr (fun t ht hW => ⟨⟨(-9223372036854775808), (), rfl, trivial, by rw [ht]; exact hP9, hD9⟩, hS.F ht⟩) hS.2.2 dX6_joined_291
                                            · have kw_48 := il_ne w_48
                                              have := (by decide : (28 : Int32).toInt = 28)
                                              by_cases w_49 : v0 = 29
                                              · have kw_49 := il_eq w_49
                                                have := (by decide : (29 : Int32).toInt = 29)
                                                refine lv_tableIn (off := 287) (tgt := 288) hx hb dX6_joined_1 (by rw [w_49]; decide) (by rw [w_49]; decide) (by rw [w_49]; decide) (by decide) ?_
                                                refine lv_ldc2 (v := (-9223372036854775808)) hx hb hown (hT _ mw_4_92) dX6_joined_288 ?_
                                                have hP9 := hP.sub (ws' := []) [] rfl
                                                have hD9 := hD.sub (ws' := []) [] (by decide) rfl
                                                exact W.lret (v := (-9223372036854775808)) hx hb hr (fun t ht hW => ⟨⟨(-9223372036854775808), (), rfl, trivial, by rw [ht]; exact hP9, hD9⟩, hS.F ht⟩) hS.2.2 dX6_joined_291
                                              · have kw_49 := il_ne w_49
                                                have := (by decide : (29 : Int32).toInt = 29)
                                                by_cases w_50 : v0 = 30
                                                · have kw_50 := il_eq w_50
                                                  have := (by decide : (30 : Int32).toInt = 30)
                                                  refine lv_tableIn (off := 287) (tgt := 288) hx hb dX6_joined_1 (by rw [w_50]; decide) (by rw [w_50]; decide) (by rw [w_50]; decide) (by decide) ?_
                                                  refine lv_ldc2 (v := (-9223372036854775808)) hx hb hown (hT _ mw_4_92) dX6_joined_288 ?_
                                                  have hP9 := hP.sub (ws' := []) [] rfl
                                                  have hD9 := hD.sub (ws' := []) [] (by decide) rfl
                                                  exact W.lret (v := (-9223372036854775808)) hx hb hr (fun t ht hW => ⟨⟨(-9223372036854775808), (), rfl, trivial, by rw [ht]; exact hP9, hD9⟩, hS.F ht⟩) hS.2.2 dX6_joined_291
                                                · have kw_50 := il_ne w_50
                                                  have := (by decide : (30 : Int32).toInt = 30)
                                                  by_cases w_51 : v0 = 31
                                                  · have kw_51 := il_eq w_51
                                                    have := (by decide : (31 : Int32).toInt = 31)
                                                    refine lv_tableIn (off := 287) (tgt := 288) hx hb dX6_joined_1 (by rw [w_51]; decide) (by rw [w_51]; decide) (by rw [w_51]; decide) (by decide) ?_
                                                    refine lv_ldc2 (v := (-9223372036854775808)) hx hb hown (hT _ mw_4_92) dX6_joined_288 ?_
                                                    have hP9 := hP.sub (ws' := []) [] rfl
                                                    have hD9 := hD.sub (ws' := []) [] (by decide) rfl
                                                    exact W.lret (v := (-9223372036854775808)) hx hb hr (fun t ht hW => ⟨⟨(-9223372036854775808), (), rfl, trivial, by rw [ht]; exact hP9, hD9⟩, hS.F ht⟩) hS.2.2 dX6_joined_291
                                                  · have kw_51 := il_ne w_51
                                                    have := (by decide : (31 : Int32).toInt = 31)
                                                    by_cases w_52 : v0 = 32
                                                    · have kw_52 := il_eq w_52
                                                      have := (by decide : (32 : Int32).toInt = 32)
                                                      refine lv_tableIn (off := 269) (tgt := 270) hx hb dX6_joined_1 (by rw [w_52]; decide) (by rw [w_52]; decide) (by rw [w_52]; decide) (by decide) ?_
                                                      refine lv_lload_n hx hb dX6_joined_270 rfl (lv_at hl 1 rfl) ?_
                                                      refine lv_lconst (v := 0) hx hb dX6_joined_271 (by decide) ?_
                                                      refine W.lcmp hx hb dX6_joined_272 ?_
                                                      refine lv_topi (fun z_53 ez_53 => ?_)
                                                      have kz_53 : -1 ≤ z_53.toInt ∧ z_53.toInt ≤ 1 := lc_rng ez_53
                                                      refine lv_if_ne (tgt := 282) hx hb dX6_joined_273 (by decide) (fun c_54 => ?_) (fun c_54 => ?_)
                                                      · have kc_54 := il_ne c_54
                                                        have := (by decide : (0 : Int32).toInt = 0)
                                                        have nc_54 : ¬ w1 = 0 := lc_ne ez_53 (by omega)
                                                        refine lv_lconst (v := 1) hx hb dX6_joined_282 (by decide) ?_
                                                        refine lv_goto (tgt := 287) hx hb dX6_joined_283 (by decide) ?_
                                                        have hP9 := hP.sub (ws' := []) [] rfl
                                                        have hD9 := hD.sub (ws' := []) [] (by decide) rfl
                                                        exact W.lret (v := 1) hx hb hr (fun t ht hW => ⟨⟨1, (), rfl, trivial, by rw [ht]; exact hP9, hD9⟩, hS.F ht⟩) hS.2.2 dX6_joined_287
                                                      · have kc_54 := il_eq c_54
                                                        have := (by decide : (0 : Int32).toInt = 0)
                                                        refine lv_lload_n hx hb dX6_joined_276 rfl (lv_at hl 2 rfl) ?_
                                                        refine lv_lconst (v := 0) hx hb dX6_joined_277 (by decide) ?_
                                                        refine W.lcmp hx hb dX6_joined_278 ?_
                                                        refine lv_topi (fun z_55 ez_55 => ?_)
                                                        have kz_55 : -1 ≤ z_55.toInt ∧ z_55.toInt ≤ 1 := lc_rng ez_55
                                                        refine lv_if_eq (tgt := 286) hx hb dX6_joined_279 (by decide) (fun c_56 => ?_) (fun c_56 => ?_)
                                                        · have kc_56 := il_eq c_56
                                                          have := (by decide : (0 : Int32).toInt = 0)
                                                          refine lv_lconst (v := 0) hx hb dX6_joined_286 (by decide) ?_
                                                          have hP9 := hP.sub (ws' := []) [] rfl
                                                          have hD9 := hD.sub (ws' := []) [] (by decide) rfl
                                                          exact W.lret (v := 0) hx hb hr (fun t ht hW => ⟨⟨0, (), rfl, trivial, by rw [ht]; exact hP9, hD9⟩, hS.F ht⟩) hS.2.2 dX6_joined_287
                                                        · have kc_56 := il_ne c_56
                                                          have := (by decide : (0 : Int32).toInt = 0)
                                                          have nc_56 : ¬ w2 = 0 := lc_ne ez_55 (by omega)
                                                          refine lv_lconst (v := 1) hx hb dX6_joined_282 (by decide) ?_
                                                          refine lv_goto (tgt := 287) hx hb dX6_joined_283 (by decide) ?_
                                                          have hP9 := hP.sub (ws' := []) [] rfl
                                                          have hD9 := hD.sub (ws' := []) [] (by decide) rfl
                                                          exact W.lret (v := 1) hx hb hr (fun t ht hW => ⟨⟨1, (), rfl, trivial, by rw [ht]; exact hP9, hD9⟩, hS.F ht⟩) hS.2.2 dX6_joined_287
                                                    · have kw_52 := il_ne w_52
                                                      have := (by decide : (32 : Int32).toInt = 32)
                                                      by_cases w_57 : v0 = 33
                                                      · have kw_57 := il_eq w_57
                                                        have := (by decide : (33 : Int32).toInt = 33)
                                                        refine lv_tableIn (off := 251) (tgt := 252) hx hb dX6_joined_1 (by rw [w_57]; decide) (by rw [w_57]; decide) (by rw [w_57]; decide) (by decide) ?_
                                                        refine lv_lload_n hx hb dX6_joined_252 rfl (lv_at hl 1 rfl) ?_
                                                        refine lv_lconst (v := 0) hx hb dX6_joined_253 (by decide) ?_
                                                        refine W.lcmp hx hb dX6_joined_254 ?_
                                                        refine lv_topi (fun z_58 ez_58 => ?_)
                                                        have kz_58 : -1 ≤ z_58.toInt ∧ z_58.toInt ≤ 1 := lc_rng ez_58
                                                        refine lv_if_eq (tgt := 268) hx hb dX6_joined_255 (by decide) (fun c_59 => ?_) (fun c_59 => ?_)
                                                        · have kc_59 := il_eq c_59
                                                          have := (by decide : (0 : Int32).toInt = 0)
                                                          refine lv_lconst (v := 0) hx hb dX6_joined_268 (by decide) ?_
                                                          have hP9 := hP.sub (ws' := []) [] rfl
                                                          have hD9 := hD.sub (ws' := []) [] (by decide) rfl
                                                          exact W.lret (v := 0) hx hb hr (fun t ht hW => ⟨⟨0, (), rfl, trivial, by rw [ht]; exact hP9, hD9⟩, hS.F ht⟩) hS.2.2 dX6_joined_269
                                                        · have kc_59 := il_ne c_59
                                                          have := (by decide : (0 : Int32).toInt = 0)
                                                          have nc_59 : ¬ w1 = 0 := lc_ne ez_58 (by omega)
                                                          refine lv_lload_n hx hb dX6_joined_258 rfl (lv_at hl 2 rfl) ?_
                                                          refine lv_lconst (v := 0) hx hb dX6_joined_259 (by decide) ?_
                                                          refine W.lcmp hx hb dX6_joined_260 ?_
                                                          refine lv_topi (fun z_60 ez_60 => ?_)
                                                          have kz_60 : -1 ≤ z_60.toInt ∧ z_60.toInt ≤ 1 := lc_rng ez_60
                                                          refine lv_if_eq (tgt := 268) hx hb dX6_joined_261 (by decide) (fun c_61 => ?_) (fun c_61 => ?_)
                                                          · have kc_61 := il_eq c_61
                                                            have := (by decide : (0 : Int32).toInt = 0)
                                                            refine lv_lconst (v := 0) hx hb dX6_joined_268 (by decide) ?_
                                                            have hP9 := hP.sub (ws' := []) [] rfl
                                                            have hD9 := hD.sub (ws' := []) [] (by decide) rfl
                                                            exact W.lret (v := 0) hx hb hr (fun t ht hW => ⟨⟨0, (), rfl, trivial, by rw [ht]; exact hP9, hD9⟩, hS.F ht⟩) hS.2.2 dX6_joined_269
                                                          · have kc_61 := il_ne c_61
                                                            have := (by decide : (0 : Int32).toInt = 0)
                                                            have nc_61 : ¬ w2 = 0 := lc_ne ez_60 (by omega)
                                                            refine lv_lconst (v := 1) hx hb dX6_joined_264 (by decide) ?_
                                                            refine lv_goto (tgt := 269) hx hb dX6_joined_265 (by decide) ?_
                                                            have hP9 := hP.sub (ws' := []) [] rfl
                                                            have hD9 := hD.sub (ws' := []) [] (by decide) rfl
                                                            exact W.lret (v := 1) hx hb hr (fun t ht hW => ⟨⟨1, (), rfl, trivial, by rw [ht]; exact hP9, hD9⟩, hS.F ht⟩) hS.2.2 dX6_joined_269
                                                      · have kw_57 := il_ne w_57
                                                        have := (by decide : (33 : Int32).toInt = 33)
                                                        refine lv_tableOut (tgt := 288) hx hb dX6_joined_1 (by omega) (by decide) ?_
                                                        refine lv_ldc2 (v := (-9223372036854775808)) hx hb hown (hT _ mw_4_92) dX6_joined_288 ?_
                                                        have hP9 := hP.sub (ws' := []) [] rfl
                                                        have hD9 := hD.sub (ws' := []) [] (by decide) rfl
                                                        exact W.lret (v := (-9223372036854775808)) hx hb hr (fun t ht hW => ⟨⟨(-9223372036854775808), (), rfl, trivial, by rw [ht]; exact hP9, hD9⟩, hS.F ht⟩) hS.2.2 dX6_joined_291
