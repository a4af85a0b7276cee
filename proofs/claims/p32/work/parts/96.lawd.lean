/-! ===== the law: its instructions ===== -/
def lawT_0 : List (Nat × Instr × Nat) := [(0, .new 7, 3), (3, .dup, 1), (4, .invokespecial 9, 3), (7, .astore_n 1, 1), (8, .new 10, 3), (11, .dup, 1), (12, .invokespecial 12, 3), (15, .astore_n 2, 1), (16, .iconst 0, 1), (17, .istore_n 3, 1), (18, .iload_n 3, 1), (19, .aload_n 0, 1), (20, .arraylength, 1), (21, .iconst 5, 1), (22, .isub, 1), (23, .if_icmp .gt 1232, 3), (26, .aload_n 0, 1), (27, .iload_n 3, 1)]
set_option maxRecDepth 100000 in
theorem lawD_0 : lawT_0.all (fun q => decide (decode code q.1 = .ok q.2)) = true := by decide +kernel
theorem lawX_0 {k pc n : Nat} {i : Instr} (h : lawT_0[k]? = some (pc, i, n)) : decode code pc = .ok (i, n) := by
  have h1 : decide (decode code pc = .ok (i, n)) = true := List.all_eq_true.mp lawD_0 (pc, i, n) (List.mem_of_getElem? h)
  exact of_decide_eq_true h1
theorem d_law_0 : decode code 0 = .ok (.new 7, 3) := lawX_0 (k := 0) rfl
theorem d_law_3 : decode code 3 = .ok (.dup, 1) := lawX_0 (k := 1) rfl
theorem d_law_4 : decode code 4 = .ok (.invokespecial 9, 3) := lawX_0 (k := 2) rfl
theorem d_law_7 : decode code 7 = .ok (.astore_n 1, 1) := lawX_0 (k := 3) rfl
theorem d_law_8 : decode code 8 = .ok (.new 10, 3) := lawX_0 (k := 4) rfl
theorem d_law_11 : decode code 11 = .ok (.dup, 1) := lawX_0 (k := 5) rfl
theorem d_law_12 : decode code 12 = .ok (.invokespecial 12, 3) := lawX_0 (k := 6) rfl
theorem d_law_15 : decode code 15 = .ok (.astore_n 2, 1) := lawX_0 (k := 7) rfl
theorem d_law_16 : decode code 16 = .ok (.iconst 0, 1) := lawX_0 (k := 8) rfl
theorem d_law_17 : decode code 17 = .ok (.istore_n 3, 1) := lawX_0 (k := 9) rfl
theorem d_law_18 : decode code 18 = .ok (.iload_n 3, 1) := lawX_0 (k := 10) rfl
theorem d_law_19 : decode code 19 = .ok (.aload_n 0, 1) := lawX_0 (k := 11) rfl
theorem d_law_20 : decode code 20 = .ok (.arraylength, 1) := lawX_0 (k := 12) rfl
theorem d_law_21 : decode code 21 = .ok (.iconst 5, 1) := lawX_0 (k := 13) rfl
theorem d_law_22 : decode code 22 = .ok (.isub, 1) := lawX_0 (k := 14) rfl
theorem d_law_23 : decode code 23 = .ok (.if_icmp .gt 1232, 3) := lawX_0 (k := 15) rfl
theorem d_law_26 : decode code 26 = .ok (.aload_n 0, 1) := lawX_0 (k := 16) rfl
theorem d_law_27 : decode code 27 = .ok (.iload_n 3, 1) := lawX_0 (k := 17) rfl
def lawT_1 : List (Nat × Instr × Nat) := [(28, .iaload, 1), (29, .bipush 63, 2), (31, .iand, 1), (32, .tableswitch 1217 0 34 #[156, 189, 222, 275, 298, 341, 394, 427, 460, 493, 516, 539, 562, 585, 608, 631, 664, 697, 730, 763, 796, 829, 872, 895, 938, 961, 984, 1017, 1030, 1063, 1086, 1099, 1132, 1155, 1194], 156), (188, .aload_n 1, 1), (189, .aload_n 0, 1), (190, .iload_n 3, 1), (191, .iconst 1, 1), (192, .iadd, 1), (193, .iaload, 1), (194, .aload_n 0, 1), (195, .iload_n 3, 1), (196, .iconst 2, 1), (197, .iadd, 1), (198, .iaload, 1), (199, .invokevirtual 13, 3), (202, .pop, 1), (203, .aload_n 2, 1)]
set_option maxRecDepth 100000 in
theorem lawD_1 : lawT_1.all (fun q => decide (decode code q.1 = .ok q.2)) = true := by decide +kernel
theorem lawX_1 {k pc n : Nat} {i : Instr} (h : lawT_1[k]? = some (pc, i, n)) : decode code pc = .ok (i, n) := by
  have h1 : decide (decode code pc = .ok (i, n)) = true := List.all_eq_true.mp lawD_1 (pc, i, n) (List.mem_of_getElem? h)
  exact of_decide_eq_true h1
theorem d_law_28 : decode code 28 = .ok (.iaload, 1) := lawX_1 (k := 0) rfl
theorem d_law_29 : decode code 29 = .ok (.bipush 63, 2) := lawX_1 (k := 1) rfl
theorem d_law_31 : decode code 31 = .ok (.iand, 1) := lawX_1 (k := 2) rfl
theorem d_law_32 : decode code 32 = .ok (.tableswitch 1217 0 34 #[156, 189, 222, 275, 298, 341, 394, 427, 460, 493, 516, 539, 562, 585, 608, 631, 664, 697, 730, 763, 796, 829, 872, 895, 938, 961, 984, 1017, 1030, 1063, 1086, 1099, 1132, 1155, 1194], 156) := lawX_1 (k := 3) rfl
theorem d_law_188 : decode code 188 = .ok (.aload_n 1, 1) := lawX_1 (k := 4) rfl
theorem d_law_189 : decode code 189 = .ok (.aload_n 0, 1) := lawX_1 (k := 5) rfl
theorem d_law_190 : decode code 190 = .ok (.iload_n 3, 1) := lawX_1 (k := 6) rfl
theorem d_law_191 : decode code 191 = .ok (.iconst 1, 1) := lawX_1 (k := 7) rfl
theorem d_law_192 : decode code 192 = .ok (.iadd, 1) := lawX_1 (k := 8) rfl
theorem d_law_193 : decode code 193 = .ok (.iaload, 1) := lawX_1 (k := 9) rfl
theorem d_law_194 : decode code 194 = .ok (.aload_n 0, 1) := lawX_1 (k := 10) rfl
theorem d_law_195 : decode code 195 = .ok (.iload_n 3, 1) := lawX_1 (k := 11) rfl
theorem d_law_196 : decode code 196 = .ok (.iconst 2, 1) := lawX_1 (k := 12) rfl
theorem d_law_197 : decode code 197 = .ok (.iadd, 1) := lawX_1 (k := 13) rfl
theorem d_law_198 : decode code 198 = .ok (.iaload, 1) := lawX_1 (k := 14) rfl
theorem d_law_199 : decode code 199 = .ok (.invokevirtual 13, 3) := lawX_1 (k := 15) rfl
theorem d_law_202 : decode code 202 = .ok (.pop, 1) := lawX_1 (k := 16) rfl
theorem d_law_203 : decode code 203 = .ok (.aload_n 2, 1) := lawX_1 (k := 17) rfl
def lawT_2 : List (Nat × Instr × Nat) := [(204, .aload_n 0, 1), (205, .iload_n 3, 1), (206, .iconst 1, 1), (207, .iadd, 1), (208, .iaload, 1), (209, .aload_n 0, 1), (210, .iload_n 3, 1), (211, .iconst 2, 1), (212, .iadd, 1), (213, .iaload, 1), (214, .invokevirtual 17, 3), (217, .pop, 1), (218, .goto 1031, 3), (221, .aload_n 1, 1), (222, .aload_n 0, 1), (223, .iload_n 3, 1), (224, .iconst 1, 1), (225, .iadd, 1)]
set_option maxRecDepth 100000 in
theorem lawD_2 : lawT_2.all (fun q => decide (decode code q.1 = .ok q.2)) = true := by decide +kernel
theorem lawX_2 {k pc n : Nat} {i : Instr} (h : lawT_2[k]? = some (pc, i, n)) : decode code pc = .ok (i, n) := by
  have h1 : decide (decode code pc = .ok (i, n)) = true := List.all_eq_true.mp lawD_2 (pc, i, n) (List.mem_of_getElem? h)
  exact of_decide_eq_true h1
theorem d_law_204 : decode code 204 = .ok (.aload_n 0, 1) := lawX_2 (k := 0) rfl
theorem d_law_205 : decode code 205 = .ok (.iload_n 3, 1) := lawX_2 (k := 1) rfl
theorem d_law_206 : decode code 206 = .ok (.iconst 1, 1) := lawX_2 (k := 2) rfl
theorem d_law_207 : decode code 207 = .ok (.iadd, 1) := lawX_2 (k := 3) rfl
theorem d_law_208 : decode code 208 = .ok (.iaload, 1) := lawX_2 (k := 4) rfl
theorem d_law_209 : decode code 209 = .ok (.aload_n 0, 1) := lawX_2 (k := 5) rfl
theorem d_law_210 : decode code 210 = .ok (.iload_n 3, 1) := lawX_2 (k := 6) rfl
theorem d_law_211 : decode code 211 = .ok (.iconst 2, 1) := lawX_2 (k := 7) rfl
theorem d_law_212 : decode code 212 = .ok (.iadd, 1) := lawX_2 (k := 8) rfl
theorem d_law_213 : decode code 213 = .ok (.iaload, 1) := lawX_2 (k := 9) rfl
theorem d_law_214 : decode code 214 = .ok (.invokevirtual 17, 3) := lawX_2 (k := 10) rfl
theorem d_law_217 : decode code 217 = .ok (.pop, 1) := lawX_2 (k := 11) rfl
theorem d_law_218 : decode code 218 = .ok (.goto 1031, 3) := lawX_2 (k := 12) rfl
theorem d_law_221 : decode code 221 = .ok (.aload_n 1, 1) := lawX_2 (k := 13) rfl
theorem d_law_222 : decode code 222 = .ok (.aload_n 0, 1) := lawX_2 (k := 14) rfl
theorem d_law_223 : decode code 223 = .ok (.iload_n 3, 1) := lawX_2 (k := 15) rfl
theorem d_law_224 : decode code 224 = .ok (.iconst 1, 1) := lawX_2 (k := 16) rfl
theorem d_law_225 : decode code 225 = .ok (.iadd, 1) := lawX_2 (k := 17) rfl
def lawT_3 : List (Nat × Instr × Nat) := [(226, .iaload, 1), (227, .aload_n 0, 1), (228, .iload_n 3, 1), (229, .iconst 2, 1), (230, .iadd, 1), (231, .iaload, 1), (232, .invokevirtual 18, 3), (235, .pop, 1), (236, .aload_n 2, 1), (237, .aload_n 0, 1), (238, .iload_n 3, 1), (239, .iconst 1, 1), (240, .iadd, 1), (241, .iaload, 1), (242, .aload_n 0, 1), (243, .iload_n 3, 1), (244, .iconst 2, 1), (245, .iadd, 1)]
set_option maxRecDepth 100000 in
theorem lawD_3 : lawT_3.all (fun q => decide (decode code q.1 = .ok q.2)) = true := by decide +kernel
theorem lawX_3 {k pc n : Nat} {i : Instr} (h : lawT_3[k]? = some (pc, i, n)) : decode code pc = .ok (i, n) := by
  have h1 : decide (decode code pc = .ok (i, n)) = true := List.all_eq_true.mp lawD_3 (pc, i, n) (List.mem_of_getElem? h)
  exact of_decide_eq_true h1
theorem d_law_226 : decode code 226 = .ok (.iaload, 1) := lawX_3 (k := 0) rfl
theorem d_law_227 : decode code 227 = .ok (.aload_n 0, 1) := lawX_3 (k := 1) rfl
theorem d_law_228 : decode code 228 = .ok (.iload_n 3, 1) := lawX_3 (k := 2) rfl
theorem d_law_229 : decode code 229 = .ok (.iconst 2, 1) := lawX_3 (k := 3) rfl
theorem d_law_230 : decode code 230 = .ok (.iadd, 1) := lawX_3 (k := 4) rfl
theorem d_law_231 : decode code 231 = .ok (.iaload, 1) := lawX_3 (k := 5) rfl
theorem d_law_232 : decode code 232 = .ok (.invokevirtual 18, 3) := lawX_3 (k := 6) rfl
theorem d_law_235 : decode code 235 = .ok (.pop, 1) := lawX_3 (k := 7) rfl
theorem d_law_236 : decode code 236 = .ok (.aload_n 2, 1) := lawX_3 (k := 8) rfl
theorem d_law_237 : decode code 237 = .ok (.aload_n 0, 1) := lawX_3 (k := 9) rfl
theorem d_law_238 : decode code 238 = .ok (.iload_n 3, 1) := lawX_3 (k := 10) rfl
theorem d_law_239 : decode code 239 = .ok (.iconst 1, 1) := lawX_3 (k := 11) rfl
theorem d_law_240 : decode code 240 = .ok (.iadd, 1) := lawX_3 (k := 12) rfl
theorem d_law_241 : decode code 241 = .ok (.iaload, 1) := lawX_3 (k := 13) rfl
theorem d_law_242 : decode code 242 = .ok (.aload_n 0, 1) := lawX_3 (k := 14) rfl
theorem d_law_243 : decode code 243 = .ok (.iload_n 3, 1) := lawX_3 (k := 15) rfl
theorem d_law_244 : decode code 244 = .ok (.iconst 2, 1) := lawX_3 (k := 16) rfl
theorem d_law_245 : decode code 245 = .ok (.iadd, 1) := lawX_3 (k := 17) rfl
def lawT_4 : List (Nat × Instr × Nat) := [(246, .iaload, 1), (247, .invokevirtual 21, 3), (250, .pop, 1), (251, .goto 998, 3), (254, .aload_n 1, 1), (255, .aload_n 0, 1), (256, .iload_n 3, 1), (257, .iconst 1, 1), (258, .iadd, 1), (259, .iaload, 1), (260, .aload_n 0, 1), (261, .iload_n 3, 1), (262, .iconst 2, 1), (263, .iadd, 1), (264, .iaload, 1), (265, .aload_n 0, 1), (266, .iload_n 3, 1), (267, .iconst 3, 1)]
set_option maxRecDepth 100000 in
theorem lawD_4 : lawT_4.all (fun q => decide (decode code q.1 = .ok q.2)) = true := by decide +kernel
theorem lawX_4 {k pc n : Nat} {i : Instr} (h : lawT_4[k]? = some (pc, i, n)) : decode code pc = .ok (i, n) := by
  have h1 : decide (decode code pc = .ok (i, n)) = true := List.all_eq_true.mp lawD_4 (pc, i, n) (List.mem_of_getElem? h)
  exact of_decide_eq_true h1
theorem d_law_246 : decode code 246 = .ok (.iaload, 1) := lawX_4 (k := 0) rfl
theorem d_law_247 : decode code 247 = .ok (.invokevirtual 21, 3) := lawX_4 (k := 1) rfl
theorem d_law_250 : decode code 250 = .ok (.pop, 1) := lawX_4 (k := 2) rfl
theorem d_law_251 : decode code 251 = .ok (.goto 998, 3) := lawX_4 (k := 3) rfl
theorem d_law_254 : decode code 254 = .ok (.aload_n 1, 1) := lawX_4 (k := 4) rfl
theorem d_law_255 : decode code 255 = .ok (.aload_n 0, 1) := lawX_4 (k := 5) rfl
theorem d_law_256 : decode code 256 = .ok (.iload_n 3, 1) := lawX_4 (k := 6) rfl
theorem d_law_257 : decode code 257 = .ok (.iconst 1, 1) := lawX_4 (k := 7) rfl
theorem d_law_258 : decode code 258 = .ok (.iadd, 1) := lawX_4 (k := 8) rfl
theorem d_law_259 : decode code 259 = .ok (.iaload, 1) := lawX_4 (k := 9) rfl
theorem d_law_260 : decode code 260 = .ok (.aload_n 0, 1) := lawX_4 (k := 10) rfl
theorem d_law_261 : decode code 261 = .ok (.iload_n 3, 1) := lawX_4 (k := 11) rfl
theorem d_law_262 : decode code 262 = .ok (.iconst 2, 1) := lawX_4 (k := 12) rfl
theorem d_law_263 : decode code 263 = .ok (.iadd, 1) := lawX_4 (k := 13) rfl
theorem d_law_264 : decode code 264 = .ok (.iaload, 1) := lawX_4 (k := 14) rfl
theorem d_law_265 : decode code 265 = .ok (.aload_n 0, 1) := lawX_4 (k := 15) rfl
theorem d_law_266 : decode code 266 = .ok (.iload_n 3, 1) := lawX_4 (k := 16) rfl
theorem d_law_267 : decode code 267 = .ok (.iconst 3, 1) := lawX_4 (k := 17) rfl
def lawT_5 : List (Nat × Instr × Nat) := [(268, .iadd, 1), (269, .iaload, 1), (270, .aload_n 0, 1), (271, .iload_n 3, 1), (272, .iconst 4, 1), (273, .iadd, 1), (274, .iaload, 1), (275, .invokevirtual 22, 3), (278, .pop, 1), (279, .aload_n 2, 1), (280, .aload_n 0, 1), (281, .iload_n 3, 1), (282, .iconst 1, 1), (283, .iadd, 1), (284, .iaload, 1), (285, .aload_n 0, 1), (286, .iload_n 3, 1), (287, .iconst 2, 1)]
set_option maxRecDepth 100000 in
theorem lawD_5 : lawT_5.all (fun q => decide (decode code q.1 = .ok q.2)) = true := by decide +kernel
theorem lawX_5 {k pc n : Nat} {i : Instr} (h : lawT_5[k]? = some (pc, i, n)) : decode code pc = .ok (i, n) := by
  have h1 : decide (decode code pc = .ok (i, n)) = true := List.all_eq_true.mp lawD_5 (pc, i, n) (List.mem_of_getElem? h)
  exact of_decide_eq_true h1
theorem d_law_268 : decode code 268 = .ok (.iadd, 1) := lawX_5 (k := 0) rfl
theorem d_law_269 : decode code 269 = .ok (.iaload, 1) := lawX_5 (k := 1) rfl
theorem d_law_270 : decode code 270 = .ok (.aload_n 0, 1) := lawX_5 (k := 2) rfl
theorem d_law_271 : decode code 271 = .ok (.iload_n 3, 1) := lawX_5 (k := 3) rfl
theorem d_law_272 : decode code 272 = .ok (.iconst 4, 1) := lawX_5 (k := 4) rfl
theorem d_law_273 : decode code 273 = .ok (.iadd, 1) := lawX_5 (k := 5) rfl
theorem d_law_274 : decode code 274 = .ok (.iaload, 1) := lawX_5 (k := 6) rfl
theorem d_law_275 : decode code 275 = .ok (.invokevirtual 22, 3) := lawX_5 (k := 7) rfl
theorem d_law_278 : decode code 278 = .ok (.pop, 1) := lawX_5 (k := 8) rfl
theorem d_law_279 : decode code 279 = .ok (.aload_n 2, 1) := lawX_5 (k := 9) rfl
theorem d_law_280 : decode code 280 = .ok (.aload_n 0, 1) := lawX_5 (k := 10) rfl
theorem d_law_281 : decode code 281 = .ok (.iload_n 3, 1) := lawX_5 (k := 11) rfl
theorem d_law_282 : decode code 282 = .ok (.iconst 1, 1) := lawX_5 (k := 12) rfl
theorem d_law_283 : decode code 283 = .ok (.iadd, 1) := lawX_5 (k := 13) rfl
theorem d_law_284 : decode code 284 = .ok (.iaload, 1) := lawX_5 (k := 14) rfl
theorem d_law_285 : decode code 285 = .ok (.aload_n 0, 1) := lawX_5 (k := 15) rfl
theorem d_law_286 : decode code 286 = .ok (.iload_n 3, 1) := lawX_5 (k := 16) rfl
theorem d_law_287 : decode code 287 = .ok (.iconst 2, 1) := lawX_5 (k := 17) rfl
def lawT_6 : List (Nat × Instr × Nat) := [(288, .iadd, 1), (289, .iaload, 1), (290, .aload_n 0, 1), (291, .iload_n 3, 1), (292, .iconst 3, 1), (293, .iadd, 1), (294, .iaload, 1), (295, .aload_n 0, 1), (296, .iload_n 3, 1), (297, .iconst 4, 1), (298, .iadd, 1), (299, .iaload, 1), (300, .invokevirtual 26, 3), (303, .pop, 1), (304, .goto 945, 3), (307, .aload_n 1, 1), (308, .aload_n 0, 1), (309, .iload_n 3, 1)]
set_option maxRecDepth 100000 in
theorem lawD_6 : lawT_6.all (fun q => decide (decode code q.1 = .ok q.2)) = true := by decide +kernel
theorem lawX_6 {k pc n : Nat} {i : Instr} (h : lawT_6[k]? = some (pc, i, n)) : decode code pc = .ok (i, n) := by
  have h1 : decide (decode code pc = .ok (i, n)) = true := List.all_eq_true.mp lawD_6 (pc, i, n) (List.mem_of_getElem? h)
  exact of_decide_eq_true h1
theorem d_law_288 : decode code 288 = .ok (.iadd, 1) := lawX_6 (k := 0) rfl
theorem d_law_289 : decode code 289 = .ok (.iaload, 1) := lawX_6 (k := 1) rfl
theorem d_law_290 : decode code 290 = .ok (.aload_n 0, 1) := lawX_6 (k := 2) rfl
theorem d_law_291 : decode code 291 = .ok (.iload_n 3, 1) := lawX_6 (k := 3) rfl
theorem d_law_292 : decode code 292 = .ok (.iconst 3, 1) := lawX_6 (k := 4) rfl
theorem d_law_293 : decode code 293 = .ok (.iadd, 1) := lawX_6 (k := 5) rfl
theorem d_law_294 : decode code 294 = .ok (.iaload, 1) := lawX_6 (k := 6) rfl
theorem d_law_295 : decode code 295 = .ok (.aload_n 0, 1) := lawX_6 (k := 7) rfl
theorem d_law_296 : decode code 296 = .ok (.iload_n 3, 1) := lawX_6 (k := 8) rfl
theorem d_law_297 : decode code 297 = .ok (.iconst 4, 1) := lawX_6 (k := 9) rfl
theorem d_law_298 : decode code 298 = .ok (.iadd, 1) := lawX_6 (k := 10) rfl
theorem d_law_299 : decode code 299 = .ok (.iaload, 1) := lawX_6 (k := 11) rfl
theorem d_law_300 : decode code 300 = .ok (.invokevirtual 26, 3) := lawX_6 (k := 12) rfl
theorem d_law_303 : decode code 303 = .ok (.pop, 1) := lawX_6 (k := 13) rfl
theorem d_law_304 : decode code 304 = .ok (.goto 945, 3) := lawX_6 (k := 14) rfl
theorem d_law_307 : decode code 307 = .ok (.aload_n 1, 1) := lawX_6 (k := 15) rfl
theorem d_law_308 : decode code 308 = .ok (.aload_n 0, 1) := lawX_6 (k := 16) rfl
theorem d_law_309 : decode code 309 = .ok (.iload_n 3, 1) := lawX_6 (k := 17) rfl
def lawT_7 : List (Nat × Instr × Nat) := [(310, .iconst 1, 1), (311, .iadd, 1), (312, .iaload, 1), (313, .invokevirtual 27, 3), (316, .pop, 1), (317, .aload_n 2, 1), (318, .aload_n 0, 1), (319, .iload_n 3, 1), (320, .iconst 1, 1), (321, .iadd, 1), (322, .iaload, 1), (323, .invokevirtual 31, 3), (326, .pop, 1), (327, .goto 922, 3), (330, .aload_n 1, 1), (331, .aload_n 0, 1), (332, .iload_n 3, 1), (333, .iconst 1, 1)]
set_option maxRecDepth 100000 in
theorem lawD_7 : lawT_7.all (fun q => decide (decode code q.1 = .ok q.2)) = true := by decide +kernel
theorem lawX_7 {k pc n : Nat} {i : Instr} (h : lawT_7[k]? = some (pc, i, n)) : decode code pc = .ok (i, n) := by
  have h1 : decide (decode code pc = .ok (i, n)) = true := List.all_eq_true.mp lawD_7 (pc, i, n) (List.mem_of_getElem? h)
  exact of_decide_eq_true h1
theorem d_law_310 : decode code 310 = .ok (.iconst 1, 1) := lawX_7 (k := 0) rfl
theorem d_law_311 : decode code 311 = .ok (.iadd, 1) := lawX_7 (k := 1) rfl
theorem d_law_312 : decode code 312 = .ok (.iaload, 1) := lawX_7 (k := 2) rfl
theorem d_law_313 : decode code 313 = .ok (.invokevirtual 27, 3) := lawX_7 (k := 3) rfl
theorem d_law_316 : decode code 316 = .ok (.pop, 1) := lawX_7 (k := 4) rfl
theorem d_law_317 : decode code 317 = .ok (.aload_n 2, 1) := lawX_7 (k := 5) rfl
theorem d_law_318 : decode code 318 = .ok (.aload_n 0, 1) := lawX_7 (k := 6) rfl
theorem d_law_319 : decode code 319 = .ok (.iload_n 3, 1) := lawX_7 (k := 7) rfl
theorem d_law_320 : decode code 320 = .ok (.iconst 1, 1) := lawX_7 (k := 8) rfl
theorem d_law_321 : decode code 321 = .ok (.iadd, 1) := lawX_7 (k := 9) rfl
theorem d_law_322 : decode code 322 = .ok (.iaload, 1) := lawX_7 (k := 10) rfl
theorem d_law_323 : decode code 323 = .ok (.invokevirtual 31, 3) := lawX_7 (k := 11) rfl
theorem d_law_326 : decode code 326 = .ok (.pop, 1) := lawX_7 (k := 12) rfl
theorem d_law_327 : decode code 327 = .ok (.goto 922, 3) := lawX_7 (k := 13) rfl
theorem d_law_330 : decode code 330 = .ok (.aload_n 1, 1) := lawX_7 (k := 14) rfl
theorem d_law_331 : decode code 331 = .ok (.aload_n 0, 1) := lawX_7 (k := 15) rfl
theorem d_law_332 : decode code 332 = .ok (.iload_n 3, 1) := lawX_7 (k := 16) rfl
theorem d_law_333 : decode code 333 = .ok (.iconst 1, 1) := lawX_7 (k := 17) rfl
def lawT_8 : List (Nat × Instr × Nat) := [(334, .iadd, 1), (335, .iaload, 1), (336, .aload_n 0, 1), (337, .iload_n 3, 1), (338, .iconst 2, 1), (339, .iadd, 1), (340, .iaload, 1), (341, .aload_n 0, 1), (342, .iload_n 3, 1), (343, .iconst 3, 1), (344, .iadd, 1), (345, .iaload, 1), (346, .invokevirtual 32, 3), (349, .pop, 1), (350, .aload_n 2, 1), (351, .aload_n 0, 1), (352, .iload_n 3, 1), (353, .iconst 1, 1)]
set_option maxRecDepth 100000 in
theorem lawD_8 : lawT_8.all (fun q => decide (decode code q.1 = .ok q.2)) = true := by decide +kernel
theorem lawX_8 {k pc n : Nat} {i : Instr} (h : lawT_8[k]? = some (pc, i, n)) : decode code pc = .ok (i, n) := by
  have h1 : decide (decode code pc = .ok (i, n)) = true := List.all_eq_true.mp lawD_8 (pc, i, n) (List.mem_of_getElem? h)
  exact of_decide_eq_true h1
theorem d_law_334 : decode code 334 = .ok (.iadd, 1) := lawX_8 (k := 0) rfl
theorem d_law_335 : decode code 335 = .ok (.iaload, 1) := lawX_8 (k := 1) rfl
theorem d_law_336 : decode code 336 = .ok (.aload_n 0, 1) := lawX_8 (k := 2) rfl
theorem d_law_337 : decode code 337 = .ok (.iload_n 3, 1) := lawX_8 (k := 3) rfl
theorem d_law_338 : decode code 338 = .ok (.iconst 2, 1) := lawX_8 (k := 4) rfl
theorem d_law_339 : decode code 339 = .ok (.iadd, 1) := lawX_8 (k := 5) rfl
theorem d_law_340 : decode code 340 = .ok (.iaload, 1) := lawX_8 (k := 6) rfl
theorem d_law_341 : decode code 341 = .ok (.aload_n 0, 1) := lawX_8 (k := 7) rfl
theorem d_law_342 : decode code 342 = .ok (.iload_n 3, 1) := lawX_8 (k := 8) rfl
theorem d_law_343 : decode code 343 = .ok (.iconst 3, 1) := lawX_8 (k := 9) rfl
theorem d_law_344 : decode code 344 = .ok (.iadd, 1) := lawX_8 (k := 10) rfl
theorem d_law_345 : decode code 345 = .ok (.iaload, 1) := lawX_8 (k := 11) rfl
theorem d_law_346 : decode code 346 = .ok (.invokevirtual 32, 3) := lawX_8 (k := 12) rfl
theorem d_law_349 : decode code 349 = .ok (.pop, 1) := lawX_8 (k := 13) rfl
theorem d_law_350 : decode code 350 = .ok (.aload_n 2, 1) := lawX_8 (k := 14) rfl
theorem d_law_351 : decode code 351 = .ok (.aload_n 0, 1) := lawX_8 (k := 15) rfl
theorem d_law_352 : decode code 352 = .ok (.iload_n 3, 1) := lawX_8 (k := 16) rfl
theorem d_law_353 : decode code 353 = .ok (.iconst 1, 1) := lawX_8 (k := 17) rfl
def lawT_9 : List (Nat × Instr × Nat) := [(354, .iadd, 1), (355, .iaload, 1), (356, .aload_n 0, 1), (357, .iload_n 3, 1), (358, .iconst 2, 1), (359, .iadd, 1), (360, .iaload, 1), (361, .aload_n 0, 1), (362, .iload_n 3, 1), (363, .iconst 3, 1), (364, .iadd, 1), (365, .iaload, 1), (366, .invokevirtual 36, 3), (369, .pop, 1), (370, .goto 879, 3), (373, .aload_n 1, 1), (374, .aload_n 0, 1), (375, .iload_n 3, 1)]
set_option maxRecDepth 100000 in
theorem lawD_9 : lawT_9.all (fun q => decide (decode code q.1 = .ok q.2)) = true := by decide +kernel
theorem lawX_9 {k pc n : Nat} {i : Instr} (h : lawT_9[k]? = some (pc, i, n)) : decode code pc = .ok (i, n) := by
  have h1 : decide (decode code pc = .ok (i, n)) = true := List.all_eq_true.mp lawD_9 (pc, i, n) (List.mem_of_getElem? h)
  exact of_decide_eq_true h1
theorem d_law_354 : decode code 354 = .ok (.iadd, 1) := lawX_9 (k := 0) rfl
theorem d_law_355 : decode code 355 = .ok (.iaload, 1) := lawX_9 (k := 1) rfl
theorem d_law_356 : decode code 356 = .ok (.aload_n 0, 1) := lawX_9 (k := 2) rfl
theorem d_law_357 : decode code 357 = .ok (.iload_n 3, 1) := lawX_9 (k := 3) rfl
theorem d_law_358 : decode code 358 = .ok (.iconst 2, 1) := lawX_9 (k := 4) rfl
theorem d_law_359 : decode code 359 = .ok (.iadd, 1) := lawX_9 (k := 5) rfl
theorem d_law_360 : decode code 360 = .ok (.iaload, 1) := lawX_9 (k := 6) rfl
theorem d_law_361 : decode code 361 = .ok (.aload_n 0, 1) := lawX_9 (k := 7) rfl
theorem d_law_362 : decode code 362 = .ok (.iload_n 3, 1) := lawX_9 (k := 8) rfl
theorem d_law_363 : decode code 363 = .ok (.iconst 3, 1) := lawX_9 (k := 9) rfl
theorem d_law_364 : decode code 364 = .ok (.iadd, 1) := lawX_9 (k := 10) rfl
theorem d_law_365 : decode code 365 = .ok (.iaload, 1) := lawX_9 (k := 11) rfl
theorem d_law_366 : decode code 366 = .ok (.invokevirtual 36, 3) := lawX_9 (k := 12) rfl
theorem d_law_369 : decode code 369 = .ok (.pop, 1) := lawX_9 (k := 13) rfl
theorem d_law_370 : decode code 370 = .ok (.goto 879, 3) := lawX_9 (k := 14) rfl
theorem d_law_373 : decode code 373 = .ok (.aload_n 1, 1) := lawX_9 (k := 15) rfl
theorem d_law_374 : decode code 374 = .ok (.aload_n 0, 1) := lawX_9 (k := 16) rfl
theorem d_law_375 : decode code 375 = .ok (.iload_n 3, 1) := lawX_9 (k := 17) rfl
def lawT_10 : List (Nat × Instr × Nat) := [(376, .iconst 1, 1), (377, .iadd, 1), (378, .iaload, 1), (379, .aload_n 0, 1), (380, .iload_n 3, 1), (381, .iconst 2, 1), (382, .iadd, 1), (383, .iaload, 1), (384, .aload_n 0, 1), (385, .iload_n 3, 1), (386, .iconst 3, 1), (387, .iadd, 1), (388, .iaload, 1), (389, .aload_n 0, 1), (390, .iload_n 3, 1), (391, .iconst 4, 1), (392, .iadd, 1), (393, .iaload, 1)]
set_option maxRecDepth 100000 in
theorem lawD_10 : lawT_10.all (fun q => decide (decode code q.1 = .ok q.2)) = true := by decide +kernel
theorem lawX_10 {k pc n : Nat} {i : Instr} (h : lawT_10[k]? = some (pc, i, n)) : decode code pc = .ok (i, n) := by
  have h1 : decide (decode code pc = .ok (i, n)) = true := List.all_eq_true.mp lawD_10 (pc, i, n) (List.mem_of_getElem? h)
  exact of_decide_eq_true h1
theorem d_law_376 : decode code 376 = .ok (.iconst 1, 1) := lawX_10 (k := 0) rfl
theorem d_law_377 : decode code 377 = .ok (.iadd, 1) := lawX_10 (k := 1) rfl
theorem d_law_378 : decode code 378 = .ok (.iaload, 1) := lawX_10 (k := 2) rfl
theorem d_law_379 : decode code 379 = .ok (.aload_n 0, 1) := lawX_10 (k := 3) rfl
theorem d_law_380 : decode code 380 = .ok (.iload_n 3, 1) := lawX_10 (k := 4) rfl
theorem d_law_381 : decode code 381 = .ok (.iconst 2, 1) := lawX_10 (k := 5) rfl
theorem d_law_382 : decode code 382 = .ok (.iadd, 1) := lawX_10 (k := 6) rfl
theorem d_law_383 : decode code 383 = .ok (.iaload, 1) := lawX_10 (k := 7) rfl
theorem d_law_384 : decode code 384 = .ok (.aload_n 0, 1) := lawX_10 (k := 8) rfl
theorem d_law_385 : decode code 385 = .ok (.iload_n 3, 1) := lawX_10 (k := 9) rfl
theorem d_law_386 : decode code 386 = .ok (.iconst 3, 1) := lawX_10 (k := 10) rfl
theorem d_law_387 : decode code 387 = .ok (.iadd, 1) := lawX_10 (k := 11) rfl
theorem d_law_388 : decode code 388 = .ok (.iaload, 1) := lawX_10 (k := 12) rfl
theorem d_law_389 : decode code 389 = .ok (.aload_n 0, 1) := lawX_10 (k := 13) rfl
theorem d_law_390 : decode code 390 = .ok (.iload_n 3, 1) := lawX_10 (k := 14) rfl
theorem d_law_391 : decode code 391 = .ok (.iconst 4, 1) := lawX_10 (k := 15) rfl
theorem d_law_392 : decode code 392 = .ok (.iadd, 1) := lawX_10 (k := 16) rfl
theorem d_law_393 : decode code 393 = .ok (.iaload, 1) := lawX_10 (k := 17) rfl
def lawT_11 : List (Nat × Instr × Nat) := [(394, .invokevirtual 37, 3), (397, .pop, 1), (398, .aload_n 2, 1), (399, .aload_n 0, 1), (400, .iload_n 3, 1), (401, .iconst 1, 1), (402, .iadd, 1), (403, .iaload, 1), (404, .aload_n 0, 1), (405, .iload_n 3, 1), (406, .iconst 2, 1), (407, .iadd, 1), (408, .iaload, 1), (409, .aload_n 0, 1), (410, .iload_n 3, 1), (411, .iconst 3, 1), (412, .iadd, 1), (413, .iaload, 1)]
set_option maxRecDepth 100000 in
theorem lawD_11 : lawT_11.all (fun q => decide (decode code q.1 = .ok q.2)) = true := by decide +kernel
theorem lawX_11 {k pc n : Nat} {i : Instr} (h : lawT_11[k]? = some (pc, i, n)) : decode code pc = .ok (i, n) := by
  have h1 : decide (decode code pc = .ok (i, n)) = true := List.all_eq_true.mp lawD_11 (pc, i, n) (List.mem_of_getElem? h)
  exact of_decide_eq_true h1
theorem d_law_394 : decode code 394 = .ok (.invokevirtual 37, 3) := lawX_11 (k := 0) rfl
theorem d_law_397 : decode code 397 = .ok (.pop, 1) := lawX_11 (k := 1) rfl
theorem d_law_398 : decode code 398 = .ok (.aload_n 2, 1) := lawX_11 (k := 2) rfl
theorem d_law_399 : decode code 399 = .ok (.aload_n 0, 1) := lawX_11 (k := 3) rfl
theorem d_law_400 : decode code 400 = .ok (.iload_n 3, 1) := lawX_11 (k := 4) rfl
theorem d_law_401 : decode code 401 = .ok (.iconst 1, 1) := lawX_11 (k := 5) rfl
theorem d_law_402 : decode code 402 = .ok (.iadd, 1) := lawX_11 (k := 6) rfl
theorem d_law_403 : decode code 403 = .ok (.iaload, 1) := lawX_11 (k := 7) rfl
theorem d_law_404 : decode code 404 = .ok (.aload_n 0, 1) := lawX_11 (k := 8) rfl
theorem d_law_405 : decode code 405 = .ok (.iload_n 3, 1) := lawX_11 (k := 9) rfl
theorem d_law_406 : decode code 406 = .ok (.iconst 2, 1) := lawX_11 (k := 10) rfl
theorem d_law_407 : decode code 407 = .ok (.iadd, 1) := lawX_11 (k := 11) rfl
theorem d_law_408 : decode code 408 = .ok (.iaload, 1) := lawX_11 (k := 12) rfl
theorem d_law_409 : decode code 409 = .ok (.aload_n 0, 1) := lawX_11 (k := 13) rfl
theorem d_law_410 : decode code 410 = .ok (.iload_n 3, 1) := lawX_11 (k := 14) rfl
theorem d_law_411 : decode code 411 = .ok (.iconst 3, 1) := lawX_11 (k := 15) rfl
theorem d_law_412 : decode code 412 = .ok (.iadd, 1) := lawX_11 (k := 16) rfl
theorem d_law_413 : decode code 413 = .ok (.iaload, 1) := lawX_11 (k := 17) rfl
def lawT_12 : List (Nat × Instr × Nat) := [(414, .aload_n 0, 1), (415, .iload_n 3, 1), (416, .iconst 4, 1), (417, .iadd, 1), (418, .iaload, 1), (419, .invokevirtual 40, 3), (422, .pop, 1), (423, .goto 826, 3), (426, .aload_n 1, 1), (427, .aload_n 0, 1), (428, .iload_n 3, 1), (429, .iconst 1, 1), (430, .iadd, 1), (431, .iaload, 1), (432, .aload_n 0, 1), (433, .iload_n 3, 1), (434, .iconst 2, 1), (435, .iadd, 1)]
set_option maxRecDepth 100000 in
theorem lawD_12 : lawT_12.all (fun q => decide (decode code q.1 = .ok q.2)) = true := by decide +kernel
theorem lawX_12 {k pc n : Nat} {i : Instr} (h : lawT_12[k]? = some (pc, i, n)) : decode code pc = .ok (i, n) := by
  have h1 : decide (decode code pc = .ok (i, n)) = true := List.all_eq_true.mp lawD_12 (pc, i, n) (List.mem_of_getElem? h)
  exact of_decide_eq_true h1
theorem d_law_414 : decode code 414 = .ok (.aload_n 0, 1) := lawX_12 (k := 0) rfl
theorem d_law_415 : decode code 415 = .ok (.iload_n 3, 1) := lawX_12 (k := 1) rfl
theorem d_law_416 : decode code 416 = .ok (.iconst 4, 1) := lawX_12 (k := 2) rfl
theorem d_law_417 : decode code 417 = .ok (.iadd, 1) := lawX_12 (k := 3) rfl
theorem d_law_418 : decode code 418 = .ok (.iaload, 1) := lawX_12 (k := 4) rfl
theorem d_law_419 : decode code 419 = .ok (.invokevirtual 40, 3) := lawX_12 (k := 5) rfl
theorem d_law_422 : decode code 422 = .ok (.pop, 1) := lawX_12 (k := 6) rfl
theorem d_law_423 : decode code 423 = .ok (.goto 826, 3) := lawX_12 (k := 7) rfl
theorem d_law_426 : decode code 426 = .ok (.aload_n 1, 1) := lawX_12 (k := 8) rfl
theorem d_law_427 : decode code 427 = .ok (.aload_n 0, 1) := lawX_12 (k := 9) rfl
theorem d_law_428 : decode code 428 = .ok (.iload_n 3, 1) := lawX_12 (k := 10) rfl
theorem d_law_429 : decode code 429 = .ok (.iconst 1, 1) := lawX_12 (k := 11) rfl
theorem d_law_430 : decode code 430 = .ok (.iadd, 1) := lawX_12 (k := 12) rfl
theorem d_law_431 : decode code 431 = .ok (.iaload, 1) := lawX_12 (k := 13) rfl
theorem d_law_432 : decode code 432 = .ok (.aload_n 0, 1) := lawX_12 (k := 14) rfl
theorem d_law_433 : decode code 433 = .ok (.iload_n 3, 1) := lawX_12 (k := 15) rfl
theorem d_law_434 : decode code 434 = .ok (.iconst 2, 1) := lawX_12 (k := 16) rfl
theorem d_law_435 : decode code 435 = .ok (.iadd, 1) := lawX_12 (k := 17) rfl
def lawT_13 : List (Nat × Instr × Nat) := [(436, .iaload, 1), (437, .invokevirtual 41, 3), (440, .pop, 1), (441, .aload_n 2, 1), (442, .aload_n 0, 1), (443, .iload_n 3, 1), (444, .iconst 1, 1), (445, .iadd, 1), (446, .iaload, 1), (447, .aload_n 0, 1), (448, .iload_n 3, 1), (449, .iconst 2, 1), (450, .iadd, 1), (451, .iaload, 1), (452, .invokevirtual 45, 3), (455, .pop, 1), (456, .goto 793, 3), (459, .aload_n 1, 1)]
set_option maxRecDepth 100000 in
theorem lawD_13 : lawT_13.all (fun q => decide (decode code q.1 = .ok q.2)) = true := by decide +kernel
theorem lawX_13 {k pc n : Nat} {i : Instr} (h : lawT_13[k]? = some (pc, i, n)) : decode code pc = .ok (i, n) := by
  have h1 : decide (decode code pc = .ok (i, n)) = true := List.all_eq_true.mp lawD_13 (pc, i, n) (List.mem_of_getElem? h)
  exact of_decide_eq_true h1
theorem d_law_436 : decode code 436 = .ok (.iaload, 1) := lawX_13 (k := 0) rfl
theorem d_law_437 : decode code 437 = .ok (.invokevirtual 41, 3) := lawX_13 (k := 1) rfl
theorem d_law_440 : decode code 440 = .ok (.pop, 1) := lawX_13 (k := 2) rfl
theorem d_law_441 : decode code 441 = .ok (.aload_n 2, 1) := lawX_13 (k := 3) rfl
theorem d_law_442 : decode code 442 = .ok (.aload_n 0, 1) := lawX_13 (k := 4) rfl
theorem d_law_443 : decode code 443 = .ok (.iload_n 3, 1) := lawX_13 (k := 5) rfl
theorem d_law_444 : decode code 444 = .ok (.iconst 1, 1) := lawX_13 (k := 6) rfl
theorem d_law_445 : decode code 445 = .ok (.iadd, 1) := lawX_13 (k := 7) rfl
theorem d_law_446 : decode code 446 = .ok (.iaload, 1) := lawX_13 (k := 8) rfl
theorem d_law_447 : decode code 447 = .ok (.aload_n 0, 1) := lawX_13 (k := 9) rfl
theorem d_law_448 : decode code 448 = .ok (.iload_n 3, 1) := lawX_13 (k := 10) rfl
theorem d_law_449 : decode code 449 = .ok (.iconst 2, 1) := lawX_13 (k := 11) rfl
theorem d_law_450 : decode code 450 = .ok (.iadd, 1) := lawX_13 (k := 12) rfl
theorem d_law_451 : decode code 451 = .ok (.iaload, 1) := lawX_13 (k := 13) rfl
theorem d_law_452 : decode code 452 = .ok (.invokevirtual 45, 3) := lawX_13 (k := 14) rfl
theorem d_law_455 : decode code 455 = .ok (.pop, 1) := lawX_13 (k := 15) rfl
theorem d_law_456 : decode code 456 = .ok (.goto 793, 3) := lawX_13 (k := 16) rfl
theorem d_law_459 : decode code 459 = .ok (.aload_n 1, 1) := lawX_13 (k := 17) rfl
def lawT_14 : List (Nat × Instr × Nat) := [(460, .aload_n 0, 1), (461, .iload_n 3, 1), (462, .iconst 1, 1), (463, .iadd, 1), (464, .iaload, 1), (465, .aload_n 0, 1), (466, .iload_n 3, 1), (467, .iconst 2, 1), (468, .iadd, 1), (469, .iaload, 1), (470, .invokevirtual 46, 3), (473, .pop, 1), (474, .aload_n 2, 1), (475, .aload_n 0, 1), (476, .iload_n 3, 1), (477, .iconst 1, 1), (478, .iadd, 1), (479, .iaload, 1)]
set_option maxRecDepth 100000 in
theorem lawD_14 : lawT_14.all (fun q => decide (decode code q.1 = .ok q.2)) = true := by decide +kernel
theorem lawX_14 {k pc n : Nat} {i : Instr} (h : lawT_14[k]? = some (pc, i, n)) : decode code pc = .ok (i, n) := by
  have h1 : decide (decode code pc = .ok (i, n)) = true := List.all_eq_true.mp lawD_14 (pc, i, n) (List.mem_of_getElem? h)
  exact of_decide_eq_true h1
theorem d_law_460 : decode code 460 = .ok (.aload_n 0, 1) := lawX_14 (k := 0) rfl
theorem d_law_461 : decode code 461 = .ok (.iload_n 3, 1) := lawX_14 (k := 1) rfl
theorem d_law_462 : decode code 462 = .ok (.iconst 1, 1) := lawX_14 (k := 2) rfl
theorem d_law_463 : decode code 463 = .ok (.iadd, 1) := lawX_14 (k := 3) rfl
theorem d_law_464 : decode code 464 = .ok (.iaload, 1) := lawX_14 (k := 4) rfl
theorem d_law_465 : decode code 465 = .ok (.aload_n 0, 1) := lawX_14 (k := 5) rfl
theorem d_law_466 : decode code 466 = .ok (.iload_n 3, 1) := lawX_14 (k := 6) rfl
theorem d_law_467 : decode code 467 = .ok (.iconst 2, 1) := lawX_14 (k := 7) rfl
theorem d_law_468 : decode code 468 = .ok (.iadd, 1) := lawX_14 (k := 8) rfl
theorem d_law_469 : decode code 469 = .ok (.iaload, 1) := lawX_14 (k := 9) rfl
theorem d_law_470 : decode code 470 = .ok (.invokevirtual 46, 3) := lawX_14 (k := 10) rfl
theorem d_law_473 : decode code 473 = .ok (.pop, 1) := lawX_14 (k := 11) rfl
theorem d_law_474 : decode code 474 = .ok (.aload_n 2, 1) := lawX_14 (k := 12) rfl
theorem d_law_475 : decode code 475 = .ok (.aload_n 0, 1) := lawX_14 (k := 13) rfl
theorem d_law_476 : decode code 476 = .ok (.iload_n 3, 1) := lawX_14 (k := 14) rfl
theorem d_law_477 : decode code 477 = .ok (.iconst 1, 1) := lawX_14 (k := 15) rfl
theorem d_law_478 : decode code 478 = .ok (.iadd, 1) := lawX_14 (k := 16) rfl
theorem d_law_479 : decode code 479 = .ok (.iaload, 1) := lawX_14 (k := 17) rfl
def lawT_15 : List (Nat × Instr × Nat) := [(480, .aload_n 0, 1), (481, .iload_n 3, 1), (482, .iconst 2, 1), (483, .iadd, 1), (484, .iaload, 1), (485, .invokevirtual 49, 3), (488, .pop, 1), (489, .goto 760, 3), (492, .aload_n 1, 1), (493, .aload_n 0, 1), (494, .iload_n 3, 1), (495, .iconst 1, 1), (496, .iadd, 1), (497, .iaload, 1), (498, .aload_n 0, 1), (499, .iload_n 3, 1), (500, .iconst 2, 1), (501, .iadd, 1)]
set_option maxRecDepth 100000 in
theorem lawD_15 : lawT_15.all (fun q => decide (decode code q.1 = .ok q.2)) = true := by decide +kernel
theorem lawX_15 {k pc n : Nat} {i : Instr} (h : lawT_15[k]? = some (pc, i, n)) : decode code pc = .ok (i, n) := by
  have h1 : decide (decode code pc = .ok (i, n)) = true := List.all_eq_true.mp lawD_15 (pc, i, n) (List.mem_of_getElem? h)
  exact of_decide_eq_true h1
theorem d_law_480 : decode code 480 = .ok (.aload_n 0, 1) := lawX_15 (k := 0) rfl
theorem d_law_481 : decode code 481 = .ok (.iload_n 3, 1) := lawX_15 (k := 1) rfl
theorem d_law_482 : decode code 482 = .ok (.iconst 2, 1) := lawX_15 (k := 2) rfl
theorem d_law_483 : decode code 483 = .ok (.iadd, 1) := lawX_15 (k := 3) rfl
theorem d_law_484 : decode code 484 = .ok (.iaload, 1) := lawX_15 (k := 4) rfl
theorem d_law_485 : decode code 485 = .ok (.invokevirtual 49, 3) := lawX_15 (k := 5) rfl
theorem d_law_488 : decode code 488 = .ok (.pop, 1) := lawX_15 (k := 6) rfl
theorem d_law_489 : decode code 489 = .ok (.goto 760, 3) := lawX_15 (k := 7) rfl
theorem d_law_492 : decode code 492 = .ok (.aload_n 1, 1) := lawX_15 (k := 8) rfl
theorem d_law_493 : decode code 493 = .ok (.aload_n 0, 1) := lawX_15 (k := 9) rfl
theorem d_law_494 : decode code 494 = .ok (.iload_n 3, 1) := lawX_15 (k := 10) rfl
theorem d_law_495 : decode code 495 = .ok (.iconst 1, 1) := lawX_15 (k := 11) rfl
theorem d_law_496 : decode code 496 = .ok (.iadd, 1) := lawX_15 (k := 12) rfl
theorem d_law_497 : decode code 497 = .ok (.iaload, 1) := lawX_15 (k := 13) rfl
theorem d_law_498 : decode code 498 = .ok (.aload_n 0, 1) := lawX_15 (k := 14) rfl
theorem d_law_499 : decode code 499 = .ok (.iload_n 3, 1) := lawX_15 (k := 15) rfl
theorem d_law_500 : decode code 500 = .ok (.iconst 2, 1) := lawX_15 (k := 16) rfl
theorem d_law_501 : decode code 501 = .ok (.iadd, 1) := lawX_15 (k := 17) rfl
def lawT_16 : List (Nat × Instr × Nat) := [(502, .iaload, 1), (503, .invokevirtual 50, 3), (506, .pop, 1), (507, .aload_n 2, 1), (508, .aload_n 0, 1), (509, .iload_n 3, 1), (510, .iconst 1, 1), (511, .iadd, 1), (512, .iaload, 1), (513, .aload_n 0, 1), (514, .iload_n 3, 1), (515, .iconst 2, 1), (516, .iadd, 1), (517, .iaload, 1), (518, .invokevirtual 53, 3), (521, .pop, 1), (522, .goto 727, 3), (525, .aload_n 1, 1)]
set_option maxRecDepth 100000 in
theorem lawD_16 : lawT_16.all (fun q => decide (decode code q.1 = .ok q.2)) = true := by decide +kernel
theorem lawX_16 {k pc n : Nat} {i : Instr} (h : lawT_16[k]? = some (pc, i, n)) : decode code pc = .ok (i, n) := by
  have h1 : decide (decode code pc = .ok (i, n)) = true := List.all_eq_true.mp lawD_16 (pc, i, n) (List.mem_of_getElem? h)
  exact of_decide_eq_true h1
theorem d_law_502 : decode code 502 = .ok (.iaload, 1) := lawX_16 (k := 0) rfl
theorem d_law_503 : decode code 503 = .ok (.invokevirtual 50, 3) := lawX_16 (k := 1) rfl
theorem d_law_506 : decode code 506 = .ok (.pop, 1) := lawX_16 (k := 2) rfl
theorem d_law_507 : decode code 507 = .ok (.aload_n 2, 1) := lawX_16 (k := 3) rfl
theorem d_law_508 : decode code 508 = .ok (.aload_n 0, 1) := lawX_16 (k := 4) rfl
theorem d_law_509 : decode code 509 = .ok (.iload_n 3, 1) := lawX_16 (k := 5) rfl
theorem d_law_510 : decode code 510 = .ok (.iconst 1, 1) := lawX_16 (k := 6) rfl
theorem d_law_511 : decode code 511 = .ok (.iadd, 1) := lawX_16 (k := 7) rfl
theorem d_law_512 : decode code 512 = .ok (.iaload, 1) := lawX_16 (k := 8) rfl
theorem d_law_513 : decode code 513 = .ok (.aload_n 0, 1) := lawX_16 (k := 9) rfl
theorem d_law_514 : decode code 514 = .ok (.iload_n 3, 1) := lawX_16 (k := 10) rfl
theorem d_law_515 : decode code 515 = .ok (.iconst 2, 1) := lawX_16 (k := 11) rfl
theorem d_law_516 : decode code 516 = .ok (.iadd, 1) := lawX_16 (k := 12) rfl
theorem d_law_517 : decode code 517 = .ok (.iaload, 1) := lawX_16 (k := 13) rfl
theorem d_law_518 : decode code 518 = .ok (.invokevirtual 53, 3) := lawX_16 (k := 14) rfl
theorem d_law_521 : decode code 521 = .ok (.pop, 1) := lawX_16 (k := 15) rfl
theorem d_law_522 : decode code 522 = .ok (.goto 727, 3) := lawX_16 (k := 16) rfl
theorem d_law_525 : decode code 525 = .ok (.aload_n 1, 1) := lawX_16 (k := 17) rfl
def lawT_17 : List (Nat × Instr × Nat) := [(526, .aload_n 0, 1), (527, .iload_n 3, 1), (528, .iconst 1, 1), (529, .iadd, 1), (530, .iaload, 1), (531, .invokevirtual 54, 3), (534, .pop, 1), (535, .aload_n 2, 1), (536, .aload_n 0, 1), (537, .iload_n 3, 1), (538, .iconst 1, 1), (539, .iadd, 1), (540, .iaload, 1), (541, .invokevirtual 58, 3), (544, .pop, 1), (545, .goto 704, 3), (548, .aload_n 1, 1), (549, .aload_n 0, 1)]
set_option maxRecDepth 100000 in
theorem lawD_17 : lawT_17.all (fun q => decide (decode code q.1 = .ok q.2)) = true := by decide +kernel
theorem lawX_17 {k pc n : Nat} {i : Instr} (h : lawT_17[k]? = some (pc, i, n)) : decode code pc = .ok (i, n) := by
  have h1 : decide (decode code pc = .ok (i, n)) = true := List.all_eq_true.mp lawD_17 (pc, i, n) (List.mem_of_getElem? h)
  exact of_decide_eq_true h1
theorem d_law_526 : decode code 526 = .ok (.aload_n 0, 1) := lawX_17 (k := 0) rfl
theorem d_law_527 : decode code 527 = .ok (.iload_n 3, 1) := lawX_17 (k := 1) rfl
theorem d_law_528 : decode code 528 = .ok (.iconst 1, 1) := lawX_17 (k := 2) rfl
theorem d_law_529 : decode code 529 = .ok (.iadd, 1) := lawX_17 (k := 3) rfl
theorem d_law_530 : decode code 530 = .ok (.iaload, 1) := lawX_17 (k := 4) rfl
theorem d_law_531 : decode code 531 = .ok (.invokevirtual 54, 3) := lawX_17 (k := 5) rfl
theorem d_law_534 : decode code 534 = .ok (.pop, 1) := lawX_17 (k := 6) rfl
theorem d_law_535 : decode code 535 = .ok (.aload_n 2, 1) := lawX_17 (k := 7) rfl
theorem d_law_536 : decode code 536 = .ok (.aload_n 0, 1) := lawX_17 (k := 8) rfl
theorem d_law_537 : decode code 537 = .ok (.iload_n 3, 1) := lawX_17 (k := 9) rfl
theorem d_law_538 : decode code 538 = .ok (.iconst 1, 1) := lawX_17 (k := 10) rfl
theorem d_law_539 : decode code 539 = .ok (.iadd, 1) := lawX_17 (k := 11) rfl
theorem d_law_540 : decode code 540 = .ok (.iaload, 1) := lawX_17 (k := 12) rfl
theorem d_law_541 : decode code 541 = .ok (.invokevirtual 58, 3) := lawX_17 (k := 13) rfl
theorem d_law_544 : decode code 544 = .ok (.pop, 1) := lawX_17 (k := 14) rfl
theorem d_law_545 : decode code 545 = .ok (.goto 704, 3) := lawX_17 (k := 15) rfl
theorem d_law_548 : decode code 548 = .ok (.aload_n 1, 1) := lawX_17 (k := 16) rfl
theorem d_law_549 : decode code 549 = .ok (.aload_n 0, 1) := lawX_17 (k := 17) rfl
def lawT_18 : List (Nat × Instr × Nat) := [(550, .iload_n 3, 1), (551, .iconst 1, 1), (552, .iadd, 1), (553, .iaload, 1), (554, .invokevirtual 59, 3), (557, .pop, 1), (558, .aload_n 2, 1), (559, .aload_n 0, 1), (560, .iload_n 3, 1), (561, .iconst 1, 1), (562, .iadd, 1), (563, .iaload, 1), (564, .invokevirtual 62, 3), (567, .pop, 1), (568, .goto 681, 3), (571, .aload_n 1, 1), (572, .aload_n 0, 1), (573, .iload_n 3, 1)]
set_option maxRecDepth 100000 in
theorem lawD_18 : lawT_18.all (fun q => decide (decode code q.1 = .ok q.2)) = true := by decide +kernel
theorem lawX_18 {k pc n : Nat} {i : Instr} (h : lawT_18[k]? = some (pc, i, n)) : decode code pc = .ok (i, n) := by
  have h1 : decide (decode code pc = .ok (i, n)) = true := List.all_eq_true.mp lawD_18 (pc, i, n) (List.mem_of_getElem? h)
  exact of_decide_eq_true h1
theorem d_law_550 : decode code 550 = .ok (.iload_n 3, 1) := lawX_18 (k := 0) rfl
theorem d_law_551 : decode code 551 = .ok (.iconst 1, 1) := lawX_18 (k := 1) rfl
theorem d_law_552 : decode code 552 = .ok (.iadd, 1) := lawX_18 (k := 2) rfl
theorem d_law_553 : decode code 553 = .ok (.iaload, 1) := lawX_18 (k := 3) rfl
theorem d_law_554 : decode code 554 = .ok (.invokevirtual 59, 3) := lawX_18 (k := 4) rfl
theorem d_law_557 : decode code 557 = .ok (.pop, 1) := lawX_18 (k := 5) rfl
theorem d_law_558 : decode code 558 = .ok (.aload_n 2, 1) := lawX_18 (k := 6) rfl
theorem d_law_559 : decode code 559 = .ok (.aload_n 0, 1) := lawX_18 (k := 7) rfl
theorem d_law_560 : decode code 560 = .ok (.iload_n 3, 1) := lawX_18 (k := 8) rfl
theorem d_law_561 : decode code 561 = .ok (.iconst 1, 1) := lawX_18 (k := 9) rfl
theorem d_law_562 : decode code 562 = .ok (.iadd, 1) := lawX_18 (k := 10) rfl
theorem d_law_563 : decode code 563 = .ok (.iaload, 1) := lawX_18 (k := 11) rfl
theorem d_law_564 : decode code 564 = .ok (.invokevirtual 62, 3) := lawX_18 (k := 12) rfl
theorem d_law_567 : decode code 567 = .ok (.pop, 1) := lawX_18 (k := 13) rfl
theorem d_law_568 : decode code 568 = .ok (.goto 681, 3) := lawX_18 (k := 14) rfl
theorem d_law_571 : decode code 571 = .ok (.aload_n 1, 1) := lawX_18 (k := 15) rfl
theorem d_law_572 : decode code 572 = .ok (.aload_n 0, 1) := lawX_18 (k := 16) rfl
theorem d_law_573 : decode code 573 = .ok (.iload_n 3, 1) := lawX_18 (k := 17) rfl
def lawT_19 : List (Nat × Instr × Nat) := [(574, .iconst 1, 1), (575, .iadd, 1), (576, .iaload, 1), (577, .invokevirtual 63, 3), (580, .pop, 1), (581, .aload_n 2, 1), (582, .aload_n 0, 1), (583, .iload_n 3, 1), (584, .iconst 1, 1), (585, .iadd, 1), (586, .iaload, 1), (587, .invokevirtual 66, 3), (590, .pop, 1), (591, .goto 658, 3), (594, .aload_n 1, 1), (595, .aload_n 0, 1), (596, .iload_n 3, 1), (597, .iconst 1, 1)]
set_option maxRecDepth 100000 in
theorem lawD_19 : lawT_19.all (fun q => decide (decode code q.1 = .ok q.2)) = true := by decide +kernel
theorem lawX_19 {k pc n : Nat} {i : Instr} (h : lawT_19[k]? = some (pc, i, n)) : decode code pc = .ok (i, n) := by
  have h1 : decide (decode code pc = .ok (i, n)) = true := List.all_eq_true.mp lawD_19 (pc, i, n) (List.mem_of_getElem? h)
  exact of_decide_eq_true h1
theorem d_law_574 : decode code 574 = .ok (.iconst 1, 1) := lawX_19 (k := 0) rfl
theorem d_law_575 : decode code 575 = .ok (.iadd, 1) := lawX_19 (k := 1) rfl
theorem d_law_576 : decode code 576 = .ok (.iaload, 1) := lawX_19 (k := 2) rfl
theorem d_law_577 : decode code 577 = .ok (.invokevirtual 63, 3) := lawX_19 (k := 3) rfl
theorem d_law_580 : decode code 580 = .ok (.pop, 1) := lawX_19 (k := 4) rfl
theorem d_law_581 : decode code 581 = .ok (.aload_n 2, 1) := lawX_19 (k := 5) rfl
theorem d_law_582 : decode code 582 = .ok (.aload_n 0, 1) := lawX_19 (k := 6) rfl
theorem d_law_583 : decode code 583 = .ok (.iload_n 3, 1) := lawX_19 (k := 7) rfl
theorem d_law_584 : decode code 584 = .ok (.iconst 1, 1) := lawX_19 (k := 8) rfl
theorem d_law_585 : decode code 585 = .ok (.iadd, 1) := lawX_19 (k := 9) rfl
theorem d_law_586 : decode code 586 = .ok (.iaload, 1) := lawX_19 (k := 10) rfl
theorem d_law_587 : decode code 587 = .ok (.invokevirtual 66, 3) := lawX_19 (k := 11) rfl
theorem d_law_590 : decode code 590 = .ok (.pop, 1) := lawX_19 (k := 12) rfl
theorem d_law_591 : decode code 591 = .ok (.goto 658, 3) := lawX_19 (k := 13) rfl
theorem d_law_594 : decode code 594 = .ok (.aload_n 1, 1) := lawX_19 (k := 14) rfl
theorem d_law_595 : decode code 595 = .ok (.aload_n 0, 1) := lawX_19 (k := 15) rfl
theorem d_law_596 : decode code 596 = .ok (.iload_n 3, 1) := lawX_19 (k := 16) rfl
theorem d_law_597 : decode code 597 = .ok (.iconst 1, 1) := lawX_19 (k := 17) rfl
def lawT_20 : List (Nat × Instr × Nat) := [(598, .iadd, 1), (599, .iaload, 1), (600, .invokevirtual 67, 3), (603, .pop, 1), (604, .aload_n 2, 1), (605, .aload_n 0, 1), (606, .iload_n 3, 1), (607, .iconst 1, 1), (608, .iadd, 1), (609, .iaload, 1), (610, .invokevirtual 70, 3), (613, .pop, 1), (614, .goto 635, 3), (617, .aload_n 1, 1), (618, .aload_n 0, 1), (619, .iload_n 3, 1), (620, .iconst 1, 1), (621, .iadd, 1)]
set_option maxRecDepth 100000 in
theorem lawD_20 : lawT_20.all (fun q => decide (decode code q.1 = .ok q.2)) = true := by decide +kernel
theorem lawX_20 {k pc n : Nat} {i : Instr} (h : lawT_20[k]? = some (pc, i, n)) : decode code pc = .ok (i, n) := by
  have h1 : decide (decode code pc = .ok (i, n)) = true := List.all_eq_true.mp lawD_20 (pc, i, n) (List.mem_of_getElem? h)
  exact of_decide_eq_true h1
theorem d_law_598 : decode code 598 = .ok (.iadd, 1) := lawX_20 (k := 0) rfl
theorem d_law_599 : decode code 599 = .ok (.iaload, 1) := lawX_20 (k := 1) rfl
theorem d_law_600 : decode code 600 = .ok (.invokevirtual 67, 3) := lawX_20 (k := 2) rfl
theorem d_law_603 : decode code 603 = .ok (.pop, 1) := lawX_20 (k := 3) rfl
theorem d_law_604 : decode code 604 = .ok (.aload_n 2, 1) := lawX_20 (k := 4) rfl
theorem d_law_605 : decode code 605 = .ok (.aload_n 0, 1) := lawX_20 (k := 5) rfl
theorem d_law_606 : decode code 606 = .ok (.iload_n 3, 1) := lawX_20 (k := 6) rfl
theorem d_law_607 : decode code 607 = .ok (.iconst 1, 1) := lawX_20 (k := 7) rfl
theorem d_law_608 : decode code 608 = .ok (.iadd, 1) := lawX_20 (k := 8) rfl
theorem d_law_609 : decode code 609 = .ok (.iaload, 1) := lawX_20 (k := 9) rfl
theorem d_law_610 : decode code 610 = .ok (.invokevirtual 70, 3) := lawX_20 (k := 10) rfl
theorem d_law_613 : decode code 613 = .ok (.pop, 1) := lawX_20 (k := 11) rfl
theorem d_law_614 : decode code 614 = .ok (.goto 635, 3) := lawX_20 (k := 12) rfl
theorem d_law_617 : decode code 617 = .ok (.aload_n 1, 1) := lawX_20 (k := 13) rfl
theorem d_law_618 : decode code 618 = .ok (.aload_n 0, 1) := lawX_20 (k := 14) rfl
theorem d_law_619 : decode code 619 = .ok (.iload_n 3, 1) := lawX_20 (k := 15) rfl
theorem d_law_620 : decode code 620 = .ok (.iconst 1, 1) := lawX_20 (k := 16) rfl
theorem d_law_621 : decode code 621 = .ok (.iadd, 1) := lawX_20 (k := 17) rfl
def lawT_21 : List (Nat × Instr × Nat) := [(622, .iaload, 1), (623, .invokevirtual 71, 3), (626, .pop, 1), (627, .aload_n 2, 1), (628, .aload_n 0, 1), (629, .iload_n 3, 1), (630, .iconst 1, 1), (631, .iadd, 1), (632, .iaload, 1), (633, .invokevirtual 74, 3), (636, .pop, 1), (637, .goto 612, 3), (640, .aload_n 1, 1), (641, .aload_n 0, 1), (642, .iload_n 3, 1), (643, .iconst 1, 1), (644, .iadd, 1), (645, .iaload, 1)]
set_option maxRecDepth 100000 in
theorem lawD_21 : lawT_21.all (fun q => decide (decode code q.1 = .ok q.2)) = true := by decide +kernel
theorem lawX_21 {k pc n : Nat} {i : Instr} (h : lawT_21[k]? = some (pc, i, n)) : decode code pc = .ok (i, n) := by
  have h1 : decide (decode code pc = .ok (i, n)) = true := List.all_eq_true.mp lawD_21 (pc, i, n) (List.mem_of_getElem? h)
  exact of_decide_eq_true h1
theorem d_law_622 : decode code 622 = .ok (.iaload, 1) := lawX_21 (k := 0) rfl
theorem d_law_623 : decode code 623 = .ok (.invokevirtual 71, 3) := lawX_21 (k := 1) rfl
theorem d_law_626 : decode code 626 = .ok (.pop, 1) := lawX_21 (k := 2) rfl
theorem d_law_627 : decode code 627 = .ok (.aload_n 2, 1) := lawX_21 (k := 3) rfl
theorem d_law_628 : decode code 628 = .ok (.aload_n 0, 1) := lawX_21 (k := 4) rfl
theorem d_law_629 : decode code 629 = .ok (.iload_n 3, 1) := lawX_21 (k := 5) rfl
theorem d_law_630 : decode code 630 = .ok (.iconst 1, 1) := lawX_21 (k := 6) rfl
theorem d_law_631 : decode code 631 = .ok (.iadd, 1) := lawX_21 (k := 7) rfl
theorem d_law_632 : decode code 632 = .ok (.iaload, 1) := lawX_21 (k := 8) rfl
theorem d_law_633 : decode code 633 = .ok (.invokevirtual 74, 3) := lawX_21 (k := 9) rfl
theorem d_law_636 : decode code 636 = .ok (.pop, 1) := lawX_21 (k := 10) rfl
theorem d_law_637 : decode code 637 = .ok (.goto 612, 3) := lawX_21 (k := 11) rfl
theorem d_law_640 : decode code 640 = .ok (.aload_n 1, 1) := lawX_21 (k := 12) rfl
theorem d_law_641 : decode code 641 = .ok (.aload_n 0, 1) := lawX_21 (k := 13) rfl
theorem d_law_642 : decode code 642 = .ok (.iload_n 3, 1) := lawX_21 (k := 14) rfl
theorem d_law_643 : decode code 643 = .ok (.iconst 1, 1) := lawX_21 (k := 15) rfl
theorem d_law_644 : decode code 644 = .ok (.iadd, 1) := lawX_21 (k := 16) rfl
theorem d_law_645 : decode code 645 = .ok (.iaload, 1) := lawX_21 (k := 17) rfl
def lawT_22 : List (Nat × Instr × Nat) := [(646, .invokevirtual 75, 3), (649, .pop, 1), (650, .aload_n 2, 1), (651, .aload_n 0, 1), (652, .iload_n 3, 1), (653, .iconst 1, 1), (654, .iadd, 1), (655, .iaload, 1), (656, .invokevirtual 78, 3), (659, .pop, 1), (660, .goto 589, 3), (663, .aload_n 1, 1), (664, .aload_n 0, 1), (665, .iload_n 3, 1), (666, .iconst 1, 1), (667, .iadd, 1), (668, .iaload, 1), (669, .aload_n 0, 1)]
set_option maxRecDepth 100000 in
theorem lawD_22 : lawT_22.all (fun q => decide (decode code q.1 = .ok q.2)) = true := by decide +kernel
theorem lawX_22 {k pc n : Nat} {i : Instr} (h : lawT_22[k]? = some (pc, i, n)) : decode code pc = .ok (i, n) := by
  have h1 : decide (decode code pc = .ok (i, n)) = true := List.all_eq_true.mp lawD_22 (pc, i, n) (List.mem_of_getElem? h)
  exact of_decide_eq_true h1
theorem d_law_646 : decode code 646 = .ok (.invokevirtual 75, 3) := lawX_22 (k := 0) rfl
theorem d_law_649 : decode code 649 = .ok (.pop, 1) := lawX_22 (k := 1) rfl
theorem d_law_650 : decode code 650 = .ok (.aload_n 2, 1) := lawX_22 (k := 2) rfl
theorem d_law_651 : decode code 651 = .ok (.aload_n 0, 1) := lawX_22 (k := 3) rfl
theorem d_law_652 : decode code 652 = .ok (.iload_n 3, 1) := lawX_22 (k := 4) rfl
theorem d_law_653 : decode code 653 = .ok (.iconst 1, 1) := lawX_22 (k := 5) rfl
theorem d_law_654 : decode code 654 = .ok (.iadd, 1) := lawX_22 (k := 6) rfl
theorem d_law_655 : decode code 655 = .ok (.iaload, 1) := lawX_22 (k := 7) rfl
theorem d_law_656 : decode code 656 = .ok (.invokevirtual 78, 3) := lawX_22 (k := 8) rfl
theorem d_law_659 : decode code 659 = .ok (.pop, 1) := lawX_22 (k := 9) rfl
theorem d_law_660 : decode code 660 = .ok (.goto 589, 3) := lawX_22 (k := 10) rfl
theorem d_law_663 : decode code 663 = .ok (.aload_n 1, 1) := lawX_22 (k := 11) rfl
theorem d_law_664 : decode code 664 = .ok (.aload_n 0, 1) := lawX_22 (k := 12) rfl
theorem d_law_665 : decode code 665 = .ok (.iload_n 3, 1) := lawX_22 (k := 13) rfl
theorem d_law_666 : decode code 666 = .ok (.iconst 1, 1) := lawX_22 (k := 14) rfl
theorem d_law_667 : decode code 667 = .ok (.iadd, 1) := lawX_22 (k := 15) rfl
theorem d_law_668 : decode code 668 = .ok (.iaload, 1) := lawX_22 (k := 16) rfl
theorem d_law_669 : decode code 669 = .ok (.aload_n 0, 1) := lawX_22 (k := 17) rfl
def lawT_23 : List (Nat × Instr × Nat) := [(670, .iload_n 3, 1), (671, .iconst 2, 1), (672, .iadd, 1), (673, .iaload, 1), (674, .invokevirtual 79, 3), (677, .pop, 1), (678, .aload_n 2, 1), (679, .aload_n 0, 1), (680, .iload_n 3, 1), (681, .iconst 1, 1), (682, .iadd, 1), (683, .iaload, 1), (684, .aload_n 0, 1), (685, .iload_n 3, 1), (686, .iconst 2, 1), (687, .iadd, 1), (688, .iaload, 1), (689, .invokevirtual 82, 3)]
set_option maxRecDepth 100000 in
theorem lawD_23 : lawT_23.all (fun q => decide (decode code q.1 = .ok q.2)) = true := by decide +kernel
theorem lawX_23 {k pc n : Nat} {i : Instr} (h : lawT_23[k]? = some (pc, i, n)) : decode code pc = .ok (i, n) := by
  have h1 : decide (decode code pc = .ok (i, n)) = true := List.all_eq_true.mp lawD_23 (pc, i, n) (List.mem_of_getElem? h)
  exact of_decide_eq_true h1
theorem d_law_670 : decode code 670 = .ok (.iload_n 3, 1) := lawX_23 (k := 0) rfl
theorem d_law_671 : decode code 671 = .ok (.iconst 2, 1) := lawX_23 (k := 1) rfl
theorem d_law_672 : decode code 672 = .ok (.iadd, 1) := lawX_23 (k := 2) rfl
theorem d_law_673 : decode code 673 = .ok (.iaload, 1) := lawX_23 (k := 3) rfl
theorem d_law_674 : decode code 674 = .ok (.invokevirtual 79, 3) := lawX_23 (k := 4) rfl
theorem d_law_677 : decode code 677 = .ok (.pop, 1) := lawX_23 (k := 5) rfl
theorem d_law_678 : decode code 678 = .ok (.aload_n 2, 1) := lawX_23 (k := 6) rfl
theorem d_law_679 : decode code 679 = .ok (.aload_n 0, 1) := lawX_23 (k := 7) rfl
theorem d_law_680 : decode code 680 = .ok (.iload_n 3, 1) := lawX_23 (k := 8) rfl
theorem d_law_681 : decode code 681 = .ok (.iconst 1, 1) := lawX_23 (k := 9) rfl
theorem d_law_682 : decode code 682 = .ok (.iadd, 1) := lawX_23 (k := 10) rfl
theorem d_law_683 : decode code 683 = .ok (.iaload, 1) := lawX_23 (k := 11) rfl
theorem d_law_684 : decode code 684 = .ok (.aload_n 0, 1) := lawX_23 (k := 12) rfl
theorem d_law_685 : decode code 685 = .ok (.iload_n 3, 1) := lawX_23 (k := 13) rfl
theorem d_law_686 : decode code 686 = .ok (.iconst 2, 1) := lawX_23 (k := 14) rfl
theorem d_law_687 : decode code 687 = .ok (.iadd, 1) := lawX_23 (k := 15) rfl
theorem d_law_688 : decode code 688 = .ok (.iaload, 1) := lawX_23 (k := 16) rfl
theorem d_law_689 : decode code 689 = .ok (.invokevirtual 82, 3) := lawX_23 (k := 17) rfl
def lawT_24 : List (Nat × Instr × Nat) := [(692, .pop, 1), (693, .goto 556, 3), (696, .aload_n 1, 1), (697, .aload_n 0, 1), (698, .iload_n 3, 1), (699, .iconst 1, 1), (700, .iadd, 1), (701, .iaload, 1), (702, .aload_n 0, 1), (703, .iload_n 3, 1), (704, .iconst 2, 1), (705, .iadd, 1), (706, .iaload, 1), (707, .invokevirtual 83, 3), (710, .pop, 1), (711, .aload_n 2, 1), (712, .aload_n 0, 1), (713, .iload_n 3, 1)]
set_option maxRecDepth 100000 in
theorem lawD_24 : lawT_24.all (fun q => decide (decode code q.1 = .ok q.2)) = true := by decide +kernel
theorem lawX_24 {k pc n : Nat} {i : Instr} (h : lawT_24[k]? = some (pc, i, n)) : decode code pc = .ok (i, n) := by
  have h1 : decide (decode code pc = .ok (i, n)) = true := List.all_eq_true.mp lawD_24 (pc, i, n) (List.mem_of_getElem? h)
  exact of_decide_eq_true h1
theorem d_law_692 : decode code 692 = .ok (.pop, 1) := lawX_24 (k := 0) rfl
theorem d_law_693 : decode code 693 = .ok (.goto 556, 3) := lawX_24 (k := 1) rfl
theorem d_law_696 : decode code 696 = .ok (.aload_n 1, 1) := lawX_24 (k := 2) rfl
theorem d_law_697 : decode code 697 = .ok (.aload_n 0, 1) := lawX_24 (k := 3) rfl
theorem d_law_698 : decode code 698 = .ok (.iload_n 3, 1) := lawX_24 (k := 4) rfl
theorem d_law_699 : decode code 699 = .ok (.iconst 1, 1) := lawX_24 (k := 5) rfl
theorem d_law_700 : decode code 700 = .ok (.iadd, 1) := lawX_24 (k := 6) rfl
theorem d_law_701 : decode code 701 = .ok (.iaload, 1) := lawX_24 (k := 7) rfl
theorem d_law_702 : decode code 702 = .ok (.aload_n 0, 1) := lawX_24 (k := 8) rfl
theorem d_law_703 : decode code 703 = .ok (.iload_n 3, 1) := lawX_24 (k := 9) rfl
theorem d_law_704 : decode code 704 = .ok (.iconst 2, 1) := lawX_24 (k := 10) rfl
theorem d_law_705 : decode code 705 = .ok (.iadd, 1) := lawX_24 (k := 11) rfl
theorem d_law_706 : decode code 706 = .ok (.iaload, 1) := lawX_24 (k := 12) rfl
theorem d_law_707 : decode code 707 = .ok (.invokevirtual 83, 3) := lawX_24 (k := 13) rfl
theorem d_law_710 : decode code 710 = .ok (.pop, 1) := lawX_24 (k := 14) rfl
theorem d_law_711 : decode code 711 = .ok (.aload_n 2, 1) := lawX_24 (k := 15) rfl
theorem d_law_712 : decode code 712 = .ok (.aload_n 0, 1) := lawX_24 (k := 16) rfl
theorem d_law_713 : decode code 713 = .ok (.iload_n 3, 1) := lawX_24 (k := 17) rfl
def lawT_25 : List (Nat × Instr × Nat) := [(714, .iconst 1, 1), (715, .iadd, 1), (716, .iaload, 1), (717, .aload_n 0, 1), (718, .iload_n 3, 1), (719, .iconst 2, 1), (720, .iadd, 1), (721, .iaload, 1), (722, .invokevirtual 86, 3), (725, .pop, 1), (726, .goto 523, 3), (729, .aload_n 1, 1), (730, .aload_n 0, 1), (731, .iload_n 3, 1), (732, .iconst 1, 1), (733, .iadd, 1), (734, .iaload, 1), (735, .aload_n 0, 1)]
set_option maxRecDepth 100000 in
theorem lawD_25 : lawT_25.all (fun q => decide (decode code q.1 = .ok q.2)) = true := by decide +kernel
theorem lawX_25 {k pc n : Nat} {i : Instr} (h : lawT_25[k]? = some (pc, i, n)) : decode code pc = .ok (i, n) := by
  have h1 : decide (decode code pc = .ok (i, n)) = true := List.all_eq_true.mp lawD_25 (pc, i, n) (List.mem_of_getElem? h)
  exact of_decide_eq_true h1
theorem d_law_714 : decode code 714 = .ok (.iconst 1, 1) := lawX_25 (k := 0) rfl
theorem d_law_715 : decode code 715 = .ok (.iadd, 1) := lawX_25 (k := 1) rfl
theorem d_law_716 : decode code 716 = .ok (.iaload, 1) := lawX_25 (k := 2) rfl
theorem d_law_717 : decode code 717 = .ok (.aload_n 0, 1) := lawX_25 (k := 3) rfl
theorem d_law_718 : decode code 718 = .ok (.iload_n 3, 1) := lawX_25 (k := 4) rfl
theorem d_law_719 : decode code 719 = .ok (.iconst 2, 1) := lawX_25 (k := 5) rfl
theorem d_law_720 : decode code 720 = .ok (.iadd, 1) := lawX_25 (k := 6) rfl
theorem d_law_721 : decode code 721 = .ok (.iaload, 1) := lawX_25 (k := 7) rfl
theorem d_law_722 : decode code 722 = .ok (.invokevirtual 86, 3) := lawX_25 (k := 8) rfl
theorem d_law_725 : decode code 725 = .ok (.pop, 1) := lawX_25 (k := 9) rfl
theorem d_law_726 : decode code 726 = .ok (.goto 523, 3) := lawX_25 (k := 10) rfl
theorem d_law_729 : decode code 729 = .ok (.aload_n 1, 1) := lawX_25 (k := 11) rfl
theorem d_law_730 : decode code 730 = .ok (.aload_n 0, 1) := lawX_25 (k := 12) rfl
theorem d_law_731 : decode code 731 = .ok (.iload_n 3, 1) := lawX_25 (k := 13) rfl
theorem d_law_732 : decode code 732 = .ok (.iconst 1, 1) := lawX_25 (k := 14) rfl
theorem d_law_733 : decode code 733 = .ok (.iadd, 1) := lawX_25 (k := 15) rfl
theorem d_law_734 : decode code 734 = .ok (.iaload, 1) := lawX_25 (k := 16) rfl
theorem d_law_735 : decode code 735 = .ok (.aload_n 0, 1) := lawX_25 (k := 17) rfl
def lawT_26 : List (Nat × Instr × Nat) := [(736, .iload_n 3, 1), (737, .iconst 2, 1), (738, .iadd, 1), (739, .iaload, 1), (740, .invokevirtual 87, 3), (743, .pop, 1), (744, .aload_n 2, 1), (745, .aload_n 0, 1), (746, .iload_n 3, 1), (747, .iconst 1, 1), (748, .iadd, 1), (749, .iaload, 1), (750, .aload_n 0, 1), (751, .iload_n 3, 1), (752, .iconst 2, 1), (753, .iadd, 1), (754, .iaload, 1), (755, .invokevirtual 90, 3)]
set_option maxRecDepth 100000 in
theorem lawD_26 : lawT_26.all (fun q => decide (decode code q.1 = .ok q.2)) = true := by decide +kernel
theorem lawX_26 {k pc n : Nat} {i : Instr} (h : lawT_26[k]? = some (pc, i, n)) : decode code pc = .ok (i, n) := by
  have h1 : decide (decode code pc = .ok (i, n)) = true := List.all_eq_true.mp lawD_26 (pc, i, n) (List.mem_of_getElem? h)
  exact of_decide_eq_true h1
theorem d_law_736 : decode code 736 = .ok (.iload_n 3, 1) := lawX_26 (k := 0) rfl
theorem d_law_737 : decode code 737 = .ok (.iconst 2, 1) := lawX_26 (k := 1) rfl
theorem d_law_738 : decode code 738 = .ok (.iadd, 1) := lawX_26 (k := 2) rfl
theorem d_law_739 : decode code 739 = .ok (.iaload, 1) := lawX_26 (k := 3) rfl
theorem d_law_740 : decode code 740 = .ok (.invokevirtual 87, 3) := lawX_26 (k := 4) rfl
theorem d_law_743 : decode code 743 = .ok (.pop, 1) := lawX_26 (k := 5) rfl
theorem d_law_744 : decode code 744 = .ok (.aload_n 2, 1) := lawX_26 (k := 6) rfl
theorem d_law_745 : decode code 745 = .ok (.aload_n 0, 1) := lawX_26 (k := 7) rfl
theorem d_law_746 : decode code 746 = .ok (.iload_n 3, 1) := lawX_26 (k := 8) rfl
theorem d_law_747 : decode code 747 = .ok (.iconst 1, 1) := lawX_26 (k := 9) rfl
theorem d_law_748 : decode code 748 = .ok (.iadd, 1) := lawX_26 (k := 10) rfl
theorem d_law_749 : decode code 749 = .ok (.iaload, 1) := lawX_26 (k := 11) rfl
theorem d_law_750 : decode code 750 = .ok (.aload_n 0, 1) := lawX_26 (k := 12) rfl
theorem d_law_751 : decode code 751 = .ok (.iload_n 3, 1) := lawX_26 (k := 13) rfl
theorem d_law_752 : decode code 752 = .ok (.iconst 2, 1) := lawX_26 (k := 14) rfl
theorem d_law_753 : decode code 753 = .ok (.iadd, 1) := lawX_26 (k := 15) rfl
theorem d_law_754 : decode code 754 = .ok (.iaload, 1) := lawX_26 (k := 16) rfl
theorem d_law_755 : decode code 755 = .ok (.invokevirtual 90, 3) := lawX_26 (k := 17) rfl
def lawT_27 : List (Nat × Instr × Nat) := [(758, .pop, 1), (759, .goto 490, 3), (762, .aload_n 1, 1), (763, .aload_n 0, 1), (764, .iload_n 3, 1), (765, .iconst 1, 1), (766, .iadd, 1), (767, .iaload, 1), (768, .aload_n 0, 1), (769, .iload_n 3, 1), (770, .iconst 2, 1), (771, .iadd, 1), (772, .iaload, 1), (773, .invokevirtual 91, 3), (776, .pop, 1), (777, .aload_n 2, 1), (778, .aload_n 0, 1), (779, .iload_n 3, 1)]
set_option maxRecDepth 100000 in
theorem lawD_27 : lawT_27.all (fun q => decide (decode code q.1 = .ok q.2)) = true := by decide +kernel
theorem lawX_27 {k pc n : Nat} {i : Instr} (h : lawT_27[k]? = some (pc, i, n)) : decode code pc = .ok (i, n) := by
  have h1 : decide (decode code pc = .ok (i, n)) = true := List.all_eq_true.mp lawD_27 (pc, i, n) (List.mem_of_getElem? h)
  exact of_decide_eq_true h1
theorem d_law_758 : decode code 758 = .ok (.pop, 1) := lawX_27 (k := 0) rfl
theorem d_law_759 : decode code 759 = .ok (.goto 490, 3) := lawX_27 (k := 1) rfl
theorem d_law_762 : decode code 762 = .ok (.aload_n 1, 1) := lawX_27 (k := 2) rfl
theorem d_law_763 : decode code 763 = .ok (.aload_n 0, 1) := lawX_27 (k := 3) rfl
theorem d_law_764 : decode code 764 = .ok (.iload_n 3, 1) := lawX_27 (k := 4) rfl
theorem d_law_765 : decode code 765 = .ok (.iconst 1, 1) := lawX_27 (k := 5) rfl
theorem d_law_766 : decode code 766 = .ok (.iadd, 1) := lawX_27 (k := 6) rfl
theorem d_law_767 : decode code 767 = .ok (.iaload, 1) := lawX_27 (k := 7) rfl
theorem d_law_768 : decode code 768 = .ok (.aload_n 0, 1) := lawX_27 (k := 8) rfl
theorem d_law_769 : decode code 769 = .ok (.iload_n 3, 1) := lawX_27 (k := 9) rfl
theorem d_law_770 : decode code 770 = .ok (.iconst 2, 1) := lawX_27 (k := 10) rfl
theorem d_law_771 : decode code 771 = .ok (.iadd, 1) := lawX_27 (k := 11) rfl
theorem d_law_772 : decode code 772 = .ok (.iaload, 1) := lawX_27 (k := 12) rfl
theorem d_law_773 : decode code 773 = .ok (.invokevirtual 91, 3) := lawX_27 (k := 13) rfl
theorem d_law_776 : decode code 776 = .ok (.pop, 1) := lawX_27 (k := 14) rfl
theorem d_law_777 : decode code 777 = .ok (.aload_n 2, 1) := lawX_27 (k := 15) rfl
theorem d_law_778 : decode code 778 = .ok (.aload_n 0, 1) := lawX_27 (k := 16) rfl
theorem d_law_779 : decode code 779 = .ok (.iload_n 3, 1) := lawX_27 (k := 17) rfl
def lawT_28 : List (Nat × Instr × Nat) := [(780, .iconst 1, 1), (781, .iadd, 1), (782, .iaload, 1), (783, .aload_n 0, 1), (784, .iload_n 3, 1), (785, .iconst 2, 1), (786, .iadd, 1), (787, .iaload, 1), (788, .invokevirtual 94, 3), (791, .pop, 1), (792, .goto 457, 3), (795, .aload_n 1, 1), (796, .aload_n 0, 1), (797, .iload_n 3, 1), (798, .iconst 1, 1), (799, .iadd, 1), (800, .iaload, 1), (801, .aload_n 0, 1)]
set_option maxRecDepth 100000 in
theorem lawD_28 : lawT_28.all (fun q => decide (decode code q.1 = .ok q.2)) = true := by decide +kernel
theorem lawX_28 {k pc n : Nat} {i : Instr} (h : lawT_28[k]? = some (pc, i, n)) : decode code pc = .ok (i, n) := by
  have h1 : decide (decode code pc = .ok (i, n)) = true := List.all_eq_true.mp lawD_28 (pc, i, n) (List.mem_of_getElem? h)
  exact of_decide_eq_true h1
theorem d_law_780 : decode code 780 = .ok (.iconst 1, 1) := lawX_28 (k := 0) rfl
theorem d_law_781 : decode code 781 = .ok (.iadd, 1) := lawX_28 (k := 1) rfl
theorem d_law_782 : decode code 782 = .ok (.iaload, 1) := lawX_28 (k := 2) rfl
theorem d_law_783 : decode code 783 = .ok (.aload_n 0, 1) := lawX_28 (k := 3) rfl
theorem d_law_784 : decode code 784 = .ok (.iload_n 3, 1) := lawX_28 (k := 4) rfl
theorem d_law_785 : decode code 785 = .ok (.iconst 2, 1) := lawX_28 (k := 5) rfl
theorem d_law_786 : decode code 786 = .ok (.iadd, 1) := lawX_28 (k := 6) rfl
theorem d_law_787 : decode code 787 = .ok (.iaload, 1) := lawX_28 (k := 7) rfl
theorem d_law_788 : decode code 788 = .ok (.invokevirtual 94, 3) := lawX_28 (k := 8) rfl
theorem d_law_791 : decode code 791 = .ok (.pop, 1) := lawX_28 (k := 9) rfl
theorem d_law_792 : decode code 792 = .ok (.goto 457, 3) := lawX_28 (k := 10) rfl
theorem d_law_795 : decode code 795 = .ok (.aload_n 1, 1) := lawX_28 (k := 11) rfl
theorem d_law_796 : decode code 796 = .ok (.aload_n 0, 1) := lawX_28 (k := 12) rfl
theorem d_law_797 : decode code 797 = .ok (.iload_n 3, 1) := lawX_28 (k := 13) rfl
theorem d_law_798 : decode code 798 = .ok (.iconst 1, 1) := lawX_28 (k := 14) rfl
theorem d_law_799 : decode code 799 = .ok (.iadd, 1) := lawX_28 (k := 15) rfl
theorem d_law_800 : decode code 800 = .ok (.iaload, 1) := lawX_28 (k := 16) rfl
theorem d_law_801 : decode code 801 = .ok (.aload_n 0, 1) := lawX_28 (k := 17) rfl
def lawT_29 : List (Nat × Instr × Nat) := [(802, .iload_n 3, 1), (803, .iconst 2, 1), (804, .iadd, 1), (805, .iaload, 1), (806, .invokevirtual 95, 3), (809, .pop, 1), (810, .aload_n 2, 1), (811, .aload_n 0, 1), (812, .iload_n 3, 1), (813, .iconst 1, 1), (814, .iadd, 1), (815, .iaload, 1), (816, .aload_n 0, 1), (817, .iload_n 3, 1), (818, .iconst 2, 1), (819, .iadd, 1), (820, .iaload, 1), (821, .invokevirtual 98, 3)]
set_option maxRecDepth 100000 in
theorem lawD_29 : lawT_29.all (fun q => decide (decode code q.1 = .ok q.2)) = true := by decide +kernel
theorem lawX_29 {k pc n : Nat} {i : Instr} (h : lawT_29[k]? = some (pc, i, n)) : decode code pc = .ok (i, n) := by
  have h1 : decide (decode code pc = .ok (i, n)) = true := List.all_eq_true.mp lawD_29 (pc, i, n) (List.mem_of_getElem? h)
  exact of_decide_eq_true h1
theorem d_law_802 : decode code 802 = .ok (.iload_n 3, 1) := lawX_29 (k := 0) rfl
theorem d_law_803 : decode code 803 = .ok (.iconst 2, 1) := lawX_29 (k := 1) rfl
theorem d_law_804 : decode code 804 = .ok (.iadd, 1) := lawX_29 (k := 2) rfl
theorem d_law_805 : decode code 805 = .ok (.iaload, 1) := lawX_29 (k := 3) rfl
theorem d_law_806 : decode code 806 = .ok (.invokevirtual 95, 3) := lawX_29 (k := 4) rfl
theorem d_law_809 : decode code 809 = .ok (.pop, 1) := lawX_29 (k := 5) rfl
theorem d_law_810 : decode code 810 = .ok (.aload_n 2, 1) := lawX_29 (k := 6) rfl
theorem d_law_811 : decode code 811 = .ok (.aload_n 0, 1) := lawX_29 (k := 7) rfl
theorem d_law_812 : decode code 812 = .ok (.iload_n 3, 1) := lawX_29 (k := 8) rfl
theorem d_law_813 : decode code 813 = .ok (.iconst 1, 1) := lawX_29 (k := 9) rfl
theorem d_law_814 : decode code 814 = .ok (.iadd, 1) := lawX_29 (k := 10) rfl
theorem d_law_815 : decode code 815 = .ok (.iaload, 1) := lawX_29 (k := 11) rfl
theorem d_law_816 : decode code 816 = .ok (.aload_n 0, 1) := lawX_29 (k := 12) rfl
theorem d_law_817 : decode code 817 = .ok (.iload_n 3, 1) := lawX_29 (k := 13) rfl
theorem d_law_818 : decode code 818 = .ok (.iconst 2, 1) := lawX_29 (k := 14) rfl
theorem d_law_819 : decode code 819 = .ok (.iadd, 1) := lawX_29 (k := 15) rfl
theorem d_law_820 : decode code 820 = .ok (.iaload, 1) := lawX_29 (k := 16) rfl
theorem d_law_821 : decode code 821 = .ok (.invokevirtual 98, 3) := lawX_29 (k := 17) rfl
def lawT_30 : List (Nat × Instr × Nat) := [(824, .pop, 1), (825, .goto 424, 3), (828, .aload_n 1, 1), (829, .aload_n 0, 1), (830, .iload_n 3, 1), (831, .iconst 1, 1), (832, .iadd, 1), (833, .iaload, 1), (834, .aload_n 0, 1), (835, .iload_n 3, 1), (836, .iconst 2, 1), (837, .iadd, 1), (838, .iaload, 1), (839, .invokevirtual 99, 3), (842, .pop, 1), (843, .aload_n 2, 1), (844, .aload_n 0, 1), (845, .iload_n 3, 1)]
set_option maxRecDepth 100000 in
theorem lawD_30 : lawT_30.all (fun q => decide (decode code q.1 = .ok q.2)) = true := by decide +kernel
theorem lawX_30 {k pc n : Nat} {i : Instr} (h : lawT_30[k]? = some (pc, i, n)) : decode code pc = .ok (i, n) := by
  have h1 : decide (decode code pc = .ok (i, n)) = true := List.all_eq_true.mp lawD_30 (pc, i, n) (List.mem_of_getElem? h)
  exact of_decide_eq_true h1
theorem d_law_824 : decode code 824 = .ok (.pop, 1) := lawX_30 (k := 0) rfl
theorem d_law_825 : decode code 825 = .ok (.goto 424, 3) := lawX_30 (k := 1) rfl
theorem d_law_828 : decode code 828 = .ok (.aload_n 1, 1) := lawX_30 (k := 2) rfl
theorem d_law_829 : decode code 829 = .ok (.aload_n 0, 1) := lawX_30 (k := 3) rfl
theorem d_law_830 : decode code 830 = .ok (.iload_n 3, 1) := lawX_30 (k := 4) rfl
theorem d_law_831 : decode code 831 = .ok (.iconst 1, 1) := lawX_30 (k := 5) rfl
theorem d_law_832 : decode code 832 = .ok (.iadd, 1) := lawX_30 (k := 6) rfl
theorem d_law_833 : decode code 833 = .ok (.iaload, 1) := lawX_30 (k := 7) rfl
theorem d_law_834 : decode code 834 = .ok (.aload_n 0, 1) := lawX_30 (k := 8) rfl
theorem d_law_835 : decode code 835 = .ok (.iload_n 3, 1) := lawX_30 (k := 9) rfl
theorem d_law_836 : decode code 836 = .ok (.iconst 2, 1) := lawX_30 (k := 10) rfl
theorem d_law_837 : decode code 837 = .ok (.iadd, 1) := lawX_30 (k := 11) rfl
theorem d_law_838 : decode code 838 = .ok (.iaload, 1) := lawX_30 (k := 12) rfl
theorem d_law_839 : decode code 839 = .ok (.invokevirtual 99, 3) := lawX_30 (k := 13) rfl
theorem d_law_842 : decode code 842 = .ok (.pop, 1) := lawX_30 (k := 14) rfl
theorem d_law_843 : decode code 843 = .ok (.aload_n 2, 1) := lawX_30 (k := 15) rfl
theorem d_law_844 : decode code 844 = .ok (.aload_n 0, 1) := lawX_30 (k := 16) rfl
theorem d_law_845 : decode code 845 = .ok (.iload_n 3, 1) := lawX_30 (k := 17) rfl
def lawT_31 : List (Nat × Instr × Nat) := [(846, .iconst 1, 1), (847, .iadd, 1), (848, .iaload, 1), (849, .aload_n 0, 1), (850, .iload_n 3, 1), (851, .iconst 2, 1), (852, .iadd, 1), (853, .iaload, 1), (854, .invokevirtual 102, 3), (857, .pop, 1), (858, .goto 391, 3), (861, .aload_n 1, 1), (862, .aload_n 0, 1), (863, .iload_n 3, 1), (864, .iconst 1, 1), (865, .iadd, 1), (866, .iaload, 1), (867, .aload_n 0, 1)]
set_option maxRecDepth 100000 in
theorem lawD_31 : lawT_31.all (fun q => decide (decode code q.1 = .ok q.2)) = true := by decide +kernel
theorem lawX_31 {k pc n : Nat} {i : Instr} (h : lawT_31[k]? = some (pc, i, n)) : decode code pc = .ok (i, n) := by
  have h1 : decide (decode code pc = .ok (i, n)) = true := List.all_eq_true.mp lawD_31 (pc, i, n) (List.mem_of_getElem? h)
  exact of_decide_eq_true h1
theorem d_law_846 : decode code 846 = .ok (.iconst 1, 1) := lawX_31 (k := 0) rfl
theorem d_law_847 : decode code 847 = .ok (.iadd, 1) := lawX_31 (k := 1) rfl
theorem d_law_848 : decode code 848 = .ok (.iaload, 1) := lawX_31 (k := 2) rfl
theorem d_law_849 : decode code 849 = .ok (.aload_n 0, 1) := lawX_31 (k := 3) rfl
theorem d_law_850 : decode code 850 = .ok (.iload_n 3, 1) := lawX_31 (k := 4) rfl
theorem d_law_851 : decode code 851 = .ok (.iconst 2, 1) := lawX_31 (k := 5) rfl
theorem d_law_852 : decode code 852 = .ok (.iadd, 1) := lawX_31 (k := 6) rfl
theorem d_law_853 : decode code 853 = .ok (.iaload, 1) := lawX_31 (k := 7) rfl
theorem d_law_854 : decode code 854 = .ok (.invokevirtual 102, 3) := lawX_31 (k := 8) rfl
theorem d_law_857 : decode code 857 = .ok (.pop, 1) := lawX_31 (k := 9) rfl
theorem d_law_858 : decode code 858 = .ok (.goto 391, 3) := lawX_31 (k := 10) rfl
theorem d_law_861 : decode code 861 = .ok (.aload_n 1, 1) := lawX_31 (k := 11) rfl
theorem d_law_862 : decode code 862 = .ok (.aload_n 0, 1) := lawX_31 (k := 12) rfl
theorem d_law_863 : decode code 863 = .ok (.iload_n 3, 1) := lawX_31 (k := 13) rfl
theorem d_law_864 : decode code 864 = .ok (.iconst 1, 1) := lawX_31 (k := 14) rfl
theorem d_law_865 : decode code 865 = .ok (.iadd, 1) := lawX_31 (k := 15) rfl
theorem d_law_866 : decode code 866 = .ok (.iaload, 1) := lawX_31 (k := 16) rfl
theorem d_law_867 : decode code 867 = .ok (.aload_n 0, 1) := lawX_31 (k := 17) rfl
def lawT_32 : List (Nat × Instr × Nat) := [(868, .iload_n 3, 1), (869, .iconst 2, 1), (870, .iadd, 1), (871, .iaload, 1), (872, .aload_n 0, 1), (873, .iload_n 3, 1), (874, .iconst 3, 1), (875, .iadd, 1), (876, .iaload, 1), (877, .invokevirtual 103, 3), (880, .pop, 1), (881, .aload_n 2, 1), (882, .aload_n 0, 1), (883, .iload_n 3, 1), (884, .iconst 1, 1), (885, .iadd, 1), (886, .iaload, 1), (887, .aload_n 0, 1)]
set_option maxRecDepth 100000 in
theorem lawD_32 : lawT_32.all (fun q => decide (decode code q.1 = .ok q.2)) = true := by decide +kernel
theorem lawX_32 {k pc n : Nat} {i : Instr} (h : lawT_32[k]? = some (pc, i, n)) : decode code pc = .ok (i, n) := by
  have h1 : decide (decode code pc = .ok (i, n)) = true := List.all_eq_true.mp lawD_32 (pc, i, n) (List.mem_of_getElem? h)
  exact of_decide_eq_true h1
theorem d_law_868 : decode code 868 = .ok (.iload_n 3, 1) := lawX_32 (k := 0) rfl
theorem d_law_869 : decode code 869 = .ok (.iconst 2, 1) := lawX_32 (k := 1) rfl
theorem d_law_870 : decode code 870 = .ok (.iadd, 1) := lawX_32 (k := 2) rfl
theorem d_law_871 : decode code 871 = .ok (.iaload, 1) := lawX_32 (k := 3) rfl
theorem d_law_872 : decode code 872 = .ok (.aload_n 0, 1) := lawX_32 (k := 4) rfl
theorem d_law_873 : decode code 873 = .ok (.iload_n 3, 1) := lawX_32 (k := 5) rfl
theorem d_law_874 : decode code 874 = .ok (.iconst 3, 1) := lawX_32 (k := 6) rfl
theorem d_law_875 : decode code 875 = .ok (.iadd, 1) := lawX_32 (k := 7) rfl
theorem d_law_876 : decode code 876 = .ok (.iaload, 1) := lawX_32 (k := 8) rfl
theorem d_law_877 : decode code 877 = .ok (.invokevirtual 103, 3) := lawX_32 (k := 9) rfl
theorem d_law_880 : decode code 880 = .ok (.pop, 1) := lawX_32 (k := 10) rfl
theorem d_law_881 : decode code 881 = .ok (.aload_n 2, 1) := lawX_32 (k := 11) rfl
theorem d_law_882 : decode code 882 = .ok (.aload_n 0, 1) := lawX_32 (k := 12) rfl
theorem d_law_883 : decode code 883 = .ok (.iload_n 3, 1) := lawX_32 (k := 13) rfl
theorem d_law_884 : decode code 884 = .ok (.iconst 1, 1) := lawX_32 (k := 14) rfl
theorem d_law_885 : decode code 885 = .ok (.iadd, 1) := lawX_32 (k := 15) rfl
theorem d_law_886 : decode code 886 = .ok (.iaload, 1) := lawX_32 (k := 16) rfl
theorem d_law_887 : decode code 887 = .ok (.aload_n 0, 1) := lawX_32 (k := 17) rfl
def lawT_33 : List (Nat × Instr × Nat) := [(888, .iload_n 3, 1), (889, .iconst 2, 1), (890, .iadd, 1), (891, .iaload, 1), (892, .aload_n 0, 1), (893, .iload_n 3, 1), (894, .iconst 3, 1), (895, .iadd, 1), (896, .iaload, 1), (897, .invokevirtual 106, 3), (900, .pop, 1), (901, .goto 348, 3), (904, .aload_n 1, 1), (905, .aload_n 0, 1), (906, .iload_n 3, 1), (907, .iconst 1, 1), (908, .iadd, 1), (909, .iaload, 1)]
set_option maxRecDepth 100000 in
theorem lawD_33 : lawT_33.all (fun q => decide (decode code q.1 = .ok q.2)) = true := by decide +kernel
theorem lawX_33 {k pc n : Nat} {i : Instr} (h : lawT_33[k]? = some (pc, i, n)) : decode code pc = .ok (i, n) := by
  have h1 : decide (decode code pc = .ok (i, n)) = true := List.all_eq_true.mp lawD_33 (pc, i, n) (List.mem_of_getElem? h)
  exact of_decide_eq_true h1
theorem d_law_888 : decode code 888 = .ok (.iload_n 3, 1) := lawX_33 (k := 0) rfl
theorem d_law_889 : decode code 889 = .ok (.iconst 2, 1) := lawX_33 (k := 1) rfl
theorem d_law_890 : decode code 890 = .ok (.iadd, 1) := lawX_33 (k := 2) rfl
theorem d_law_891 : decode code 891 = .ok (.iaload, 1) := lawX_33 (k := 3) rfl
theorem d_law_892 : decode code 892 = .ok (.aload_n 0, 1) := lawX_33 (k := 4) rfl
theorem d_law_893 : decode code 893 = .ok (.iload_n 3, 1) := lawX_33 (k := 5) rfl
theorem d_law_894 : decode code 894 = .ok (.iconst 3, 1) := lawX_33 (k := 6) rfl
theorem d_law_895 : decode code 895 = .ok (.iadd, 1) := lawX_33 (k := 7) rfl
theorem d_law_896 : decode code 896 = .ok (.iaload, 1) := lawX_33 (k := 8) rfl
theorem d_law_897 : decode code 897 = .ok (.invokevirtual 106, 3) := lawX_33 (k := 9) rfl
theorem d_law_900 : decode code 900 = .ok (.pop, 1) := lawX_33 (k := 10) rfl
theorem d_law_901 : decode code 901 = .ok (.goto 348, 3) := lawX_33 (k := 11) rfl
theorem d_law_904 : decode code 904 = .ok (.aload_n 1, 1) := lawX_33 (k := 12) rfl
theorem d_law_905 : decode code 905 = .ok (.aload_n 0, 1) := lawX_33 (k := 13) rfl
theorem d_law_906 : decode code 906 = .ok (.iload_n 3, 1) := lawX_33 (k := 14) rfl
theorem d_law_907 : decode code 907 = .ok (.iconst 1, 1) := lawX_33 (k := 15) rfl
theorem d_law_908 : decode code 908 = .ok (.iadd, 1) := lawX_33 (k := 16) rfl
theorem d_law_909 : decode code 909 = .ok (.iaload, 1) := lawX_33 (k := 17) rfl
def lawT_34 : List (Nat × Instr × Nat) := [(910, .invokevirtual 107, 3), (913, .pop, 1), (914, .aload_n 2, 1), (915, .aload_n 0, 1), (916, .iload_n 3, 1), (917, .iconst 1, 1), (918, .iadd, 1), (919, .iaload, 1), (920, .invokevirtual 110, 3), (923, .pop, 1), (924, .goto 325, 3), (927, .aload_n 1, 1), (928, .aload_n 0, 1), (929, .iload_n 3, 1), (930, .iconst 1, 1), (931, .iadd, 1), (932, .iaload, 1), (933, .aload_n 0, 1)]
set_option maxRecDepth 100000 in
theorem lawD_34 : lawT_34.all (fun q => decide (decode code q.1 = .ok q.2)) = true := by decide +kernel
theorem lawX_34 {k pc n : Nat} {i : Instr} (h : lawT_34[k]? = some (pc, i, n)) : decode code pc = .ok (i, n) := by
  have h1 : decide (decode code pc = .ok (i, n)) = true := List.all_eq_true.mp lawD_34 (pc, i, n) (List.mem_of_getElem? h)
  exact of_decide_eq_true h1
theorem d_law_910 : decode code 910 = .ok (.invokevirtual 107, 3) := lawX_34 (k := 0) rfl
theorem d_law_913 : decode code 913 = .ok (.pop, 1) := lawX_34 (k := 1) rfl
theorem d_law_914 : decode code 914 = .ok (.aload_n 2, 1) := lawX_34 (k := 2) rfl
theorem d_law_915 : decode code 915 = .ok (.aload_n 0, 1) := lawX_34 (k := 3) rfl
theorem d_law_916 : decode code 916 = .ok (.iload_n 3, 1) := lawX_34 (k := 4) rfl
theorem d_law_917 : decode code 917 = .ok (.iconst 1, 1) := lawX_34 (k := 5) rfl
theorem d_law_918 : decode code 918 = .ok (.iadd, 1) := lawX_34 (k := 6) rfl
theorem d_law_919 : decode code 919 = .ok (.iaload, 1) := lawX_34 (k := 7) rfl
theorem d_law_920 : decode code 920 = .ok (.invokevirtual 110, 3) := lawX_34 (k := 8) rfl
theorem d_law_923 : decode code 923 = .ok (.pop, 1) := lawX_34 (k := 9) rfl
theorem d_law_924 : decode code 924 = .ok (.goto 325, 3) := lawX_34 (k := 10) rfl
theorem d_law_927 : decode code 927 = .ok (.aload_n 1, 1) := lawX_34 (k := 11) rfl
theorem d_law_928 : decode code 928 = .ok (.aload_n 0, 1) := lawX_34 (k := 12) rfl
theorem d_law_929 : decode code 929 = .ok (.iload_n 3, 1) := lawX_34 (k := 13) rfl
theorem d_law_930 : decode code 930 = .ok (.iconst 1, 1) := lawX_34 (k := 14) rfl
theorem d_law_931 : decode code 931 = .ok (.iadd, 1) := lawX_34 (k := 15) rfl
theorem d_law_932 : decode code 932 = .ok (.iaload, 1) := lawX_34 (k := 16) rfl
theorem d_law_933 : decode code 933 = .ok (.aload_n 0, 1) := lawX_34 (k := 17) rfl
def lawT_35 : List (Nat × Instr × Nat) := [(934, .iload_n 3, 1), (935, .iconst 2, 1), (936, .iadd, 1), (937, .iaload, 1), (938, .aload_n 0, 1), (939, .iload_n 3, 1), (940, .iconst 3, 1), (941, .iadd, 1), (942, .iaload, 1), (943, .invokevirtual 111, 3), (946, .pop, 1), (947, .aload_n 2, 1), (948, .aload_n 0, 1), (949, .iload_n 3, 1), (950, .iconst 1, 1), (951, .iadd, 1), (952, .iaload, 1), (953, .aload_n 0, 1)]
set_option maxRecDepth 100000 in
theorem lawD_35 : lawT_35.all (fun q => decide (decode code q.1 = .ok q.2)) = true := by decide +kernel
theorem lawX_35 {k pc n : Nat} {i : Instr} (h : lawT_35[k]? = some (pc, i, n)) : decode code pc = .ok (i, n) := by
  have h1 : decide (decode code pc = .ok (i, n)) = true := List.all_eq_true.mp lawD_35 (pc, i, n) (List.mem_of_getElem? h)
  exact of_decide_eq_true h1
theorem d_law_934 : decode code 934 = .ok (.iload_n 3, 1) := lawX_35 (k := 0) rfl
theorem d_law_935 : decode code 935 = .ok (.iconst 2, 1) := lawX_35 (k := 1) rfl
theorem d_law_936 : decode code 936 = .ok (.iadd, 1) := lawX_35 (k := 2) rfl
theorem d_law_937 : decode code 937 = .ok (.iaload, 1) := lawX_35 (k := 3) rfl
theorem d_law_938 : decode code 938 = .ok (.aload_n 0, 1) := lawX_35 (k := 4) rfl
theorem d_law_939 : decode code 939 = .ok (.iload_n 3, 1) := lawX_35 (k := 5) rfl
theorem d_law_940 : decode code 940 = .ok (.iconst 3, 1) := lawX_35 (k := 6) rfl
theorem d_law_941 : decode code 941 = .ok (.iadd, 1) := lawX_35 (k := 7) rfl
theorem d_law_942 : decode code 942 = .ok (.iaload, 1) := lawX_35 (k := 8) rfl
theorem d_law_943 : decode code 943 = .ok (.invokevirtual 111, 3) := lawX_35 (k := 9) rfl
theorem d_law_946 : decode code 946 = .ok (.pop, 1) := lawX_35 (k := 10) rfl
theorem d_law_947 : decode code 947 = .ok (.aload_n 2, 1) := lawX_35 (k := 11) rfl
theorem d_law_948 : decode code 948 = .ok (.aload_n 0, 1) := lawX_35 (k := 12) rfl
theorem d_law_949 : decode code 949 = .ok (.iload_n 3, 1) := lawX_35 (k := 13) rfl
theorem d_law_950 : decode code 950 = .ok (.iconst 1, 1) := lawX_35 (k := 14) rfl
theorem d_law_951 : decode code 951 = .ok (.iadd, 1) := lawX_35 (k := 15) rfl
theorem d_law_952 : decode code 952 = .ok (.iaload, 1) := lawX_35 (k := 16) rfl
theorem d_law_953 : decode code 953 = .ok (.aload_n 0, 1) := lawX_35 (k := 17) rfl
def lawT_36 : List (Nat × Instr × Nat) := [(954, .iload_n 3, 1), (955, .iconst 2, 1), (956, .iadd, 1), (957, .iaload, 1), (958, .aload_n 0, 1), (959, .iload_n 3, 1), (960, .iconst 3, 1), (961, .iadd, 1), (962, .iaload, 1), (963, .invokevirtual 114, 3), (966, .pop, 1), (967, .goto 282, 3), (970, .aload_n 1, 1), (971, .aload_n 0, 1), (972, .iload_n 3, 1), (973, .iconst 1, 1), (974, .iadd, 1), (975, .iaload, 1)]
set_option maxRecDepth 100000 in
theorem lawD_36 : lawT_36.all (fun q => decide (decode code q.1 = .ok q.2)) = true := by decide +kernel
theorem lawX_36 {k pc n : Nat} {i : Instr} (h : lawT_36[k]? = some (pc, i, n)) : decode code pc = .ok (i, n) := by
  have h1 : decide (decode code pc = .ok (i, n)) = true := List.all_eq_true.mp lawD_36 (pc, i, n) (List.mem_of_getElem? h)
  exact of_decide_eq_true h1
theorem d_law_954 : decode code 954 = .ok (.iload_n 3, 1) := lawX_36 (k := 0) rfl
theorem d_law_955 : decode code 955 = .ok (.iconst 2, 1) := lawX_36 (k := 1) rfl
theorem d_law_956 : decode code 956 = .ok (.iadd, 1) := lawX_36 (k := 2) rfl
theorem d_law_957 : decode code 957 = .ok (.iaload, 1) := lawX_36 (k := 3) rfl
theorem d_law_958 : decode code 958 = .ok (.aload_n 0, 1) := lawX_36 (k := 4) rfl
theorem d_law_959 : decode code 959 = .ok (.iload_n 3, 1) := lawX_36 (k := 5) rfl
theorem d_law_960 : decode code 960 = .ok (.iconst 3, 1) := lawX_36 (k := 6) rfl
theorem d_law_961 : decode code 961 = .ok (.iadd, 1) := lawX_36 (k := 7) rfl
theorem d_law_962 : decode code 962 = .ok (.iaload, 1) := lawX_36 (k := 8) rfl
theorem d_law_963 : decode code 963 = .ok (.invokevirtual 114, 3) := lawX_36 (k := 9) rfl
theorem d_law_966 : decode code 966 = .ok (.pop, 1) := lawX_36 (k := 10) rfl
theorem d_law_967 : decode code 967 = .ok (.goto 282, 3) := lawX_36 (k := 11) rfl
theorem d_law_970 : decode code 970 = .ok (.aload_n 1, 1) := lawX_36 (k := 12) rfl
theorem d_law_971 : decode code 971 = .ok (.aload_n 0, 1) := lawX_36 (k := 13) rfl
theorem d_law_972 : decode code 972 = .ok (.iload_n 3, 1) := lawX_36 (k := 14) rfl
theorem d_law_973 : decode code 973 = .ok (.iconst 1, 1) := lawX_36 (k := 15) rfl
theorem d_law_974 : decode code 974 = .ok (.iadd, 1) := lawX_36 (k := 16) rfl
theorem d_law_975 : decode code 975 = .ok (.iaload, 1) := lawX_36 (k := 17) rfl
def lawT_37 : List (Nat × Instr × Nat) := [(976, .invokevirtual 115, 3), (979, .pop, 1), (980, .aload_n 2, 1), (981, .aload_n 0, 1), (982, .iload_n 3, 1), (983, .iconst 1, 1), (984, .iadd, 1), (985, .iaload, 1), (986, .invokevirtual 118, 3), (989, .pop, 1), (990, .goto 259, 3), (993, .aload_n 1, 1), (994, .aload_n 0, 1), (995, .iload_n 3, 1), (996, .iconst 1, 1), (997, .iadd, 1), (998, .iaload, 1), (999, .invokevirtual 119, 3)]
set_option maxRecDepth 100000 in
theorem lawD_37 : lawT_37.all (fun q => decide (decode code q.1 = .ok q.2)) = true := by decide +kernel
theorem lawX_37 {k pc n : Nat} {i : Instr} (h : lawT_37[k]? = some (pc, i, n)) : decode code pc = .ok (i, n) := by
  have h1 : decide (decode code pc = .ok (i, n)) = true := List.all_eq_true.mp lawD_37 (pc, i, n) (List.mem_of_getElem? h)
  exact of_decide_eq_true h1
theorem d_law_976 : decode code 976 = .ok (.invokevirtual 115, 3) := lawX_37 (k := 0) rfl
theorem d_law_979 : decode code 979 = .ok (.pop, 1) := lawX_37 (k := 1) rfl
theorem d_law_980 : decode code 980 = .ok (.aload_n 2, 1) := lawX_37 (k := 2) rfl
theorem d_law_981 : decode code 981 = .ok (.aload_n 0, 1) := lawX_37 (k := 3) rfl
theorem d_law_982 : decode code 982 = .ok (.iload_n 3, 1) := lawX_37 (k := 4) rfl
theorem d_law_983 : decode code 983 = .ok (.iconst 1, 1) := lawX_37 (k := 5) rfl
theorem d_law_984 : decode code 984 = .ok (.iadd, 1) := lawX_37 (k := 6) rfl
theorem d_law_985 : decode code 985 = .ok (.iaload, 1) := lawX_37 (k := 7) rfl
theorem d_law_986 : decode code 986 = .ok (.invokevirtual 118, 3) := lawX_37 (k := 8) rfl
theorem d_law_989 : decode code 989 = .ok (.pop, 1) := lawX_37 (k := 9) rfl
theorem d_law_990 : decode code 990 = .ok (.goto 259, 3) := lawX_37 (k := 10) rfl
theorem d_law_993 : decode code 993 = .ok (.aload_n 1, 1) := lawX_37 (k := 11) rfl
theorem d_law_994 : decode code 994 = .ok (.aload_n 0, 1) := lawX_37 (k := 12) rfl
theorem d_law_995 : decode code 995 = .ok (.iload_n 3, 1) := lawX_37 (k := 13) rfl
theorem d_law_996 : decode code 996 = .ok (.iconst 1, 1) := lawX_37 (k := 14) rfl
theorem d_law_997 : decode code 997 = .ok (.iadd, 1) := lawX_37 (k := 15) rfl
theorem d_law_998 : decode code 998 = .ok (.iaload, 1) := lawX_37 (k := 16) rfl
theorem d_law_999 : decode code 999 = .ok (.invokevirtual 119, 3) := lawX_37 (k := 17) rfl
def lawT_38 : List (Nat × Instr × Nat) := [(1002, .pop, 1), (1003, .aload_n 2, 1), (1004, .aload_n 0, 1), (1005, .iload_n 3, 1), (1006, .iconst 1, 1), (1007, .iadd, 1), (1008, .iaload, 1), (1009, .invokevirtual 122, 3), (1012, .pop, 1), (1013, .goto 236, 3), (1016, .aload_n 1, 1), (1017, .aload_n 0, 1), (1018, .iload_n 3, 1), (1019, .iconst 1, 1), (1020, .iadd, 1), (1021, .iaload, 1), (1022, .aload_n 0, 1), (1023, .iload_n 3, 1)]
set_option maxRecDepth 100000 in
theorem lawD_38 : lawT_38.all (fun q => decide (decode code q.1 = .ok q.2)) = true := by decide +kernel
theorem lawX_38 {k pc n : Nat} {i : Instr} (h : lawT_38[k]? = some (pc, i, n)) : decode code pc = .ok (i, n) := by
  have h1 : decide (decode code pc = .ok (i, n)) = true := List.all_eq_true.mp lawD_38 (pc, i, n) (List.mem_of_getElem? h)
  exact of_decide_eq_true h1
theorem d_law_1002 : decode code 1002 = .ok (.pop, 1) := lawX_38 (k := 0) rfl
theorem d_law_1003 : decode code 1003 = .ok (.aload_n 2, 1) := lawX_38 (k := 1) rfl
theorem d_law_1004 : decode code 1004 = .ok (.aload_n 0, 1) := lawX_38 (k := 2) rfl
theorem d_law_1005 : decode code 1005 = .ok (.iload_n 3, 1) := lawX_38 (k := 3) rfl
theorem d_law_1006 : decode code 1006 = .ok (.iconst 1, 1) := lawX_38 (k := 4) rfl
theorem d_law_1007 : decode code 1007 = .ok (.iadd, 1) := lawX_38 (k := 5) rfl
theorem d_law_1008 : decode code 1008 = .ok (.iaload, 1) := lawX_38 (k := 6) rfl
theorem d_law_1009 : decode code 1009 = .ok (.invokevirtual 122, 3) := lawX_38 (k := 7) rfl
theorem d_law_1012 : decode code 1012 = .ok (.pop, 1) := lawX_38 (k := 8) rfl
theorem d_law_1013 : decode code 1013 = .ok (.goto 236, 3) := lawX_38 (k := 9) rfl
theorem d_law_1016 : decode code 1016 = .ok (.aload_n 1, 1) := lawX_38 (k := 10) rfl
theorem d_law_1017 : decode code 1017 = .ok (.aload_n 0, 1) := lawX_38 (k := 11) rfl
theorem d_law_1018 : decode code 1018 = .ok (.iload_n 3, 1) := lawX_38 (k := 12) rfl
theorem d_law_1019 : decode code 1019 = .ok (.iconst 1, 1) := lawX_38 (k := 13) rfl
theorem d_law_1020 : decode code 1020 = .ok (.iadd, 1) := lawX_38 (k := 14) rfl
theorem d_law_1021 : decode code 1021 = .ok (.iaload, 1) := lawX_38 (k := 15) rfl
theorem d_law_1022 : decode code 1022 = .ok (.aload_n 0, 1) := lawX_38 (k := 16) rfl
theorem d_law_1023 : decode code 1023 = .ok (.iload_n 3, 1) := lawX_38 (k := 17) rfl
def lawT_39 : List (Nat × Instr × Nat) := [(1024, .iconst 2, 1), (1025, .iadd, 1), (1026, .iaload, 1), (1027, .invokevirtual 123, 3), (1030, .pop, 1), (1031, .aload_n 2, 1), (1032, .aload_n 0, 1), (1033, .iload_n 3, 1), (1034, .iconst 1, 1), (1035, .iadd, 1), (1036, .iaload, 1), (1037, .aload_n 0, 1), (1038, .iload_n 3, 1), (1039, .iconst 2, 1), (1040, .iadd, 1), (1041, .iaload, 1), (1042, .invokevirtual 126, 3), (1045, .pop, 1)]
set_option maxRecDepth 100000 in
theorem lawD_39 : lawT_39.all (fun q => decide (decode code q.1 = .ok q.2)) = true := by decide +kernel
theorem lawX_39 {k pc n : Nat} {i : Instr} (h : lawT_39[k]? = some (pc, i, n)) : decode code pc = .ok (i, n) := by
  have h1 : decide (decode code pc = .ok (i, n)) = true := List.all_eq_true.mp lawD_39 (pc, i, n) (List.mem_of_getElem? h)
  exact of_decide_eq_true h1
theorem d_law_1024 : decode code 1024 = .ok (.iconst 2, 1) := lawX_39 (k := 0) rfl
theorem d_law_1025 : decode code 1025 = .ok (.iadd, 1) := lawX_39 (k := 1) rfl
theorem d_law_1026 : decode code 1026 = .ok (.iaload, 1) := lawX_39 (k := 2) rfl
theorem d_law_1027 : decode code 1027 = .ok (.invokevirtual 123, 3) := lawX_39 (k := 3) rfl
theorem d_law_1030 : decode code 1030 = .ok (.pop, 1) := lawX_39 (k := 4) rfl
theorem d_law_1031 : decode code 1031 = .ok (.aload_n 2, 1) := lawX_39 (k := 5) rfl
theorem d_law_1032 : decode code 1032 = .ok (.aload_n 0, 1) := lawX_39 (k := 6) rfl
theorem d_law_1033 : decode code 1033 = .ok (.iload_n 3, 1) := lawX_39 (k := 7) rfl
theorem d_law_1034 : decode code 1034 = .ok (.iconst 1, 1) := lawX_39 (k := 8) rfl
theorem d_law_1035 : decode code 1035 = .ok (.iadd, 1) := lawX_39 (k := 9) rfl
theorem d_law_1036 : decode code 1036 = .ok (.iaload, 1) := lawX_39 (k := 10) rfl
theorem d_law_1037 : decode code 1037 = .ok (.aload_n 0, 1) := lawX_39 (k := 11) rfl
theorem d_law_1038 : decode code 1038 = .ok (.iload_n 3, 1) := lawX_39 (k := 12) rfl
theorem d_law_1039 : decode code 1039 = .ok (.iconst 2, 1) := lawX_39 (k := 13) rfl
theorem d_law_1040 : decode code 1040 = .ok (.iadd, 1) := lawX_39 (k := 14) rfl
theorem d_law_1041 : decode code 1041 = .ok (.iaload, 1) := lawX_39 (k := 15) rfl
theorem d_law_1042 : decode code 1042 = .ok (.invokevirtual 126, 3) := lawX_39 (k := 16) rfl
theorem d_law_1045 : decode code 1045 = .ok (.pop, 1) := lawX_39 (k := 17) rfl
def lawT_40 : List (Nat × Instr × Nat) := [(1046, .goto 203, 3), (1049, .aload_n 1, 1), (1050, .invokevirtual 127, 3), (1053, .pop, 1), (1054, .aload_n 2, 1), (1055, .invokevirtual 131, 3), (1058, .pop, 1), (1059, .goto 190, 3), (1062, .aload_n 1, 1), (1063, .aload_n 0, 1), (1064, .iload_n 3, 1), (1065, .iconst 1, 1), (1066, .iadd, 1), (1067, .iaload, 1), (1068, .aload_n 0, 1), (1069, .iload_n 3, 1), (1070, .iconst 2, 1), (1071, .iadd, 1)]
set_option maxRecDepth 100000 in
theorem lawD_40 : lawT_40.all (fun q => decide (decode code q.1 = .ok q.2)) = true := by decide +kernel
theorem lawX_40 {k pc n : Nat} {i : Instr} (h : lawT_40[k]? = some (pc, i, n)) : decode code pc = .ok (i, n) := by
  have h1 : decide (decode code pc = .ok (i, n)) = true := List.all_eq_true.mp lawD_40 (pc, i, n) (List.mem_of_getElem? h)
  exact of_decide_eq_true h1
theorem d_law_1046 : decode code 1046 = .ok (.goto 203, 3) := lawX_40 (k := 0) rfl
theorem d_law_1049 : decode code 1049 = .ok (.aload_n 1, 1) := lawX_40 (k := 1) rfl
theorem d_law_1050 : decode code 1050 = .ok (.invokevirtual 127, 3) := lawX_40 (k := 2) rfl
theorem d_law_1053 : decode code 1053 = .ok (.pop, 1) := lawX_40 (k := 3) rfl
theorem d_law_1054 : decode code 1054 = .ok (.aload_n 2, 1) := lawX_40 (k := 4) rfl
theorem d_law_1055 : decode code 1055 = .ok (.invokevirtual 131, 3) := lawX_40 (k := 5) rfl
theorem d_law_1058 : decode code 1058 = .ok (.pop, 1) := lawX_40 (k := 6) rfl
theorem d_law_1059 : decode code 1059 = .ok (.goto 190, 3) := lawX_40 (k := 7) rfl
theorem d_law_1062 : decode code 1062 = .ok (.aload_n 1, 1) := lawX_40 (k := 8) rfl
theorem d_law_1063 : decode code 1063 = .ok (.aload_n 0, 1) := lawX_40 (k := 9) rfl
theorem d_law_1064 : decode code 1064 = .ok (.iload_n 3, 1) := lawX_40 (k := 10) rfl
theorem d_law_1065 : decode code 1065 = .ok (.iconst 1, 1) := lawX_40 (k := 11) rfl
theorem d_law_1066 : decode code 1066 = .ok (.iadd, 1) := lawX_40 (k := 12) rfl
theorem d_law_1067 : decode code 1067 = .ok (.iaload, 1) := lawX_40 (k := 13) rfl
theorem d_law_1068 : decode code 1068 = .ok (.aload_n 0, 1) := lawX_40 (k := 14) rfl
theorem d_law_1069 : decode code 1069 = .ok (.iload_n 3, 1) := lawX_40 (k := 15) rfl
theorem d_law_1070 : decode code 1070 = .ok (.iconst 2, 1) := lawX_40 (k := 16) rfl
theorem d_law_1071 : decode code 1071 = .ok (.iadd, 1) := lawX_40 (k := 17) rfl
def lawT_41 : List (Nat × Instr × Nat) := [(1072, .iaload, 1), (1073, .invokevirtual 132, 3), (1076, .pop, 1), (1077, .aload_n 2, 1), (1078, .aload_n 0, 1), (1079, .iload_n 3, 1), (1080, .iconst 1, 1), (1081, .iadd, 1), (1082, .iaload, 1), (1083, .aload_n 0, 1), (1084, .iload_n 3, 1), (1085, .iconst 2, 1), (1086, .iadd, 1), (1087, .iaload, 1), (1088, .invokevirtual 135, 3), (1091, .pop, 1), (1092, .goto 157, 3), (1095, .aload_n 1, 1)]
set_option maxRecDepth 100000 in
theorem lawD_41 : lawT_41.all (fun q => decide (decode code q.1 = .ok q.2)) = true := by decide +kernel
theorem lawX_41 {k pc n : Nat} {i : Instr} (h : lawT_41[k]? = some (pc, i, n)) : decode code pc = .ok (i, n) := by
  have h1 : decide (decode code pc = .ok (i, n)) = true := List.all_eq_true.mp lawD_41 (pc, i, n) (List.mem_of_getElem? h)
  exact of_decide_eq_true h1
theorem d_law_1072 : decode code 1072 = .ok (.iaload, 1) := lawX_41 (k := 0) rfl
theorem d_law_1073 : decode code 1073 = .ok (.invokevirtual 132, 3) := lawX_41 (k := 1) rfl
theorem d_law_1076 : decode code 1076 = .ok (.pop, 1) := lawX_41 (k := 2) rfl
theorem d_law_1077 : decode code 1077 = .ok (.aload_n 2, 1) := lawX_41 (k := 3) rfl
theorem d_law_1078 : decode code 1078 = .ok (.aload_n 0, 1) := lawX_41 (k := 4) rfl
theorem d_law_1079 : decode code 1079 = .ok (.iload_n 3, 1) := lawX_41 (k := 5) rfl
theorem d_law_1080 : decode code 1080 = .ok (.iconst 1, 1) := lawX_41 (k := 6) rfl
theorem d_law_1081 : decode code 1081 = .ok (.iadd, 1) := lawX_41 (k := 7) rfl
theorem d_law_1082 : decode code 1082 = .ok (.iaload, 1) := lawX_41 (k := 8) rfl
theorem d_law_1083 : decode code 1083 = .ok (.aload_n 0, 1) := lawX_41 (k := 9) rfl
theorem d_law_1084 : decode code 1084 = .ok (.iload_n 3, 1) := lawX_41 (k := 10) rfl
theorem d_law_1085 : decode code 1085 = .ok (.iconst 2, 1) := lawX_41 (k := 11) rfl
theorem d_law_1086 : decode code 1086 = .ok (.iadd, 1) := lawX_41 (k := 12) rfl
theorem d_law_1087 : decode code 1087 = .ok (.iaload, 1) := lawX_41 (k := 13) rfl
theorem d_law_1088 : decode code 1088 = .ok (.invokevirtual 135, 3) := lawX_41 (k := 14) rfl
theorem d_law_1091 : decode code 1091 = .ok (.pop, 1) := lawX_41 (k := 15) rfl
theorem d_law_1092 : decode code 1092 = .ok (.goto 157, 3) := lawX_41 (k := 16) rfl
theorem d_law_1095 : decode code 1095 = .ok (.aload_n 1, 1) := lawX_41 (k := 17) rfl
def lawT_42 : List (Nat × Instr × Nat) := [(1096, .aload_n 0, 1), (1097, .iload_n 3, 1), (1098, .iconst 1, 1), (1099, .iadd, 1), (1100, .iaload, 1), (1101, .invokevirtual 136, 3), (1104, .pop, 1), (1105, .aload_n 2, 1), (1106, .aload_n 0, 1), (1107, .iload_n 3, 1), (1108, .iconst 1, 1), (1109, .iadd, 1), (1110, .iaload, 1), (1111, .invokevirtual 139, 3), (1114, .pop, 1), (1115, .goto 134, 3), (1118, .aload_n 1, 1), (1119, .invokevirtual 140, 3)]
set_option maxRecDepth 100000 in
theorem lawD_42 : lawT_42.all (fun q => decide (decode code q.1 = .ok q.2)) = true := by decide +kernel
theorem lawX_42 {k pc n : Nat} {i : Instr} (h : lawT_42[k]? = some (pc, i, n)) : decode code pc = .ok (i, n) := by
  have h1 : decide (decode code pc = .ok (i, n)) = true := List.all_eq_true.mp lawD_42 (pc, i, n) (List.mem_of_getElem? h)
  exact of_decide_eq_true h1
theorem d_law_1096 : decode code 1096 = .ok (.aload_n 0, 1) := lawX_42 (k := 0) rfl
theorem d_law_1097 : decode code 1097 = .ok (.iload_n 3, 1) := lawX_42 (k := 1) rfl
theorem d_law_1098 : decode code 1098 = .ok (.iconst 1, 1) := lawX_42 (k := 2) rfl
theorem d_law_1099 : decode code 1099 = .ok (.iadd, 1) := lawX_42 (k := 3) rfl
theorem d_law_1100 : decode code 1100 = .ok (.iaload, 1) := lawX_42 (k := 4) rfl
theorem d_law_1101 : decode code 1101 = .ok (.invokevirtual 136, 3) := lawX_42 (k := 5) rfl
theorem d_law_1104 : decode code 1104 = .ok (.pop, 1) := lawX_42 (k := 6) rfl
theorem d_law_1105 : decode code 1105 = .ok (.aload_n 2, 1) := lawX_42 (k := 7) rfl
theorem d_law_1106 : decode code 1106 = .ok (.aload_n 0, 1) := lawX_42 (k := 8) rfl
theorem d_law_1107 : decode code 1107 = .ok (.iload_n 3, 1) := lawX_42 (k := 9) rfl
theorem d_law_1108 : decode code 1108 = .ok (.iconst 1, 1) := lawX_42 (k := 10) rfl
theorem d_law_1109 : decode code 1109 = .ok (.iadd, 1) := lawX_42 (k := 11) rfl
theorem d_law_1110 : decode code 1110 = .ok (.iaload, 1) := lawX_42 (k := 12) rfl
theorem d_law_1111 : decode code 1111 = .ok (.invokevirtual 139, 3) := lawX_42 (k := 13) rfl
theorem d_law_1114 : decode code 1114 = .ok (.pop, 1) := lawX_42 (k := 14) rfl
theorem d_law_1115 : decode code 1115 = .ok (.goto 134, 3) := lawX_42 (k := 15) rfl
theorem d_law_1118 : decode code 1118 = .ok (.aload_n 1, 1) := lawX_42 (k := 16) rfl
theorem d_law_1119 : decode code 1119 = .ok (.invokevirtual 140, 3) := lawX_42 (k := 17) rfl
def lawT_43 : List (Nat × Instr × Nat) := [(1122, .aload_n 2, 1), (1123, .invokevirtual 143, 3), (1126, .if_icmp .eq 123, 3), (1129, .iconst 0, 1), (1130, .ireturn, 1), (1131, .aload_n 1, 1), (1132, .aload_n 0, 1), (1133, .iload_n 3, 1), (1134, .iconst 1, 1), (1135, .iadd, 1), (1136, .iaload, 1), (1137, .aload_n 0, 1), (1138, .iload_n 3, 1), (1139, .iconst 2, 1), (1140, .iadd, 1), (1141, .iaload, 1), (1142, .invokevirtual 144, 3), (1145, .pop, 1)]
set_option maxRecDepth 100000 in
theorem lawD_43 : lawT_43.all (fun q => decide (decode code q.1 = .ok q.2)) = true := by decide +kernel
theorem lawX_43 {k pc n : Nat} {i : Instr} (h : lawT_43[k]? = some (pc, i, n)) : decode code pc = .ok (i, n) := by
  have h1 : decide (decode code pc = .ok (i, n)) = true := List.all_eq_true.mp lawD_43 (pc, i, n) (List.mem_of_getElem? h)
  exact of_decide_eq_true h1
theorem d_law_1122 : decode code 1122 = .ok (.aload_n 2, 1) := lawX_43 (k := 0) rfl
theorem d_law_1123 : decode code 1123 = .ok (.invokevirtual 143, 3) := lawX_43 (k := 1) rfl
theorem d_law_1126 : decode code 1126 = .ok (.if_icmp .eq 123, 3) := lawX_43 (k := 2) rfl
theorem d_law_1129 : decode code 1129 = .ok (.iconst 0, 1) := lawX_43 (k := 3) rfl
theorem d_law_1130 : decode code 1130 = .ok (.ireturn, 1) := lawX_43 (k := 4) rfl
theorem d_law_1131 : decode code 1131 = .ok (.aload_n 1, 1) := lawX_43 (k := 5) rfl
theorem d_law_1132 : decode code 1132 = .ok (.aload_n 0, 1) := lawX_43 (k := 6) rfl
theorem d_law_1133 : decode code 1133 = .ok (.iload_n 3, 1) := lawX_43 (k := 7) rfl
theorem d_law_1134 : decode code 1134 = .ok (.iconst 1, 1) := lawX_43 (k := 8) rfl
theorem d_law_1135 : decode code 1135 = .ok (.iadd, 1) := lawX_43 (k := 9) rfl
theorem d_law_1136 : decode code 1136 = .ok (.iaload, 1) := lawX_43 (k := 10) rfl
theorem d_law_1137 : decode code 1137 = .ok (.aload_n 0, 1) := lawX_43 (k := 11) rfl
theorem d_law_1138 : decode code 1138 = .ok (.iload_n 3, 1) := lawX_43 (k := 12) rfl
theorem d_law_1139 : decode code 1139 = .ok (.iconst 2, 1) := lawX_43 (k := 13) rfl
theorem d_law_1140 : decode code 1140 = .ok (.iadd, 1) := lawX_43 (k := 14) rfl
theorem d_law_1141 : decode code 1141 = .ok (.iaload, 1) := lawX_43 (k := 15) rfl
theorem d_law_1142 : decode code 1142 = .ok (.invokevirtual 144, 3) := lawX_43 (k := 16) rfl
theorem d_law_1145 : decode code 1145 = .ok (.pop, 1) := lawX_43 (k := 17) rfl
def lawT_44 : List (Nat × Instr × Nat) := [(1146, .aload_n 2, 1), (1147, .aload_n 0, 1), (1148, .iload_n 3, 1), (1149, .iconst 1, 1), (1150, .iadd, 1), (1151, .iaload, 1), (1152, .aload_n 0, 1), (1153, .iload_n 3, 1), (1154, .iconst 2, 1), (1155, .iadd, 1), (1156, .iaload, 1), (1157, .invokevirtual 147, 3), (1160, .pop, 1), (1161, .goto 88, 3), (1164, .aload_n 1, 1), (1165, .aload_n 0, 1), (1166, .iload_n 3, 1), (1167, .iconst 1, 1)]
set_option maxRecDepth 100000 in
theorem lawD_44 : lawT_44.all (fun q => decide (decode code q.1 = .ok q.2)) = true := by decide +kernel
theorem lawX_44 {k pc n : Nat} {i : Instr} (h : lawT_44[k]? = some (pc, i, n)) : decode code pc = .ok (i, n) := by
  have h1 : decide (decode code pc = .ok (i, n)) = true := List.all_eq_true.mp lawD_44 (pc, i, n) (List.mem_of_getElem? h)
  exact of_decide_eq_true h1
theorem d_law_1146 : decode code 1146 = .ok (.aload_n 2, 1) := lawX_44 (k := 0) rfl
theorem d_law_1147 : decode code 1147 = .ok (.aload_n 0, 1) := lawX_44 (k := 1) rfl
theorem d_law_1148 : decode code 1148 = .ok (.iload_n 3, 1) := lawX_44 (k := 2) rfl
theorem d_law_1149 : decode code 1149 = .ok (.iconst 1, 1) := lawX_44 (k := 3) rfl
theorem d_law_1150 : decode code 1150 = .ok (.iadd, 1) := lawX_44 (k := 4) rfl
theorem d_law_1151 : decode code 1151 = .ok (.iaload, 1) := lawX_44 (k := 5) rfl
theorem d_law_1152 : decode code 1152 = .ok (.aload_n 0, 1) := lawX_44 (k := 6) rfl
theorem d_law_1153 : decode code 1153 = .ok (.iload_n 3, 1) := lawX_44 (k := 7) rfl
theorem d_law_1154 : decode code 1154 = .ok (.iconst 2, 1) := lawX_44 (k := 8) rfl
theorem d_law_1155 : decode code 1155 = .ok (.iadd, 1) := lawX_44 (k := 9) rfl
theorem d_law_1156 : decode code 1156 = .ok (.iaload, 1) := lawX_44 (k := 10) rfl
theorem d_law_1157 : decode code 1157 = .ok (.invokevirtual 147, 3) := lawX_44 (k := 11) rfl
theorem d_law_1160 : decode code 1160 = .ok (.pop, 1) := lawX_44 (k := 12) rfl
theorem d_law_1161 : decode code 1161 = .ok (.goto 88, 3) := lawX_44 (k := 13) rfl
theorem d_law_1164 : decode code 1164 = .ok (.aload_n 1, 1) := lawX_44 (k := 14) rfl
theorem d_law_1165 : decode code 1165 = .ok (.aload_n 0, 1) := lawX_44 (k := 15) rfl
theorem d_law_1166 : decode code 1166 = .ok (.iload_n 3, 1) := lawX_44 (k := 16) rfl
theorem d_law_1167 : decode code 1167 = .ok (.iconst 1, 1) := lawX_44 (k := 17) rfl
def lawT_45 : List (Nat × Instr × Nat) := [(1168, .iadd, 1), (1169, .iaload, 1), (1170, .invokevirtual 148, 3), (1173, .pop, 1), (1174, .aload_n 2, 1), (1175, .aload_n 0, 1), (1176, .iload_n 3, 1), (1177, .iconst 1, 1), (1178, .iadd, 1), (1179, .iaload, 1), (1180, .invokevirtual 151, 3), (1183, .pop, 1), (1184, .goto 65, 3), (1187, .aload_n 1, 1), (1188, .aload_n 0, 1), (1189, .iload_n 3, 1), (1190, .iconst 1, 1), (1191, .iadd, 1)]
set_option maxRecDepth 100000 in
theorem lawD_45 : lawT_45.all (fun q => decide (decode code q.1 = .ok q.2)) = true := by decide +kernel
theorem lawX_45 {k pc n : Nat} {i : Instr} (h : lawT_45[k]? = some (pc, i, n)) : decode code pc = .ok (i, n) := by
  have h1 : decide (decode code pc = .ok (i, n)) = true := List.all_eq_true.mp lawD_45 (pc, i, n) (List.mem_of_getElem? h)
  exact of_decide_eq_true h1
theorem d_law_1168 : decode code 1168 = .ok (.iadd, 1) := lawX_45 (k := 0) rfl
theorem d_law_1169 : decode code 1169 = .ok (.iaload, 1) := lawX_45 (k := 1) rfl
theorem d_law_1170 : decode code 1170 = .ok (.invokevirtual 148, 3) := lawX_45 (k := 2) rfl
theorem d_law_1173 : decode code 1173 = .ok (.pop, 1) := lawX_45 (k := 3) rfl
theorem d_law_1174 : decode code 1174 = .ok (.aload_n 2, 1) := lawX_45 (k := 4) rfl
theorem d_law_1175 : decode code 1175 = .ok (.aload_n 0, 1) := lawX_45 (k := 5) rfl
theorem d_law_1176 : decode code 1176 = .ok (.iload_n 3, 1) := lawX_45 (k := 6) rfl
theorem d_law_1177 : decode code 1177 = .ok (.iconst 1, 1) := lawX_45 (k := 7) rfl
theorem d_law_1178 : decode code 1178 = .ok (.iadd, 1) := lawX_45 (k := 8) rfl
theorem d_law_1179 : decode code 1179 = .ok (.iaload, 1) := lawX_45 (k := 9) rfl
theorem d_law_1180 : decode code 1180 = .ok (.invokevirtual 151, 3) := lawX_45 (k := 10) rfl
theorem d_law_1183 : decode code 1183 = .ok (.pop, 1) := lawX_45 (k := 11) rfl
theorem d_law_1184 : decode code 1184 = .ok (.goto 65, 3) := lawX_45 (k := 12) rfl
theorem d_law_1187 : decode code 1187 = .ok (.aload_n 1, 1) := lawX_45 (k := 13) rfl
theorem d_law_1188 : decode code 1188 = .ok (.aload_n 0, 1) := lawX_45 (k := 14) rfl
theorem d_law_1189 : decode code 1189 = .ok (.iload_n 3, 1) := lawX_45 (k := 15) rfl
theorem d_law_1190 : decode code 1190 = .ok (.iconst 1, 1) := lawX_45 (k := 16) rfl
theorem d_law_1191 : decode code 1191 = .ok (.iadd, 1) := lawX_45 (k := 17) rfl
def lawT_46 : List (Nat × Instr × Nat) := [(1192, .iaload, 1), (1193, .ifCond .eq 7, 3), (1196, .iconst 1, 1), (1197, .goto 4, 3), (1200, .iconst 0, 1), (1201, .invokevirtual 152, 3), (1204, .pop, 1), (1205, .aload_n 2, 1), (1206, .aload_n 0, 1), (1207, .iload_n 3, 1), (1208, .iconst 1, 1), (1209, .iadd, 1), (1210, .iaload, 1), (1211, .ifCond .eq 7, 3), (1214, .iconst 1, 1), (1215, .goto 4, 3), (1218, .iconst 0, 1), (1219, .invokevirtual 156, 3)]
set_option maxRecDepth 100000 in
theorem lawD_46 : lawT_46.all (fun q => decide (decode code q.1 = .ok q.2)) = true := by decide +kernel
theorem lawX_46 {k pc n : Nat} {i : Instr} (h : lawT_46[k]? = some (pc, i, n)) : decode code pc = .ok (i, n) := by
  have h1 : decide (decode code pc = .ok (i, n)) = true := List.all_eq_true.mp lawD_46 (pc, i, n) (List.mem_of_getElem? h)
  exact of_decide_eq_true h1
theorem d_law_1192 : decode code 1192 = .ok (.iaload, 1) := lawX_46 (k := 0) rfl
theorem d_law_1193 : decode code 1193 = .ok (.ifCond .eq 7, 3) := lawX_46 (k := 1) rfl
theorem d_law_1196 : decode code 1196 = .ok (.iconst 1, 1) := lawX_46 (k := 2) rfl
theorem d_law_1197 : decode code 1197 = .ok (.goto 4, 3) := lawX_46 (k := 3) rfl
theorem d_law_1200 : decode code 1200 = .ok (.iconst 0, 1) := lawX_46 (k := 4) rfl
theorem d_law_1201 : decode code 1201 = .ok (.invokevirtual 152, 3) := lawX_46 (k := 5) rfl
theorem d_law_1204 : decode code 1204 = .ok (.pop, 1) := lawX_46 (k := 6) rfl
theorem d_law_1205 : decode code 1205 = .ok (.aload_n 2, 1) := lawX_46 (k := 7) rfl
theorem d_law_1206 : decode code 1206 = .ok (.aload_n 0, 1) := lawX_46 (k := 8) rfl
theorem d_law_1207 : decode code 1207 = .ok (.iload_n 3, 1) := lawX_46 (k := 9) rfl
theorem d_law_1208 : decode code 1208 = .ok (.iconst 1, 1) := lawX_46 (k := 10) rfl
theorem d_law_1209 : decode code 1209 = .ok (.iadd, 1) := lawX_46 (k := 11) rfl
theorem d_law_1210 : decode code 1210 = .ok (.iaload, 1) := lawX_46 (k := 12) rfl
theorem d_law_1211 : decode code 1211 = .ok (.ifCond .eq 7, 3) := lawX_46 (k := 13) rfl
theorem d_law_1214 : decode code 1214 = .ok (.iconst 1, 1) := lawX_46 (k := 14) rfl
theorem d_law_1215 : decode code 1215 = .ok (.goto 4, 3) := lawX_46 (k := 15) rfl
theorem d_law_1218 : decode code 1218 = .ok (.iconst 0, 1) := lawX_46 (k := 16) rfl
theorem d_law_1219 : decode code 1219 = .ok (.invokevirtual 156, 3) := lawX_46 (k := 17) rfl
def lawT_47 : List (Nat × Instr × Nat) := [(1222, .pop, 1), (1223, .goto 26, 3), (1226, .aload_n 1, 1), (1227, .aload_n 0, 1), (1228, .iload_n 3, 1), (1229, .iconst 1, 1), (1230, .iadd, 1), (1231, .iaload, 1), (1232, .invokevirtual 157, 3), (1235, .pop, 1), (1236, .aload_n 2, 1), (1237, .aload_n 0, 1), (1238, .iload_n 3, 1), (1239, .iconst 1, 1), (1240, .iadd, 1), (1241, .iaload, 1), (1242, .invokevirtual 160, 3), (1245, .pop, 1)]
set_option maxRecDepth 100000 in
theorem lawD_47 : lawT_47.all (fun q => decide (decode code q.1 = .ok q.2)) = true := by decide +kernel
theorem lawX_47 {k pc n : Nat} {i : Instr} (h : lawT_47[k]? = some (pc, i, n)) : decode code pc = .ok (i, n) := by
  have h1 : decide (decode code pc = .ok (i, n)) = true := List.all_eq_true.mp lawD_47 (pc, i, n) (List.mem_of_getElem? h)
  exact of_decide_eq_true h1
theorem d_law_1222 : decode code 1222 = .ok (.pop, 1) := lawX_47 (k := 0) rfl
theorem d_law_1223 : decode code 1223 = .ok (.goto 26, 3) := lawX_47 (k := 1) rfl
theorem d_law_1226 : decode code 1226 = .ok (.aload_n 1, 1) := lawX_47 (k := 2) rfl
theorem d_law_1227 : decode code 1227 = .ok (.aload_n 0, 1) := lawX_47 (k := 3) rfl
theorem d_law_1228 : decode code 1228 = .ok (.iload_n 3, 1) := lawX_47 (k := 4) rfl
theorem d_law_1229 : decode code 1229 = .ok (.iconst 1, 1) := lawX_47 (k := 5) rfl
theorem d_law_1230 : decode code 1230 = .ok (.iadd, 1) := lawX_47 (k := 6) rfl
theorem d_law_1231 : decode code 1231 = .ok (.iaload, 1) := lawX_47 (k := 7) rfl
theorem d_law_1232 : decode code 1232 = .ok (.invokevirtual 157, 3) := lawX_47 (k := 8) rfl
theorem d_law_1235 : decode code 1235 = .ok (.pop, 1) := lawX_47 (k := 9) rfl
theorem d_law_1236 : decode code 1236 = .ok (.aload_n 2, 1) := lawX_47 (k := 10) rfl
theorem d_law_1237 : decode code 1237 = .ok (.aload_n 0, 1) := lawX_47 (k := 11) rfl
theorem d_law_1238 : decode code 1238 = .ok (.iload_n 3, 1) := lawX_47 (k := 12) rfl
theorem d_law_1239 : decode code 1239 = .ok (.iconst 1, 1) := lawX_47 (k := 13) rfl
theorem d_law_1240 : decode code 1240 = .ok (.iadd, 1) := lawX_47 (k := 14) rfl
theorem d_law_1241 : decode code 1241 = .ok (.iaload, 1) := lawX_47 (k := 15) rfl
theorem d_law_1242 : decode code 1242 = .ok (.invokevirtual 160, 3) := lawX_47 (k := 16) rfl
theorem d_law_1245 : decode code 1245 = .ok (.pop, 1) := lawX_47 (k := 17) rfl
def lawT_48 : List (Nat × Instr × Nat) := [(1246, .goto 3, 3), (1249, .iinc 3 5, 3), (1252, .goto (-1234), 3), (1255, .iconst 1, 1), (1256, .ireturn, 1)]
set_option maxRecDepth 100000 in
theorem lawD_48 : lawT_48.all (fun q => decide (decode code q.1 = .ok q.2)) = true := by decide +kernel
theorem lawX_48 {k pc n : Nat} {i : Instr} (h : lawT_48[k]? = some (pc, i, n)) : decode code pc = .ok (i, n) := by
  have h1 : decide (decode code pc = .ok (i, n)) = true := List.all_eq_true.mp lawD_48 (pc, i, n) (List.mem_of_getElem? h)
  exact of_decide_eq_true h1
theorem d_law_1246 : decode code 1246 = .ok (.goto 3, 3) := lawX_48 (k := 0) rfl
theorem d_law_1249 : decode code 1249 = .ok (.iinc 3 5, 3) := lawX_48 (k := 1) rfl
theorem d_law_1252 : decode code 1252 = .ok (.goto (-1234), 3) := lawX_48 (k := 2) rfl
theorem d_law_1255 : decode code 1255 = .ok (.iconst 1, 1) := lawX_48 (k := 3) rfl
theorem d_law_1256 : decode code 1256 = .ok (.ireturn, 1) := lawX_48 (k := 4) rfl
def lawL : List (Nat × Nat) := [(13, 2), (17, 136), (18, 3), (21, 139), (22, 6), (26, 142), (27, 27), (31, 171), (32, 29), (36, 173), (37, 36), (40, 179), (41, 37), (45, 180), (46, 39), (49, 182), (50, 40), (53, 190), (54, 46), (58, 195), (59, 48), (62, 183), (63, 53), (66, 189), (67, 56), (70, 201), (71, 59), (74, 205), (75, 66), (78, 211), (79, 81), (82, 235), (83, 83), (86, 236), (87, 85), (90, 237), (91, 87), (94, 238), (95, 90), (98, 240), (99, 95), (102, 242), (103, 96), (106, 243), (107, 97), (110, 244), (111, 99), (114, 224), (115, 104), (118, 227), (119, 106), (122, 233), (123, 113), (126, 246), (127, 115), (131, 198), (132, 116), (135, 228), (136, 119), (139, 230), (140, 121), (143, 232), (144, 122), (147, 247), (148, 124), (151, 248), (152, 125), (156, 254), (157, 127), (160, 249)]
set_option maxRecDepth 100000 in
theorem lawL_in : ∀ q ∈ lawL, Cond.methodLink "SpansAwayLaw" q.1 (sm_y q.2) ∈ lw_tbl := sm_places [483, 1089, 491, 1101, 501, 1113, 582, 1229, 592, 1237, 620, 1261, 624, 1265, 632, 1273, 636, 1305, 659, 1325, 667, 1277, 689, 1301, 702, 1349, 715, 1365, 746, 1389, 813, 1485, 821, 1489, 829, 1493, 839, 1497, 851, 1505, 875, 1513, 880, 1517, 885, 1521, 892, 1441, 913, 1453, 921, 1477, 955, 1529, 964, 1337, 969, 1457, 984, 1465, 994, 1473, 999, 1533, 1007, 1537, 1011, 1561, 1020, 1541] (by decide +kernel)
theorem lawL_ok {i x j : Nat} {M : sm_M} (h : lawL[i]? = some (x, j)) (hj : sm_MS[j]? = some M) : Cond.methodLink "SpansAwayLaw" x M.1 ∈ lw_tbl := by
  have h1 := lawL_in (x, j) (List.mem_of_getElem? h)
  have hy : sm_y j = M.1 := by unfold sm_y; rw [hj]
  rw [← hy]
  exact h1
