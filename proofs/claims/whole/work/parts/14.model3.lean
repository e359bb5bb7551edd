theorem cst_RX10_293 : Cond.constant RX10 293 (-2000000000) ∈ gBig := (gBig_tab 1403 (by decide +kernel) (by decide +kernel))
theorem cst_RX10_329 : Cond.constant RX10 329 1103515245 ∈ gBig := (gBig_tab 1497 (by decide +kernel) (by decide +kernel))
theorem dX10_drawn_0 : decode cX10_drawn 0 = .ok (.iload_n 1, 1) := by decide +kernel
theorem dX10_drawn_1 : decode cX10_drawn 1 = .ok (.invokestatic 132, 3) := by decide +kernel
theorem dX10_drawn_4 : decode cX10_drawn 4 = .ok (.ifCond .eq 65, 3) := by decide +kernel
theorem dX10_drawn_7 : decode cX10_drawn 7 = .ok (.iload_n 3, 1) := by decide +kernel
theorem dX10_drawn_8 : decode cX10_drawn 8 = .ok (.ifCond .lt 61, 3) := by decide +kernel
theorem dX10_drawn_11 : decode cX10_drawn 11 = .ok (.iload_n 3, 1) := by decide +kernel
theorem dX10_drawn_12 : decode cX10_drawn 12 = .ok (.sipush 10000, 3) := by decide +kernel
theorem dX10_drawn_15 : decode cX10_drawn 15 = .ok (.idiv, 1) := by decide +kernel
theorem dX10_drawn_16 : decode cX10_drawn 16 = .ok (.iconst 1, 1) := by decide +kernel
theorem dX10_drawn_17 : decode cX10_drawn 17 = .ok (.bipush 30, 2) := by decide +kernel
theorem dX10_drawn_19 : decode cX10_drawn 19 = .ok (.invokestatic 110, 3) := by decide +kernel
theorem dX10_drawn_22 : decode cX10_drawn 22 = .ok (.ifCond .eq 47, 3) := by decide +kernel
theorem dX10_drawn_25 : decode cX10_drawn 25 = .ok (.iload_n 3, 1) := by decide +kernel
theorem dX10_drawn_26 : decode cX10_drawn 26 = .ok (.bipush 100, 2) := by decide +kernel
theorem dX10_drawn_28 : decode cX10_drawn 28 = .ok (.idiv, 1) := by decide +kernel
theorem dX10_drawn_29 : decode cX10_drawn 29 = .ok (.bipush 100, 2) := by decide +kernel
theorem dX10_drawn_31 : decode cX10_drawn 31 = .ok (.irem, 1) := by decide +kernel
theorem dX10_drawn_32 : decode cX10_drawn 32 = .ok (.iconst 1, 1) := by decide +kernel
theorem dX10_drawn_33 : decode cX10_drawn 33 = .ok (.bipush 30, 2) := by decide +kernel
theorem dX10_drawn_35 : decode cX10_drawn 35 = .ok (.invokestatic 110, 3) := by decide +kernel
theorem dX10_drawn_38 : decode cX10_drawn 38 = .ok (.ifCond .eq 31, 3) := by decide +kernel
theorem dX10_drawn_41 : decode cX10_drawn 41 = .ok (.iload_n 3, 1) := by decide +kernel
theorem dX10_drawn_42 : decode cX10_drawn 42 = .ok (.bipush 100, 2) := by decide +kernel
theorem dX10_drawn_44 : decode cX10_drawn 44 = .ok (.irem, 1) := by decide +kernel
theorem dX10_drawn_45 : decode cX10_drawn 45 = .ok (.bipush 12, 2) := by decide +kernel
theorem dX10_drawn_47 : decode cX10_drawn 47 = .ok (.if_icmp .gt 22, 3) := by decide +kernel
theorem dX10_drawn_50 : decode cX10_drawn 50 = .ok (.iload 4, 2) := by decide +kernel
theorem dX10_drawn_52 : decode cX10_drawn 52 = .ok (.iconst 0, 1) := by decide +kernel
theorem dX10_drawn_53 : decode cX10_drawn 53 = .ok (.iconst 1, 1) := by decide +kernel
theorem dX10_drawn_54 : decode cX10_drawn 54 = .ok (.invokestatic 110, 3) := by decide +kernel
theorem dX10_drawn_57 : decode cX10_drawn 57 = .ok (.ifCond .eq 12, 3) := by decide +kernel
theorem dX10_drawn_60 : decode cX10_drawn 60 = .ok (.aload_n 0, 1) := by decide +kernel
theorem dX10_drawn_61 : decode cX10_drawn 61 = .ok (.getfield 81, 3) := by decide +kernel
theorem dX10_drawn_64 : decode cX10_drawn 64 = .ok (.iload_n 1, 1) := by decide +kernel
theorem dX10_drawn_65 : decode cX10_drawn 65 = .ok (.iaload, 1) := by decide +kernel
theorem dX10_drawn_66 : decode cX10_drawn 66 = .ok (.ifCond .eq 7, 3) := by decide +kernel
theorem dX10_drawn_69 : decode cX10_drawn 69 = .ok (.ldc_w 293, 3) := by decide +kernel
theorem dX10_drawn_72 : decode cX10_drawn 72 = .ok (.ireturn, 1) := by decide +kernel
theorem dX10_drawn_73 : decode cX10_drawn 73 = .ok (.aload_n 0, 1) := by decide +kernel
theorem dX10_drawn_74 : decode cX10_drawn 74 = .ok (.iload_n 1, 1) := by decide +kernel
theorem dX10_drawn_75 : decode cX10_drawn 75 = .ok (.invokevirtual 270, 3) := by decide +kernel
theorem dX10_drawn_78 : decode cX10_drawn 78 = .ok (.iload_n 2, 1) := by decide +kernel
theorem dX10_drawn_79 : decode cX10_drawn 79 = .ok (.istore 5, 2) := by decide +kernel
theorem dX10_drawn_81 : decode cX10_drawn 81 = .ok (.iconst 0, 1) := by decide +kernel
theorem dX10_drawn_82 : decode cX10_drawn 82 = .ok (.istore 6, 2) := by decide +kernel
theorem dX10_drawn_84 : decode cX10_drawn 84 = .ok (.iconst 0, 1) := by decide +kernel
theorem dX10_drawn_85 : decode cX10_drawn 85 = .ok (.istore 7, 2) := by decide +kernel
theorem dX10_drawn_87 : decode cX10_drawn 87 = .ok (.bipush 29, 2) := by decide +kernel
theorem dX10_drawn_89 : decode cX10_drawn 89 = .ok (.aload_n 0, 1) := by decide +kernel
theorem dX10_drawn_90 : decode cX10_drawn 90 = .ok (.invokevirtual 246, 3) := by decide +kernel
theorem dX10_drawn_93 : decode cX10_drawn 93 = .ok (.iload_n 3, 1) := by decide +kernel
theorem dX10_drawn_94 : decode cX10_drawn 94 = .ok (.bipush 100, 2) := by decide +kernel
theorem dX10_drawn_96 : decode cX10_drawn 96 = .ok (.idiv, 1) := by decide +kernel
theorem dX10_drawn_97 : decode cX10_drawn 97 = .ok (.bipush 100, 2) := by decide +kernel
theorem dX10_drawn_99 : decode cX10_drawn 99 = .ok (.irem, 1) := by decide +kernel
theorem dX10_drawn_100 : decode cX10_drawn 100 = .ok (.iadd, 1) := by decide +kernel
theorem dX10_drawn_101 : decode cX10_drawn 101 = .ok (.iconst 1, 1) := by decide +kernel
theorem dX10_drawn_102 : decode cX10_drawn 102 = .ok (.isub, 1) := by decide +kernel
theorem dX10_drawn_103 : decode cX10_drawn 103 = .ok (.invokestatic 232, 3) := by decide +kernel
theorem dX10_drawn_106 : decode cX10_drawn 106 = .ok (.istore 8, 2) := by decide +kernel
theorem dX10_drawn_108 : decode cX10_drawn 108 = .ok (.iconst 0, 1) := by decide +kernel
theorem dX10_drawn_109 : decode cX10_drawn 109 = .ok (.istore 9, 2) := by decide +kernel
theorem dX10_drawn_111 : decode cX10_drawn 111 = .ok (.iload 9, 2) := by decide +kernel
theorem dX10_drawn_113 : decode cX10_drawn 113 = .ok (.iload_n 3, 1) := by decide +kernel
theorem dX10_drawn_114 : decode cX10_drawn 114 = .ok (.sipush 10000, 3) := by decide +kernel
theorem dX10_drawn_117 : decode cX10_drawn 117 = .ok (.idiv, 1) := by decide +kernel
theorem dX10_drawn_118 : decode cX10_drawn 118 = .ok (.if_icmp .ge 150, 3) := by decide +kernel
theorem dX10_drawn_121 : decode cX10_drawn 121 = .ok (.aload_n 0, 1) := by decide +kernel
theorem dX10_drawn_122 : decode cX10_drawn 122 = .ok (.getfield 30, 3) := by decide +kernel
theorem dX10_drawn_125 : decode cX10_drawn 125 = .ok (.iconst 0, 1) := by decide +kernel
theorem dX10_drawn_126 : decode cX10_drawn 126 = .ok (.iaload, 1) := by decide +kernel
theorem dX10_drawn_127 : decode cX10_drawn 127 = .ok (.istore 10, 2) := by decide +kernel
theorem dX10_drawn_129 : decode cX10_drawn 129 = .ok (.iconst 0, 1) := by decide +kernel
theorem dX10_drawn_130 : decode cX10_drawn 130 = .ok (.istore 11, 2) := by decide +kernel
theorem dX10_drawn_132 : decode cX10_drawn 132 = .ok (.aload_n 0, 1) := by decide +kernel
theorem dX10_drawn_133 : decode cX10_drawn 133 = .ok (.invokevirtual 246, 3) := by decide +kernel
theorem dX10_drawn_136 : decode cX10_drawn 136 = .ok (.istore 12, 2) := by decide +kernel
theorem dX10_drawn_138 : decode cX10_drawn 138 = .ok (.iload 12, 2) := by decide +kernel
theorem dX10_drawn_140 : decode cX10_drawn 140 = .ok (.iload 8, 2) := by decide +kernel
theorem dX10_drawn_142 : decode cX10_drawn 142 = .ok (.if_icmp .gt 112, 3) := by decide +kernel
theorem dX10_drawn_145 : decode cX10_drawn 145 = .ok (.iload 5, 2) := by decide +kernel
theorem dX10_drawn_147 : decode cX10_drawn 147 = .ok (.ldc_w 329, 3) := by decide +kernel
theorem dX10_drawn_150 : decode cX10_drawn 150 = .ok (.imul, 1) := by decide +kernel
theorem dX10_drawn_151 : decode cX10_drawn 151 = .ok (.sipush 12345, 3) := by decide +kernel
theorem dX10_drawn_154 : decode cX10_drawn 154 = .ok (.iadd, 1) := by decide +kernel
theorem dX10_drawn_155 : decode cX10_drawn 155 = .ok (.istore 5, 2) := by decide +kernel
theorem dX10_drawn_157 : decode cX10_drawn 157 = .ok (.iload 10, 2) := by decide +kernel
theorem dX10_drawn_159 : decode cX10_drawn 159 = .ok (.aload_n 0, 1) := by decide +kernel
theorem dX10_drawn_160 : decode cX10_drawn 160 = .ok (.getfield 30, 3) := by decide +kernel
theorem dX10_drawn_163 : decode cX10_drawn 163 = .ok (.iconst 1, 1) := by decide +kernel
theorem dX10_drawn_164 : decode cX10_drawn 164 = .ok (.iaload, 1) := by decide +kernel
theorem dX10_drawn_165 : decode cX10_drawn 165 = .ok (.if_icmp .le 9, 3) := by decide +kernel
theorem dX10_drawn_168 : decode cX10_drawn 168 = .ok (.iconst 0, 1) := by decide +kernel
theorem dX10_drawn_169 : decode cX10_drawn 169 = .ok (.istore 10, 2) := by decide +kernel
theorem dX10_drawn_171 : decode cX10_drawn 171 = .ok (.iconst 1, 1) := by decide +kernel
theorem dX10_drawn_172 : decode cX10_drawn 172 = .ok (.istore 11, 2) := by decide +kernel
theorem dX10_drawn_174 : decode cX10_drawn 174 = .ok (.iload 5, 2) := by decide +kernel
theorem dX10_drawn_176 : decode cX10_drawn 176 = .ok (.bipush 8, 2) := by decide +kernel
theorem dX10_drawn_178 : decode cX10_drawn 178 = .ok (.iushr, 1) := by decide +kernel
theorem dX10_drawn_179 : decode cX10_drawn 179 = .ok (.bipush 12, 2) := by decide +kernel
theorem dX10_drawn_181 : decode cX10_drawn 181 = .ok (.irem, 1) := by decide +kernel
theorem dX10_drawn_182 : decode cX10_drawn 182 = .ok (.iload_n 3, 1) := by decide +kernel
theorem dX10_drawn_183 : decode cX10_drawn 183 = .ok (.bipush 100, 2) := by decide +kernel
theorem dX10_drawn_185 : decode cX10_drawn 185 = .ok (.irem, 1) := by decide +kernel
theorem dX10_drawn_186 : decode cX10_drawn 186 = .ok (.if_icmp .ge 16, 3) := by decide +kernel
theorem dX10_drawn_189 : decode cX10_drawn 189 = .ok (.iconst 1, 1) := by decide +kernel
theorem dX10_drawn_190 : decode cX10_drawn 190 = .ok (.iload 5, 2) := by decide +kernel
theorem dX10_drawn_192 : decode cX10_drawn 192 = .ok (.bipush 16, 2) := by decide +kernel
theorem dX10_drawn_194 : decode cX10_drawn 194 = .ok (.iushr, 1) := by decide +kernel
theorem dX10_drawn_195 : decode cX10_drawn 195 = .ok (.bipush 24, 2) := by decide +kernel
theorem dX10_drawn_197 : decode cX10_drawn 197 = .ok (.irem, 1) := by decide +kernel
theorem dX10_drawn_198 : decode cX10_drawn 198 = .ok (.iadd, 1) := by decide +kernel
theorem dX10_drawn_199 : decode cX10_drawn 199 = .ok (.goto 10, 3) := by decide +kernel
theorem dX10_drawn_202 : decode cX10_drawn 202 = .ok (.aload_n 0, 1) := by decide +kernel
theorem dX10_drawn_203 : decode cX10_drawn 203 = .ok (.getfield 91, 3) := by decide +kernel
theorem dX10_drawn_206 : decode cX10_drawn 206 = .ok (.iload 12, 2) := by decide +kernel
theorem dX10_drawn_208 : decode cX10_drawn 208 = .ok (.iaload, 1) := by decide +kernel
theorem dX10_drawn_209 : decode cX10_drawn 209 = .ok (.istore 13, 2) := by decide +kernel
theorem dX10_drawn_211 : decode cX10_drawn 211 = .ok (.iload 10, 2) := by decide +kernel
theorem dX10_drawn_213 : decode cX10_drawn 213 = .ok (.iload 13, 2) := by decide +kernel
theorem dX10_drawn_215 : decode cX10_drawn 215 = .ok (.invokestatic 232, 3) := by decide +kernel
theorem dX10_drawn_218 : decode cX10_drawn 218 = .ok (.istore 14, 2) := by decide +kernel
theorem dX10_drawn_220 : decode cX10_drawn 220 = .ok (.iload 6, 2) := by decide +kernel
theorem dX10_drawn_222 : decode cX10_drawn 222 = .ok (.aload_n 0, 1) := by decide +kernel
theorem dX10_drawn_223 : decode cX10_drawn 223 = .ok (.iload 12, 2) := by decide +kernel
theorem dX10_drawn_225 : decode cX10_drawn 225 = .ok (.iload 14, 2) := by decide +kernel
theorem dX10_drawn_227 : decode cX10_drawn 227 = .ok (.invokevirtual 277, 3) := by decide +kernel
theorem dX10_drawn_230 : decode cX10_drawn 230 = .ok (.iadd, 1) := by decide +kernel
theorem dX10_drawn_231 : decode cX10_drawn 231 = .ok (.istore 6, 2) := by decide +kernel
theorem dX10_drawn_233 : decode cX10_drawn 233 = .ok (.aload_n 0, 1) := by decide +kernel
theorem dX10_drawn_234 : decode cX10_drawn 234 = .ok (.iload 10, 2) := by decide +kernel
theorem dX10_drawn_236 : decode cX10_drawn 236 = .ok (.iload 14, 2) := by decide +kernel
theorem dX10_drawn_238 : decode cX10_drawn 238 = .ok (.isub, 1) := by decide +kernel
theorem dX10_drawn_239 : decode cX10_drawn 239 = .ok (.iload 14, 2) := by decide +kernel
theorem dX10_drawn_241 : decode cX10_drawn 241 = .ok (.iload 12, 2) := by decide +kernel
theorem dX10_drawn_243 : decode cX10_drawn 243 = .ok (.invokevirtual 252, 3) := by decide +kernel
theorem dX10_drawn_246 : decode cX10_drawn 246 = .ok (.istore 10, 2) := by decide +kernel
theorem dX10_drawn_248 : decode cX10_drawn 248 = .ok (.iinc 12 1, 3) := by decide +kernel
theorem dX10_drawn_251 : decode cX10_drawn 251 = .ok (.goto (-113), 3) := by decide +kernel
theorem dX10_drawn_254 : decode cX10_drawn 254 = .ok (.iload 11, 2) := by decide +kernel
theorem dX10_drawn_256 : decode cX10_drawn 256 = .ok (.ifCond .eq 6, 3) := by decide +kernel
theorem dX10_drawn_259 : decode cX10_drawn 259 = .ok (.iinc 7 1, 3) := by decide +kernel
theorem dX10_drawn_262 : decode cX10_drawn 262 = .ok (.iinc 9 1, 3) := by decide +kernel
theorem dX10_drawn_265 : decode cX10_drawn 265 = .ok (.goto (-154), 3) := by decide +kernel
theorem dX10_drawn_268 : decode cX10_drawn 268 = .ok (.iload 4, 2) := by decide +kernel
theorem dX10_drawn_270 : decode cX10_drawn 270 = .ok (.ifCond .ne 8, 3) := by decide +kernel
theorem dX10_drawn_273 : decode cX10_drawn 273 = .ok (.iload 6, 2) := by decide +kernel
theorem dX10_drawn_275 : decode cX10_drawn 275 = .ok (.goto 5, 3) := by decide +kernel
theorem dX10_drawn_278 : decode cX10_drawn 278 = .ok (.iload 7, 2) := by decide +kernel
theorem dX10_drawn_280 : decode cX10_drawn 280 = .ok (.ireturn, 1) := by decide +kernel
abbrev rX10_drawn : Room := { frames := 4, cells := 0, slots := 0, locals := 94 }
def mX10_drawn_b262   (k111 : gS → Int32 → Int32 → Int32 → Int32 → Int32 → Int32 → Int32 → Option (Int32 × gS)) (σ : gS) (x40 : Int32) (x41 : Int32) (x42 : Int32) (x43 : Int32) (x44 : Int32) (x45 : Int32) (x46 : Int32) : Option (Int32 × gS) := gLet (x46 + 1) (fun v47 => (k111 σ x40 x41 x42 x43 x44 x45 v47))
set_option maxHeartbeats 4000000 in
set_option maxRecDepth 100000 in
theorem wX10_drawn_b262 {p : Program} {l : Launch} {e : Env} {s : State} {m : MethodId} {args : Array Value} {below : List Frame} {meth : Method} {c : Code} {G : gE} (hC : gCx p s m args meth c G RX10 cX10_drawn 15 (some .int))    {k111 : gS → Int32 → Int32 → Int32 → Int32 → Int32 → Int32 → Int32 → Option (Int32 × gS)} (hk111 : ∀ (σ : gS) (x18 : Int32) (x19 : Int32) (x20 : Int32) (x21 : Int32) (x22 : Int32) (x23 : Int32) (x24 : Int32), gT p l e rX10_drawn s m args below meth c G 15 iI σ 111 [(0, .ref (G.2.1 52)), (3, .int x18), (4, .int x19), (5, .int x20), (6, .int x21), (7, .int x22), (8, .int x23), (9, .int x24)] [] (k111 σ x18 x19 x20 x21 x22 x23 x24)) (σ : gS) (x40 : Int32) (x41 : Int32) (x42 : Int32) (x43 : Int32) (x44 : Int32) (x45 : Int32) (x46 : Int32)  : gT p l e rX10_drawn s m args below meth c G 15 iI σ 262 [(0, .ref (G.2.1 52)), (3, .int x40), (4, .int x41), (5, .int x42), (6, .int x43), (7, .int x44), (8, .int x45), (9, .int x46)] [] (mX10_drawn_b262 k111 σ x40 x41 x42 x43 x44 x45 x46) := by
  unfold mX10_drawn_b262
  refine g_iinc (pc := 262) (q := 7) (w := 1) (lv' := fun v47 => [(9, .int v47), (0, .ref (G.2.1 52)), (3, .int x40), (4, .int x41), (5, .int x42), (6, .int x43), (7, .int x44), (8, .int x45)]) hC dX10_drawn_262 rfl (by decide) (by decide) (fun _ => rfl) (fun v47 => ?_)
  refine g_goto (pc := 265) (tgt := 111) hC dX10_drawn_265 (by decide) ?_
  exact gT_sub [1, 2, 3, 4, 5, 6, 7, 0] rfl (hk111 σ x40 x41 x42 x43 x44 x45 v47)
def mX10_drawn_b209   (k111 : gS → Int32 → Int32 → Int32 → Int32 → Int32 → Int32 → Int32 → Option (Int32 × gS)) (k138 : gS → Int32 → Int32 → Int32 → Int32 → Int32 → Int32 → Int32 → Int32 → Int32 → Int32 → Option (Int32 × gS)) (σ : gS) (x60 : Int32) (x61 : Int32) (x62 : Int32) (x63 : Int32) (x64 : Int32) (x65 : Int32) (x66 : Int32) (x67 : Int32) (x68 : Int32) (x69 : Int32) (x70 : Int32) : Option (Int32 × gS) := gLet x70 (fun v71 => gLet (gMin x67 v71) (fun v72 => gBind (mX10_allHarm σ x69 v72) (fun r73 s74 => gLet (x63 + r73) (fun v75 => gBind (mX10_nextCold s74 (x67 - v72) v72 x69) (fun r76 s77 => gLet r76 (fun v78 => gLet (x69 + 1) (fun v79 => (k138 s77 x60 x61 x62 v75 x64 x65 x66 v78 x68 v79))))))))
set_option maxHeartbeats 4000000 in
set_option maxRecDepth 100000 in
theorem wX10_drawn_b209 {p : Program} {l : Launch} {e : Env} {s : State} {m : MethodId} {args : Array Value} {below : List Frame} {meth : Method} {c : Code} {G : gE} (hC : gCx p s m args meth c G RX10 cX10_drawn 15 (some .int))    {k111 : gS → Int32 → Int32 → Int32 → Int32 → Int32 → Int32 → Int32 → Option (Int32 × gS)} (hk111 : ∀ (σ : gS) (x18 : Int32) (x19 : Int32) (x20 : Int32) (x21 : Int32) (x22 : Int32) (x23 : Int32) (x24 : Int32), gT p l e rX10_drawn s m args below meth c G 15 iI σ 111 [(0, .ref (G.2.1 52)), (3, .int x18), (4, .int x19), (5, .int x20), (6, .int x21), (7, .int x22), (8, .int x23), (9, .int x24)] [] (k111 σ x18 x19 x20 x21 x22 x23 x24)) {k138 : gS → Int32 → Int32 → Int32 → Int32 → Int32 → Int32 → Int32 → Int32 → Int32 → Int32 → Option (Int32 × gS)} (hk138 : ∀ (σ : gS) (x30 : Int32) (x31 : Int32) (x32 : Int32) (x33 : Int32) (x34 : Int32) (x35 : Int32) (x36 : Int32) (x37 : Int32) (x38 : Int32) (x39 : Int32), gT p l e rX10_drawn s m args below meth c G 15 iI σ 138 [(0, .ref (G.2.1 52)), (3, .int x30), (4, .int x31), (5, .int x32), (6, .int x33), (7, .int x34), (8, .int x35), (9, .int x36), (10, .int x37), (11, .int x38), (12, .int x39)] [] (k138 σ x30 x31 x32 x33 x34 x35 x36 x37 x38 x39)) (σ : gS) (x60 : Int32) (x61 : Int32) (x62 : Int32) (x63 : Int32) (x64 : Int32) (x65 : Int32) (x66 : Int32) (x67 : Int32) (x68 : Int32) (x69 : Int32) (x70 : Int32)  : gT p l e rX10_drawn s m args below meth c G 15 iI σ 209 [(0, .ref (G.2.1 52)), (3, .int x60), (4, .int x61), (5, .int x62), (6, .int x63), (7, .int x64), (8, .int x65), (9, .int x66), (10, .int x67), (11, .int x68), (12, .int x69)] [.int x70] (mX10_drawn_b209 k111 k138 σ x60 x61 x62 x63 x64 x65 x66 x67 x68 x69 x70) := by
  unfold mX10_drawn_b209
  refine g_istore (pc := 209) (lv' := fun v71 => [(13, .int v71), (0, .ref (G.2.1 52)), (3, .int x60), (4, .int x61), (5, .int x62), (6, .int x63), (7, .int x64), (8, .int x65), (9, .int x66), (10, .int x67), (11, .int x68), (12, .int x69)]) hC dX10_drawn_209 (by decide) (fun _ => rfl) (fun v71 => ?_)
  refine g_iload (pc := 211) (q := 9) hC dX10_drawn_211 rfl ?_
  refine g_iload (pc := 213) (q := 0) hC dX10_drawn_213 rfl ?_
  refine g_min (pc := 215) hC mth_RX10_232 ⟨Nat.le_of_ble_eq_true rfl, Nat.le_of_ble_eq_true rfl⟩ (Nat.le_of_ble_eq_true rfl) dX10_drawn_215 ?_
  refine g_istore (pc := 218) (lv' := fun v72 => [(14, .int v72), (13, .int v71), (0, .ref (G.2.1 52)), (3, .int x60), (4, .int x61), (5, .int x62), (6, .int x63), (7, .int x64), (8, .int x65), (9, .int x66), (10, .int x67), (11, .int x68), (12, .int x69)]) hC dX10_drawn_218 (by decide) (fun _ => rfl) (fun v72 => ?_)
  refine g_iload (pc := 220) (q := 6) hC dX10_drawn_220 rfl ?_
  refine g_aload_n (pc := 222) (q := 2) hC dX10_drawn_222 rfl rfl ?_
  refine g_iload (pc := 223) (q := 12) hC dX10_drawn_223 rfl ?_
  refine g_iload (pc := 225) (q := 0) hC dX10_drawn_225 rfl ?_
  refine g_callVi (pc := 227) (As := [.int x69, .int v72]) (rest := [.int x63]) hC lk_RX10_277 kX10 rfl (tX10_allHarm _ _ σ x69 v72) rfl rfl (Nat.le_of_ble_eq_true rfl) ⟨rfl, rfl, Nat.le_of_ble_eq_true rfl, Nat.le_of_ble_eq_true rfl⟩ dX10_drawn_227 (fun r73 s74 => ?_)
  refine g_iadd (pc := 230) hC dX10_drawn_230 ?_
  refine g_istore (pc := 231) (lv' := fun v75 => [(6, .int v75), (14, .int v72), (13, .int v71), (0, .ref (G.2.1 52)), (3, .int x60), (4, .int x61), (5, .int x62), (7, .int x64), (8, .int x65), (9, .int x66), (10, .int x67), (11, .int x68), (12, .int x69)]) hC dX10_drawn_231 (by decide) (fun _ => rfl) (fun v75 => ?_)
  refine g_aload_n (pc := 233) (q := 3) hC dX10_drawn_233 rfl rfl ?_
  refine g_iload (pc := 234) (q := 10) hC dX10_drawn_234 rfl ?_
  refine g_iload (pc := 236) (q := 1) hC dX10_drawn_236 rfl ?_
  refine g_isub (pc := 238) hC dX10_drawn_238 ?_
  refine g_iload (pc := 239) (q := 1) hC dX10_drawn_239 rfl ?_
  refine g_iload (pc := 241) (q := 12) hC dX10_drawn_241 rfl ?_
  refine g_callVi (pc := 243) (As := [.int (x67 - v72), .int v72, .int x69]) (rest := []) hC lk_RX10_252 kX10 rfl (tX10_nextCold _ _ s74 (x67 - v72) v72 x69) rfl rfl (Nat.le_of_ble_eq_true rfl) ⟨rfl, rfl, Nat.le_of_ble_eq_true rfl, Nat.le_of_ble_eq_true rfl⟩ dX10_drawn_243 (fun r76 s77 => ?_)
  refine g_istore (pc := 246) (lv' := fun v78 => [(10, .int v78), (6, .int v75), (14, .int v72), (13, .int v71), (0, .ref (G.2.1 52)), (3, .int x60), (4, .int x61), (5, .int x62), (7, .int x64), (8, .int x65), (9, .int x66), (11, .int x68), (12, .int x69)]) hC dX10_drawn_246 (by decide) (fun _ => rfl) (fun v78 => ?_)
  refine g_iinc (pc := 248) (q := 12) (w := 1) (lv' := fun v79 => [(12, .int v79), (10, .int v78), (6, .int v75), (14, .int v72), (13, .int v71), (0, .ref (G.2.1 52)), (3, .int x60), (4, .int x61), (5, .int x62), (7, .int x64), (8, .int x65), (9, .int x66), (11, .int x68)]) hC dX10_drawn_248 rfl (by decide) (by decide) (fun _ => rfl) (fun v79 => ?_)
  refine g_goto (pc := 251) (tgt := 138) hC dX10_drawn_251 (by decide) ?_
  exact gT_sub [5, 6, 7, 8, 2, 9, 10, 11, 1, 12, 0] rfl (hk138 s77 x60 x61 x62 v75 x64 x65 x66 v78 x68 v79)
def mX10_drawn_b174   (k111 : gS → Int32 → Int32 → Int32 → Int32 → Int32 → Int32 → Int32 → Option (Int32 × gS)) (k138 : gS → Int32 → Int32 → Int32 → Int32 → Int32 → Int32 → Int32 → Int32 → Int32 → Int32 → Option (Int32 × gS)) (σ : gS) (x50 : Int32) (x51 : Int32) (x52 : Int32) (x53 : Int32) (x54 : Int32) (x55 : Int32) (x56 : Int32) (x57 : Int32) (x58 : Int32) (x59 : Int32) : Option (Int32 × gS) := if (gRem x50 100) ≤ (gRem (gUsr x52 8) 12) then (if inbB x59 30 = true then ((mX10_drawn_b209 k111 k138 σ x50 x51 x52 x53 x54 x55 x56 x57 x58 x59 (σ.1 79 (Int32.toNatClampNeg x59)))) else none) else ((mX10_drawn_b209 k111 k138 σ x50 x51 x52 x53 x54 x55 x56 x57 x58 x59 (1 + (gRem (gUsr x52 16) 24))))
set_option maxHeartbeats 4000000 in
set_option maxRecDepth 100000 in
theorem wX10_drawn_b174 {p : Program} {l : Launch} {e : Env} {s : State} {m : MethodId} {args : Array Value} {below : List Frame} {meth : Method} {c : Code} {G : gE} (hC : gCx p s m args meth c G RX10 cX10_drawn 15 (some .int))    {k111 : gS → Int32 → Int32 → Int32 → Int32 → Int32 → Int32 → Int32 → Option (Int32 × gS)} (hk111 : ∀ (σ : gS) (x18 : Int32) (x19 : Int32) (x20 : Int32) (x21 : Int32) (x22 : Int32) (x23 : Int32) (x24 : Int32), gT p l e rX10_drawn s m args below meth c G 15 iI σ 111 [(0, .ref (G.2.1 52)), (3, .int x18), (4, .int x19), (5, .int x20), (6, .int x21), (7, .int x22), (8, .int x23), (9, .int x24)] [] (k111 σ x18 x19 x20 x21 x22 x23 x24)) {k138 : gS → Int32 → Int32 → Int32 → Int32 → Int32 → Int32 → Int32 → Int32 → Int32 → Int32 → Option (Int32 × gS)} (hk138 : ∀ (σ : gS) (x30 : Int32) (x31 : Int32) (x32 : Int32) (x33 : Int32) (x34 : Int32) (x35 : Int32) (x36 : Int32) (x37 : Int32) (x38 : Int32) (x39 : Int32), gT p l e rX10_drawn s m args below meth c G 15 iI σ 138 [(0, .ref (G.2.1 52)), (3, .int x30), (4, .int x31), (5, .int x32), (6, .int x33), (7, .int x34), (8, .int x35), (9, .int x36), (10, .int x37), (11, .int x38), (12, .int x39)] [] (k138 σ x30 x31 x32 x33 x34 x35 x36 x37 x38 x39)) (σ : gS) (x50 : Int32) (x51 : Int32) (x52 : Int32) (x53 : Int32) (x54 : Int32) (x55 : Int32) (x56 : Int32) (x57 : Int32) (x58 : Int32) (x59 : Int32)  : gT p l e rX10_drawn s m args below meth c G 15 iI σ 174 [(0, .ref (G.2.1 52)), (3, .int x50), (4, .int x51), (5, .int x52), (6, .int x53), (7, .int x54), (8, .int x55), (9, .int x56), (10, .int x57), (11, .int x58), (12, .int x59)] [] (mX10_drawn_b174 k111 k138 σ x50 x51 x52 x53 x54 x55 x56 x57 x58 x59) := by
  unfold mX10_drawn_b174
  refine g_iload (pc := 174) (q := 3) hC dX10_drawn_174 rfl ?_
  refine g_bipush (pc := 176) (v := 8) hC dX10_drawn_176 (by decide) ?_
  refine g_iushr (pc := 178) hC dX10_drawn_178 ?_
  refine g_bipush (pc := 179) (v := 12) hC dX10_drawn_179 (by decide) ?_
  refine g_iremL (pc := 181) hC dX10_drawn_181 (by decide) ?_
  refine g_iload_n (pc := 182) (q := 1) hC dX10_drawn_182 rfl rfl ?_
  refine g_bipush (pc := 183) (v := 100) hC dX10_drawn_183 (by decide) ?_
  refine g_iremL (pc := 185) hC dX10_drawn_185 (by decide) ?_
  refine g_icmp_ge (pc := 186) (tgt := 202) hC dX10_drawn_186 (by decide) ?_ ?_
  · refine g_aload_n (pc := 202) (q := 0) hC dX10_drawn_202 rfl rfl ?_
    refine g_get (pc := 203) (v := .ref (G.2.1 79)) hC kX10 rfl 40 (by decide) fl_RX10_91 rfl dX10_drawn_203 ?_
    refine g_iload (pc := 206) (q := 10) hC dX10_drawn_206 rfl ?_
    refine g_iald (pc := 208) hC 30 rfl (by decide) dX10_drawn_208 ?_
    exact gT_sub [0, 1, 2, 3, 4, 5, 6, 7, 8, 9, 10] rfl (wX10_drawn_b209 hC hk111 hk138 σ x50 x51 x52 x53 x54 x55 x56 x57 x58 x59 (σ.1 79 (Int32.toNatClampNeg x59)))
  · refine g_iconst (pc := 189) (v := 1) hC dX10_drawn_189 (by decide) ?_
    refine g_iload (pc := 190) (q := 3) hC dX10_drawn_190 rfl ?_
    refine g_bipush (pc := 192) (v := 16) hC dX10_drawn_192 (by decide) ?_
    refine g_iushr (pc := 194) hC dX10_drawn_194 ?_
    refine g_bipush (pc := 195) (v := 24) hC dX10_drawn_195 (by decide) ?_
    refine g_iremL (pc := 197) hC dX10_drawn_197 (by decide) ?_
    refine g_iadd (pc := 198) hC dX10_drawn_198 ?_
    refine g_goto (pc := 199) (tgt := 209) hC dX10_drawn_199 (by decide) ?_
    exact gT_sub [0, 1, 2, 3, 4, 5, 6, 7, 8, 9, 10] rfl (wX10_drawn_b209 hC hk111 hk138 σ x50 x51 x52 x53 x54 x55 x56 x57 x58 x59 (1 + (gRem (gUsr x52 16) 24)))
def mX10_drawn_b138   (k111 : gS → Int32 → Int32 → Int32 → Int32 → Int32 → Int32 → Int32 → Option (Int32 × gS)) : Nat → gS → Int32 → Int32 → Int32 → Int32 → Int32 → Int32 → Int32 → Int32 → Int32 → Int32 → Option (Int32 × gS)
  | 0, _, _, _, _, _, _, _, _, _, _, _ => none
  | n + 1, σ, x30, x31, x32, x33, x34, x35, x36, x37, x38, x39 => if x35 < x39 then (if x38 = 0 then ((mX10_drawn_b262 k111 σ x30 x31 x32 x33 x34 x35 x36)) else (gLet (x34 + 1) (fun v48 => (mX10_drawn_b262 k111 σ x30 x31 x32 x33 v48 x35 x36)))) else (gLet ((x32 * 1103515245) + 12345) (fun v49 => if inbB 1 5 = true then (if x37 ≤ (σ.1 59 (Int32.toNatClampNeg 1)) then ((mX10_drawn_b174 k111 (mX10_drawn_b138 k111 n) σ x30 x31 v49 x33 x34 x35 x36 x37 x38 x39)) else (gLet 0 (fun v80 => gLet 1 (fun v81 => (mX10_drawn_b174 k111 (mX10_drawn_b138 k111 n) σ x30 x31 v49 x33 x34 x35 x36 v80 v81 x39))))) else none))
set_option maxHeartbeats 4000000 in
set_option maxRecDepth 100000 in
theorem wX10_drawn_b138 {p : Program} {l : Launch} {e : Env} {s : State} {m : MethodId} {args : Array Value} {below : List Frame} {meth : Method} {c : Code} {G : gE} (hC : gCx p s m args meth c G RX10 cX10_drawn 15 (some .int))    {k111 : gS → Int32 → Int32 → Int32 → Int32 → Int32 → Int32 → Int32 → Option (Int32 × gS)} (hk111 : ∀ (σ : gS) (x18 : Int32) (x19 : Int32) (x20 : Int32) (x21 : Int32) (x22 : Int32) (x23 : Int32) (x24 : Int32), gT p l e rX10_drawn s m args below meth c G 15 iI σ 111 [(0, .ref (G.2.1 52)), (3, .int x18), (4, .int x19), (5, .int x20), (6, .int x21), (7, .int x22), (8, .int x23), (9, .int x24)] [] (k111 σ x18 x19 x20 x21 x22 x23 x24)) (n : Nat) (σ : gS) (x30 : Int32) (x31 : Int32) (x32 : Int32) (x33 : Int32) (x34 : Int32) (x35 : Int32) (x36 : Int32) (x37 : Int32) (x38 : Int32) (x39 : Int32)  : gT p l e rX10_drawn s m args below meth c G 15 iI σ 138 [(0, .ref (G.2.1 52)), (3, .int x30), (4, .int x31), (5, .int x32), (6, .int x33), (7, .int x34), (8, .int x35), (9, .int x36), (10, .int x37), (11, .int x38), (12, .int x39)] [] (mX10_drawn_b138 k111 n σ x30 x31 x32 x33 x34 x35 x36 x37 x38 x39) := by
  induction n generalizing σ x30 x31 x32 x33 x34 x35 x36 x37 x38 x39 with
  | zero => exact gT_none
  | succ n ih =>
    unfold mX10_drawn_b138
    refine g_iload (pc := 138) (q := 10) hC dX10_drawn_138 rfl ?_
    refine g_iload (pc := 140) (q := 6) hC dX10_drawn_140 rfl ?_
    refine g_icmp_gt (pc := 142) (tgt := 254) hC dX10_drawn_142 (by decide) ?_ ?_
    · refine g_iload (pc := 254) (q := 9) hC dX10_drawn_254 rfl ?_
      refine g_if_eq (pc := 256) (tgt := 262) hC dX10_drawn_256 (by decide) ?_ ?_
      · exact gT_sub [0, 1, 2, 3, 4, 5, 6, 7] rfl (wX10_drawn_b262 hC hk111 σ x30 x31 x32 x33 x34 x35 x36)
      · refine g_iinc (pc := 259) (q := 5) (w := 1) (lv' := fun v48 => [(7, .int v48), (0, .ref (G.2.1 52)), (3, .int x30), (4, .int x31), (5, .int x32), (6, .int x33), (8, .int x35), (9, .int x36), (10, .int x37), (11, .int x38), (12, .int x39)]) hC dX10_drawn_259 rfl (by decide) (by decide) (fun _ => rfl) (fun v48 => ?_)
        exact gT_sub [1, 2, 3, 4, 5, 0, 6, 7] rfl (wX10_drawn_b262 hC hk111 σ x30 x31 x32 x33 v48 x35 x36)
    · refine g_iload (pc := 145) (q := 3) hC dX10_drawn_145 rfl ?_
      refine g_ldcw (pc := 147) hC dX10_drawn_147 cst_RX10_329 ?_
      refine g_imul (pc := 150) hC dX10_drawn_150 ?_
      refine g_sipush (pc := 151) (v := 12345) hC dX10_drawn_151 (by decide) ?_
      refine g_iadd (pc := 154) hC dX10_drawn_154 ?_
      refine g_istore (pc := 155) (lv' := fun v49 => [(5, .int v49), (0, .ref (G.2.1 52)), (3, .int x30), (4, .int x31), (6, .int x33), (7, .int x34), (8, .int x35), (9, .int x36), (10, .int x37), (11, .int x38), (12, .int x39)]) hC dX10_drawn_155 (by decide) (fun _ => rfl) (fun v49 => ?_)
      refine g_iload (pc := 157) (q := 8) hC dX10_drawn_157 rfl ?_
      refine g_aload_n (pc := 159) (q := 1) hC dX10_drawn_159 rfl rfl ?_
      refine g_get (pc := 160) (v := .ref (G.2.1 59)) hC kX10 rfl 8 (by decide) fl_RX10_30 rfl dX10_drawn_160 ?_
      refine g_iconst (pc := 163) (v := 1) hC dX10_drawn_163 (by decide) ?_
      refine g_iald (pc := 164) hC 5 rfl (by decide) dX10_drawn_164 ?_
      refine g_icmp_le (pc := 165) (tgt := 174) hC dX10_drawn_165 (by decide) ?_ ?_
      · exact gT_sub [1, 2, 3, 0, 4, 5, 6, 7, 8, 9, 10] rfl (wX10_drawn_b174 hC hk111 ih σ x30 x31 v49 x33 x34 x35 x36 x37 x38 x39)
      · refine g_iconst (pc := 168) (v := 0) hC dX10_drawn_168 (by decide) ?_
        refine g_istore (pc := 169) (lv' := fun v80 => [(10, .int v80), (5, .int v49), (0, .ref (G.2.1 52)), (3, .int x30), (4, .int x31), (6, .int x33), (7, .int x34), (8, .int x35), (9, .int x36), (11, .int x38), (12, .int x39)]) hC dX10_drawn_169 (by decide) (fun _ => rfl) (fun v80 => ?_)
        refine g_iconst (pc := 171) (v := 1) hC dX10_drawn_171 (by decide) ?_
        refine g_istore (pc := 172) (lv' := fun v81 => [(11, .int v81), (10, .int v80), (5, .int v49), (0, .ref (G.2.1 52)), (3, .int x30), (4, .int x31), (6, .int x33), (7, .int x34), (8, .int x35), (9, .int x36), (12, .int x39)]) hC dX10_drawn_172 (by decide) (fun _ => rfl) (fun v81 => ?_)
        exact gT_sub [3, 4, 5, 2, 6, 7, 8, 9, 1, 0, 10] rfl (wX10_drawn_b174 hC hk111 ih σ x30 x31 v49 x33 x34 x35 x36 v80 v81 x39)
def mX10_drawn_b111    : Nat → gS → Int32 → Int32 → Int32 → Int32 → Int32 → Int32 → Int32 → Option (Int32 × gS)
  | 0, _, _, _, _, _, _, _, _ => none
  | n + 1, σ, x18, x19, x20, x21, x22, x23, x24 => if (x18 / 10000) ≤ x24 then (if x19 = 0 then (some (x21, σ)) else (some (x22, σ))) else (if inbB 0 5 = true then (gLet (σ.1 59 (Int32.toNatClampNeg 0)) (fun v25 => gLet 0 (fun v26 => gBind (mX10_now σ ) (fun r27 s28 => gLet r27 (fun v29 => (mX10_drawn_b138 (mX10_drawn_b111  n) 1100 s28 x18 x19 x20 x21 x22 x23 x24 v25 v26 v29)))))) else none)
set_option maxHeartbeats 4000000 in
set_option maxRecDepth 100000 in
theorem wX10_drawn_b111 {p : Program} {l : Launch} {e : Env} {s : State} {m : MethodId} {args : Array Value} {below : List Frame} {meth : Method} {c : Code} {G : gE} (hC : gCx p s m args meth c G RX10 cX10_drawn 15 (some .int))     (n : Nat) (σ : gS) (x18 : Int32) (x19 : Int32) (x20 : Int32) (x21 : Int32) (x22 : Int32) (x23 : Int32) (x24 : Int32)  : gT p l e rX10_drawn s m args below meth c G 15 iI σ 111 [(0, .ref (G.2.1 52)), (3, .int x18), (4, .int x19), (5, .int x20), (6, .int x21), (7, .int x22), (8, .int x23), (9, .int x24)] [] (mX10_drawn_b111  n σ x18 x19 x20 x21 x22 x23 x24) := by
  induction n generalizing σ x18 x19 x20 x21 x22 x23 x24 with
  | zero => exact gT_none
  | succ n ih =>
    unfold mX10_drawn_b111
    refine g_iload (pc := 111) (q := 7) hC dX10_drawn_111 rfl ?_
    refine g_iload_n (pc := 113) (q := 1) hC dX10_drawn_113 rfl rfl ?_
    refine g_sipush (pc := 114) (v := 10000) hC dX10_drawn_114 (by decide) ?_
    refine g_idivL (pc := 117) hC dX10_drawn_117 (by decide) ?_
    refine g_icmp_ge (pc := 118) (tgt := 268) hC dX10_drawn_118 (by decide) ?_ ?_
    · refine g_iload (pc := 268) (q := 2) hC dX10_drawn_268 rfl ?_
      refine g_if_ne (pc := 270) (tgt := 278) hC dX10_drawn_270 (by decide) ?_ ?_
      · refine g_iload (pc := 278) (q := 5) hC dX10_drawn_278 rfl ?_
        exact g_iret (pc := 280) hC dX10_drawn_280
      · refine g_iload (pc := 273) (q := 4) hC dX10_drawn_273 rfl ?_
        refine g_goto (pc := 275) (tgt := 280) hC dX10_drawn_275 (by decide) ?_
        exact g_iret (pc := 280) hC dX10_drawn_280
    · refine g_aload_n (pc := 121) (q := 0) hC dX10_drawn_121 rfl rfl ?_
      refine g_get (pc := 122) (v := .ref (G.2.1 59)) hC kX10 rfl 8 (by decide) fl_RX10_30 rfl dX10_drawn_122 ?_
      refine g_iconst (pc := 125) (v := 0) hC dX10_drawn_125 (by decide) ?_
      refine g_iald (pc := 126) hC 5 rfl (by decide) dX10_drawn_126 ?_
      refine g_istore (pc := 127) (lv' := fun v25 => [(10, .int v25), (0, .ref (G.2.1 52)), (3, .int x18), (4, .int x19), (5, .int x20), (6, .int x21), (7, .int x22), (8, .int x23), (9, .int x24)]) hC dX10_drawn_127 (by decide) (fun _ => rfl) (fun v25 => ?_)
      refine g_iconst (pc := 129) (v := 0) hC dX10_drawn_129 (by decide) ?_
      refine g_istore (pc := 130) (lv' := fun v26 => [(11, .int v26), (10, .int v25), (0, .ref (G.2.1 52)), (3, .int x18), (4, .int x19), (5, .int x20), (6, .int x21), (7, .int x22), (8, .int x23), (9, .int x24)]) hC dX10_drawn_130 (by decide) (fun _ => rfl) (fun v26 => ?_)
      refine g_aload_n (pc := 132) (q := 2) hC dX10_drawn_132 rfl rfl ?_
      refine g_callVi (pc := 133) (As := []) (rest := []) hC lk_RX10_246 kX10 rfl (tX10_now _ _ σ ) rfl rfl (Nat.le_of_ble_eq_true rfl) ⟨rfl, rfl, Nat.le_of_ble_eq_true rfl, Nat.le_of_ble_eq_true rfl⟩ dX10_drawn_133 (fun r27 s28 => ?_)
      refine g_istore (pc := 136) (lv' := fun v29 => [(12, .int v29), (11, .int v26), (10, .int v25), (0, .ref (G.2.1 52)), (3, .int x18), (4, .int x19), (5, .int x20), (6, .int x21), (7, .int x22), (8, .int x23), (9, .int x24)]) hC dX10_drawn_136 (by decide) (fun _ => rfl) (fun v29 => ?_)
      exact gT_sub [3, 4, 5, 6, 7, 8, 9, 10, 2, 1, 0] rfl (wX10_drawn_b138 hC ih 1100 s28 x18 x19 x20 x21 x22 x23 x24 v25 v26 v29)
def mX10_drawn (σ : gS) (p0 : Int32) (p1 : Int32) (p2 : Int32) (p3 : Int32) : Option (Int32 × gS) := gBind (mX10_isShelf σ p0) (fun r1 s2 => if r1 = true then (if p2 < 0 then (some ((-2000000000), s2)) else (gBind (mX10_within s2 (p2 / 10000) 1 30) (fun r3 s4 => if r3 = true then (gBind (mX10_within s4 (gRem (p2 / 100) 100) 1 30) (fun r5 s6 => if r5 = true then (if 12 < (gRem p2 100) then (some ((-2000000000), s6)) else (gBind (mX10_within s6 p3 0 1) (fun r7 s8 => if r7 = true then (if inbB p0 6 = true then (if (s8.1 76 (Int32.toNatClampNeg p0)) = 0 then (gBind (mX10_reads s8 p0) (fun r9 s10 => gLet p1 (fun v11 => gLet 0 (fun v12 => gLet 0 (fun v13 => gBind (mX10_now s10 ) (fun r14 s15 => gLet (gMin 29 ((r14 + (gRem (p2 / 100) 100)) - 1)) (fun v16 => gLet 0 (fun v17 => (mX10_drawn_b111  1100 s15 p2 p3 v11 v12 v13 v16 v17))))))))) else (some ((-2000000000), s8))) else none) else (some ((-2000000000), s8))))) else (some ((-2000000000), s6)))) else (some ((-2000000000), s4))))) else (some ((-2000000000), s2)))
set_option maxHeartbeats 4000000 in
set_option maxRecDepth 100000 in
theorem tX10_drawn (l : Launch) (G : gE) (σ : gS) (p0 : Int32) (p1 : Int32) (p2 : Int32) (p3 : Int32) : gM l G yX10_drawn cX10_drawn 15 (some .int) rX10_drawn iI [.ref (G.2.1 52), .int p0, .int p1, .int p2, .int p3] σ (mX10_drawn σ p0 p1 p2 p3) := by
  refine gM_of (by decide) (Nat.le_of_ble_eq_true rfl) ?_
  intro p e s m args below meth c hC
  unfold mX10_drawn
  show gT p l e rX10_drawn s m args below meth c G 15 iI σ 0 [(0, .ref (G.2.1 52)), (1, .int p0), (2, .int p1), (3, .int p2), (4, .int p3)] [] _
  refine g_iload_n (pc := 0) (q := 1) hC dX10_drawn_0 rfl rfl ?_
  refine g_callSz (pc := 1) (As := [.int p0]) (rest := []) hC lk_RX10_132 (tX10_isShelf _ _ σ p0) rfl rfl (Nat.le_of_ble_eq_true rfl) ⟨rfl, rfl, Nat.le_of_ble_eq_true rfl, Nat.le_of_ble_eq_true rfl⟩ dX10_drawn_1 (fun r1 s2 => ?_)
  refine g_bif_eq (pc := 4) (tgt := 69) hC dX10_drawn_4 (by decide) ?_ ?_
  · refine g_ldcw (pc := 69) hC dX10_drawn_69 cst_RX10_293 ?_
    exact g_iret (pc := 72) hC dX10_drawn_72
  · refine g_iload_n (pc := 7) (q := 3) hC dX10_drawn_7 rfl rfl ?_
    refine g_if_lt (pc := 8) (tgt := 69) hC dX10_drawn_8 (by decide) ?_ ?_
    · refine g_ldcw (pc := 69) hC dX10_drawn_69 cst_RX10_293 ?_
      exact g_iret (pc := 72) hC dX10_drawn_72
    · refine g_iload_n (pc := 11) (q := 3) hC dX10_drawn_11 rfl rfl ?_
      refine g_sipush (pc := 12) (v := 10000) hC dX10_drawn_12 (by decide) ?_
      refine g_idivL (pc := 15) hC dX10_drawn_15 (by decide) ?_
      refine g_iconst (pc := 16) (v := 1) hC dX10_drawn_16 (by decide) ?_
      refine g_bipush (pc := 17) (v := 30) hC dX10_drawn_17 (by decide) ?_
      refine g_callSz (pc := 19) (As := [.int (p2 / 10000), .int 1, .int 30]) (rest := []) hC lk_RX10_110 (tX10_within _ _ s2 (p2 / 10000) 1 30) rfl rfl (Nat.le_of_ble_eq_true rfl) ⟨rfl, rfl, Nat.le_of_ble_eq_true rfl, Nat.le_of_ble_eq_true rfl⟩ dX10_drawn_19 (fun r3 s4 => ?_)
      refine g_bif_eq (pc := 22) (tgt := 69) hC dX10_drawn_22 (by decide) ?_ ?_
      · refine g_ldcw (pc := 69) hC dX10_drawn_69 cst_RX10_293 ?_
        exact g_iret (pc := 72) hC dX10_drawn_72
      · refine g_iload_n (pc := 25) (q := 3) hC dX10_drawn_25 rfl rfl ?_
        refine g_bipush (pc := 26) (v := 100) hC dX10_drawn_26 (by decide) ?_
        refine g_idivL (pc := 28) hC dX10_drawn_28 (by decide) ?_
        refine g_bipush (pc := 29) (v := 100) hC dX10_drawn_29 (by decide) ?_
        refine g_iremL (pc := 31) hC dX10_drawn_31 (by decide) ?_
        refine g_iconst (pc := 32) (v := 1) hC dX10_drawn_32 (by decide) ?_
        refine g_bipush (pc := 33) (v := 30) hC dX10_drawn_33 (by decide) ?_
        refine g_callSz (pc := 35) (As := [.int (gRem (p2 / 100) 100), .int 1, .int 30]) (rest := []) hC lk_RX10_110 (tX10_within _ _ s4 (gRem (p2 / 100) 100) 1 30) rfl rfl (Nat.le_of_ble_eq_true rfl) ⟨rfl, rfl, Nat.le_of_ble_eq_true rfl, Nat.le_of_ble_eq_true rfl⟩ dX10_drawn_35 (fun r5 s6 => ?_)
        refine g_bif_eq (pc := 38) (tgt := 69) hC dX10_drawn_38 (by decide) ?_ ?_
        · refine g_ldcw (pc := 69) hC dX10_drawn_69 cst_RX10_293 ?_
          exact g_iret (pc := 72) hC dX10_drawn_72
        · refine g_iload_n (pc := 41) (q := 3) hC dX10_drawn_41 rfl rfl ?_
          refine g_bipush (pc := 42) (v := 100) hC dX10_drawn_42 (by decide) ?_
          refine g_iremL (pc := 44) hC dX10_drawn_44 (by decide) ?_
          refine g_bipush (pc := 45) (v := 12) hC dX10_drawn_45 (by decide) ?_
          refine g_icmp_gt (pc := 47) (tgt := 69) hC dX10_drawn_47 (by decide) ?_ ?_
          · refine g_ldcw (pc := 69) hC dX10_drawn_69 cst_RX10_293 ?_
            exact g_iret (pc := 72) hC dX10_drawn_72
          · refine g_iload (pc := 50) (q := 4) hC dX10_drawn_50 rfl ?_
            refine g_iconst (pc := 52) (v := 0) hC dX10_drawn_52 (by decide) ?_
            refine g_iconst (pc := 53) (v := 1) hC dX10_drawn_53 (by decide) ?_
            refine g_callSz (pc := 54) (As := [.int p3, .int 0, .int 1]) (rest := []) hC lk_RX10_110 (tX10_within _ _ s6 p3 0 1) rfl rfl (Nat.le_of_ble_eq_true rfl) ⟨rfl, rfl, Nat.le_of_ble_eq_true rfl, Nat.le_of_ble_eq_true rfl⟩ dX10_drawn_54 (fun r7 s8 => ?_)
            refine g_bif_eq (pc := 57) (tgt := 69) hC dX10_drawn_57 (by decide) ?_ ?_
            · refine g_ldcw (pc := 69) hC dX10_drawn_69 cst_RX10_293 ?_
              exact g_iret (pc := 72) hC dX10_drawn_72
            · refine g_aload_n (pc := 60) (q := 0) hC dX10_drawn_60 rfl rfl ?_
              refine g_get (pc := 61) (v := .ref (G.2.1 76)) hC kX10 rfl 37 (by decide) fl_RX10_81 rfl dX10_drawn_61 ?_
              refine g_iload_n (pc := 64) (q := 1) hC dX10_drawn_64 rfl rfl ?_
              refine g_iald (pc := 65) hC 6 rfl (by decide) dX10_drawn_65 ?_
              refine g_if_eq (pc := 66) (tgt := 73) hC dX10_drawn_66 (by decide) ?_ ?_
              · refine g_aload_n (pc := 73) (q := 0) hC dX10_drawn_73 rfl rfl ?_
                refine g_iload_n (pc := 74) (q := 1) hC dX10_drawn_74 rfl rfl ?_
                refine g_callVv (pc := 75) (As := [.int p0]) (rest := []) hC lk_RX10_270 kX10 rfl (tX10_reads _ _ s8 p0) rfl rfl (Nat.le_of_ble_eq_true rfl) ⟨rfl, rfl, Nat.le_of_ble_eq_true rfl, Nat.le_of_ble_eq_true rfl⟩ dX10_drawn_75 (fun r9 s10 => ?_)
                refine g_iload_n (pc := 78) (q := 2) hC dX10_drawn_78 rfl rfl ?_
                refine g_istore (pc := 79) (lv' := fun v11 => [(5, .int v11), (0, .ref (G.2.1 52)), (1, .int p0), (2, .int p1), (3, .int p2), (4, .int p3)]) hC dX10_drawn_79 (by decide) (fun _ => rfl) (fun v11 => ?_)
                refine g_iconst (pc := 81) (v := 0) hC dX10_drawn_81 (by decide) ?_
                refine g_istore (pc := 82) (lv' := fun v12 => [(6, .int v12), (5, .int v11), (0, .ref (G.2.1 52)), (1, .int p0), (2, .int p1), (3, .int p2), (4, .int p3)]) hC dX10_drawn_82 (by decide) (fun _ => rfl) (fun v12 => ?_)
                refine g_iconst (pc := 84) (v := 0) hC dX10_drawn_84 (by decide) ?_
                refine g_istore (pc := 85) (lv' := fun v13 => [(7, .int v13), (6, .int v12), (5, .int v11), (0, .ref (G.2.1 52)), (1, .int p0), (2, .int p1), (3, .int p2), (4, .int p3)]) hC dX10_drawn_85 (by decide) (fun _ => rfl) (fun v13 => ?_)
                refine g_bipush (pc := 87) (v := 29) hC dX10_drawn_87 (by decide) ?_
                refine g_aload_n (pc := 89) (q := 3) hC dX10_drawn_89 rfl rfl ?_
                refine g_callVi (pc := 90) (As := []) (rest := [.int 29]) hC lk_RX10_246 kX10 rfl (tX10_now _ _ s10 ) rfl rfl (Nat.le_of_ble_eq_true rfl) ⟨rfl, rfl, Nat.le_of_ble_eq_true rfl, Nat.le_of_ble_eq_true rfl⟩ dX10_drawn_90 (fun r14 s15 => ?_)
                refine g_iload_n (pc := 93) (q := 6) hC dX10_drawn_93 rfl rfl ?_
                refine g_bipush (pc := 94) (v := 100) hC dX10_drawn_94 (by decide) ?_
                refine g_idivL (pc := 96) hC dX10_drawn_96 (by decide) ?_
                refine g_bipush (pc := 97) (v := 100) hC dX10_drawn_97 (by decide) ?_
                refine g_iremL (pc := 99) hC dX10_drawn_99 (by decide) ?_
                refine g_iadd (pc := 100) hC dX10_drawn_100 ?_
                refine g_iconst (pc := 101) (v := 1) hC dX10_drawn_101 (by decide) ?_
                refine g_isub (pc := 102) hC dX10_drawn_102 ?_
                refine g_min (pc := 103) hC mth_RX10_232 ⟨Nat.le_of_ble_eq_true rfl, Nat.le_of_ble_eq_true rfl⟩ (Nat.le_of_ble_eq_true rfl) dX10_drawn_103 ?_
                refine g_istore (pc := 106) (lv' := fun v16 => [(8, .int v16), (7, .int v13), (6, .int v12), (5, .int v11), (0, .ref (G.2.1 52)), (1, .int p0), (2, .int p1), (3, .int p2), (4, .int p3)]) hC dX10_drawn_106 (by decide) (fun _ => rfl) (fun v16 => ?_)
                refine g_iconst (pc := 108) (v := 0) hC dX10_drawn_108 (by decide) ?_
                refine g_istore (pc := 109) (lv' := fun v17 => [(9, .int v17), (8, .int v16), (7, .int v13), (6, .int v12), (5, .int v11), (0, .ref (G.2.1 52)), (1, .int p0), (2, .int p1), (3, .int p2), (4, .int p3)]) hC dX10_drawn_109 (by decide) (fun _ => rfl) (fun v17 => ?_)
                exact gT_sub [5, 8, 9, 4, 3, 2, 1, 0] rfl (wX10_drawn_b111 hC  1100 s15 p2 p3 v11 v12 v13 v16 v17)
              · refine g_ldcw (pc := 69) hC dX10_drawn_69 cst_RX10_293 ?_
                exact g_iret (pc := 72) hC dX10_drawn_72
theorem dX10_pass_0 : decode cX10_pass 0 = .ok (.iload_n 1, 1) := by decide +kernel
theorem dX10_pass_1 : decode cX10_pass 1 = .ok (.iconst 0, 1) := by decide +kernel
theorem dX10_pass_2 : decode cX10_pass 2 = .ok (.bipush 24, 2) := by decide +kernel
theorem dX10_pass_4 : decode cX10_pass 4 = .ok (.invokestatic 110, 3) := by decide +kernel
theorem dX10_pass_7 : decode cX10_pass 7 = .ok (.ifCond .ne 5, 3) := by decide +kernel
theorem dX10_pass_10 : decode cX10_pass 10 = .ok (.iconst (-1), 1) := by decide +kernel
theorem dX10_pass_11 : decode cX10_pass 11 = .ok (.ireturn, 1) := by decide +kernel
theorem dX10_pass_12 : decode cX10_pass 12 = .ok (.aload_n 0, 1) := by decide +kernel
theorem dX10_pass_13 : decode cX10_pass 13 = .ok (.invokevirtual 246, 3) := by decide +kernel
theorem dX10_pass_16 : decode cX10_pass 16 = .ok (.bipush 29, 2) := by decide +kernel
theorem dX10_pass_18 : decode cX10_pass 18 = .ok (.if_icmp .ne 6, 3) := by decide +kernel
theorem dX10_pass_21 : decode cX10_pass 21 = .ok (.bipush (-5), 2) := by decide +kernel
theorem dX10_pass_23 : decode cX10_pass 23 = .ok (.ireturn, 1) := by decide +kernel
theorem dX10_pass_24 : decode cX10_pass 24 = .ok (.aload_n 0, 1) := by decide +kernel
theorem dX10_pass_25 : decode cX10_pass 25 = .ok (.getfield 30, 3) := by decide +kernel
theorem dX10_pass_28 : decode cX10_pass 28 = .ok (.iconst 0, 1) := by decide +kernel
theorem dX10_pass_29 : decode cX10_pass 29 = .ok (.iaload, 1) := by decide +kernel
theorem dX10_pass_30 : decode cX10_pass 30 = .ok (.aload_n 0, 1) := by decide +kernel
theorem dX10_pass_31 : decode cX10_pass 31 = .ok (.getfield 30, 3) := by decide +kernel
theorem dX10_pass_34 : decode cX10_pass 34 = .ok (.iconst 1, 1) := by decide +kernel
theorem dX10_pass_35 : decode cX10_pass 35 = .ok (.iaload, 1) := by decide +kernel
theorem dX10_pass_36 : decode cX10_pass 36 = .ok (.if_icmp .le 7, 3) := by decide +kernel
theorem dX10_pass_39 : decode cX10_pass 39 = .ok (.iconst 1, 1) := by decide +kernel
theorem dX10_pass_40 : decode cX10_pass 40 = .ok (.goto 4, 3) := by decide +kernel
theorem dX10_pass_43 : decode cX10_pass 43 = .ok (.iconst 0, 1) := by decide +kernel
theorem dX10_pass_44 : decode cX10_pass 44 = .ok (.istore_n 2, 1) := by decide +kernel
theorem dX10_pass_45 : decode cX10_pass 45 = .ok (.iload_n 2, 1) := by decide +kernel
theorem dX10_pass_46 : decode cX10_pass 46 = .ok (.ifCond .eq 7, 3) := by decide +kernel
theorem dX10_pass_49 : decode cX10_pass 49 = .ok (.iconst 0, 1) := by decide +kernel
theorem dX10_pass_50 : decode cX10_pass 50 = .ok (.goto 9, 3) := by decide +kernel
theorem dX10_pass_53 : decode cX10_pass 53 = .ok (.aload_n 0, 1) := by decide +kernel
theorem dX10_pass_54 : decode cX10_pass 54 = .ok (.getfield 30, 3) := by decide +kernel
theorem dX10_pass_57 : decode cX10_pass 57 = .ok (.iconst 0, 1) := by decide +kernel
theorem dX10_pass_58 : decode cX10_pass 58 = .ok (.iaload, 1) := by decide +kernel
theorem dX10_pass_59 : decode cX10_pass 59 = .ok (.istore_n 3, 1) := by decide +kernel
theorem dX10_pass_60 : decode cX10_pass 60 = .ok (.iload_n 1, 1) := by decide +kernel
theorem dX10_pass_61 : decode cX10_pass 61 = .ok (.iload_n 3, 1) := by decide +kernel
theorem dX10_pass_62 : decode cX10_pass 62 = .ok (.if_icmp .le 6, 3) := by decide +kernel
theorem dX10_pass_65 : decode cX10_pass 65 = .ok (.bipush (-2), 2) := by decide +kernel
theorem dX10_pass_67 : decode cX10_pass 67 = .ok (.ireturn, 1) := by decide +kernel
theorem dX10_pass_68 : decode cX10_pass 68 = .ok (.iload_n 2, 1) := by decide +kernel
theorem dX10_pass_69 : decode cX10_pass 69 = .ok (.ifCond .eq 13, 3) := by decide +kernel
theorem dX10_pass_72 : decode cX10_pass 72 = .ok (.aload_n 0, 1) := by decide +kernel
theorem dX10_pass_73 : decode cX10_pass 73 = .ok (.getfield 66, 3) := by decide +kernel
theorem dX10_pass_76 : decode cX10_pass 76 = .ok (.iconst 4, 1) := by decide +kernel
theorem dX10_pass_77 : decode cX10_pass 77 = .ok (.dup2, 1) := by decide +kernel
theorem dX10_pass_78 : decode cX10_pass 78 = .ok (.iaload, 1) := by decide +kernel
theorem dX10_pass_79 : decode cX10_pass 79 = .ok (.iconst 1, 1) := by decide +kernel
theorem dX10_pass_80 : decode cX10_pass 80 = .ok (.iadd, 1) := by decide +kernel
theorem dX10_pass_81 : decode cX10_pass 81 = .ok (.iastore, 1) := by decide +kernel
theorem dX10_pass_82 : decode cX10_pass 82 = .ok (.aload_n 0, 1) := by decide +kernel
theorem dX10_pass_83 : decode cX10_pass 83 = .ok (.getfield 66, 3) := by decide +kernel
theorem dX10_pass_86 : decode cX10_pass 86 = .ok (.iconst 0, 1) := by decide +kernel
theorem dX10_pass_87 : decode cX10_pass 87 = .ok (.dup2, 1) := by decide +kernel
theorem dX10_pass_88 : decode cX10_pass 88 = .ok (.iaload, 1) := by decide +kernel
theorem dX10_pass_89 : decode cX10_pass 89 = .ok (.iconst 1, 1) := by decide +kernel
theorem dX10_pass_90 : decode cX10_pass 90 = .ok (.iadd, 1) := by decide +kernel
theorem dX10_pass_91 : decode cX10_pass 91 = .ok (.iastore, 1) := by decide +kernel
theorem dX10_pass_92 : decode cX10_pass 92 = .ok (.aload_n 0, 1) := by decide +kernel
theorem dX10_pass_93 : decode cX10_pass 93 = .ok (.getfield 66, 3) := by decide +kernel
theorem dX10_pass_96 : decode cX10_pass 96 = .ok (.iconst 1, 1) := by decide +kernel
theorem dX10_pass_97 : decode cX10_pass 97 = .ok (.dup2, 1) := by decide +kernel
theorem dX10_pass_98 : decode cX10_pass 98 = .ok (.iaload, 1) := by decide +kernel
theorem dX10_pass_99 : decode cX10_pass 99 = .ok (.iload_n 1, 1) := by decide +kernel
theorem dX10_pass_100 : decode cX10_pass 100 = .ok (.iadd, 1) := by decide +kernel
theorem dX10_pass_101 : decode cX10_pass 101 = .ok (.iastore, 1) := by decide +kernel
theorem dX10_pass_102 : decode cX10_pass 102 = .ok (.aload_n 0, 1) := by decide +kernel
theorem dX10_pass_103 : decode cX10_pass 103 = .ok (.getfield 66, 3) := by decide +kernel
theorem dX10_pass_106 : decode cX10_pass 106 = .ok (.iconst 2, 1) := by decide +kernel
theorem dX10_pass_107 : decode cX10_pass 107 = .ok (.dup2, 1) := by decide +kernel
theorem dX10_pass_108 : decode cX10_pass 108 = .ok (.iaload, 1) := by decide +kernel
theorem dX10_pass_109 : decode cX10_pass 109 = .ok (.aload_n 0, 1) := by decide +kernel
theorem dX10_pass_110 : decode cX10_pass 110 = .ok (.aload_n 0, 1) := by decide +kernel
theorem dX10_pass_111 : decode cX10_pass 111 = .ok (.aload_n 0, 1) := by decide +kernel
theorem dX10_pass_112 : decode cX10_pass 112 = .ok (.invokevirtual 246, 3) := by decide +kernel
theorem dX10_pass_115 : decode cX10_pass 115 = .ok (.iload_n 1, 1) := by decide +kernel
theorem dX10_pass_116 : decode cX10_pass 116 = .ok (.invokevirtual 255, 3) := by decide +kernel
theorem dX10_pass_119 : decode cX10_pass 119 = .ok (.invokevirtual 264, 3) := by decide +kernel
theorem dX10_pass_122 : decode cX10_pass 122 = .ok (.iadd, 1) := by decide +kernel
theorem dX10_pass_123 : decode cX10_pass 123 = .ok (.iastore, 1) := by decide +kernel
theorem dX10_pass_124 : decode cX10_pass 124 = .ok (.aload_n 0, 1) := by decide +kernel
theorem dX10_pass_125 : decode cX10_pass 125 = .ok (.getfield 66, 3) := by decide +kernel
theorem dX10_pass_128 : decode cX10_pass 128 = .ok (.iconst 3, 1) := by decide +kernel
theorem dX10_pass_129 : decode cX10_pass 129 = .ok (.dup2, 1) := by decide +kernel
theorem dX10_pass_130 : decode cX10_pass 130 = .ok (.iaload, 1) := by decide +kernel
theorem dX10_pass_131 : decode cX10_pass 131 = .ok (.aload_n 0, 1) := by decide +kernel
theorem dX10_pass_132 : decode cX10_pass 132 = .ok (.aload_n 0, 1) := by decide +kernel
theorem dX10_pass_133 : decode cX10_pass 133 = .ok (.invokevirtual 246, 3) := by decide +kernel
theorem dX10_pass_136 : decode cX10_pass 136 = .ok (.iload_n 1, 1) := by decide +kernel
theorem dX10_pass_137 : decode cX10_pass 137 = .ok (.invokevirtual 277, 3) := by decide +kernel
theorem dX10_pass_140 : decode cX10_pass 140 = .ok (.iadd, 1) := by decide +kernel
theorem dX10_pass_141 : decode cX10_pass 141 = .ok (.iastore, 1) := by decide +kernel
theorem dX10_pass_142 : decode cX10_pass 142 = .ok (.aload_n 0, 1) := by decide +kernel
theorem dX10_pass_143 : decode cX10_pass 143 = .ok (.getfield 30, 3) := by decide +kernel
theorem dX10_pass_146 : decode cX10_pass 146 = .ok (.iconst 0, 1) := by decide +kernel
theorem dX10_pass_147 : decode cX10_pass 147 = .ok (.aload_n 0, 1) := by decide +kernel
theorem dX10_pass_148 : decode cX10_pass 148 = .ok (.iload_n 3, 1) := by decide +kernel
theorem dX10_pass_149 : decode cX10_pass 149 = .ok (.iload_n 1, 1) := by decide +kernel
theorem dX10_pass_150 : decode cX10_pass 150 = .ok (.isub, 1) := by decide +kernel
theorem dX10_pass_151 : decode cX10_pass 151 = .ok (.iload_n 1, 1) := by decide +kernel
theorem dX10_pass_152 : decode cX10_pass 152 = .ok (.aload_n 0, 1) := by decide +kernel
theorem dX10_pass_153 : decode cX10_pass 153 = .ok (.invokevirtual 246, 3) := by decide +kernel
theorem dX10_pass_156 : decode cX10_pass 156 = .ok (.invokevirtual 252, 3) := by decide +kernel
theorem dX10_pass_159 : decode cX10_pass 159 = .ok (.iastore, 1) := by decide +kernel
theorem dX10_pass_160 : decode cX10_pass 160 = .ok (.aload_n 0, 1) := by decide +kernel
theorem dX10_pass_161 : decode cX10_pass 161 = .ok (.getfield 30, 3) := by decide +kernel
theorem dX10_pass_164 : decode cX10_pass 164 = .ok (.iconst 4, 1) := by decide +kernel
theorem dX10_pass_165 : decode cX10_pass 165 = .ok (.dup2, 1) := by decide +kernel
theorem dX10_pass_166 : decode cX10_pass 166 = .ok (.iaload, 1) := by decide +kernel
theorem dX10_pass_167 : decode cX10_pass 167 = .ok (.iconst 1, 1) := by decide +kernel
theorem dX10_pass_168 : decode cX10_pass 168 = .ok (.iadd, 1) := by decide +kernel
theorem dX10_pass_169 : decode cX10_pass 169 = .ok (.iastore, 1) := by decide +kernel
theorem dX10_pass_170 : decode cX10_pass 170 = .ok (.aload_n 0, 1) := by decide +kernel
theorem dX10_pass_171 : decode cX10_pass 171 = .ok (.getfield 30, 3) := by decide +kernel
theorem dX10_pass_174 : decode cX10_pass 174 = .ok (.iconst 0, 1) := by decide +kernel
theorem dX10_pass_175 : decode cX10_pass 175 = .ok (.iaload, 1) := by decide +kernel
theorem dX10_pass_176 : decode cX10_pass 176 = .ok (.ireturn, 1) := by decide +kernel
abbrev rX10_pass : Room := { frames := 4, cells := 0, slots := 0, locals := 94 }
def mX10_pass_b82    (σ : gS) (x12 : Int32) (x13 : Int32) : Option (Int32 × gS) := if inbB 0 5 = true then (if inbB 0 5 = true then gLet (gUI σ 71 (Int32.toNatClampNeg 0) ((σ.1 71 (Int32.toNatClampNeg 0)) + 1)) (fun s14 => if inbB 1 5 = true then (if inbB 1 5 = true then gLet (gUI s14 71 (Int32.toNatClampNeg 1) ((s14.1 71 (Int32.toNatClampNeg 1)) + x12)) (fun s15 => if inbB 2 5 = true then (gBind (mX10_now s15 ) (fun r16 s17 => gBind (mX10_metOn s17 r16 x12) (fun r18 s19 => gBind (mX10_gainOf s19 r18) (fun r20 s21 => if inbB 2 5 = true then gLet (gUI s21 71 (Int32.toNatClampNeg 2) ((s15.1 71 (Int32.toNatClampNeg 2)) + r20)) (fun s22 => if inbB 3 5 = true then (gBind (mX10_now s22 ) (fun r23 s24 => gBind (mX10_allHarm s24 r23 x12) (fun r25 s26 => if inbB 3 5 = true then gLet (gUI s26 71 (Int32.toNatClampNeg 3) ((s22.1 71 (Int32.toNatClampNeg 3)) + r25)) (fun s27 => gBind (mX10_now s27 ) (fun r28 s29 => gBind (mX10_nextCold s29 (x13 - x12) x12 r28) (fun r30 s31 => if inbB 0 5 = true then gLet (gUI s31 59 (Int32.toNatClampNeg 0) r30) (fun s32 => if inbB 4 5 = true then (if inbB 4 5 = true then gLet (gUI s32 59 (Int32.toNatClampNeg 4) ((s32.1 59 (Int32.toNatClampNeg 4)) + 1)) (fun s33 => if inbB 0 5 = true then (some ((s33.1 59 (Int32.toNatClampNeg 0)), s33)) else none) else none) else none) else none))) else none))) else none) else none)))) else none) else none) else none) else none) else none
set_option maxHeartbeats 4000000 in
set_option maxRecDepth 100000 in
theorem wX10_pass_b82 {p : Program} {l : Launch} {e : Env} {s : State} {m : MethodId} {args : Array Value} {below : List Frame} {meth : Method} {c : Code} {G : gE} (hC : gCx p s m args meth c G RX10 cX10_pass 4 (some .int))     (σ : gS) (x12 : Int32) (x13 : Int32)  : gT p l e rX10_pass s m args below meth c G 4 iI σ 82 [(0, .ref (G.2.1 52)), (1, .int x12), (3, .int x13)] [] (mX10_pass_b82  σ x12 x13) := by
  unfold mX10_pass_b82
  refine g_aload_n (pc := 82) (q := 0) hC dX10_pass_82 rfl rfl ?_
  refine g_get (pc := 83) (v := .ref (G.2.1 71)) hC kX10 rfl 27 (by decide) fl_RX10_66 rfl dX10_pass_83 ?_
  refine g_iconst (pc := 86) (v := 0) hC dX10_pass_86 (by decide) ?_
  refine g_dup2 (pc := 87) hC dX10_pass_87 rfl rfl ?_
  refine g_iald (pc := 88) hC 5 rfl (by decide) dX10_pass_88 ?_
  refine g_iconst (pc := 89) (v := 1) hC dX10_pass_89 (by decide) ?_
  refine g_iadd (pc := 90) hC dX10_pass_90 ?_
  refine g_iast (pc := 91) hC 5 rfl (by decide) dX10_pass_91 (fun s14 => ?_)
  refine g_aload_n (pc := 92) (q := 0) hC dX10_pass_92 rfl rfl ?_
  refine g_get (pc := 93) (v := .ref (G.2.1 71)) hC kX10 rfl 27 (by decide) fl_RX10_66 rfl dX10_pass_93 ?_
  refine g_iconst (pc := 96) (v := 1) hC dX10_pass_96 (by decide) ?_
  refine g_dup2 (pc := 97) hC dX10_pass_97 rfl rfl ?_
  refine g_iald (pc := 98) hC 5 rfl (by decide) dX10_pass_98 ?_
  refine g_iload_n (pc := 99) (q := 1) hC dX10_pass_99 rfl rfl ?_
  refine g_iadd (pc := 100) hC dX10_pass_100 ?_
  refine g_iast (pc := 101) hC 5 rfl (by decide) dX10_pass_101 (fun s15 => ?_)
  refine g_aload_n (pc := 102) (q := 0) hC dX10_pass_102 rfl rfl ?_
  refine g_get (pc := 103) (v := .ref (G.2.1 71)) hC kX10 rfl 27 (by decide) fl_RX10_66 rfl dX10_pass_103 ?_
  refine g_iconst (pc := 106) (v := 2) hC dX10_pass_106 (by decide) ?_
  refine g_dup2 (pc := 107) hC dX10_pass_107 rfl rfl ?_
  refine g_iald (pc := 108) hC 5 rfl (by decide) dX10_pass_108 ?_
  refine g_aload_n (pc := 109) (q := 0) hC dX10_pass_109 rfl rfl ?_
  refine g_aload_n (pc := 110) (q := 0) hC dX10_pass_110 rfl rfl ?_
  refine g_aload_n (pc := 111) (q := 0) hC dX10_pass_111 rfl rfl ?_
  refine g_callVi (pc := 112) (As := []) (rest := [.ref (G.2.1 52), .ref (G.2.1 52), .int (s15.1 71 (Int32.toNatClampNeg 2)), .int 2, .ref (G.2.1 71)]) hC lk_RX10_246 kX10 rfl (tX10_now _ _ s15 ) rfl rfl (Nat.le_of_ble_eq_true rfl) ⟨rfl, rfl, Nat.le_of_ble_eq_true rfl, Nat.le_of_ble_eq_true rfl⟩ dX10_pass_112 (fun r16 s17 => ?_)
  refine g_iload_n (pc := 115) (q := 1) hC dX10_pass_115 rfl rfl ?_
  refine g_callVi (pc := 116) (As := [.int r16, .int x12]) (rest := [.ref (G.2.1 52), .int (s15.1 71 (Int32.toNatClampNeg 2)), .int 2, .ref (G.2.1 71)]) hC lk_RX10_255 kX10 rfl (tX10_metOn _ _ s17 r16 x12) rfl rfl (Nat.le_of_ble_eq_true rfl) ⟨rfl, rfl, Nat.le_of_ble_eq_true rfl, Nat.le_of_ble_eq_true rfl⟩ dX10_pass_116 (fun r18 s19 => ?_)
  refine g_callVi (pc := 119) (As := [.int r18]) (rest := [.int (s15.1 71 (Int32.toNatClampNeg 2)), .int 2, .ref (G.2.1 71)]) hC lk_RX10_264 kX10 rfl (tX10_gainOf _ _ s19 r18) rfl rfl (Nat.le_of_ble_eq_true rfl) ⟨rfl, rfl, Nat.le_of_ble_eq_true rfl, Nat.le_of_ble_eq_true rfl⟩ dX10_pass_119 (fun r20 s21 => ?_)
  refine g_iadd (pc := 122) hC dX10_pass_122 ?_
  refine g_iast (pc := 123) hC 5 rfl (by decide) dX10_pass_123 (fun s22 => ?_)
  refine g_aload_n (pc := 124) (q := 0) hC dX10_pass_124 rfl rfl ?_
  refine g_get (pc := 125) (v := .ref (G.2.1 71)) hC kX10 rfl 27 (by decide) fl_RX10_66 rfl dX10_pass_125 ?_
  refine g_iconst (pc := 128) (v := 3) hC dX10_pass_128 (by decide) ?_
  refine g_dup2 (pc := 129) hC dX10_pass_129 rfl rfl ?_
  refine g_iald (pc := 130) hC 5 rfl (by decide) dX10_pass_130 ?_
  refine g_aload_n (pc := 131) (q := 0) hC dX10_pass_131 rfl rfl ?_
  refine g_aload_n (pc := 132) (q := 0) hC dX10_pass_132 rfl rfl ?_
  refine g_callVi (pc := 133) (As := []) (rest := [.ref (G.2.1 52), .int (s22.1 71 (Int32.toNatClampNeg 3)), .int 3, .ref (G.2.1 71)]) hC lk_RX10_246 kX10 rfl (tX10_now _ _ s22 ) rfl rfl (Nat.le_of_ble_eq_true rfl) ⟨rfl, rfl, Nat.le_of_ble_eq_true rfl, Nat.le_of_ble_eq_true rfl⟩ dX10_pass_133 (fun r23 s24 => ?_)
  refine g_iload_n (pc := 136) (q := 1) hC dX10_pass_136 rfl rfl ?_
  refine g_callVi (pc := 137) (As := [.int r23, .int x12]) (rest := [.int (s22.1 71 (Int32.toNatClampNeg 3)), .int 3, .ref (G.2.1 71)]) hC lk_RX10_277 kX10 rfl (tX10_allHarm _ _ s24 r23 x12) rfl rfl (Nat.le_of_ble_eq_true rfl) ⟨rfl, rfl, Nat.le_of_ble_eq_true rfl, Nat.le_of_ble_eq_true rfl⟩ dX10_pass_137 (fun r25 s26 => ?_)
  refine g_iadd (pc := 140) hC dX10_pass_140 ?_
  refine g_iast (pc := 141) hC 5 rfl (by decide) dX10_pass_141 (fun s27 => ?_)
  refine g_aload_n (pc := 142) (q := 0) hC dX10_pass_142 rfl rfl ?_
  refine g_get (pc := 143) (v := .ref (G.2.1 59)) hC kX10 rfl 8 (by decide) fl_RX10_30 rfl dX10_pass_143 ?_
  refine g_iconst (pc := 146) (v := 0) hC dX10_pass_146 (by decide) ?_
  refine g_aload_n (pc := 147) (q := 0) hC dX10_pass_147 rfl rfl ?_
  refine g_iload_n (pc := 148) (q := 2) hC dX10_pass_148 rfl rfl ?_
  refine g_iload_n (pc := 149) (q := 1) hC dX10_pass_149 rfl rfl ?_
  refine g_isub (pc := 150) hC dX10_pass_150 ?_
  refine g_iload_n (pc := 151) (q := 1) hC dX10_pass_151 rfl rfl ?_
  refine g_aload_n (pc := 152) (q := 0) hC dX10_pass_152 rfl rfl ?_
  refine g_callVi (pc := 153) (As := []) (rest := [.int x12, .int (x13 - x12), .ref (G.2.1 52), .int 0, .ref (G.2.1 59)]) hC lk_RX10_246 kX10 rfl (tX10_now _ _ s27 ) rfl rfl (Nat.le_of_ble_eq_true rfl) ⟨rfl, rfl, Nat.le_of_ble_eq_true rfl, Nat.le_of_ble_eq_true rfl⟩ dX10_pass_153 (fun r28 s29 => ?_)
  refine g_callVi (pc := 156) (As := [.int (x13 - x12), .int x12, .int r28]) (rest := [.int 0, .ref (G.2.1 59)]) hC lk_RX10_252 kX10 rfl (tX10_nextCold _ _ s29 (x13 - x12) x12 r28) rfl rfl (Nat.le_of_ble_eq_true rfl) ⟨rfl, rfl, Nat.le_of_ble_eq_true rfl, Nat.le_of_ble_eq_true rfl⟩ dX10_pass_156 (fun r30 s31 => ?_)
  refine g_iast (pc := 159) hC 5 rfl (by decide) dX10_pass_159 (fun s32 => ?_)
  refine g_aload_n (pc := 160) (q := 0) hC dX10_pass_160 rfl rfl ?_
  refine g_get (pc := 161) (v := .ref (G.2.1 59)) hC kX10 rfl 8 (by decide) fl_RX10_30 rfl dX10_pass_161 ?_
  refine g_iconst (pc := 164) (v := 4) hC dX10_pass_164 (by decide) ?_
  refine g_dup2 (pc := 165) hC dX10_pass_165 rfl rfl ?_
  refine g_iald (pc := 166) hC 5 rfl (by decide) dX10_pass_166 ?_
  refine g_iconst (pc := 167) (v := 1) hC dX10_pass_167 (by decide) ?_
  refine g_iadd (pc := 168) hC dX10_pass_168 ?_
  refine g_iast (pc := 169) hC 5 rfl (by decide) dX10_pass_169 (fun s33 => ?_)
  refine g_aload_n (pc := 170) (q := 0) hC dX10_pass_170 rfl rfl ?_
  refine g_get (pc := 171) (v := .ref (G.2.1 59)) hC kX10 rfl 8 (by decide) fl_RX10_30 rfl dX10_pass_171 ?_
  refine g_iconst (pc := 174) (v := 0) hC dX10_pass_174 (by decide) ?_
  refine g_iald (pc := 175) hC 5 rfl (by decide) dX10_pass_175 ?_
  exact g_iret (pc := 176) hC dX10_pass_176
def mX10_pass_b59    (σ : gS) (x8 : Int32) (x9 : Int32) (x10 : Int32) : Option (Int32 × gS) := gLet x10 (fun v11 => if x8 ≤ v11 then (if x9 = 0 then ((mX10_pass_b82  σ x8 v11)) else (if inbB 4 5 = true then (if inbB 4 5 = true then gLet (gUI σ 71 (Int32.toNatClampNeg 4) ((σ.1 71 (Int32.toNatClampNeg 4)) + 1)) (fun s34 => (mX10_pass_b82  s34 x8 v11)) else none) else none)) else (some ((-2), σ)))
set_option maxHeartbeats 4000000 in
set_option maxRecDepth 100000 in
theorem wX10_pass_b59 {p : Program} {l : Launch} {e : Env} {s : State} {m : MethodId} {args : Array Value} {below : List Frame} {meth : Method} {c : Code} {G : gE} (hC : gCx p s m args meth c G RX10 cX10_pass 4 (some .int))     (σ : gS) (x8 : Int32) (x9 : Int32) (x10 : Int32)  : gT p l e rX10_pass s m args below meth c G 4 iI σ 59 [(0, .ref (G.2.1 52)), (1, .int x8), (2, .int x9)] [.int x10] (mX10_pass_b59  σ x8 x9 x10) := by
  unfold mX10_pass_b59
  refine g_istore_n (pc := 59) (lv' := fun v11 => [(3, .int v11), (0, .ref (G.2.1 52)), (1, .int x8), (2, .int x9)]) hC dX10_pass_59 rfl (by decide) (fun _ => rfl) (fun v11 => ?_)
  refine g_iload_n (pc := 60) (q := 2) hC dX10_pass_60 rfl rfl ?_
  refine g_iload_n (pc := 61) (q := 0) hC dX10_pass_61 rfl rfl ?_
  refine g_icmp_le (pc := 62) (tgt := 68) hC dX10_pass_62 (by decide) ?_ ?_
  · refine g_iload_n (pc := 68) (q := 3) hC dX10_pass_68 rfl rfl ?_
    refine g_if_eq (pc := 69) (tgt := 82) hC dX10_pass_69 (by decide) ?_ ?_
    · exact gT_sub [1, 2, 0] rfl (wX10_pass_b82 hC  σ x8 v11)
    · refine g_aload_n (pc := 72) (q := 1) hC dX10_pass_72 rfl rfl ?_
      refine g_get (pc := 73) (v := .ref (G.2.1 71)) hC kX10 rfl 27 (by decide) fl_RX10_66 rfl dX10_pass_73 ?_
      refine g_iconst (pc := 76) (v := 4) hC dX10_pass_76 (by decide) ?_
      refine g_dup2 (pc := 77) hC dX10_pass_77 rfl rfl ?_
      refine g_iald (pc := 78) hC 5 rfl (by decide) dX10_pass_78 ?_
      refine g_iconst (pc := 79) (v := 1) hC dX10_pass_79 (by decide) ?_
      refine g_iadd (pc := 80) hC dX10_pass_80 ?_
      refine g_iast (pc := 81) hC 5 rfl (by decide) dX10_pass_81 (fun s34 => ?_)
      exact gT_sub [1, 2, 0] rfl (wX10_pass_b82 hC  s34 x8 v11)
  · refine g_bipush (pc := 65) (v := (-2)) hC dX10_pass_65 (by decide) ?_
    exact g_iret (pc := 67) hC dX10_pass_67
def mX10_pass_b44    (σ : gS) (x5 : Int32) (x6 : Int32) : Option (Int32 × gS) := gLet x6 (fun v7 => if v7 = 0 then (if inbB 0 5 = true then ((mX10_pass_b59  σ x5 v7 (σ.1 59 (Int32.toNatClampNeg 0)))) else none) else ((mX10_pass_b59  σ x5 v7 0)))
set_option maxHeartbeats 4000000 in
set_option maxRecDepth 100000 in
theorem wX10_pass_b44 {p : Program} {l : Launch} {e : Env} {s : State} {m : MethodId} {args : Array Value} {below : List Frame} {meth : Method} {c : Code} {G : gE} (hC : gCx p s m args meth c G RX10 cX10_pass 4 (some .int))     (σ : gS) (x5 : Int32) (x6 : Int32)  : gT p l e rX10_pass s m args below meth c G 4 iI σ 44 [(0, .ref (G.2.1 52)), (1, .int x5)] [.int x6] (mX10_pass_b44  σ x5 x6) := by
  unfold mX10_pass_b44
  refine g_istore_n (pc := 44) (lv' := fun v7 => [(2, .int v7), (0, .ref (G.2.1 52)), (1, .int x5)]) hC dX10_pass_44 rfl (by decide) (fun _ => rfl) (fun v7 => ?_)
  refine g_iload_n (pc := 45) (q := 0) hC dX10_pass_45 rfl rfl ?_
  refine g_if_eq (pc := 46) (tgt := 53) hC dX10_pass_46 (by decide) ?_ ?_
  · refine g_aload_n (pc := 53) (q := 1) hC dX10_pass_53 rfl rfl ?_
    refine g_get (pc := 54) (v := .ref (G.2.1 59)) hC kX10 rfl 8 (by decide) fl_RX10_30 rfl dX10_pass_54 ?_
    refine g_iconst (pc := 57) (v := 0) hC dX10_pass_57 (by decide) ?_
    refine g_iald (pc := 58) hC 5 rfl (by decide) dX10_pass_58 ?_
    exact gT_sub [1, 2, 0] rfl (wX10_pass_b59 hC  σ x5 v7 (σ.1 59 (Int32.toNatClampNeg 0)))
  · refine g_iconst (pc := 49) (v := 0) hC dX10_pass_49 (by decide) ?_
    refine g_goto (pc := 50) (tgt := 59) hC dX10_pass_50 (by decide) ?_
    exact gT_sub [1, 2, 0] rfl (wX10_pass_b59 hC  σ x5 v7 0)
def mX10_pass (σ : gS) (p0 : Int32) : Option (Int32 × gS) := gBind (mX10_within σ p0 0 24) (fun r1 s2 => if r1 = true then (gBind (mX10_now s2 ) (fun r3 s4 => if r3 = 29 then (some ((-5), s4)) else (if inbB 0 5 = true then (if inbB 1 5 = true then (if (s4.1 59 (Int32.toNatClampNeg 0)) ≤ (s4.1 59 (Int32.toNatClampNeg 1)) then ((mX10_pass_b44  s4 p0 0)) else ((mX10_pass_b44  s4 p0 1))) else none) else none))) else (some ((-1), s2)))
set_option maxHeartbeats 4000000 in
set_option maxRecDepth 100000 in
theorem tX10_pass (l : Launch) (G : gE) (σ : gS) (p0 : Int32) : gM l G yX10_pass cX10_pass 4 (some .int) rX10_pass iI [.ref (G.2.1 52), .int p0] σ (mX10_pass σ p0) := by
  refine gM_of (by decide) (Nat.le_of_ble_eq_true rfl) ?_
  intro p e s m args below meth c hC
  unfold mX10_pass
  show gT p l e rX10_pass s m args below meth c G 4 iI σ 0 [(0, .ref (G.2.1 52)), (1, .int p0)] [] _
  refine g_iload_n (pc := 0) (q := 1) hC dX10_pass_0 rfl rfl ?_
  refine g_iconst (pc := 1) (v := 0) hC dX10_pass_1 (by decide) ?_
  refine g_bipush (pc := 2) (v := 24) hC dX10_pass_2 (by decide) ?_
  refine g_callSz (pc := 4) (As := [.int p0, .int 0, .int 24]) (rest := []) hC lk_RX10_110 (tX10_within _ _ σ p0 0 24) rfl rfl (Nat.le_of_ble_eq_true rfl) ⟨rfl, rfl, Nat.le_of_ble_eq_true rfl, Nat.le_of_ble_eq_true rfl⟩ dX10_pass_4 (fun r1 s2 => ?_)
  refine g_bif_ne (pc := 7) (tgt := 12) hC dX10_pass_7 (by decide) ?_ ?_
  · refine g_aload_n (pc := 12) (q := 0) hC dX10_pass_12 rfl rfl ?_
    refine g_callVi (pc := 13) (As := []) (rest := []) hC lk_RX10_246 kX10 rfl (tX10_now _ _ s2 ) rfl rfl (Nat.le_of_ble_eq_true rfl) ⟨rfl, rfl, Nat.le_of_ble_eq_true rfl, Nat.le_of_ble_eq_true rfl⟩ dX10_pass_13 (fun r3 s4 => ?_)
    refine g_bipush (pc := 16) (v := 29) hC dX10_pass_16 (by decide) ?_
    refine g_icmp_ne (pc := 18) (tgt := 24) hC dX10_pass_18 (by decide) ?_ ?_
    · refine g_aload_n (pc := 24) (q := 0) hC dX10_pass_24 rfl rfl ?_
      refine g_get (pc := 25) (v := .ref (G.2.1 59)) hC kX10 rfl 8 (by decide) fl_RX10_30 rfl dX10_pass_25 ?_
      refine g_iconst (pc := 28) (v := 0) hC dX10_pass_28 (by decide) ?_
      refine g_iald (pc := 29) hC 5 rfl (by decide) dX10_pass_29 ?_
      refine g_aload_n (pc := 30) (q := 0) hC dX10_pass_30 rfl rfl ?_
      refine g_get (pc := 31) (v := .ref (G.2.1 59)) hC kX10 rfl 8 (by decide) fl_RX10_30 rfl dX10_pass_31 ?_
      refine g_iconst (pc := 34) (v := 1) hC dX10_pass_34 (by decide) ?_
      refine g_iald (pc := 35) hC 5 rfl (by decide) dX10_pass_35 ?_
      refine g_icmp_le (pc := 36) (tgt := 43) hC dX10_pass_36 (by decide) ?_ ?_
      · refine g_iconst (pc := 43) (v := 0) hC dX10_pass_43 (by decide) ?_
        exact gT_sub [0, 1] rfl (wX10_pass_b44 hC  s4 p0 0)
      · refine g_iconst (pc := 39) (v := 1) hC dX10_pass_39 (by decide) ?_
        refine g_goto (pc := 40) (tgt := 44) hC dX10_pass_40 (by decide) ?_
        exact gT_sub [0, 1] rfl (wX10_pass_b44 hC  s4 p0 1)
    · refine g_bipush (pc := 21) (v := (-5)) hC dX10_pass_21 (by decide) ?_
      exact g_iret (pc := 23) hC dX10_pass_23
  · refine g_iconst (pc := 10) (v := (-1)) hC dX10_pass_10 (by decide) ?_
    exact g_iret (pc := 11) hC dX10_pass_11
theorem dX10_bring_0 : decode cX10_bring 0 = .ok (.iload_n 1, 1) := by decide +kernel
theorem dX10_bring_1 : decode cX10_bring 1 = .ok (.iconst 1, 1) := by decide +kernel
theorem dX10_bring_2 : decode cX10_bring 2 = .ok (.bipush 99, 2) := by decide +kernel
theorem dX10_bring_4 : decode cX10_bring 4 = .ok (.invokestatic 110, 3) := by decide +kernel
theorem dX10_bring_7 : decode cX10_bring 7 = .ok (.ifCond .ne 5, 3) := by decide +kernel
theorem dX10_bring_10 : decode cX10_bring 10 = .ok (.iconst (-1), 1) := by decide +kernel
theorem dX10_bring_11 : decode cX10_bring 11 = .ok (.ireturn, 1) := by decide +kernel
theorem dX10_bring_12 : decode cX10_bring 12 = .ok (.aload_n 0, 1) := by decide +kernel
theorem dX10_bring_13 : decode cX10_bring 13 = .ok (.getfield 30, 3) := by decide +kernel
theorem dX10_bring_16 : decode cX10_bring 16 = .ok (.iconst 0, 1) := by decide +kernel
theorem dX10_bring_17 : decode cX10_bring 17 = .ok (.sipush 999, 3) := by decide +kernel
theorem dX10_bring_20 : decode cX10_bring 20 = .ok (.aload_n 0, 1) := by decide +kernel
theorem dX10_bring_21 : decode cX10_bring 21 = .ok (.getfield 30, 3) := by decide +kernel
theorem dX10_bring_24 : decode cX10_bring 24 = .ok (.iconst 0, 1) := by decide +kernel
theorem dX10_bring_25 : decode cX10_bring 25 = .ok (.iaload, 1) := by decide +kernel
theorem dX10_bring_26 : decode cX10_bring 26 = .ok (.iload_n 1, 1) := by decide +kernel
theorem dX10_bring_27 : decode cX10_bring 27 = .ok (.iadd, 1) := by decide +kernel
theorem dX10_bring_28 : decode cX10_bring 28 = .ok (.invokestatic 232, 3) := by decide +kernel
theorem dX10_bring_31 : decode cX10_bring 31 = .ok (.iastore, 1) := by decide +kernel
theorem dX10_bring_32 : decode cX10_bring 32 = .ok (.aload_n 0, 1) := by decide +kernel
theorem dX10_bring_33 : decode cX10_bring 33 = .ok (.getfield 30, 3) := by decide +kernel
theorem dX10_bring_36 : decode cX10_bring 36 = .ok (.iconst 0, 1) := by decide +kernel
theorem dX10_bring_37 : decode cX10_bring 37 = .ok (.iaload, 1) := by decide +kernel
theorem dX10_bring_38 : decode cX10_bring 38 = .ok (.ireturn, 1) := by decide +kernel
abbrev rX10_bring : Room := { frames := 1, cells := 0, slots := 0, locals := 22 }
def mX10_bring (σ : gS) (p0 : Int32) : Option (Int32 × gS) := gBind (mX10_within σ p0 1 99) (fun r1 s2 => if r1 = true then (if inbB 0 5 = true then (if inbB 0 5 = true then gLet (gUI s2 59 (Int32.toNatClampNeg 0) (gMin 999 ((s2.1 59 (Int32.toNatClampNeg 0)) + p0))) (fun s3 => if inbB 0 5 = true then (some ((s3.1 59 (Int32.toNatClampNeg 0)), s3)) else none) else none) else none) else (some ((-1), s2)))
set_option maxHeartbeats 4000000 in
set_option maxRecDepth 100000 in
theorem tX10_bring (l : Launch) (G : gE) (σ : gS) (p0 : Int32) : gM l G yX10_bring cX10_bring 2 (some .int) rX10_bring iI [.ref (G.2.1 52), .int p0] σ (mX10_bring σ p0) := by
  refine gM_of (by decide) (Nat.le_of_ble_eq_true rfl) ?_
  intro p e s m args below meth c hC
  unfold mX10_bring
  show gT p l e rX10_bring s m args below meth c G 2 iI σ 0 [(0, .ref (G.2.1 52)), (1, .int p0)] [] _
  refine g_iload_n (pc := 0) (q := 1) hC dX10_bring_0 rfl rfl ?_
  refine g_iconst (pc := 1) (v := 1) hC dX10_bring_1 (by decide) ?_
  refine g_bipush (pc := 2) (v := 99) hC dX10_bring_2 (by decide) ?_
  refine g_callSz (pc := 4) (As := [.int p0, .int 1, .int 99]) (rest := []) hC lk_RX10_110 (tX10_within _ _ σ p0 1 99) rfl rfl (Nat.le_of_ble_eq_true rfl) ⟨rfl, rfl, Nat.le_of_ble_eq_true rfl, Nat.le_of_ble_eq_true rfl⟩ dX10_bring_4 (fun r1 s2 => ?_)
  refine g_bif_ne (pc := 7) (tgt := 12) hC dX10_bring_7 (by decide) ?_ ?_
  · refine g_aload_n (pc := 12) (q := 0) hC dX10_bring_12 rfl rfl ?_
    refine g_get (pc := 13) (v := .ref (G.2.1 59)) hC kX10 rfl 8 (by decide) fl_RX10_30 rfl dX10_bring_13 ?_
    refine g_iconst (pc := 16) (v := 0) hC dX10_bring_16 (by decide) ?_
    refine g_sipush (pc := 17) (v := 999) hC dX10_bring_17 (by decide) ?_
    refine g_aload_n (pc := 20) (q := 0) hC dX10_bring_20 rfl rfl ?_
    refine g_get (pc := 21) (v := .ref (G.2.1 59)) hC kX10 rfl 8 (by decide) fl_RX10_30 rfl dX10_bring_21 ?_
    refine g_iconst (pc := 24) (v := 0) hC dX10_bring_24 (by decide) ?_
    refine g_iald (pc := 25) hC 5 rfl (by decide) dX10_bring_25 ?_
    refine g_iload_n (pc := 26) (q := 1) hC dX10_bring_26 rfl rfl ?_
    refine g_iadd (pc := 27) hC dX10_bring_27 ?_
    refine g_min (pc := 28) hC mth_RX10_232 ⟨Nat.le_of_ble_eq_true rfl, Nat.le_of_ble_eq_true rfl⟩ (Nat.le_of_ble_eq_true rfl) dX10_bring_28 ?_
    refine g_iast (pc := 31) hC 5 rfl (by decide) dX10_bring_31 (fun s3 => ?_)
    refine g_aload_n (pc := 32) (q := 0) hC dX10_bring_32 rfl rfl ?_
    refine g_get (pc := 33) (v := .ref (G.2.1 59)) hC kX10 rfl 8 (by decide) fl_RX10_30 rfl dX10_bring_33 ?_
    refine g_iconst (pc := 36) (v := 0) hC dX10_bring_36 (by decide) ?_
    refine g_iald (pc := 37) hC 5 rfl (by decide) dX10_bring_37 ?_
    exact g_iret (pc := 38) hC dX10_bring_38
  · refine g_iconst (pc := 10) (v := (-1)) hC dX10_bring_10 (by decide) ?_
    exact g_iret (pc := 11) hC dX10_bring_11
theorem dX10_boards_0 : decode cX10_boards 0 = .ok (.aload_n 0, 1) := by decide +kernel
theorem dX10_boards_1 : decode cX10_boards 1 = .ok (.getfield 30, 3) := by decide +kernel
theorem dX10_boards_4 : decode cX10_boards 4 = .ok (.iconst 1, 1) := by decide +kernel
theorem dX10_boards_5 : decode cX10_boards 5 = .ok (.sipush 999, 3) := by decide +kernel
theorem dX10_boards_8 : decode cX10_boards 8 = .ok (.aload_n 0, 1) := by decide +kernel
theorem dX10_boards_9 : decode cX10_boards 9 = .ok (.getfield 30, 3) := by decide +kernel
theorem dX10_boards_12 : decode cX10_boards 12 = .ok (.iconst 1, 1) := by decide +kernel
theorem dX10_boards_13 : decode cX10_boards 13 = .ok (.iaload, 1) := by decide +kernel
theorem dX10_boards_14 : decode cX10_boards 14 = .ok (.bipush 10, 2) := by decide +kernel
theorem dX10_boards_16 : decode cX10_boards 16 = .ok (.iadd, 1) := by decide +kernel
theorem dX10_boards_17 : decode cX10_boards 17 = .ok (.invokestatic 232, 3) := by decide +kernel
theorem dX10_boards_20 : decode cX10_boards 20 = .ok (.iastore, 1) := by decide +kernel
theorem dX10_boards_21 : decode cX10_boards 21 = .ok (.aload_n 0, 1) := by decide +kernel
theorem dX10_boards_22 : decode cX10_boards 22 = .ok (.getfield 30, 3) := by decide +kernel
theorem dX10_boards_25 : decode cX10_boards 25 = .ok (.iconst 1, 1) := by decide +kernel
theorem dX10_boards_26 : decode cX10_boards 26 = .ok (.iaload, 1) := by decide +kernel
theorem dX10_boards_27 : decode cX10_boards 27 = .ok (.ireturn, 1) := by decide +kernel
abbrev rX10_boards : Room := { frames := 1, cells := 0, slots := 0, locals := 21 }
def mX10_boards (σ : gS)  : Option (Int32 × gS) := if inbB 1 5 = true then (if inbB 1 5 = true then gLet (gUI σ 59 (Int32.toNatClampNeg 1) (gMin 999 ((σ.1 59 (Int32.toNatClampNeg 1)) + 10))) (fun s1 => if inbB 1 5 = true then (some ((s1.1 59 (Int32.toNatClampNeg 1)), s1)) else none) else none) else none
set_option maxHeartbeats 4000000 in
set_option maxRecDepth 100000 in
theorem tX10_boards (l : Launch) (G : gE) (σ : gS)  : gM l G yX10_boards cX10_boards 1 (some .int) rX10_boards iI [.ref (G.2.1 52)] σ (mX10_boards σ ) := by
  refine gM_of (by decide) (Nat.le_of_ble_eq_true rfl) ?_
  intro p e s m args below meth c hC
  unfold mX10_boards
  show gT p l e rX10_boards s m args below meth c G 1 iI σ 0 [(0, .ref (G.2.1 52))] [] _
  refine g_aload_n (pc := 0) (q := 0) hC dX10_boards_0 rfl rfl ?_
  refine g_get (pc := 1) (v := .ref (G.2.1 59)) hC kX10 rfl 8 (by decide) fl_RX10_30 rfl dX10_boards_1 ?_
  refine g_iconst (pc := 4) (v := 1) hC dX10_boards_4 (by decide) ?_
  refine g_sipush (pc := 5) (v := 999) hC dX10_boards_5 (by decide) ?_
  refine g_aload_n (pc := 8) (q := 0) hC dX10_boards_8 rfl rfl ?_
  refine g_get (pc := 9) (v := .ref (G.2.1 59)) hC kX10 rfl 8 (by decide) fl_RX10_30 rfl dX10_boards_9 ?_
  refine g_iconst (pc := 12) (v := 1) hC dX10_boards_12 (by decide) ?_
  refine g_iald (pc := 13) hC 5 rfl (by decide) dX10_boards_13 ?_
  refine g_bipush (pc := 14) (v := 10) hC dX10_boards_14 (by decide) ?_
  refine g_iadd (pc := 16) hC dX10_boards_16 ?_
  refine g_min (pc := 17) hC mth_RX10_232 ⟨Nat.le_of_ble_eq_true rfl, Nat.le_of_ble_eq_true rfl⟩ (Nat.le_of_ble_eq_true rfl) dX10_boards_17 ?_
  refine g_iast (pc := 20) hC 5 rfl (by decide) dX10_boards_20 (fun s1 => ?_)
  refine g_aload_n (pc := 21) (q := 0) hC dX10_boards_21 rfl rfl ?_
  refine g_get (pc := 22) (v := .ref (G.2.1 59)) hC kX10 rfl 8 (by decide) fl_RX10_30 rfl dX10_boards_22 ?_
  refine g_iconst (pc := 25) (v := 1) hC dX10_boards_25 (by decide) ?_
  refine g_iald (pc := 26) hC 5 rfl (by decide) dX10_boards_26 ?_
  exact g_iret (pc := 27) hC dX10_boards_27
theorem dX10_led_0 : decode cX10_led 0 = .ok (.iload_n 1, 1) := by decide +kernel
theorem dX10_led_1 : decode cX10_led 1 = .ok (.iconst 0, 1) := by decide +kernel
theorem dX10_led_2 : decode cX10_led 2 = .ok (.iconst 4, 1) := by decide +kernel
theorem dX10_led_3 : decode cX10_led 3 = .ok (.invokestatic 110, 3) := by decide +kernel
theorem dX10_led_6 : decode cX10_led 6 = .ok (.ifCond .eq 12, 3) := by decide +kernel
theorem dX10_led_9 : decode cX10_led 9 = .ok (.aload_n 0, 1) := by decide +kernel
theorem dX10_led_10 : decode cX10_led 10 = .ok (.getfield 66, 3) := by decide +kernel
theorem dX10_led_13 : decode cX10_led 13 = .ok (.iload_n 1, 1) := by decide +kernel
theorem dX10_led_14 : decode cX10_led 14 = .ok (.iaload, 1) := by decide +kernel
theorem dX10_led_15 : decode cX10_led 15 = .ok (.goto 4, 3) := by decide +kernel
theorem dX10_led_18 : decode cX10_led 18 = .ok (.iconst (-1), 1) := by decide +kernel
theorem dX10_led_19 : decode cX10_led 19 = .ok (.ireturn, 1) := by decide +kernel
abbrev rX10_led : Room := { frames := 1, cells := 0, slots := 0, locals := 22 }
def mX10_led (σ : gS) (p0 : Int32) : Option (Int32 × gS) := gBind (mX10_within σ p0 0 4) (fun r1 s2 => if r1 = true then (if inbB p0 5 = true then (some ((s2.1 71 (Int32.toNatClampNeg p0)), s2)) else none) else (some ((-1), s2)))
set_option maxHeartbeats 4000000 in
set_option maxRecDepth 100000 in
theorem tX10_led (l : Launch) (G : gE) (σ : gS) (p0 : Int32) : gM l G yX10_led cX10_led 2 (some .int) rX10_led iI [.ref (G.2.1 52), .int p0] σ (mX10_led σ p0) := by
  refine gM_of (by decide) (Nat.le_of_ble_eq_true rfl) ?_
  intro p e s m args below meth c hC
  unfold mX10_led
  show gT p l e rX10_led s m args below meth c G 2 iI σ 0 [(0, .ref (G.2.1 52)), (1, .int p0)] [] _
  refine g_iload_n (pc := 0) (q := 1) hC dX10_led_0 rfl rfl ?_
  refine g_iconst (pc := 1) (v := 0) hC dX10_led_1 (by decide) ?_
  refine g_iconst (pc := 2) (v := 4) hC dX10_led_2 (by decide) ?_
  refine g_callSz (pc := 3) (As := [.int p0, .int 0, .int 4]) (rest := []) hC lk_RX10_110 (tX10_within _ _ σ p0 0 4) rfl rfl (Nat.le_of_ble_eq_true rfl) ⟨rfl, rfl, Nat.le_of_ble_eq_true rfl, Nat.le_of_ble_eq_true rfl⟩ dX10_led_3 (fun r1 s2 => ?_)
  refine g_bif_eq (pc := 6) (tgt := 18) hC dX10_led_6 (by decide) ?_ ?_
  · refine g_iconst (pc := 18) (v := (-1)) hC dX10_led_18 (by decide) ?_
    exact g_iret (pc := 19) hC dX10_led_19
  · refine g_aload_n (pc := 9) (q := 0) hC dX10_led_9 rfl rfl ?_
    refine g_get (pc := 10) (v := .ref (G.2.1 71)) hC kX10 rfl 27 (by decide) fl_RX10_66 rfl dX10_led_10 ?_
    refine g_iload_n (pc := 13) (q := 1) hC dX10_led_13 rfl rfl ?_
    refine g_iald (pc := 14) hC 5 rfl (by decide) dX10_led_14 ?_
    refine g_goto (pc := 15) (tgt := 19) hC dX10_led_15 (by decide) ?_
    exact g_iret (pc := 19) hC dX10_led_19
theorem fl_RX10_330 : Cond.fieldLink RX10 330 "WinterShedModel" "imaged" "Z" ∈ gBig := (gBig_tab 1081 (by decide +kernel) (by decide +kernel))
theorem dX10_image_0 : decode cX10_image 0 = .ok (.aload_n 0, 1) := by decide +kernel
theorem dX10_image_1 : decode cX10_image 1 = .ok (.iconst 1, 1) := by decide +kernel
theorem dX10_image_2 : decode cX10_image 2 = .ok (.putfield 330, 3) := by decide +kernel
theorem dX10_image_5 : decode cX10_image 5 = .ok (.aload_n 0, 1) := by decide +kernel
theorem dX10_image_6 : decode cX10_image 6 = .ok (.getfield 69, 3) := by decide +kernel
theorem dX10_image_9 : decode cX10_image 9 = .ok (.iconst 0, 1) := by decide +kernel
theorem dX10_image_10 : decode cX10_image 10 = .ok (.aload_n 0, 1) := by decide +kernel
theorem dX10_image_11 : decode cX10_image 11 = .ok (.getfield 30, 3) := by decide +kernel
theorem dX10_image_14 : decode cX10_image 14 = .ok (.iconst 0, 1) := by decide +kernel
theorem dX10_image_15 : decode cX10_image 15 = .ok (.iaload, 1) := by decide +kernel
theorem dX10_image_16 : decode cX10_image 16 = .ok (.iastore, 1) := by decide +kernel
theorem dX10_image_17 : decode cX10_image 17 = .ok (.aload_n 0, 1) := by decide +kernel
theorem dX10_image_18 : decode cX10_image 18 = .ok (.getfield 69, 3) := by decide +kernel
theorem dX10_image_21 : decode cX10_image 21 = .ok (.iconst 1, 1) := by decide +kernel
theorem dX10_image_22 : decode cX10_image 22 = .ok (.aload_n 0, 1) := by decide +kernel
theorem dX10_image_23 : decode cX10_image 23 = .ok (.getfield 30, 3) := by decide +kernel
theorem dX10_image_26 : decode cX10_image 26 = .ok (.iconst 1, 1) := by decide +kernel
theorem dX10_image_27 : decode cX10_image 27 = .ok (.iaload, 1) := by decide +kernel
theorem dX10_image_28 : decode cX10_image 28 = .ok (.iastore, 1) := by decide +kernel
theorem dX10_image_29 : decode cX10_image 29 = .ok (.aload_n 0, 1) := by decide +kernel
theorem dX10_image_30 : decode cX10_image 30 = .ok (.getfield 69, 3) := by decide +kernel
theorem dX10_image_33 : decode cX10_image 33 = .ok (.iconst 2, 1) := by decide +kernel
theorem dX10_image_34 : decode cX10_image 34 = .ok (.aload_n 0, 1) := by decide +kernel
theorem dX10_image_35 : decode cX10_image 35 = .ok (.getfield 30, 3) := by decide +kernel
theorem dX10_image_38 : decode cX10_image 38 = .ok (.iconst 4, 1) := by decide +kernel
theorem dX10_image_39 : decode cX10_image 39 = .ok (.iaload, 1) := by decide +kernel
theorem dX10_image_40 : decode cX10_image 40 = .ok (.iastore, 1) := by decide +kernel
theorem dX10_image_41 : decode cX10_image 41 = .ok (.iconst 0, 1) := by decide +kernel
theorem dX10_image_42 : decode cX10_image 42 = .ok (.istore_n 1, 1) := by decide +kernel
theorem dX10_image_43 : decode cX10_image 43 = .ok (.iload_n 1, 1) := by decide +kernel
theorem dX10_image_44 : decode cX10_image 44 = .ok (.iconst 5, 1) := by decide +kernel
theorem dX10_image_45 : decode cX10_image 45 = .ok (.if_icmp .ge 23, 3) := by decide +kernel
theorem dX10_image_48 : decode cX10_image 48 = .ok (.aload_n 0, 1) := by decide +kernel
theorem dX10_image_49 : decode cX10_image 49 = .ok (.getfield 69, 3) := by decide +kernel
theorem dX10_image_52 : decode cX10_image 52 = .ok (.iconst 3, 1) := by decide +kernel
theorem dX10_image_53 : decode cX10_image 53 = .ok (.iload_n 1, 1) := by decide +kernel
theorem dX10_image_54 : decode cX10_image 54 = .ok (.iadd, 1) := by decide +kernel
theorem dX10_image_55 : decode cX10_image 55 = .ok (.aload_n 0, 1) := by decide +kernel
theorem dX10_image_56 : decode cX10_image 56 = .ok (.getfield 66, 3) := by decide +kernel
theorem dX10_image_59 : decode cX10_image 59 = .ok (.iload_n 1, 1) := by decide +kernel
theorem dX10_image_60 : decode cX10_image 60 = .ok (.iaload, 1) := by decide +kernel
theorem dX10_image_61 : decode cX10_image 61 = .ok (.iastore, 1) := by decide +kernel
theorem dX10_image_62 : decode cX10_image 62 = .ok (.iinc 1 1, 3) := by decide +kernel
theorem dX10_image_65 : decode cX10_image 65 = .ok (.goto (-22), 3) := by decide +kernel
theorem dX10_image_68 : decode cX10_image 68 = .ok (.aload_n 0, 1) := by decide +kernel
theorem dX10_image_69 : decode cX10_image 69 = .ok (.invokevirtual 246, 3) := by decide +kernel
theorem dX10_image_72 : decode cX10_image 72 = .ok (.ireturn, 1) := by decide +kernel
abbrev rX10_image : Room := { frames := 1, cells := 0, slots := 0, locals := 20 }
def mX10_image_b43    : Nat → gS → Int32 → Option (Int32 × gS)
  | 0, _, _ => none
  | n + 1, σ, x6 => if 5 ≤ x6 then (gBind (mX10_now σ ) (fun r7 s8 => some (r7, s8))) else (if inbB x6 5 = true then (if inbB (3 + x6) 8 = true then gLet (gUI σ 72 (Int32.toNatClampNeg (3 + x6)) (σ.1 71 (Int32.toNatClampNeg x6))) (fun s9 => gLet (x6 + 1) (fun v10 => ((mX10_image_b43  n) s9 v10))) else none) else none)
set_option maxHeartbeats 4000000 in
set_option maxRecDepth 100000 in
theorem wX10_image_b43 {p : Program} {l : Launch} {e : Env} {s : State} {m : MethodId} {args : Array Value} {below : List Frame} {meth : Method} {c : Code} {G : gE} (hC : gCx p s m args meth c G RX10 cX10_image 2 (some .int))     (n : Nat) (σ : gS) (x6 : Int32)  : gT p l e rX10_image s m args below meth c G 2 iI σ 43 [(0, .ref (G.2.1 52)), (1, .int x6)] [] (mX10_image_b43  n σ x6) := by
  induction n generalizing σ x6 with
  | zero => exact gT_none
  | succ n ih =>
    unfold mX10_image_b43
    refine g_iload_n (pc := 43) (q := 1) hC dX10_image_43 rfl rfl ?_
    refine g_iconst (pc := 44) (v := 5) hC dX10_image_44 (by decide) ?_
    refine g_icmp_ge (pc := 45) (tgt := 68) hC dX10_image_45 (by decide) ?_ ?_
    · refine g_aload_n (pc := 68) (q := 0) hC dX10_image_68 rfl rfl ?_
      refine g_callVi (pc := 69) (As := []) (rest := []) hC lk_RX10_246 kX10 rfl (tX10_now _ _ σ ) rfl rfl (Nat.le_of_ble_eq_true rfl) ⟨rfl, rfl, Nat.le_of_ble_eq_true rfl, Nat.le_of_ble_eq_true rfl⟩ dX10_image_69 (fun r7 s8 => ?_)
      exact g_iret (pc := 72) hC dX10_image_72
    · refine g_aload_n (pc := 48) (q := 0) hC dX10_image_48 rfl rfl ?_
      refine g_get (pc := 49) (v := .ref (G.2.1 72)) hC kX10 rfl 29 (by decide) fl_RX10_69 rfl dX10_image_49 ?_
      refine g_iconst (pc := 52) (v := 3) hC dX10_image_52 (by decide) ?_
      refine g_iload_n (pc := 53) (q := 1) hC dX10_image_53 rfl rfl ?_
      refine g_iadd (pc := 54) hC dX10_image_54 ?_
      refine g_aload_n (pc := 55) (q := 0) hC dX10_image_55 rfl rfl ?_
      refine g_get (pc := 56) (v := .ref (G.2.1 71)) hC kX10 rfl 27 (by decide) fl_RX10_66 rfl dX10_image_56 ?_
      refine g_iload_n (pc := 59) (q := 1) hC dX10_image_59 rfl rfl ?_
      refine g_iald (pc := 60) hC 5 rfl (by decide) dX10_image_60 ?_
      refine g_iast (pc := 61) hC 8 rfl (by decide) dX10_image_61 (fun s9 => ?_)
      refine g_iinc (pc := 62) (q := 1) (w := 1) (lv' := fun v10 => [(1, .int v10), (0, .ref (G.2.1 52))]) hC dX10_image_62 rfl (by decide) (by decide) (fun _ => rfl) (fun v10 => ?_)
      refine g_goto (pc := 65) (tgt := 43) hC dX10_image_65 (by decide) ?_
      exact gT_sub [1, 0] rfl (ih s9 v10)
def mX10_image (σ : gS)  : Option (Int32 × gS) := gLet (gUI σ 52 28 1) (fun s1 => if inbB 0 5 = true then (if inbB 0 8 = true then gLet (gUI s1 72 (Int32.toNatClampNeg 0) (s1.1 59 (Int32.toNatClampNeg 0))) (fun s2 => if inbB 1 5 = true then (if inbB 1 8 = true then gLet (gUI s2 72 (Int32.toNatClampNeg 1) (s2.1 59 (Int32.toNatClampNeg 1))) (fun s3 => if inbB 4 5 = true then (if inbB 2 8 = true then gLet (gUI s3 72 (Int32.toNatClampNeg 2) (s3.1 59 (Int32.toNatClampNeg 4))) (fun s4 => gLet 0 (fun v5 => (mX10_image_b43  1100 s4 v5))) else none) else none) else none) else none) else none) else none)
set_option maxHeartbeats 4000000 in
set_option maxRecDepth 100000 in
theorem tX10_image (l : Launch) (G : gE) (σ : gS)  : gM l G yX10_image cX10_image 2 (some .int) rX10_image iI [.ref (G.2.1 52)] σ (mX10_image σ ) := by
  refine gM_of (by decide) (Nat.le_of_ble_eq_true rfl) ?_
  intro p e s m args below meth c hC
  unfold mX10_image
  show gT p l e rX10_image s m args below meth c G 2 iI σ 0 [(0, .ref (G.2.1 52))] [] _
  refine g_aload_n (pc := 0) (q := 0) hC dX10_image_0 rfl rfl ?_
  refine g_iconst (pc := 1) (v := 1) hC dX10_image_1 (by decide) ?_
  refine g_puti (pc := 2) (fty := .boolean) hC kX10 rfl 28 (by decide) fl_RX10_330 rfl rfl (by decide) rfl (fun _ _ => Nat.le_of_ble_eq_true rfl) (fun _ _ => rfl) dX10_image_2 (fun s1 => ?_)
  refine g_aload_n (pc := 5) (q := 0) hC dX10_image_5 rfl rfl ?_
  refine g_get (pc := 6) (v := .ref (G.2.1 72)) hC kX10 rfl 29 (by decide) fl_RX10_69 rfl dX10_image_6 ?_
  refine g_iconst (pc := 9) (v := 0) hC dX10_image_9 (by decide) ?_
  refine g_aload_n (pc := 10) (q := 0) hC dX10_image_10 rfl rfl ?_
  refine g_get (pc := 11) (v := .ref (G.2.1 59)) hC kX10 rfl 8 (by decide) fl_RX10_30 rfl dX10_image_11 ?_
  refine g_iconst (pc := 14) (v := 0) hC dX10_image_14 (by decide) ?_
  refine g_iald (pc := 15) hC 5 rfl (by decide) dX10_image_15 ?_
  refine g_iast (pc := 16) hC 8 rfl (by decide) dX10_image_16 (fun s2 => ?_)
  refine g_aload_n (pc := 17) (q := 0) hC dX10_image_17 rfl rfl ?_
  refine g_get (pc := 18) (v := .ref (G.2.1 72)) hC kX10 rfl 29 (by decide) fl_RX10_69 rfl dX10_image_18 ?_
  refine g_iconst (pc := 21) (v := 1) hC dX10_image_21 (by decide) ?_
  refine g_aload_n (pc := 22) (q := 0) hC dX10_image_22 rfl rfl ?_
  refine g_get (pc := 23) (v := .ref (G.2.1 59)) hC kX10 rfl 8 (by decide) fl_RX10_30 rfl dX10_image_23 ?_
  refine g_iconst (pc := 26) (v := 1) hC dX10_image_26 (by decide) ?_
  refine g_iald (pc := 27) hC 5 rfl (by decide) dX10_image_27 ?_
  refine g_iast (pc := 28) hC 8 rfl (by decide) dX10_image_28 (fun s3 => ?_)
  refine g_aload_n (pc := 29) (q := 0) hC dX10_image_29 rfl rfl ?_
  refine g_get (pc := 30) (v := .ref (G.2.1 72)) hC kX10 rfl 29 (by decide) fl_RX10_69 rfl dX10_image_30 ?_
  refine g_iconst (pc := 33) (v := 2) hC dX10_image_33 (by decide) ?_
  refine g_aload_n (pc := 34) (q := 0) hC dX10_image_34 rfl rfl ?_
  refine g_get (pc := 35) (v := .ref (G.2.1 59)) hC kX10 rfl 8 (by decide) fl_RX10_30 rfl dX10_image_35 ?_
  refine g_iconst (pc := 38) (v := 4) hC dX10_image_38 (by decide) ?_
  refine g_iald (pc := 39) hC 5 rfl (by decide) dX10_image_39 ?_
  refine g_iast (pc := 40) hC 8 rfl (by decide) dX10_image_40 (fun s4 => ?_)
  refine g_iconst (pc := 41) (v := 0) hC dX10_image_41 (by decide) ?_
  refine g_istore_n (pc := 42) (lv' := fun v5 => [(1, .int v5), (0, .ref (G.2.1 52))]) hC dX10_image_42 rfl (by decide) (fun _ => rfl) (fun v5 => ?_)
  exact gT_sub [1, 0] rfl (wX10_image_b43 hC  1100 s4 v5)
theorem dX10_back_0 : decode cX10_back 0 = .ok (.aload_n 0, 1) := by decide +kernel
theorem dX10_back_1 : decode cX10_back 1 = .ok (.getfield 330, 3) := by decide +kernel
theorem dX10_back_4 : decode cX10_back 4 = .ok (.ifCond .ne 6, 3) := by decide +kernel
theorem dX10_back_7 : decode cX10_back 7 = .ok (.bipush (-5), 2) := by decide +kernel
theorem dX10_back_9 : decode cX10_back 9 = .ok (.ireturn, 1) := by decide +kernel
theorem dX10_back_10 : decode cX10_back 10 = .ok (.aload_n 0, 1) := by decide +kernel
theorem dX10_back_11 : decode cX10_back 11 = .ok (.getfield 30, 3) := by decide +kernel
theorem dX10_back_14 : decode cX10_back 14 = .ok (.iconst 0, 1) := by decide +kernel
theorem dX10_back_15 : decode cX10_back 15 = .ok (.aload_n 0, 1) := by decide +kernel
theorem dX10_back_16 : decode cX10_back 16 = .ok (.getfield 69, 3) := by decide +kernel
theorem dX10_back_19 : decode cX10_back 19 = .ok (.iconst 0, 1) := by decide +kernel
theorem dX10_back_20 : decode cX10_back 20 = .ok (.iaload, 1) := by decide +kernel
theorem dX10_back_21 : decode cX10_back 21 = .ok (.iastore, 1) := by decide +kernel
theorem dX10_back_22 : decode cX10_back 22 = .ok (.aload_n 0, 1) := by decide +kernel
theorem dX10_back_23 : decode cX10_back 23 = .ok (.getfield 30, 3) := by decide +kernel
theorem dX10_back_26 : decode cX10_back 26 = .ok (.iconst 1, 1) := by decide +kernel
theorem dX10_back_27 : decode cX10_back 27 = .ok (.aload_n 0, 1) := by decide +kernel
theorem dX10_back_28 : decode cX10_back 28 = .ok (.getfield 69, 3) := by decide +kernel
theorem dX10_back_31 : decode cX10_back 31 = .ok (.iconst 1, 1) := by decide +kernel
theorem dX10_back_32 : decode cX10_back 32 = .ok (.iaload, 1) := by decide +kernel
theorem dX10_back_33 : decode cX10_back 33 = .ok (.iastore, 1) := by decide +kernel
theorem dX10_back_34 : decode cX10_back 34 = .ok (.aload_n 0, 1) := by decide +kernel
theorem dX10_back_35 : decode cX10_back 35 = .ok (.getfield 30, 3) := by decide +kernel
theorem dX10_back_38 : decode cX10_back 38 = .ok (.iconst 4, 1) := by decide +kernel
theorem dX10_back_39 : decode cX10_back 39 = .ok (.aload_n 0, 1) := by decide +kernel
theorem dX10_back_40 : decode cX10_back 40 = .ok (.getfield 69, 3) := by decide +kernel
theorem dX10_back_43 : decode cX10_back 43 = .ok (.iconst 2, 1) := by decide +kernel
theorem dX10_back_44 : decode cX10_back 44 = .ok (.iaload, 1) := by decide +kernel
theorem dX10_back_45 : decode cX10_back 45 = .ok (.iastore, 1) := by decide +kernel
theorem dX10_back_46 : decode cX10_back 46 = .ok (.iconst 0, 1) := by decide +kernel
theorem dX10_back_47 : decode cX10_back 47 = .ok (.istore_n 1, 1) := by decide +kernel
theorem dX10_back_48 : decode cX10_back 48 = .ok (.iload_n 1, 1) := by decide +kernel
theorem dX10_back_49 : decode cX10_back 49 = .ok (.iconst 5, 1) := by decide +kernel
theorem dX10_back_50 : decode cX10_back 50 = .ok (.if_icmp .ge 23, 3) := by decide +kernel
theorem dX10_back_53 : decode cX10_back 53 = .ok (.aload_n 0, 1) := by decide +kernel
theorem dX10_back_54 : decode cX10_back 54 = .ok (.getfield 66, 3) := by decide +kernel
theorem dX10_back_57 : decode cX10_back 57 = .ok (.iload_n 1, 1) := by decide +kernel
theorem dX10_back_58 : decode cX10_back 58 = .ok (.aload_n 0, 1) := by decide +kernel
theorem dX10_back_59 : decode cX10_back 59 = .ok (.getfield 69, 3) := by decide +kernel
theorem dX10_back_62 : decode cX10_back 62 = .ok (.iconst 3, 1) := by decide +kernel
theorem dX10_back_63 : decode cX10_back 63 = .ok (.iload_n 1, 1) := by decide +kernel
theorem dX10_back_64 : decode cX10_back 64 = .ok (.iadd, 1) := by decide +kernel
theorem dX10_back_65 : decode cX10_back 65 = .ok (.iaload, 1) := by decide +kernel
theorem dX10_back_66 : decode cX10_back 66 = .ok (.iastore, 1) := by decide +kernel
theorem dX10_back_67 : decode cX10_back 67 = .ok (.iinc 1 1, 3) := by decide +kernel
theorem dX10_back_70 : decode cX10_back 70 = .ok (.goto (-22), 3) := by decide +kernel
theorem dX10_back_73 : decode cX10_back 73 = .ok (.aload_n 0, 1) := by decide +kernel
theorem dX10_back_74 : decode cX10_back 74 = .ok (.invokevirtual 246, 3) := by decide +kernel
theorem dX10_back_77 : decode cX10_back 77 = .ok (.ireturn, 1) := by decide +kernel
abbrev rX10_back : Room := { frames := 1, cells := 0, slots := 0, locals := 20 }
def mX10_back_b48    : Nat → gS → Int32 → Option (Int32 × gS)
  | 0, _, _ => none
  | n + 1, σ, x5 => if 5 ≤ x5 then (gBind (mX10_now σ ) (fun r6 s7 => some (r6, s7))) else (if inbB (3 + x5) 8 = true then (if inbB x5 5 = true then gLet (gUI σ 71 (Int32.toNatClampNeg x5) (σ.1 72 (Int32.toNatClampNeg (3 + x5)))) (fun s8 => gLet (x5 + 1) (fun v9 => ((mX10_back_b48  n) s8 v9))) else none) else none)
set_option maxHeartbeats 4000000 in
set_option maxRecDepth 100000 in
theorem wX10_back_b48 {p : Program} {l : Launch} {e : Env} {s : State} {m : MethodId} {args : Array Value} {below : List Frame} {meth : Method} {c : Code} {G : gE} (hC : gCx p s m args meth c G RX10 cX10_back 2 (some .int))     (n : Nat) (σ : gS) (x5 : Int32)  : gT p l e rX10_back s m args below meth c G 2 iI σ 48 [(0, .ref (G.2.1 52)), (1, .int x5)] [] (mX10_back_b48  n σ x5) := by
  induction n generalizing σ x5 with
  | zero => exact gT_none
  | succ n ih =>
    unfold mX10_back_b48
    refine g_iload_n (pc := 48) (q := 1) hC dX10_back_48 rfl rfl ?_
    refine g_iconst (pc := 49) (v := 5) hC dX10_back_49 (by decide) ?_
    refine g_icmp_ge (pc := 50) (tgt := 73) hC dX10_back_50 (by decide) ?_ ?_
    · refine g_aload_n (pc := 73) (q := 0) hC dX10_back_73 rfl rfl ?_
      refine g_callVi (pc := 74) (As := []) (rest := []) hC lk_RX10_246 kX10 rfl (tX10_now _ _ σ ) rfl rfl (Nat.le_of_ble_eq_true rfl) ⟨rfl, rfl, Nat.le_of_ble_eq_true rfl, Nat.le_of_ble_eq_true rfl⟩ dX10_back_74 (fun r6 s7 => ?_)
      exact g_iret (pc := 77) hC dX10_back_77
    · refine g_aload_n (pc := 53) (q := 0) hC dX10_back_53 rfl rfl ?_
      refine g_get (pc := 54) (v := .ref (G.2.1 71)) hC kX10 rfl 27 (by decide) fl_RX10_66 rfl dX10_back_54 ?_
      refine g_iload_n (pc := 57) (q := 1) hC dX10_back_57 rfl rfl ?_
      refine g_aload_n (pc := 58) (q := 0) hC dX10_back_58 rfl rfl ?_
      refine g_get (pc := 59) (v := .ref (G.2.1 72)) hC kX10 rfl 29 (by decide) fl_RX10_69 rfl dX10_back_59 ?_
      refine g_iconst (pc := 62) (v := 3) hC dX10_back_62 (by decide) ?_
      refine g_iload_n (pc := 63) (q := 1) hC dX10_back_63 rfl rfl ?_
      refine g_iadd (pc := 64) hC dX10_back_64 ?_
      refine g_iald (pc := 65) hC 8 rfl (by decide) dX10_back_65 ?_
      refine g_iast (pc := 66) hC 5 rfl (by decide) dX10_back_66 (fun s8 => ?_)
      refine g_iinc (pc := 67) (q := 1) (w := 1) (lv' := fun v9 => [(1, .int v9), (0, .ref (G.2.1 52))]) hC dX10_back_67 rfl (by decide) (by decide) (fun _ => rfl) (fun v9 => ?_)
      refine g_goto (pc := 70) (tgt := 48) hC dX10_back_70 (by decide) ?_
      exact gT_sub [1, 0] rfl (ih s8 v9)
def mX10_back (σ : gS)  : Option (Int32 × gS) := if (σ.1 52 28) = 0 then (some ((-5), σ)) else (if inbB 0 8 = true then (if inbB 0 5 = true then gLet (gUI σ 59 (Int32.toNatClampNeg 0) (σ.1 72 (Int32.toNatClampNeg 0))) (fun s1 => if inbB 1 8 = true then (if inbB 1 5 = true then gLet (gUI s1 59 (Int32.toNatClampNeg 1) (s1.1 72 (Int32.toNatClampNeg 1))) (fun s2 => if inbB 2 8 = true then (if inbB 4 5 = true then gLet (gUI s2 59 (Int32.toNatClampNeg 4) (s2.1 72 (Int32.toNatClampNeg 2))) (fun s3 => gLet 0 (fun v4 => (mX10_back_b48  1100 s3 v4))) else none) else none) else none) else none) else none) else none)
set_option maxHeartbeats 4000000 in
set_option maxRecDepth 100000 in
theorem tX10_back (l : Launch) (G : gE) (σ : gS)  : gM l G yX10_back cX10_back 2 (some .int) rX10_back iI [.ref (G.2.1 52)] σ (mX10_back σ ) := by
  refine gM_of (by decide) (Nat.le_of_ble_eq_true rfl) ?_
  intro p e s m args below meth c hC
  unfold mX10_back
  show gT p l e rX10_back s m args below meth c G 2 iI σ 0 [(0, .ref (G.2.1 52))] [] _
  refine g_aload_n (pc := 0) (q := 0) hC dX10_back_0 rfl rfl ?_
  refine g_get (pc := 1) (v := .int (σ.1 52 28)) hC kX10 rfl 28 (by decide) fl_RX10_330 rfl dX10_back_1 ?_
  refine g_if_ne (pc := 4) (tgt := 10) hC dX10_back_4 (by decide) ?_ ?_
  · refine g_aload_n (pc := 10) (q := 0) hC dX10_back_10 rfl rfl ?_
    refine g_get (pc := 11) (v := .ref (G.2.1 59)) hC kX10 rfl 8 (by decide) fl_RX10_30 rfl dX10_back_11 ?_
    refine g_iconst (pc := 14) (v := 0) hC dX10_back_14 (by decide) ?_
    refine g_aload_n (pc := 15) (q := 0) hC dX10_back_15 rfl rfl ?_
    refine g_get (pc := 16) (v := .ref (G.2.1 72)) hC kX10 rfl 29 (by decide) fl_RX10_69 rfl dX10_back_16 ?_
    refine g_iconst (pc := 19) (v := 0) hC dX10_back_19 (by decide) ?_
    refine g_iald (pc := 20) hC 8 rfl (by decide) dX10_back_20 ?_
    refine g_iast (pc := 21) hC 5 rfl (by decide) dX10_back_21 (fun s1 => ?_)
    refine g_aload_n (pc := 22) (q := 0) hC dX10_back_22 rfl rfl ?_
    refine g_get (pc := 23) (v := .ref (G.2.1 59)) hC kX10 rfl 8 (by decide) fl_RX10_30 rfl dX10_back_23 ?_
    refine g_iconst (pc := 26) (v := 1) hC dX10_back_26 (by decide) ?_
    refine g_aload_n (pc := 27) (q := 0) hC dX10_back_27 rfl rfl ?_
    refine g_get (pc := 28) (v := .ref (G.2.1 72)) hC kX10 rfl 29 (by decide) fl_RX10_69 rfl dX10_back_28 ?_
    refine g_iconst (pc := 31) (v := 1) hC dX10_back_31 (by decide) ?_
    refine g_iald (pc := 32) hC 8 rfl (by decide) dX10_back_32 ?_
    refine g_iast (pc := 33) hC 5 rfl (by decide) dX10_back_33 (fun s2 => ?_)
    refine g_aload_n (pc := 34) (q := 0) hC dX10_back_34 rfl rfl ?_
    refine g_get (pc := 35) (v := .ref (G.2.1 59)) hC kX10 rfl 8 (by decide) fl_RX10_30 rfl dX10_back_35 ?_
    refine g_iconst (pc := 38) (v := 4) hC dX10_back_38 (by decide) ?_
    refine g_aload_n (pc := 39) (q := 0) hC dX10_back_39 rfl rfl ?_
    refine g_get (pc := 40) (v := .ref (G.2.1 72)) hC kX10 rfl 29 (by decide) fl_RX10_69 rfl dX10_back_40 ?_
    refine g_iconst (pc := 43) (v := 2) hC dX10_back_43 (by decide) ?_
    refine g_iald (pc := 44) hC 8 rfl (by decide) dX10_back_44 ?_
    refine g_iast (pc := 45) hC 5 rfl (by decide) dX10_back_45 (fun s3 => ?_)
    refine g_iconst (pc := 46) (v := 0) hC dX10_back_46 (by decide) ?_
    refine g_istore_n (pc := 47) (lv' := fun v4 => [(1, .int v4), (0, .ref (G.2.1 52))]) hC dX10_back_47 rfl (by decide) (fun _ => rfl) (fun v4 => ?_)
    exact gT_sub [1, 0] rfl (wX10_back_b48 hC  1100 s3 v4)
  · refine g_bipush (pc := 7) (v := (-5)) hC dX10_back_7 (by decide) ?_
    exact g_iret (pc := 9) hC dX10_back_9
theorem dX10_above_0 : decode cX10_above 0 = .ok (.iload_n 0, 1) := by decide +kernel
theorem dX10_above_1 : decode cX10_above 1 = .ok (.tableswitch 43 3 7 #[35, 37, 39, 43, 41], 35) := by decide +kernel
theorem dX10_above_36 : decode cX10_above 36 = .ok (.iconst 2, 1) := by decide +kernel
theorem dX10_above_37 : decode cX10_above 37 = .ok (.ireturn, 1) := by decide +kernel
theorem dX10_above_38 : decode cX10_above 38 = .ok (.iconst 1, 1) := by decide +kernel
theorem dX10_above_39 : decode cX10_above 39 = .ok (.ireturn, 1) := by decide +kernel
theorem dX10_above_40 : decode cX10_above 40 = .ok (.iconst 3, 1) := by decide +kernel
theorem dX10_above_41 : decode cX10_above 41 = .ok (.ireturn, 1) := by decide +kernel
theorem dX10_above_42 : decode cX10_above 42 = .ok (.iconst 4, 1) := by decide +kernel
theorem dX10_above_43 : decode cX10_above 43 = .ok (.ireturn, 1) := by decide +kernel
theorem dX10_above_44 : decode cX10_above 44 = .ok (.iconst 0, 1) := by decide +kernel
theorem dX10_above_45 : decode cX10_above 45 = .ok (.ireturn, 1) := by decide +kernel
abbrev rX10_above : Room := { frames := 0, cells := 0, slots := 0, locals := 0 }
def mX10_above (σ : gS) (p0 : Int32) : Option (Int32 × gS) := if p0 = 3 then (some (2, σ)) else (if p0 = 4 then (some (1, σ)) else (if p0 = 5 then (some (3, σ)) else (if p0 = 6 then (some (0, σ)) else (if p0 = 7 then (some (4, σ)) else (some (0, σ))))))
set_option maxHeartbeats 4000000 in
set_option maxRecDepth 100000 in
theorem tX10_above (l : Launch) (G : gE) (σ : gS) (p0 : Int32) : gM l G yX10_above cX10_above 1 (some .int) rX10_above iI [.int p0] σ (mX10_above σ p0) := by
  refine gM_of (by decide) (Nat.le_of_ble_eq_true rfl) ?_
  intro p e s m args below meth c hC
  unfold mX10_above
  show gT p l e rX10_above s m args below meth c G 1 iI σ 0 [(0, .int p0)] [] _
  refine g_iload_n (pc := 0) (q := 0) hC dX10_above_0 rfl rfl ?_
  refine gT_if (fun c100 => ?_) (fun c100 => ?_)
  · refine g_tabIn (tgt := 36) (off := 35) hC dX10_above_1 c100 (by decide) (by decide) (by decide) (by decide) ?_
    refine g_iconst (pc := 36) (v := 2) hC dX10_above_36 (by decide) ?_
    exact g_iret (pc := 37) hC dX10_above_37
  · refine gT_if (fun c101 => ?_) (fun c101 => ?_)
    · refine g_tabIn (tgt := 38) (off := 37) hC dX10_above_1 c101 (by decide) (by decide) (by decide) (by decide) ?_
      refine g_iconst (pc := 38) (v := 1) hC dX10_above_38 (by decide) ?_
      exact g_iret (pc := 39) hC dX10_above_39
    · refine gT_if (fun c102 => ?_) (fun c102 => ?_)
      · refine g_tabIn (tgt := 40) (off := 39) hC dX10_above_1 c102 (by decide) (by decide) (by decide) (by decide) ?_
        refine g_iconst (pc := 40) (v := 3) hC dX10_above_40 (by decide) ?_
        exact g_iret (pc := 41) hC dX10_above_41
      · refine gT_if (fun c103 => ?_) (fun c103 => ?_)
        · refine g_tabIn (tgt := 44) (off := 43) hC dX10_above_1 c103 (by decide) (by decide) (by decide) (by decide) ?_
          refine g_iconst (pc := 44) (v := 0) hC dX10_above_44 (by decide) ?_
          exact g_iret (pc := 45) hC dX10_above_45
        · refine gT_if (fun c104 => ?_) (fun c104 => ?_)
          · refine g_tabIn (tgt := 42) (off := 41) hC dX10_above_1 c104 (by decide) (by decide) (by decide) (by decide) ?_
            refine g_iconst (pc := 42) (v := 4) hC dX10_above_42 (by decide) ?_
            exact g_iret (pc := 43) hC dX10_above_43
          · refine g_tabOut (tgt := 44) hC dX10_above_1 (by have q0 := gne c100 (n := 3) rfl; have q1 := gne c101 (n := 4) rfl; have q2 := gne c102 (n := 5) rfl; have q3 := gne c103 (n := 6) rfl; have q4 := gne c104 (n := 7) rfl; omega) (by decide) ?_
            refine g_iconst (pc := 44) (v := 0) hC dX10_above_44 (by decide) ?_
            exact g_iret (pc := 45) hC dX10_above_45
theorem fl_RX10_333 : Cond.fieldLink RX10 333 "WinterShedModel" "traced" "I" ∈ gBig := (gBig_tab 1088 (by decide +kernel) (by decide +kernel))
theorem dX10_ran_0 : decode cX10_ran 0 = .ok (.aload_n 0, 1) := by decide +kernel
theorem dX10_ran_1 : decode cX10_ran 1 = .ok (.getfield 333, 3) := by decide +kernel
theorem dX10_ran_4 : decode cX10_ran 4 = .ok (.bipush 24, 2) := by decide +kernel
theorem dX10_ran_6 : decode cX10_ran 6 = .ok (.if_icmp .ge 13, 3) := by decide +kernel
theorem dX10_ran_9 : decode cX10_ran 9 = .ok (.aload_n 0, 1) := by decide +kernel
theorem dX10_ran_10 : decode cX10_ran 10 = .ok (.getfield 78, 3) := by decide +kernel
theorem dX10_ran_13 : decode cX10_ran 13 = .ok (.aload_n 0, 1) := by decide +kernel
theorem dX10_ran_14 : decode cX10_ran 14 = .ok (.getfield 333, 3) := by decide +kernel
theorem dX10_ran_17 : decode cX10_ran 17 = .ok (.iload_n 1, 1) := by decide +kernel
theorem dX10_ran_18 : decode cX10_ran 18 = .ok (.iastore, 1) := by decide +kernel
theorem dX10_ran_19 : decode cX10_ran 19 = .ok (.aload_n 0, 1) := by decide +kernel
theorem dX10_ran_20 : decode cX10_ran 20 = .ok (.dup, 1) := by decide +kernel
theorem dX10_ran_21 : decode cX10_ran 21 = .ok (.getfield 333, 3) := by decide +kernel
theorem dX10_ran_24 : decode cX10_ran 24 = .ok (.iconst 1, 1) := by decide +kernel
theorem dX10_ran_25 : decode cX10_ran 25 = .ok (.iadd, 1) := by decide +kernel
theorem dX10_ran_26 : decode cX10_ran 26 = .ok (.putfield 333, 3) := by decide +kernel
theorem dX10_ran_29 : decode cX10_ran 29 = .ok (.return_, 1) := by decide +kernel
abbrev rX10_ran : Room := { frames := 0, cells := 0, slots := 0, locals := 0 }
def mX10_ran_b19    (σ : gS)  : Option (Unit × gS) := gLet (gUI σ 52 35 ((σ.1 52 35) + 1)) (fun s1 => some ((), s1))
set_option maxHeartbeats 4000000 in
set_option maxRecDepth 100000 in
theorem wX10_ran_b19 {p : Program} {l : Launch} {e : Env} {s : State} {m : MethodId} {args : Array Value} {below : List Frame} {meth : Method} {c : Code} {G : gE} (hC : gCx p s m args meth c G RX10 cX10_ran 2 (none))     (σ : gS)   : gT p l e rX10_ran s m args below meth c G 2 iV σ 19 [(0, .ref (G.2.1 52))] [] (mX10_ran_b19  σ ) := by
  unfold mX10_ran_b19
  refine g_aload_n (pc := 19) (q := 0) hC dX10_ran_19 rfl rfl ?_
  refine g_dup (pc := 20) hC dX10_ran_20 rfl ?_
  refine g_get (pc := 21) (v := .int (σ.1 52 35)) hC kX10 rfl 35 (by decide) fl_RX10_333 rfl dX10_ran_21 ?_
  refine g_iconst (pc := 24) (v := 1) hC dX10_ran_24 (by decide) ?_
  refine g_iadd (pc := 25) hC dX10_ran_25 ?_
  refine g_puti (pc := 26) (fty := .int) hC kX10 rfl 35 (by decide) fl_RX10_333 rfl rfl rfl rfl (fun _ _ => Nat.le_of_ble_eq_true rfl) (fun _ _ => rfl) dX10_ran_26 (fun s1 => ?_)
  exact g_vret (pc := 29) hC dX10_ran_29
def mX10_ran (σ : gS) (p0 : Int32) : Option (Unit × gS) := if 24 ≤ (σ.1 52 35) then ((mX10_ran_b19  σ )) else (if inbB (σ.1 52 35) 24 = true then gLet (gUI σ 75 (Int32.toNatClampNeg (σ.1 52 35)) p0) (fun s2 => (mX10_ran_b19  s2 )) else none)
set_option maxHeartbeats 4000000 in
set_option maxRecDepth 100000 in
theorem tX10_ran (l : Launch) (G : gE) (σ : gS) (p0 : Int32) : gM l G yX10_ran cX10_ran 2 (none) rX10_ran iV [.ref (G.2.1 52), .int p0] σ (mX10_ran σ p0) := by
  refine gM_of (by decide) (Nat.le_of_ble_eq_true rfl) ?_
  intro p e s m args below meth c hC
  unfold mX10_ran
  show gT p l e rX10_ran s m args below meth c G 2 iV σ 0 [(0, .ref (G.2.1 52)), (1, .int p0)] [] _
  refine g_aload_n (pc := 0) (q := 0) hC dX10_ran_0 rfl rfl ?_
  refine g_get (pc := 1) (v := .int (σ.1 52 35)) hC kX10 rfl 35 (by decide) fl_RX10_333 rfl dX10_ran_1 ?_
  refine g_bipush (pc := 4) (v := 24) hC dX10_ran_4 (by decide) ?_
  refine g_icmp_ge (pc := 6) (tgt := 19) hC dX10_ran_6 (by decide) ?_ ?_
  · exact gT_sub [0] rfl (wX10_ran_b19 hC  σ )
  · refine g_aload_n (pc := 9) (q := 0) hC dX10_ran_9 rfl rfl ?_
    refine g_get (pc := 10) (v := .ref (G.2.1 75)) hC kX10 rfl 36 (by decide) fl_RX10_78 rfl dX10_ran_10 ?_
    refine g_aload_n (pc := 13) (q := 0) hC dX10_ran_13 rfl rfl ?_
    refine g_get (pc := 14) (v := .int (σ.1 52 35)) hC kX10 rfl 35 (by decide) fl_RX10_333 rfl dX10_ran_14 ?_
    refine g_iload_n (pc := 17) (q := 1) hC dX10_ran_17 rfl rfl ?_
    refine g_iast (pc := 18) hC 24 rfl (by decide) dX10_ran_18 (fun s2 => ?_)
    exact gT_sub [0] rfl (wX10_ran_b19 hC  s2 )
theorem fl_RX10_354 : Cond.fieldLink RX10 354 "WinterShedModel" "bodies" "I" ∈ gBig := (gBig_tab 1086 (by decide +kernel) (by decide +kernel))
theorem dX10_body_0 : decode cX10_body 0 = .ok (.iload_n 1, 1) := by decide +kernel
theorem dX10_body_1 : decode cX10_body 1 = .ok (.iconst 0, 1) := by decide +kernel
theorem dX10_body_2 : decode cX10_body 2 = .ok (.bipush 7, 2) := by decide +kernel
theorem dX10_body_4 : decode cX10_body 4 = .ok (.invokestatic 110, 3) := by decide +kernel
theorem dX10_body_7 : decode cX10_body 7 = .ok (.ifCond .ne 5, 3) := by decide +kernel
theorem dX10_body_10 : decode cX10_body 10 = .ok (.iconst (-1), 1) := by decide +kernel
theorem dX10_body_11 : decode cX10_body 11 = .ok (.ireturn, 1) := by decide +kernel
theorem dX10_body_12 : decode cX10_body 12 = .ok (.aload_n 0, 1) := by decide +kernel
theorem dX10_body_13 : decode cX10_body 13 = .ok (.getfield 354, 3) := by decide +kernel
theorem dX10_body_16 : decode cX10_body 16 = .ok (.bipush 50, 2) := by decide +kernel
theorem dX10_body_18 : decode cX10_body 18 = .ok (.if_icmp .ne 6, 3) := by decide +kernel
theorem dX10_body_21 : decode cX10_body 21 = .ok (.bipush (-3), 2) := by decide +kernel
theorem dX10_body_23 : decode cX10_body 23 = .ok (.ireturn, 1) := by decide +kernel
theorem dX10_body_24 : decode cX10_body 24 = .ok (.aload_n 0, 1) := by decide +kernel
theorem dX10_body_25 : decode cX10_body 25 = .ok (.getfield 75, 3) := by decide +kernel
theorem dX10_body_28 : decode cX10_body 28 = .ok (.aload_n 0, 1) := by decide +kernel
theorem dX10_body_29 : decode cX10_body 29 = .ok (.getfield 354, 3) := by decide +kernel
theorem dX10_body_32 : decode cX10_body 32 = .ok (.iload_n 1, 1) := by decide +kernel
theorem dX10_body_33 : decode cX10_body 33 = .ok (.iastore, 1) := by decide +kernel
theorem dX10_body_34 : decode cX10_body 34 = .ok (.aload_n 0, 1) := by decide +kernel
theorem dX10_body_35 : decode cX10_body 35 = .ok (.dup, 1) := by decide +kernel
theorem dX10_body_36 : decode cX10_body 36 = .ok (.getfield 354, 3) := by decide +kernel
theorem dX10_body_39 : decode cX10_body 39 = .ok (.dup_x1, 1) := by decide +kernel
theorem dX10_body_40 : decode cX10_body 40 = .ok (.iconst 1, 1) := by decide +kernel
theorem dX10_body_41 : decode cX10_body 41 = .ok (.iadd, 1) := by decide +kernel
theorem dX10_body_42 : decode cX10_body 42 = .ok (.putfield 354, 3) := by decide +kernel
theorem dX10_body_45 : decode cX10_body 45 = .ok (.ireturn, 1) := by decide +kernel
abbrev rX10_body : Room := { frames := 1, cells := 0, slots := 0, locals := 22 }
def mX10_body (σ : gS) (p0 : Int32) : Option (Int32 × gS) := gBind (mX10_within σ p0 0 7) (fun r1 s2 => if r1 = true then (if (s2.1 52 33) = 50 then (some ((-3), s2)) else (if inbB (s2.1 52 33) 50 = true then gLet (gUI s2 74 (Int32.toNatClampNeg (s2.1 52 33)) p0) (fun s3 => gLet (gUI s3 52 33 ((s3.1 52 33) + 1)) (fun s4 => some ((s3.1 52 33), s4))) else none)) else (some ((-1), s2)))
set_option maxHeartbeats 4000000 in
set_option maxRecDepth 100000 in
theorem tX10_body (l : Launch) (G : gE) (σ : gS) (p0 : Int32) : gM l G yX10_body cX10_body 2 (some .int) rX10_body iI [.ref (G.2.1 52), .int p0] σ (mX10_body σ p0) := by
  refine gM_of (by decide) (Nat.le_of_ble_eq_true rfl) ?_
  intro p e s m args below meth c hC
  unfold mX10_body
  show gT p l e rX10_body s m args below meth c G 2 iI σ 0 [(0, .ref (G.2.1 52)), (1, .int p0)] [] _
  refine g_iload_n (pc := 0) (q := 1) hC dX10_body_0 rfl rfl ?_
  refine g_iconst (pc := 1) (v := 0) hC dX10_body_1 (by decide) ?_
  refine g_bipush (pc := 2) (v := 7) hC dX10_body_2 (by decide) ?_
  refine g_callSz (pc := 4) (As := [.int p0, .int 0, .int 7]) (rest := []) hC lk_RX10_110 (tX10_within _ _ σ p0 0 7) rfl rfl (Nat.le_of_ble_eq_true rfl) ⟨rfl, rfl, Nat.le_of_ble_eq_true rfl, Nat.le_of_ble_eq_true rfl⟩ dX10_body_4 (fun r1 s2 => ?_)
  refine g_bif_ne (pc := 7) (tgt := 12) hC dX10_body_7 (by decide) ?_ ?_
  · refine g_aload_n (pc := 12) (q := 0) hC dX10_body_12 rfl rfl ?_
    refine g_get (pc := 13) (v := .int (s2.1 52 33)) hC kX10 rfl 33 (by decide) fl_RX10_354 rfl dX10_body_13 ?_
    refine g_bipush (pc := 16) (v := 50) hC dX10_body_16 (by decide) ?_
    refine g_icmp_ne (pc := 18) (tgt := 24) hC dX10_body_18 (by decide) ?_ ?_
    · refine g_aload_n (pc := 24) (q := 0) hC dX10_body_24 rfl rfl ?_
      refine g_get (pc := 25) (v := .ref (G.2.1 74)) hC kX10 rfl 34 (by decide) fl_RX10_75 rfl dX10_body_25 ?_
      refine g_aload_n (pc := 28) (q := 0) hC dX10_body_28 rfl rfl ?_
      refine g_get (pc := 29) (v := .int (s2.1 52 33)) hC kX10 rfl 33 (by decide) fl_RX10_354 rfl dX10_body_29 ?_
      refine g_iload_n (pc := 32) (q := 1) hC dX10_body_32 rfl rfl ?_
      refine g_iast (pc := 33) hC 50 rfl (by decide) dX10_body_33 (fun s3 => ?_)
      refine g_aload_n (pc := 34) (q := 0) hC dX10_body_34 rfl rfl ?_
      refine g_dup (pc := 35) hC dX10_body_35 rfl ?_
      refine g_get (pc := 36) (v := .int (s3.1 52 33)) hC kX10 rfl 33 (by decide) fl_RX10_354 rfl dX10_body_36 ?_
      refine g_dup_x1 (pc := 39) hC dX10_body_39 rfl rfl ?_
      refine g_iconst (pc := 40) (v := 1) hC dX10_body_40 (by decide) ?_
      refine g_iadd (pc := 41) hC dX10_body_41 ?_
      refine g_puti (pc := 42) (fty := .int) hC kX10 rfl 33 (by decide) fl_RX10_354 rfl rfl rfl rfl (fun _ _ => Nat.le_of_ble_eq_true rfl) (fun _ _ => rfl) dX10_body_42 (fun s4 => ?_)
      exact g_iret (pc := 45) hC dX10_body_45
    · refine g_bipush (pc := 21) (v := (-3)) hC dX10_body_21 (by decide) ?_
      exact g_iret (pc := 23) hC dX10_body_23
  · refine g_iconst (pc := 10) (v := (-1)) hC dX10_body_10 (by decide) ?_
    exact g_iret (pc := 11) hC dX10_body_11
theorem dX10_trace_0 : decode cX10_trace 0 = .ok (.iload_n 1, 1) := by decide +kernel
theorem dX10_trace_1 : decode cX10_trace 1 = .ok (.iconst 0, 1) := by decide +kernel
theorem dX10_trace_2 : decode cX10_trace 2 = .ok (.bipush 24, 2) := by decide +kernel
theorem dX10_trace_4 : decode cX10_trace 4 = .ok (.aload_n 0, 1) := by decide +kernel
theorem dX10_trace_5 : decode cX10_trace 5 = .ok (.getfield 333, 3) := by decide +kernel
theorem dX10_trace_8 : decode cX10_trace 8 = .ok (.invokestatic 232, 3) := by decide +kernel
theorem dX10_trace_11 : decode cX10_trace 11 = .ok (.iconst 1, 1) := by decide +kernel
theorem dX10_trace_12 : decode cX10_trace 12 = .ok (.isub, 1) := by decide +kernel
theorem dX10_trace_13 : decode cX10_trace 13 = .ok (.invokestatic 110, 3) := by decide +kernel
theorem dX10_trace_16 : decode cX10_trace 16 = .ok (.ifCond .eq 12, 3) := by decide +kernel
theorem dX10_trace_19 : decode cX10_trace 19 = .ok (.aload_n 0, 1) := by decide +kernel
theorem dX10_trace_20 : decode cX10_trace 20 = .ok (.getfield 78, 3) := by decide +kernel
theorem dX10_trace_23 : decode cX10_trace 23 = .ok (.iload_n 1, 1) := by decide +kernel
theorem dX10_trace_24 : decode cX10_trace 24 = .ok (.iaload, 1) := by decide +kernel
theorem dX10_trace_25 : decode cX10_trace 25 = .ok (.goto 4, 3) := by decide +kernel
theorem dX10_trace_28 : decode cX10_trace 28 = .ok (.iconst (-1), 1) := by decide +kernel
theorem dX10_trace_29 : decode cX10_trace 29 = .ok (.ireturn, 1) := by decide +kernel
abbrev rX10_trace : Room := { frames := 1, cells := 0, slots := 0, locals := 22 }
def mX10_trace (σ : gS) (p0 : Int32) : Option (Int32 × gS) := gBind (mX10_within σ p0 0 ((gMin 24 (σ.1 52 35)) - 1)) (fun r1 s2 => if r1 = true then (if inbB p0 24 = true then (some ((s2.1 75 (Int32.toNatClampNeg p0)), s2)) else none) else (some ((-1), s2)))
set_option maxHeartbeats 4000000 in
set_option maxRecDepth 100000 in
theorem tX10_trace (l : Launch) (G : gE) (σ : gS) (p0 : Int32) : gM l G yX10_trace cX10_trace 2 (some .int) rX10_trace iI [.ref (G.2.1 52), .int p0] σ (mX10_trace σ p0) := by
  refine gM_of (by decide) (Nat.le_of_ble_eq_true rfl) ?_
  intro p e s m args below meth c hC
  unfold mX10_trace
  show gT p l e rX10_trace s m args below meth c G 2 iI σ 0 [(0, .ref (G.2.1 52)), (1, .int p0)] [] _
  refine g_iload_n (pc := 0) (q := 1) hC dX10_trace_0 rfl rfl ?_
  refine g_iconst (pc := 1) (v := 0) hC dX10_trace_1 (by decide) ?_
  refine g_bipush (pc := 2) (v := 24) hC dX10_trace_2 (by decide) ?_
  refine g_aload_n (pc := 4) (q := 0) hC dX10_trace_4 rfl rfl ?_
  refine g_get (pc := 5) (v := .int (σ.1 52 35)) hC kX10 rfl 35 (by decide) fl_RX10_333 rfl dX10_trace_5 ?_
  refine g_min (pc := 8) hC mth_RX10_232 ⟨Nat.le_of_ble_eq_true rfl, Nat.le_of_ble_eq_true rfl⟩ (Nat.le_of_ble_eq_true rfl) dX10_trace_8 ?_
  refine g_iconst (pc := 11) (v := 1) hC dX10_trace_11 (by decide) ?_
  refine g_isub (pc := 12) hC dX10_trace_12 ?_
  refine g_callSz (pc := 13) (As := [.int p0, .int 0, .int ((gMin 24 (σ.1 52 35)) - 1)]) (rest := []) hC lk_RX10_110 (tX10_within _ _ σ p0 0 ((gMin 24 (σ.1 52 35)) - 1)) rfl rfl (Nat.le_of_ble_eq_true rfl) ⟨rfl, rfl, Nat.le_of_ble_eq_true rfl, Nat.le_of_ble_eq_true rfl⟩ dX10_trace_13 (fun r1 s2 => ?_)
  refine g_bif_eq (pc := 16) (tgt := 28) hC dX10_trace_16 (by decide) ?_ ?_
  · refine g_iconst (pc := 28) (v := (-1)) hC dX10_trace_28 (by decide) ?_
    exact g_iret (pc := 29) hC dX10_trace_29
  · refine g_aload_n (pc := 19) (q := 0) hC dX10_trace_19 rfl rfl ?_
    refine g_get (pc := 20) (v := .ref (G.2.1 75)) hC kX10 rfl 36 (by decide) fl_RX10_78 rfl dX10_trace_20 ?_
    refine g_iload_n (pc := 23) (q := 1) hC dX10_trace_23 rfl rfl ?_
    refine g_iald (pc := 24) hC 24 rfl (by decide) dX10_trace_24 ?_
    refine g_goto (pc := 25) (tgt := 29) hC dX10_trace_25 (by decide) ?_
    exact g_iret (pc := 29) hC dX10_trace_29
theorem dX10_keep_0 : decode cX10_keep 0 = .ok (.iload_n 1, 1) := by decide +kernel
theorem dX10_keep_1 : decode cX10_keep 1 = .ok (.invokestatic 132, 3) := by decide +kernel
theorem dX10_keep_4 : decode cX10_keep 4 = .ok (.ifCond .eq 17, 3) := by decide +kernel
theorem dX10_keep_7 : decode cX10_keep 7 = .ok (.iload_n 2, 1) := by decide +kernel
theorem dX10_keep_8 : decode cX10_keep 8 = .ok (.iconst (-1), 1) := by decide +kernel
theorem dX10_keep_9 : decode cX10_keep 9 = .ok (.aload_n 0, 1) := by decide +kernel
theorem dX10_keep_10 : decode cX10_keep 10 = .ok (.getfield 354, 3) := by decide +kernel
theorem dX10_keep_13 : decode cX10_keep 13 = .ok (.iconst 1, 1) := by decide +kernel
theorem dX10_keep_14 : decode cX10_keep 14 = .ok (.isub, 1) := by decide +kernel
theorem dX10_keep_15 : decode cX10_keep 15 = .ok (.invokestatic 110, 3) := by decide +kernel
theorem dX10_keep_18 : decode cX10_keep 18 = .ok (.ifCond .ne 5, 3) := by decide +kernel
theorem dX10_keep_21 : decode cX10_keep 21 = .ok (.iconst (-1), 1) := by decide +kernel
theorem dX10_keep_22 : decode cX10_keep 22 = .ok (.ireturn, 1) := by decide +kernel
theorem dX10_keep_23 : decode cX10_keep 23 = .ok (.aload_n 0, 1) := by decide +kernel
theorem dX10_keep_24 : decode cX10_keep 24 = .ok (.getfield 81, 3) := by decide +kernel
theorem dX10_keep_27 : decode cX10_keep 27 = .ok (.iload_n 1, 1) := by decide +kernel
theorem dX10_keep_28 : decode cX10_keep 28 = .ok (.iload_n 2, 1) := by decide +kernel
theorem dX10_keep_29 : decode cX10_keep 29 = .ok (.ifCond .ge 7, 3) := by decide +kernel
theorem dX10_keep_32 : decode cX10_keep 32 = .ok (.iconst (-1), 1) := by decide +kernel
theorem dX10_keep_33 : decode cX10_keep 33 = .ok (.goto 7, 3) := by decide +kernel
theorem dX10_keep_36 : decode cX10_keep 36 = .ok (.bipush 10, 2) := by decide +kernel
theorem dX10_keep_38 : decode cX10_keep 38 = .ok (.iload_n 2, 1) := by decide +kernel
theorem dX10_keep_39 : decode cX10_keep 39 = .ok (.iadd, 1) := by decide +kernel
theorem dX10_keep_40 : decode cX10_keep 40 = .ok (.iastore, 1) := by decide +kernel
theorem dX10_keep_41 : decode cX10_keep 41 = .ok (.aload_n 0, 1) := by decide +kernel
theorem dX10_keep_42 : decode cX10_keep 42 = .ok (.getfield 84, 3) := by decide +kernel
theorem dX10_keep_45 : decode cX10_keep 45 = .ok (.iload_n 1, 1) := by decide +kernel
theorem dX10_keep_46 : decode cX10_keep 46 = .ok (.iconst 0, 1) := by decide +kernel
theorem dX10_keep_47 : decode cX10_keep 47 = .ok (.iastore, 1) := by decide +kernel
theorem dX10_keep_48 : decode cX10_keep 48 = .ok (.iconst 1, 1) := by decide +kernel
theorem dX10_keep_49 : decode cX10_keep 49 = .ok (.ireturn, 1) := by decide +kernel
abbrev rX10_keep : Room := { frames := 2, cells := 0, slots := 0, locals := 42 }
def mX10_keep_b40    (σ : gS) (x5 : Int32) (x6 : Int32) (x7 : Int32) : Option (Int32 × gS) := if inbB x7 6 = true then gLet (gUI σ 76 (Int32.toNatClampNeg x7) x6) (fun s8 => if inbB x5 6 = true then gLet (gUI s8 77 (Int32.toNatClampNeg x5) 0) (fun s9 => some (1, s9)) else none) else none
set_option maxHeartbeats 4000000 in
set_option maxRecDepth 100000 in
theorem wX10_keep_b40 {p : Program} {l : Launch} {e : Env} {s : State} {m : MethodId} {args : Array Value} {below : List Frame} {meth : Method} {c : Code} {G : gE} (hC : gCx p s m args meth c G RX10 cX10_keep 3 (some .int))     (σ : gS) (x5 : Int32) (x6 : Int32) (x7 : Int32)  : gT p l e rX10_keep s m args below meth c G 3 iI σ 40 [(0, .ref (G.2.1 52)), (1, .int x5)] [.int x6, .int x7, .ref (G.2.1 76)] (mX10_keep_b40  σ x5 x6 x7) := by
  unfold mX10_keep_b40
  refine g_iast (pc := 40) hC 6 rfl (by decide) dX10_keep_40 (fun s8 => ?_)
  refine g_aload_n (pc := 41) (q := 0) hC dX10_keep_41 rfl rfl ?_
  refine g_get (pc := 42) (v := .ref (G.2.1 77)) hC kX10 rfl 38 (by decide) fl_RX10_84 rfl dX10_keep_42 ?_
  refine g_iload_n (pc := 45) (q := 1) hC dX10_keep_45 rfl rfl ?_
  refine g_iconst (pc := 46) (v := 0) hC dX10_keep_46 (by decide) ?_
  refine g_iast (pc := 47) hC 6 rfl (by decide) dX10_keep_47 (fun s9 => ?_)
  refine g_iconst (pc := 48) (v := 1) hC dX10_keep_48 (by decide) ?_
  exact g_iret (pc := 49) hC dX10_keep_49
def mX10_keep (σ : gS) (p0 : Int32) (p1 : Int32) : Option (Int32 × gS) := gBind (mX10_isShelf σ p0) (fun r1 s2 => if r1 = true then (gBind (mX10_within s2 p1 (-1) ((s2.1 52 33) - 1)) (fun r3 s4 => if r3 = true then (if 0 ≤ p1 then ((mX10_keep_b40  s4 p0 (10 + p1) p0)) else ((mX10_keep_b40  s4 p0 (-1) p0))) else (some ((-1), s4)))) else (some ((-1), s2)))
set_option maxHeartbeats 4000000 in
set_option maxRecDepth 100000 in
theorem tX10_keep (l : Launch) (G : gE) (σ : gS) (p0 : Int32) (p1 : Int32) : gM l G yX10_keep cX10_keep 3 (some .int) rX10_keep iI [.ref (G.2.1 52), .int p0, .int p1] σ (mX10_keep σ p0 p1) := by
  refine gM_of (by decide) (Nat.le_of_ble_eq_true rfl) ?_
  intro p e s m args below meth c hC
  unfold mX10_keep
  show gT p l e rX10_keep s m args below meth c G 3 iI σ 0 [(0, .ref (G.2.1 52)), (1, .int p0), (2, .int p1)] [] _
  refine g_iload_n (pc := 0) (q := 1) hC dX10_keep_0 rfl rfl ?_
  refine g_callSz (pc := 1) (As := [.int p0]) (rest := []) hC lk_RX10_132 (tX10_isShelf _ _ σ p0) rfl rfl (Nat.le_of_ble_eq_true rfl) ⟨rfl, rfl, Nat.le_of_ble_eq_true rfl, Nat.le_of_ble_eq_true rfl⟩ dX10_keep_1 (fun r1 s2 => ?_)
  refine g_bif_eq (pc := 4) (tgt := 21) hC dX10_keep_4 (by decide) ?_ ?_
  · refine g_iconst (pc := 21) (v := (-1)) hC dX10_keep_21 (by decide) ?_
    exact g_iret (pc := 22) hC dX10_keep_22
  · refine g_iload_n (pc := 7) (q := 2) hC dX10_keep_7 rfl rfl ?_
    refine g_iconst (pc := 8) (v := (-1)) hC dX10_keep_8 (by decide) ?_
    refine g_aload_n (pc := 9) (q := 0) hC dX10_keep_9 rfl rfl ?_
    refine g_get (pc := 10) (v := .int (s2.1 52 33)) hC kX10 rfl 33 (by decide) fl_RX10_354 rfl dX10_keep_10 ?_
    refine g_iconst (pc := 13) (v := 1) hC dX10_keep_13 (by decide) ?_
    refine g_isub (pc := 14) hC dX10_keep_14 ?_
    refine g_callSz (pc := 15) (As := [.int p1, .int (-1), .int ((s2.1 52 33) - 1)]) (rest := []) hC lk_RX10_110 (tX10_within _ _ s2 p1 (-1) ((s2.1 52 33) - 1)) rfl rfl (Nat.le_of_ble_eq_true rfl) ⟨rfl, rfl, Nat.le_of_ble_eq_true rfl, Nat.le_of_ble_eq_true rfl⟩ dX10_keep_15 (fun r3 s4 => ?_)
    refine g_bif_ne (pc := 18) (tgt := 23) hC dX10_keep_18 (by decide) ?_ ?_
    · refine g_aload_n (pc := 23) (q := 0) hC dX10_keep_23 rfl rfl ?_
      refine g_get (pc := 24) (v := .ref (G.2.1 76)) hC kX10 rfl 37 (by decide) fl_RX10_81 rfl dX10_keep_24 ?_
      refine g_iload_n (pc := 27) (q := 1) hC dX10_keep_27 rfl rfl ?_
      refine g_iload_n (pc := 28) (q := 2) hC dX10_keep_28 rfl rfl ?_
      refine g_if_ge (pc := 29) (tgt := 36) hC dX10_keep_29 (by decide) ?_ ?_
      · refine g_bipush (pc := 36) (v := 10) hC dX10_keep_36 (by decide) ?_
        refine g_iload_n (pc := 38) (q := 2) hC dX10_keep_38 rfl rfl ?_
        refine g_iadd (pc := 39) hC dX10_keep_39 ?_
        exact gT_sub [0, 1] rfl (wX10_keep_b40 hC  s4 p0 (10 + p1) p0)
      · refine g_iconst (pc := 32) (v := (-1)) hC dX10_keep_32 (by decide) ?_
        refine g_goto (pc := 33) (tgt := 40) hC dX10_keep_33 (by decide) ?_
        exact gT_sub [0, 1] rfl (wX10_keep_b40 hC  s4 p0 (-1) p0)
    · refine g_iconst (pc := 21) (v := (-1)) hC dX10_keep_21 (by decide) ?_
      exact g_iret (pc := 22) hC dX10_keep_22
theorem dX10_row_0 : decode cX10_row 0 = .ok (.iload_n 1, 1) := by decide +kernel
theorem dX10_row_1 : decode cX10_row 1 = .ok (.invokestatic 132, 3) := by decide +kernel
theorem dX10_row_4 : decode cX10_row 4 = .ok (.ifCond .eq 18, 3) := by decide +kernel
theorem dX10_row_7 : decode cX10_row 7 = .ok (.iload_n 2, 1) := by decide +kernel
theorem dX10_row_8 : decode cX10_row 8 = .ok (.iconst 0, 1) := by decide +kernel
theorem dX10_row_9 : decode cX10_row 9 = .ok (.iconst 4, 1) := by decide +kernel
theorem dX10_row_10 : decode cX10_row 10 = .ok (.invokestatic 110, 3) := by decide +kernel
theorem dX10_row_13 : decode cX10_row 13 = .ok (.ifCond .eq 9, 3) := by decide +kernel
theorem dX10_row_16 : decode cX10_row 16 = .ok (.iload_n 3, 1) := by decide +kernel
theorem dX10_row_17 : decode cX10_row 17 = .ok (.bipush 60, 2) := by decide +kernel
theorem dX10_row_19 : decode cX10_row 19 = .ok (.if_icmp .le 5, 3) := by decide +kernel
theorem dX10_row_22 : decode cX10_row 22 = .ok (.iconst (-1), 1) := by decide +kernel
theorem dX10_row_23 : decode cX10_row 23 = .ok (.ireturn, 1) := by decide +kernel
theorem dX10_row_24 : decode cX10_row 24 = .ok (.iload_n 3, 1) := by decide +kernel
theorem dX10_row_25 : decode cX10_row 25 = .ok (.ifCond .ge 6, 3) := by decide +kernel
theorem dX10_row_28 : decode cX10_row 28 = .ok (.bipush (-14), 2) := by decide +kernel
theorem dX10_row_30 : decode cX10_row 30 = .ok (.ireturn, 1) := by decide +kernel
theorem dX10_row_31 : decode cX10_row 31 = .ok (.aload_n 0, 1) := by decide +kernel
theorem dX10_row_32 : decode cX10_row 32 = .ok (.getfield 81, 3) := by decide +kernel
theorem dX10_row_35 : decode cX10_row 35 = .ok (.iload_n 1, 1) := by decide +kernel
theorem dX10_row_36 : decode cX10_row 36 = .ok (.iload_n 2, 1) := by decide +kernel
theorem dX10_row_37 : decode cX10_row 37 = .ok (.iastore, 1) := by decide +kernel
theorem dX10_row_38 : decode cX10_row 38 = .ok (.aload_n 0, 1) := by decide +kernel
theorem dX10_row_39 : decode cX10_row 39 = .ok (.getfield 84, 3) := by decide +kernel
theorem dX10_row_42 : decode cX10_row 42 = .ok (.iload_n 1, 1) := by decide +kernel
theorem dX10_row_43 : decode cX10_row 43 = .ok (.iload_n 3, 1) := by decide +kernel
theorem dX10_row_44 : decode cX10_row 44 = .ok (.iastore, 1) := by decide +kernel
theorem dX10_row_45 : decode cX10_row 45 = .ok (.iconst 0, 1) := by decide +kernel
theorem dX10_row_46 : decode cX10_row 46 = .ok (.istore 4, 2) := by decide +kernel
theorem dX10_row_48 : decode cX10_row 48 = .ok (.iload 4, 2) := by decide +kernel
theorem dX10_row_50 : decode cX10_row 50 = .ok (.bipush 60, 2) := by decide +kernel
theorem dX10_row_52 : decode cX10_row 52 = .ok (.if_icmp .ge 22, 3) := by decide +kernel
theorem dX10_row_55 : decode cX10_row 55 = .ok (.aload_n 0, 1) := by decide +kernel
theorem dX10_row_56 : decode cX10_row 56 = .ok (.getfield 87, 3) := by decide +kernel
theorem dX10_row_59 : decode cX10_row 59 = .ok (.bipush 60, 2) := by decide +kernel
theorem dX10_row_61 : decode cX10_row 61 = .ok (.iload_n 1, 1) := by decide +kernel
theorem dX10_row_62 : decode cX10_row 62 = .ok (.imul, 1) := by decide +kernel
theorem dX10_row_63 : decode cX10_row 63 = .ok (.iload 4, 2) := by decide +kernel
theorem dX10_row_65 : decode cX10_row 65 = .ok (.iadd, 1) := by decide +kernel
theorem dX10_row_66 : decode cX10_row 66 = .ok (.lconst 0, 1) := by decide +kernel
theorem dX10_row_67 : decode cX10_row 67 = .ok (.lastore, 1) := by decide +kernel
theorem dX10_row_68 : decode cX10_row 68 = .ok (.iinc 4 1, 3) := by decide +kernel
theorem dX10_row_71 : decode cX10_row 71 = .ok (.goto (-23), 3) := by decide +kernel
theorem dX10_row_74 : decode cX10_row 74 = .ok (.iconst 1, 1) := by decide +kernel
theorem dX10_row_75 : decode cX10_row 75 = .ok (.ireturn, 1) := by decide +kernel
abbrev rX10_row : Room := { frames := 2, cells := 0, slots := 0, locals := 42 }
def mX10_row_b48    : Nat → gS → Int32 → Int32 → Option (Int32 × gS)
  | 0, _, _, _ => none
  | n + 1, σ, x8, x9 => if 60 ≤ x9 then (some (1, σ)) else (if inbB ((60 * x8) + x9) 360 = true then gLet (gUJ σ 78 (Int32.toNatClampNeg ((60 * x8) + x9)) 0) (fun s10 => gLet (x9 + 1) (fun v11 => ((mX10_row_b48  n) s10 x8 v11))) else none)
set_option maxHeartbeats 4000000 in
set_option maxRecDepth 100000 in
theorem wX10_row_b48 {p : Program} {l : Launch} {e : Env} {s : State} {m : MethodId} {args : Array Value} {below : List Frame} {meth : Method} {c : Code} {G : gE} (hC : gCx p s m args meth c G RX10 cX10_row 5 (some .int))     (n : Nat) (σ : gS) (x8 : Int32) (x9 : Int32)  : gT p l e rX10_row s m args below meth c G 5 iI σ 48 [(0, .ref (G.2.1 52)), (1, .int x8), (4, .int x9)] [] (mX10_row_b48  n σ x8 x9) := by
  induction n generalizing σ x8 x9 with
  | zero => exact gT_none
  | succ n ih =>
    unfold mX10_row_b48
    refine g_iload (pc := 48) (q := 2) hC dX10_row_48 rfl ?_
    refine g_bipush (pc := 50) (v := 60) hC dX10_row_50 (by decide) ?_
    refine g_icmp_ge (pc := 52) (tgt := 74) hC dX10_row_52 (by decide) ?_ ?_
    · refine g_iconst (pc := 74) (v := 1) hC dX10_row_74 (by decide) ?_
      exact g_iret (pc := 75) hC dX10_row_75
    · refine g_aload_n (pc := 55) (q := 0) hC dX10_row_55 rfl rfl ?_
      refine g_get (pc := 56) (v := .ref (G.2.1 78)) hC kX10 rfl 39 (by decide) fl_RX10_87 rfl dX10_row_56 ?_
      refine g_bipush (pc := 59) (v := 60) hC dX10_row_59 (by decide) ?_
      refine g_iload_n (pc := 61) (q := 1) hC dX10_row_61 rfl rfl ?_
      refine g_imul (pc := 62) hC dX10_row_62 ?_
      refine g_iload (pc := 63) (q := 2) hC dX10_row_63 rfl ?_
      refine g_iadd (pc := 65) hC dX10_row_65 ?_
      refine g_lconst (pc := 66) (v := 0) hC dX10_row_66 (by decide) ?_
      refine g_last (pc := 67) hC 360 rfl dX10_row_67 (fun s10 => ?_)
      refine g_iinc (pc := 68) (q := 2) (w := 1) (lv' := fun v11 => [(4, .int v11), (0, .ref (G.2.1 52)), (1, .int x8)]) hC dX10_row_68 rfl (by decide) (by decide) (fun _ => rfl) (fun v11 => ?_)
      refine g_goto (pc := 71) (tgt := 48) hC dX10_row_71 (by decide) ?_
      exact gT_sub [1, 2, 0] rfl (ih s10 x8 v11)
def mX10_row (σ : gS) (p0 : Int32) (p1 : Int32) (p2 : Int32) : Option (Int32 × gS) := gBind (mX10_isShelf σ p0) (fun r1 s2 => if r1 = true then (gBind (mX10_within s2 p1 0 4) (fun r3 s4 => if r3 = true then (if p2 ≤ 60 then (if 0 ≤ p2 then (if inbB p0 6 = true then gLet (gUI s4 76 (Int32.toNatClampNeg p0) p1) (fun s5 => if inbB p0 6 = true then gLet (gUI s5 77 (Int32.toNatClampNeg p0) p2) (fun s6 => gLet 0 (fun v7 => (mX10_row_b48  1100 s6 p0 v7))) else none) else none) else (some ((-14), s4))) else (some ((-1), s4))) else (some ((-1), s4)))) else (some ((-1), s2)))
set_option maxHeartbeats 4000000 in
set_option maxRecDepth 100000 in
theorem tX10_row (l : Launch) (G : gE) (σ : gS) (p0 : Int32) (p1 : Int32) (p2 : Int32) : gM l G yX10_row cX10_row 5 (some .int) rX10_row iI [.ref (G.2.1 52), .int p0, .int p1, .int p2] σ (mX10_row σ p0 p1 p2) := by
  refine gM_of (by decide) (Nat.le_of_ble_eq_true rfl) ?_
  intro p e s m args below meth c hC
  unfold mX10_row
  show gT p l e rX10_row s m args below meth c G 5 iI σ 0 [(0, .ref (G.2.1 52)), (1, .int p0), (2, .int p1), (3, .int p2)] [] _
  refine g_iload_n (pc := 0) (q := 1) hC dX10_row_0 rfl rfl ?_
  refine g_callSz (pc := 1) (As := [.int p0]) (rest := []) hC lk_RX10_132 (tX10_isShelf _ _ σ p0) rfl rfl (Nat.le_of_ble_eq_true rfl) ⟨rfl, rfl, Nat.le_of_ble_eq_true rfl, Nat.le_of_ble_eq_true rfl⟩ dX10_row_1 (fun r1 s2 => ?_)
  refine g_bif_eq (pc := 4) (tgt := 22) hC dX10_row_4 (by decide) ?_ ?_
  · refine g_iconst (pc := 22) (v := (-1)) hC dX10_row_22 (by decide) ?_
    exact g_iret (pc := 23) hC dX10_row_23
  · refine g_iload_n (pc := 7) (q := 2) hC dX10_row_7 rfl rfl ?_
    refine g_iconst (pc := 8) (v := 0) hC dX10_row_8 (by decide) ?_
    refine g_iconst (pc := 9) (v := 4) hC dX10_row_9 (by decide) ?_
    refine g_callSz (pc := 10) (As := [.int p1, .int 0, .int 4]) (rest := []) hC lk_RX10_110 (tX10_within _ _ s2 p1 0 4) rfl rfl (Nat.le_of_ble_eq_true rfl) ⟨rfl, rfl, Nat.le_of_ble_eq_true rfl, Nat.le_of_ble_eq_true rfl⟩ dX10_row_10 (fun r3 s4 => ?_)
    refine g_bif_eq (pc := 13) (tgt := 22) hC dX10_row_13 (by decide) ?_ ?_
    · refine g_iconst (pc := 22) (v := (-1)) hC dX10_row_22 (by decide) ?_
      exact g_iret (pc := 23) hC dX10_row_23
    · refine g_iload_n (pc := 16) (q := 3) hC dX10_row_16 rfl rfl ?_
      refine g_bipush (pc := 17) (v := 60) hC dX10_row_17 (by decide) ?_
      refine g_icmp_le (pc := 19) (tgt := 24) hC dX10_row_19 (by decide) ?_ ?_
      · refine g_iload_n (pc := 24) (q := 3) hC dX10_row_24 rfl rfl ?_
        refine g_if_ge (pc := 25) (tgt := 31) hC dX10_row_25 (by decide) ?_ ?_
        · refine g_aload_n (pc := 31) (q := 0) hC dX10_row_31 rfl rfl ?_
          refine g_get (pc := 32) (v := .ref (G.2.1 76)) hC kX10 rfl 37 (by decide) fl_RX10_81 rfl dX10_row_32 ?_
          refine g_iload_n (pc := 35) (q := 1) hC dX10_row_35 rfl rfl ?_
          refine g_iload_n (pc := 36) (q := 2) hC dX10_row_36 rfl rfl ?_
          refine g_iast (pc := 37) hC 6 rfl (by decide) dX10_row_37 (fun s5 => ?_)
          refine g_aload_n (pc := 38) (q := 0) hC dX10_row_38 rfl rfl ?_
          refine g_get (pc := 39) (v := .ref (G.2.1 77)) hC kX10 rfl 38 (by decide) fl_RX10_84 rfl dX10_row_39 ?_
          refine g_iload_n (pc := 42) (q := 1) hC dX10_row_42 rfl rfl ?_
          refine g_iload_n (pc := 43) (q := 3) hC dX10_row_43 rfl rfl ?_
          refine g_iast (pc := 44) hC 6 rfl (by decide) dX10_row_44 (fun s6 => ?_)
          refine g_iconst (pc := 45) (v := 0) hC dX10_row_45 (by decide) ?_
          refine g_istore (pc := 46) (lv' := fun v7 => [(4, .int v7), (0, .ref (G.2.1 52)), (1, .int p0), (2, .int p1), (3, .int p2)]) hC dX10_row_46 (by decide) (fun _ => rfl) (fun v7 => ?_)
          exact gT_sub [1, 2, 0] rfl (wX10_row_b48 hC  1100 s6 p0 v7)
        · refine g_bipush (pc := 28) (v := (-14)) hC dX10_row_28 (by decide) ?_
          exact g_iret (pc := 30) hC dX10_row_30
      · refine g_iconst (pc := 22) (v := (-1)) hC dX10_row_22 (by decide) ?_
        exact g_iret (pc := 23) hC dX10_row_23
theorem dX10_isRow_0 : decode cX10_isRow 0 = .ok (.aload_n 0, 1) := by decide +kernel
theorem dX10_isRow_1 : decode cX10_isRow 1 = .ok (.getfield 81, 3) := by decide +kernel
theorem dX10_isRow_4 : decode cX10_isRow 4 = .ok (.iload_n 1, 1) := by decide +kernel
theorem dX10_isRow_5 : decode cX10_isRow 5 = .ok (.iaload, 1) := by decide +kernel
theorem dX10_isRow_6 : decode cX10_isRow 6 = .ok (.iconst 0, 1) := by decide +kernel
theorem dX10_isRow_7 : decode cX10_isRow 7 = .ok (.iconst 4, 1) := by decide +kernel
theorem dX10_isRow_8 : decode cX10_isRow 8 = .ok (.invokestatic 110, 3) := by decide +kernel
theorem dX10_isRow_11 : decode cX10_isRow 11 = .ok (.ireturn, 1) := by decide +kernel
abbrev rX10_isRow : Room := { frames := 1, cells := 0, slots := 0, locals := 22 }
def mX10_isRow (σ : gS) (p0 : Int32) : Option (Bool × gS) := if inbB p0 6 = true then (gBind (mX10_within σ (σ.1 76 (Int32.toNatClampNeg p0)) 0 4) (fun r1 s2 => some (r1, s2))) else none
set_option maxHeartbeats 4000000 in
set_option maxRecDepth 100000 in
theorem tX10_isRow (l : Launch) (G : gE) (σ : gS) (p0 : Int32) : gM l G yX10_isRow cX10_isRow 2 (some .boolean) rX10_isRow iZ [.ref (G.2.1 52), .int p0] σ (mX10_isRow σ p0) := by
  refine gM_of (by decide) (Nat.le_of_ble_eq_true rfl) ?_
  intro p e s m args below meth c hC
  unfold mX10_isRow
  show gT p l e rX10_isRow s m args below meth c G 2 iZ σ 0 [(0, .ref (G.2.1 52)), (1, .int p0)] [] _
  refine g_aload_n (pc := 0) (q := 0) hC dX10_isRow_0 rfl rfl ?_
  refine g_get (pc := 1) (v := .ref (G.2.1 76)) hC kX10 rfl 37 (by decide) fl_RX10_81 rfl dX10_isRow_1 ?_
  refine g_iload_n (pc := 4) (q := 1) hC dX10_isRow_4 rfl rfl ?_
  refine g_iald (pc := 5) hC 6 rfl (by decide) dX10_isRow_5 ?_
  refine g_iconst (pc := 6) (v := 0) hC dX10_isRow_6 (by decide) ?_
  refine g_iconst (pc := 7) (v := 4) hC dX10_isRow_7 (by decide) ?_
  refine g_callSz (pc := 8) (As := [.int (σ.1 76 (Int32.toNatClampNeg p0)), .int 0, .int 4]) (rest := []) hC lk_RX10_110 (tX10_within _ _ σ (σ.1 76 (Int32.toNatClampNeg p0)) 0 4) rfl rfl (Nat.le_of_ble_eq_true rfl) ⟨rfl, rfl, Nat.le_of_ble_eq_true rfl, Nat.le_of_ble_eq_true rfl⟩ dX10_isRow_8 (fun r1 s2 => ?_)
  exact g_zret (pc := 11) hC dX10_isRow_11
theorem dX10_kept_0 : decode cX10_kept 0 = .ok (.iload_n 0, 1) := by decide +kernel
theorem dX10_kept_1 : decode cX10_kept 1 = .ok (.tableswitch 47 0 3 #[31, 36, 41, 45], 31) := by decide +kernel
theorem dX10_kept_32 : decode cX10_kept 32 = .ok (.lload_n 1, 1) := by decide +kernel
theorem dX10_kept_33 : decode cX10_kept 33 = .ok (.l2i, 1) := by decide +kernel
theorem dX10_kept_34 : decode cX10_kept 34 = .ok (.i2b, 1) := by decide +kernel
theorem dX10_kept_35 : decode cX10_kept 35 = .ok (.i2l, 1) := by decide +kernel
theorem dX10_kept_36 : decode cX10_kept 36 = .ok (.lreturn, 1) := by decide +kernel
theorem dX10_kept_37 : decode cX10_kept 37 = .ok (.lload_n 1, 1) := by decide +kernel
theorem dX10_kept_38 : decode cX10_kept 38 = .ok (.l2i, 1) := by decide +kernel
theorem dX10_kept_39 : decode cX10_kept 39 = .ok (.i2s, 1) := by decide +kernel
theorem dX10_kept_40 : decode cX10_kept 40 = .ok (.i2l, 1) := by decide +kernel
theorem dX10_kept_41 : decode cX10_kept 41 = .ok (.lreturn, 1) := by decide +kernel
theorem dX10_kept_42 : decode cX10_kept 42 = .ok (.lload_n 1, 1) := by decide +kernel
theorem dX10_kept_43 : decode cX10_kept 43 = .ok (.l2i, 1) := by decide +kernel
theorem dX10_kept_44 : decode cX10_kept 44 = .ok (.i2l, 1) := by decide +kernel
theorem dX10_kept_45 : decode cX10_kept 45 = .ok (.lreturn, 1) := by decide +kernel
theorem dX10_kept_46 : decode cX10_kept 46 = .ok (.lload_n 1, 1) := by decide +kernel
theorem dX10_kept_47 : decode cX10_kept 47 = .ok (.lreturn, 1) := by decide +kernel
theorem dX10_kept_48 : decode cX10_kept 48 = .ok (.lload_n 1, 1) := by decide +kernel
theorem dX10_kept_49 : decode cX10_kept 49 = .ok (.lconst 0, 1) := by decide +kernel
theorem dX10_kept_50 : decode cX10_kept 50 = .ok (.lcmp, 1) := by decide +kernel
theorem dX10_kept_51 : decode cX10_kept 51 = .ok (.ifCond .eq 7, 3) := by decide +kernel
theorem dX10_kept_54 : decode cX10_kept 54 = .ok (.lconst 1, 1) := by decide +kernel
theorem dX10_kept_55 : decode cX10_kept 55 = .ok (.goto 4, 3) := by decide +kernel
theorem dX10_kept_58 : decode cX10_kept 58 = .ok (.lconst 0, 1) := by decide +kernel
theorem dX10_kept_59 : decode cX10_kept 59 = .ok (.lreturn, 1) := by decide +kernel
abbrev rX10_kept : Room := { frames := 0, cells := 0, slots := 0, locals := 0 }
def mX10_kept (σ : gS) (p0 : Int32) (p1 : Int64) : Option (Int64 × gS) := if p0 = 0 then (some ((Int32.toInt64 (Int8.toInt32 (Int32.toInt8 (Int64.toInt32 p1)))), σ)) else (if p0 = 1 then (some ((Int32.toInt64 (Int16.toInt32 (Int32.toInt16 (Int64.toInt32 p1)))), σ)) else (if p0 = 2 then (some ((Int32.toInt64 (Int64.toInt32 p1)), σ)) else (if p0 = 3 then (some (p1, σ)) else (if (lg_cmp p1 0) = 0 then (some (0, σ)) else (some (1, σ))))))
set_option maxHeartbeats 4000000 in
set_option maxRecDepth 100000 in
theorem tX10_kept (l : Launch) (G : gE) (σ : gS) (p0 : Int32) (p1 : Int64) : gM l G yX10_kept cX10_kept 3 (some .long) rX10_kept iJ [.int p0, .long p1] σ (mX10_kept σ p0 p1) := by
  refine gM_of (by decide) (Nat.le_of_ble_eq_true rfl) ?_
  intro p e s m args below meth c hC
  unfold mX10_kept
  show gT p l e rX10_kept s m args below meth c G 3 iJ σ 0 [(0, .int p0), (1, .long p1)] [] _
  refine g_iload_n (pc := 0) (q := 0) hC dX10_kept_0 rfl rfl ?_
  refine gT_if (fun c100 => ?_) (fun c100 => ?_)
  · refine g_tabIn (tgt := 32) (off := 31) hC dX10_kept_1 c100 (by decide) (by decide) (by decide) (by decide) ?_
    refine g_lload_n (pc := 32) (q := 1) hC dX10_kept_32 rfl rfl ?_
    refine g_l2i (pc := 33) hC dX10_kept_33 ?_
    refine g_i2b (pc := 34) hC dX10_kept_34 ?_
    refine g_i2l (pc := 35) hC dX10_kept_35 ?_
    exact g_lret (pc := 36) hC dX10_kept_36
  · refine gT_if (fun c101 => ?_) (fun c101 => ?_)
    · refine g_tabIn (tgt := 37) (off := 36) hC dX10_kept_1 c101 (by decide) (by decide) (by decide) (by decide) ?_
      refine g_lload_n (pc := 37) (q := 1) hC dX10_kept_37 rfl rfl ?_
      refine g_l2i (pc := 38) hC dX10_kept_38 ?_
      refine g_i2s (pc := 39) hC dX10_kept_39 ?_
      refine g_i2l (pc := 40) hC dX10_kept_40 ?_
      exact g_lret (pc := 41) hC dX10_kept_41
    · refine gT_if (fun c102 => ?_) (fun c102 => ?_)
      · refine g_tabIn (tgt := 42) (off := 41) hC dX10_kept_1 c102 (by decide) (by decide) (by decide) (by decide) ?_
        refine g_lload_n (pc := 42) (q := 1) hC dX10_kept_42 rfl rfl ?_
        refine g_l2i (pc := 43) hC dX10_kept_43 ?_
        refine g_i2l (pc := 44) hC dX10_kept_44 ?_
        exact g_lret (pc := 45) hC dX10_kept_45
      · refine gT_if (fun c103 => ?_) (fun c103 => ?_)
        · refine g_tabIn (tgt := 46) (off := 45) hC dX10_kept_1 c103 (by decide) (by decide) (by decide) (by decide) ?_
          refine g_lload_n (pc := 46) (q := 1) hC dX10_kept_46 rfl rfl ?_
          exact g_lret (pc := 47) hC dX10_kept_47
        · refine g_tabOut (tgt := 48) hC dX10_kept_1 (by have q0 := gne c100 (n := 0) rfl; have q1 := gne c101 (n := 1) rfl; have q2 := gne c102 (n := 2) rfl; have q3 := gne c103 (n := 3) rfl; omega) (by decide) ?_
          refine g_lload_n (pc := 48) (q := 1) hC dX10_kept_48 rfl rfl ?_
          refine g_lconst (pc := 49) (v := 0) hC dX10_kept_49 (by decide) ?_
          refine g_lcmp (pc := 50) hC dX10_kept_50 ?_
          refine g_if_eq (pc := 51) (tgt := 58) hC dX10_kept_51 (by decide) ?_ ?_
          · refine g_lconst (pc := 58) (v := 0) hC dX10_kept_58 (by decide) ?_
            exact g_lret (pc := 59) hC dX10_kept_59
          · refine g_lconst (pc := 54) (v := 1) hC dX10_kept_54 (by decide) ?_
            refine g_goto (pc := 55) (tgt := 59) hC dX10_kept_55 (by decide) ?_
            exact g_lret (pc := 59) hC dX10_kept_59
theorem lk_RX10_360 : gLS RX10 360 yX10_kept cX10_kept 3 (some .long) 2 := ⟨(gBig_tab 1573 (by decide +kernel) (by decide +kernel)), (gBig_tab 1574 (by decide +kernel) (by decide +kernel)), (gBig_tab 11 (by decide +kernel) (by decide +kernel)), (gBig_tab 1575 (by decide +kernel) (by decide +kernel)), by decide +kernel, by decide +kernel, by decide +kernel⟩
theorem lk_RX10_357 : gLV RX10 357 RX10 yX10_isRow cX10_isRow 2 (some .boolean) 1 := ⟨(gBig_tab 1569 (by decide +kernel) (by decide +kernel)), (gBig_tab 1571 (by decide +kernel) (by decide +kernel)), (gBig_sel 92 (by decide +kernel) (by decide +kernel)), (gBig_tab 11 (by decide +kernel) (by decide +kernel)), (gBig_tab 1572 (by decide +kernel) (by decide +kernel)), rfl, by decide +kernel, by decide +kernel, by decide +kernel⟩
theorem dX10_put_0 : decode cX10_put 0 = .ok (.iload_n 1, 1) := by decide +kernel
theorem dX10_put_1 : decode cX10_put 1 = .ok (.invokestatic 132, 3) := by decide +kernel
theorem dX10_put_4 : decode cX10_put 4 = .ok (.ifCond .ne 5, 3) := by decide +kernel
theorem dX10_put_7 : decode cX10_put 7 = .ok (.iconst (-1), 1) := by decide +kernel
theorem dX10_put_8 : decode cX10_put 8 = .ok (.ireturn, 1) := by decide +kernel
theorem dX10_put_9 : decode cX10_put 9 = .ok (.aload_n 0, 1) := by decide +kernel
theorem dX10_put_10 : decode cX10_put 10 = .ok (.getfield 81, 3) := by decide +kernel
theorem dX10_put_13 : decode cX10_put 13 = .ok (.iload_n 1, 1) := by decide +kernel
theorem dX10_put_14 : decode cX10_put 14 = .ok (.iaload, 1) := by decide +kernel
theorem dX10_put_15 : decode cX10_put 15 = .ok (.iconst (-1), 1) := by decide +kernel
theorem dX10_put_16 : decode cX10_put 16 = .ok (.if_icmp .ne 6, 3) := by decide +kernel
theorem dX10_put_19 : decode cX10_put 19 = .ok (.bipush (-11), 2) := by decide +kernel
theorem dX10_put_21 : decode cX10_put 21 = .ok (.ireturn, 1) := by decide +kernel
theorem dX10_put_22 : decode cX10_put 22 = .ok (.aload_n 0, 1) := by decide +kernel
theorem dX10_put_23 : decode cX10_put 23 = .ok (.iload_n 1, 1) := by decide +kernel
theorem dX10_put_24 : decode cX10_put 24 = .ok (.invokevirtual 357, 3) := by decide +kernel
theorem dX10_put_27 : decode cX10_put 27 = .ok (.ifCond .ne 6, 3) := by decide +kernel
theorem dX10_put_30 : decode cX10_put 30 = .ok (.bipush (-12), 2) := by decide +kernel
theorem dX10_put_32 : decode cX10_put 32 = .ok (.ireturn, 1) := by decide +kernel
theorem dX10_put_33 : decode cX10_put 33 = .ok (.iload_n 2, 1) := by decide +kernel
theorem dX10_put_34 : decode cX10_put 34 = .ok (.iconst 0, 1) := by decide +kernel
theorem dX10_put_35 : decode cX10_put 35 = .ok (.aload_n 0, 1) := by decide +kernel
theorem dX10_put_36 : decode cX10_put 36 = .ok (.getfield 84, 3) := by decide +kernel
theorem dX10_put_39 : decode cX10_put 39 = .ok (.iload_n 1, 1) := by decide +kernel
theorem dX10_put_40 : decode cX10_put 40 = .ok (.iaload, 1) := by decide +kernel
theorem dX10_put_41 : decode cX10_put 41 = .ok (.iconst 1, 1) := by decide +kernel
theorem dX10_put_42 : decode cX10_put 42 = .ok (.isub, 1) := by decide +kernel
theorem dX10_put_43 : decode cX10_put 43 = .ok (.invokestatic 110, 3) := by decide +kernel
theorem dX10_put_46 : decode cX10_put 46 = .ok (.ifCond .ne 6, 3) := by decide +kernel
theorem dX10_put_49 : decode cX10_put 49 = .ok (.bipush (-13), 2) := by decide +kernel
theorem dX10_put_51 : decode cX10_put 51 = .ok (.ireturn, 1) := by decide +kernel
theorem dX10_put_52 : decode cX10_put 52 = .ok (.aload_n 0, 1) := by decide +kernel
theorem dX10_put_53 : decode cX10_put 53 = .ok (.getfield 87, 3) := by decide +kernel
theorem dX10_put_56 : decode cX10_put 56 = .ok (.bipush 60, 2) := by decide +kernel
theorem dX10_put_58 : decode cX10_put 58 = .ok (.iload_n 1, 1) := by decide +kernel
theorem dX10_put_59 : decode cX10_put 59 = .ok (.imul, 1) := by decide +kernel
theorem dX10_put_60 : decode cX10_put 60 = .ok (.iload_n 2, 1) := by decide +kernel
theorem dX10_put_61 : decode cX10_put 61 = .ok (.iadd, 1) := by decide +kernel
theorem dX10_put_62 : decode cX10_put 62 = .ok (.aload_n 0, 1) := by decide +kernel
theorem dX10_put_63 : decode cX10_put 63 = .ok (.getfield 81, 3) := by decide +kernel
theorem dX10_put_66 : decode cX10_put 66 = .ok (.iload_n 1, 1) := by decide +kernel
theorem dX10_put_67 : decode cX10_put 67 = .ok (.iaload, 1) := by decide +kernel
theorem dX10_put_68 : decode cX10_put 68 = .ok (.lload_n 3, 1) := by decide +kernel
theorem dX10_put_69 : decode cX10_put 69 = .ok (.invokestatic 360, 3) := by decide +kernel
theorem dX10_put_72 : decode cX10_put 72 = .ok (.lastore, 1) := by decide +kernel
theorem dX10_put_73 : decode cX10_put 73 = .ok (.iconst 1, 1) := by decide +kernel
theorem dX10_put_74 : decode cX10_put 74 = .ok (.ireturn, 1) := by decide +kernel
abbrev rX10_put : Room := { frames := 2, cells := 0, slots := 0, locals := 43 }
def mX10_put (σ : gS) (p0 : Int32) (p1 : Int32) (p2 : Int64) : Option (Int32 × gS) := gBind (mX10_isShelf σ p0) (fun r1 s2 => if r1 = true then (if inbB p0 6 = true then (if (s2.1 76 (Int32.toNatClampNeg p0)) = (-1) then (some ((-11), s2)) else (gBind (mX10_isRow s2 p0) (fun r3 s4 => if r3 = true then (if inbB p0 6 = true then (gBind (mX10_within s4 p1 0 ((s4.1 77 (Int32.toNatClampNeg p0)) - 1)) (fun r5 s6 => if r5 = true then (if inbB p0 6 = true then (gBind (mX10_kept s6 (s6.1 76 (Int32.toNatClampNeg p0)) p2) (fun r7 s8 => if inbB ((60 * p0) + p1) 360 = true then gLet (gUJ s8 78 (Int32.toNatClampNeg ((60 * p0) + p1)) r7) (fun s9 => some (1, s9)) else none)) else none) else (some ((-13), s6)))) else none) else (some ((-12), s4))))) else none) else (some ((-1), s2)))
set_option maxHeartbeats 4000000 in
set_option maxRecDepth 100000 in
theorem tX10_put (l : Launch) (G : gE) (σ : gS) (p0 : Int32) (p1 : Int32) (p2 : Int64) : gM l G yX10_put cX10_put 5 (some .int) rX10_put iI [.ref (G.2.1 52), .int p0, .int p1, .long p2] σ (mX10_put σ p0 p1 p2) := by
  refine gM_of (by decide) (Nat.le_of_ble_eq_true rfl) ?_
  intro p e s m args below meth c hC
  unfold mX10_put
  show gT p l e rX10_put s m args below meth c G 5 iI σ 0 [(0, .ref (G.2.1 52)), (1, .int p0), (2, .int p1), (3, .long p2)] [] _
  refine g_iload_n (pc := 0) (q := 1) hC dX10_put_0 rfl rfl ?_
  refine g_callSz (pc := 1) (As := [.int p0]) (rest := []) hC lk_RX10_132 (tX10_isShelf _ _ σ p0) rfl rfl (Nat.le_of_ble_eq_true rfl) ⟨rfl, rfl, Nat.le_of_ble_eq_true rfl, Nat.le_of_ble_eq_true rfl⟩ dX10_put_1 (fun r1 s2 => ?_)
  refine g_bif_ne (pc := 4) (tgt := 9) hC dX10_put_4 (by decide) ?_ ?_
  · refine g_aload_n (pc := 9) (q := 0) hC dX10_put_9 rfl rfl ?_
    refine g_get (pc := 10) (v := .ref (G.2.1 76)) hC kX10 rfl 37 (by decide) fl_RX10_81 rfl dX10_put_10 ?_
    refine g_iload_n (pc := 13) (q := 1) hC dX10_put_13 rfl rfl ?_
    refine g_iald (pc := 14) hC 6 rfl (by decide) dX10_put_14 ?_
    refine g_iconst (pc := 15) (v := (-1)) hC dX10_put_15 (by decide) ?_
    refine g_icmp_ne (pc := 16) (tgt := 22) hC dX10_put_16 (by decide) ?_ ?_
    · refine g_aload_n (pc := 22) (q := 0) hC dX10_put_22 rfl rfl ?_
      refine g_iload_n (pc := 23) (q := 1) hC dX10_put_23 rfl rfl ?_
      refine g_callVz (pc := 24) (As := [.int p0]) (rest := []) hC lk_RX10_357 kX10 rfl (tX10_isRow _ _ s2 p0) rfl rfl (Nat.le_of_ble_eq_true rfl) ⟨rfl, rfl, Nat.le_of_ble_eq_true rfl, Nat.le_of_ble_eq_true rfl⟩ dX10_put_24 (fun r3 s4 => ?_)
      refine g_bif_ne (pc := 27) (tgt := 33) hC dX10_put_27 (by decide) ?_ ?_
      · refine g_iload_n (pc := 33) (q := 2) hC dX10_put_33 rfl rfl ?_
        refine g_iconst (pc := 34) (v := 0) hC dX10_put_34 (by decide) ?_
        refine g_aload_n (pc := 35) (q := 0) hC dX10_put_35 rfl rfl ?_
        refine g_get (pc := 36) (v := .ref (G.2.1 77)) hC kX10 rfl 38 (by decide) fl_RX10_84 rfl dX10_put_36 ?_
        refine g_iload_n (pc := 39) (q := 1) hC dX10_put_39 rfl rfl ?_
        refine g_iald (pc := 40) hC 6 rfl (by decide) dX10_put_40 ?_
        refine g_iconst (pc := 41) (v := 1) hC dX10_put_41 (by decide) ?_
        refine g_isub (pc := 42) hC dX10_put_42 ?_
        refine g_callSz (pc := 43) (As := [.int p1, .int 0, .int ((s4.1 77 (Int32.toNatClampNeg p0)) - 1)]) (rest := []) hC lk_RX10_110 (tX10_within _ _ s4 p1 0 ((s4.1 77 (Int32.toNatClampNeg p0)) - 1)) rfl rfl (Nat.le_of_ble_eq_true rfl) ⟨rfl, rfl, Nat.le_of_ble_eq_true rfl, Nat.le_of_ble_eq_true rfl⟩ dX10_put_43 (fun r5 s6 => ?_)
        refine g_bif_ne (pc := 46) (tgt := 52) hC dX10_put_46 (by decide) ?_ ?_
        · refine g_aload_n (pc := 52) (q := 0) hC dX10_put_52 rfl rfl ?_
          refine g_get (pc := 53) (v := .ref (G.2.1 78)) hC kX10 rfl 39 (by decide) fl_RX10_87 rfl dX10_put_53 ?_
          refine g_bipush (pc := 56) (v := 60) hC dX10_put_56 (by decide) ?_
          refine g_iload_n (pc := 58) (q := 1) hC dX10_put_58 rfl rfl ?_
          refine g_imul (pc := 59) hC dX10_put_59 ?_
          refine g_iload_n (pc := 60) (q := 2) hC dX10_put_60 rfl rfl ?_
          refine g_iadd (pc := 61) hC dX10_put_61 ?_
          refine g_aload_n (pc := 62) (q := 0) hC dX10_put_62 rfl rfl ?_
          refine g_get (pc := 63) (v := .ref (G.2.1 76)) hC kX10 rfl 37 (by decide) fl_RX10_81 rfl dX10_put_63 ?_
          refine g_iload_n (pc := 66) (q := 1) hC dX10_put_66 rfl rfl ?_
          refine g_iald (pc := 67) hC 6 rfl (by decide) dX10_put_67 ?_
          refine g_lload_n (pc := 68) (q := 3) hC dX10_put_68 rfl rfl ?_
          refine g_callSl (pc := 69) (As := [.int (s6.1 76 (Int32.toNatClampNeg p0)), .long p2]) (rest := [.int ((60 * p0) + p1), .ref (G.2.1 78)]) hC lk_RX10_360 (tX10_kept _ _ s6 (s6.1 76 (Int32.toNatClampNeg p0)) p2) rfl rfl (Nat.le_of_ble_eq_true rfl) ⟨rfl, rfl, Nat.le_of_ble_eq_true rfl, Nat.le_of_ble_eq_true rfl⟩ dX10_put_69 (fun r7 s8 => ?_)
          refine g_last (pc := 72) hC 360 rfl dX10_put_72 (fun s9 => ?_)
          refine g_iconst (pc := 73) (v := 1) hC dX10_put_73 (by decide) ?_
          exact g_iret (pc := 74) hC dX10_put_74
        · refine g_bipush (pc := 49) (v := (-13)) hC dX10_put_49 (by decide) ?_
          exact g_iret (pc := 51) hC dX10_put_51
      · refine g_bipush (pc := 30) (v := (-12)) hC dX10_put_30 (by decide) ?_
        exact g_iret (pc := 32) hC dX10_put_32
    · refine g_bipush (pc := 19) (v := (-11)) hC dX10_put_19 (by decide) ?_
      exact g_iret (pc := 21) hC dX10_put_21
  · refine g_iconst (pc := 7) (v := (-1)) hC dX10_put_7 (by decide) ?_
    exact g_iret (pc := 8) hC dX10_put_8
theorem dX10_element_0 : decode cX10_element 0 = .ok (.iload_n 1, 1) := by decide +kernel
theorem dX10_element_1 : decode cX10_element 1 = .ok (.invokestatic 132, 3) := by decide +kernel
theorem dX10_element_4 : decode cX10_element 4 = .ok (.ifCond .eq 41, 3) := by decide +kernel
theorem dX10_element_7 : decode cX10_element 7 = .ok (.aload_n 0, 1) := by decide +kernel
theorem dX10_element_8 : decode cX10_element 8 = .ok (.iload_n 1, 1) := by decide +kernel
theorem dX10_element_9 : decode cX10_element 9 = .ok (.invokevirtual 357, 3) := by decide +kernel
theorem dX10_element_12 : decode cX10_element 12 = .ok (.ifCond .eq 33, 3) := by decide +kernel
theorem dX10_element_15 : decode cX10_element 15 = .ok (.iload_n 2, 1) := by decide +kernel
theorem dX10_element_16 : decode cX10_element 16 = .ok (.iconst 0, 1) := by decide +kernel
theorem dX10_element_17 : decode cX10_element 17 = .ok (.aload_n 0, 1) := by decide +kernel
theorem dX10_element_18 : decode cX10_element 18 = .ok (.getfield 84, 3) := by decide +kernel
theorem dX10_element_21 : decode cX10_element 21 = .ok (.iload_n 1, 1) := by decide +kernel
theorem dX10_element_22 : decode cX10_element 22 = .ok (.iaload, 1) := by decide +kernel
theorem dX10_element_23 : decode cX10_element 23 = .ok (.iconst 1, 1) := by decide +kernel
theorem dX10_element_24 : decode cX10_element 24 = .ok (.isub, 1) := by decide +kernel
theorem dX10_element_25 : decode cX10_element 25 = .ok (.invokestatic 110, 3) := by decide +kernel
theorem dX10_element_28 : decode cX10_element 28 = .ok (.ifCond .eq 17, 3) := by decide +kernel
theorem dX10_element_31 : decode cX10_element 31 = .ok (.aload_n 0, 1) := by decide +kernel
theorem dX10_element_32 : decode cX10_element 32 = .ok (.getfield 87, 3) := by decide +kernel
theorem dX10_element_35 : decode cX10_element 35 = .ok (.bipush 60, 2) := by decide +kernel
theorem dX10_element_37 : decode cX10_element 37 = .ok (.iload_n 1, 1) := by decide +kernel
theorem dX10_element_38 : decode cX10_element 38 = .ok (.imul, 1) := by decide +kernel
theorem dX10_element_39 : decode cX10_element 39 = .ok (.iload_n 2, 1) := by decide +kernel
theorem dX10_element_40 : decode cX10_element 40 = .ok (.iadd, 1) := by decide +kernel
theorem dX10_element_41 : decode cX10_element 41 = .ok (.laload, 1) := by decide +kernel
theorem dX10_element_42 : decode cX10_element 42 = .ok (.goto 6, 3) := by decide +kernel
theorem dX10_element_45 : decode cX10_element 45 = .ok (.ldc2_w 312, 3) := by decide +kernel
theorem dX10_element_48 : decode cX10_element 48 = .ok (.lreturn, 1) := by decide +kernel
abbrev rX10_element : Room := { frames := 2, cells := 0, slots := 0, locals := 43 }
def mX10_element (σ : gS) (p0 : Int32) (p1 : Int32) : Option (Int64 × gS) := gBind (mX10_isShelf σ p0) (fun r1 s2 => if r1 = true then (gBind (mX10_isRow s2 p0) (fun r3 s4 => if r3 = true then (if inbB p0 6 = true then (gBind (mX10_within s4 p1 0 ((s4.1 77 (Int32.toNatClampNeg p0)) - 1)) (fun r5 s6 => if r5 = true then (if inbB ((60 * p0) + p1) 360 = true then (some ((s6.2.1 78 (Int32.toNatClampNeg ((60 * p0) + p1))), s6)) else none) else (some ((-9223372036854775808), s6)))) else none) else (some ((-9223372036854775808), s4)))) else (some ((-9223372036854775808), s2)))
set_option maxHeartbeats 4000000 in
set_option maxRecDepth 100000 in
theorem tX10_element (l : Launch) (G : gE) (σ : gS) (p0 : Int32) (p1 : Int32) : gM l G yX10_element cX10_element 3 (some .long) rX10_element iJ [.ref (G.2.1 52), .int p0, .int p1] σ (mX10_element σ p0 p1) := by
  refine gM_of (by decide) (Nat.le_of_ble_eq_true rfl) ?_
  intro p e s m args below meth c hC
  unfold mX10_element
  show gT p l e rX10_element s m args below meth c G 3 iJ σ 0 [(0, .ref (G.2.1 52)), (1, .int p0), (2, .int p1)] [] _
  refine g_iload_n (pc := 0) (q := 1) hC dX10_element_0 rfl rfl ?_
  refine g_callSz (pc := 1) (As := [.int p0]) (rest := []) hC lk_RX10_132 (tX10_isShelf _ _ σ p0) rfl rfl (Nat.le_of_ble_eq_true rfl) ⟨rfl, rfl, Nat.le_of_ble_eq_true rfl, Nat.le_of_ble_eq_true rfl⟩ dX10_element_1 (fun r1 s2 => ?_)
  refine g_bif_eq (pc := 4) (tgt := 45) hC dX10_element_4 (by decide) ?_ ?_
  · refine g_ldc2 (pc := 45) hC dX10_element_45 cst_RX10_312 ?_
    exact g_lret (pc := 48) hC dX10_element_48
  · refine g_aload_n (pc := 7) (q := 0) hC dX10_element_7 rfl rfl ?_
    refine g_iload_n (pc := 8) (q := 1) hC dX10_element_8 rfl rfl ?_
    refine g_callVz (pc := 9) (As := [.int p0]) (rest := []) hC lk_RX10_357 kX10 rfl (tX10_isRow _ _ s2 p0) rfl rfl (Nat.le_of_ble_eq_true rfl) ⟨rfl, rfl, Nat.le_of_ble_eq_true rfl, Nat.le_of_ble_eq_true rfl⟩ dX10_element_9 (fun r3 s4 => ?_)
    refine g_bif_eq (pc := 12) (tgt := 45) hC dX10_element_12 (by decide) ?_ ?_
    · refine g_ldc2 (pc := 45) hC dX10_element_45 cst_RX10_312 ?_
      exact g_lret (pc := 48) hC dX10_element_48
    · refine g_iload_n (pc := 15) (q := 2) hC dX10_element_15 rfl rfl ?_
      refine g_iconst (pc := 16) (v := 0) hC dX10_element_16 (by decide) ?_
      refine g_aload_n (pc := 17) (q := 0) hC dX10_element_17 rfl rfl ?_
      refine g_get (pc := 18) (v := .ref (G.2.1 77)) hC kX10 rfl 38 (by decide) fl_RX10_84 rfl dX10_element_18 ?_
      refine g_iload_n (pc := 21) (q := 1) hC dX10_element_21 rfl rfl ?_
      refine g_iald (pc := 22) hC 6 rfl (by decide) dX10_element_22 ?_
      refine g_iconst (pc := 23) (v := 1) hC dX10_element_23 (by decide) ?_
      refine g_isub (pc := 24) hC dX10_element_24 ?_
      refine g_callSz (pc := 25) (As := [.int p1, .int 0, .int ((s4.1 77 (Int32.toNatClampNeg p0)) - 1)]) (rest := []) hC lk_RX10_110 (tX10_within _ _ s4 p1 0 ((s4.1 77 (Int32.toNatClampNeg p0)) - 1)) rfl rfl (Nat.le_of_ble_eq_true rfl) ⟨rfl, rfl, Nat.le_of_ble_eq_true rfl, Nat.le_of_ble_eq_true rfl⟩ dX10_element_25 (fun r5 s6 => ?_)
      refine g_bif_eq (pc := 28) (tgt := 45) hC dX10_element_28 (by decide) ?_ ?_
      · refine g_ldc2 (pc := 45) hC dX10_element_45 cst_RX10_312 ?_
        exact g_lret (pc := 48) hC dX10_element_48
      · refine g_aload_n (pc := 31) (q := 0) hC dX10_element_31 rfl rfl ?_
        refine g_get (pc := 32) (v := .ref (G.2.1 78)) hC kX10 rfl 39 (by decide) fl_RX10_87 rfl dX10_element_32 ?_
        refine g_bipush (pc := 35) (v := 60) hC dX10_element_35 (by decide) ?_
        refine g_iload_n (pc := 37) (q := 1) hC dX10_element_37 rfl rfl ?_
        refine g_imul (pc := 38) hC dX10_element_38 ?_
        refine g_iload_n (pc := 39) (q := 2) hC dX10_element_39 rfl rfl ?_
        refine g_iadd (pc := 40) hC dX10_element_40 ?_
        refine g_lald (pc := 41) hC 360 rfl dX10_element_41 ?_
        refine g_goto (pc := 42) (tgt := 48) hC dX10_element_42 (by decide) ?_
        exact g_lret (pc := 48) hC dX10_element_48
theorem dX10_shift_0 : decode cX10_shift 0 = .ok (.iload_n 1, 1) := by decide +kernel
theorem dX10_shift_1 : decode cX10_shift 1 = .ok (.invokestatic 132, 3) := by decide +kernel
theorem dX10_shift_4 : decode cX10_shift 4 = .ok (.ifCond .eq 10, 3) := by decide +kernel
theorem dX10_shift_7 : decode cX10_shift 7 = .ok (.iload_n 3, 1) := by decide +kernel
theorem dX10_shift_8 : decode cX10_shift 8 = .ok (.invokestatic 132, 3) := by decide +kernel
theorem dX10_shift_11 : decode cX10_shift 11 = .ok (.ifCond .ne 5, 3) := by decide +kernel
theorem dX10_shift_14 : decode cX10_shift 14 = .ok (.iconst (-1), 1) := by decide +kernel
theorem dX10_shift_15 : decode cX10_shift 15 = .ok (.ireturn, 1) := by decide +kernel
theorem dX10_shift_16 : decode cX10_shift 16 = .ok (.aload_n 0, 1) := by decide +kernel
theorem dX10_shift_17 : decode cX10_shift 17 = .ok (.getfield 81, 3) := by decide +kernel
theorem dX10_shift_20 : decode cX10_shift 20 = .ok (.iload_n 1, 1) := by decide +kernel
theorem dX10_shift_21 : decode cX10_shift 21 = .ok (.iaload, 1) := by decide +kernel
theorem dX10_shift_22 : decode cX10_shift 22 = .ok (.iconst (-1), 1) := by decide +kernel
theorem dX10_shift_23 : decode cX10_shift 23 = .ok (.if_icmp .eq 13, 3) := by decide +kernel
theorem dX10_shift_26 : decode cX10_shift 26 = .ok (.aload_n 0, 1) := by decide +kernel
theorem dX10_shift_27 : decode cX10_shift 27 = .ok (.getfield 81, 3) := by decide +kernel
theorem dX10_shift_30 : decode cX10_shift 30 = .ok (.iload_n 3, 1) := by decide +kernel
theorem dX10_shift_31 : decode cX10_shift 31 = .ok (.iaload, 1) := by decide +kernel
theorem dX10_shift_32 : decode cX10_shift 32 = .ok (.iconst (-1), 1) := by decide +kernel
theorem dX10_shift_33 : decode cX10_shift 33 = .ok (.if_icmp .ne 6, 3) := by decide +kernel
theorem dX10_shift_36 : decode cX10_shift 36 = .ok (.bipush (-11), 2) := by decide +kernel
theorem dX10_shift_38 : decode cX10_shift 38 = .ok (.ireturn, 1) := by decide +kernel
theorem dX10_shift_39 : decode cX10_shift 39 = .ok (.aload_n 0, 1) := by decide +kernel
theorem dX10_shift_40 : decode cX10_shift 40 = .ok (.iload_n 1, 1) := by decide +kernel
theorem dX10_shift_41 : decode cX10_shift 41 = .ok (.invokevirtual 357, 3) := by decide +kernel
theorem dX10_shift_44 : decode cX10_shift 44 = .ok (.ifCond .eq 26, 3) := by decide +kernel
theorem dX10_shift_47 : decode cX10_shift 47 = .ok (.aload_n 0, 1) := by decide +kernel
theorem dX10_shift_48 : decode cX10_shift 48 = .ok (.iload_n 3, 1) := by decide +kernel
theorem dX10_shift_49 : decode cX10_shift 49 = .ok (.invokevirtual 357, 3) := by decide +kernel
theorem dX10_shift_52 : decode cX10_shift 52 = .ok (.ifCond .eq 18, 3) := by decide +kernel
theorem dX10_shift_55 : decode cX10_shift 55 = .ok (.aload_n 0, 1) := by decide +kernel
theorem dX10_shift_56 : decode cX10_shift 56 = .ok (.getfield 81, 3) := by decide +kernel
theorem dX10_shift_59 : decode cX10_shift 59 = .ok (.iload_n 1, 1) := by decide +kernel
theorem dX10_shift_60 : decode cX10_shift 60 = .ok (.iaload, 1) := by decide +kernel
theorem dX10_shift_61 : decode cX10_shift 61 = .ok (.aload_n 0, 1) := by decide +kernel
theorem dX10_shift_62 : decode cX10_shift 62 = .ok (.getfield 81, 3) := by decide +kernel
theorem dX10_shift_65 : decode cX10_shift 65 = .ok (.iload_n 3, 1) := by decide +kernel
theorem dX10_shift_66 : decode cX10_shift 66 = .ok (.iaload, 1) := by decide +kernel
theorem dX10_shift_67 : decode cX10_shift 67 = .ok (.if_icmp .eq 6, 3) := by decide +kernel
theorem dX10_shift_70 : decode cX10_shift 70 = .ok (.bipush (-12), 2) := by decide +kernel
theorem dX10_shift_72 : decode cX10_shift 72 = .ok (.ireturn, 1) := by decide +kernel
theorem dX10_shift_73 : decode cX10_shift 73 = .ok (.iload 5, 2) := by decide +kernel
theorem dX10_shift_75 : decode cX10_shift 75 = .ok (.ifCond .lt 47, 3) := by decide +kernel
theorem dX10_shift_78 : decode cX10_shift 78 = .ok (.iload_n 2, 1) := by decide +kernel
theorem dX10_shift_79 : decode cX10_shift 79 = .ok (.ifCond .lt 43, 3) := by decide +kernel
theorem dX10_shift_82 : decode cX10_shift 82 = .ok (.iload 4, 2) := by decide +kernel
theorem dX10_shift_84 : decode cX10_shift 84 = .ok (.ifCond .lt 38, 3) := by decide +kernel
theorem dX10_shift_87 : decode cX10_shift 87 = .ok (.iload_n 2, 1) := by decide +kernel
theorem dX10_shift_88 : decode cX10_shift 88 = .ok (.i2l, 1) := by decide +kernel
theorem dX10_shift_89 : decode cX10_shift 89 = .ok (.iload 5, 2) := by decide +kernel
theorem dX10_shift_91 : decode cX10_shift 91 = .ok (.i2l, 1) := by decide +kernel
theorem dX10_shift_92 : decode cX10_shift 92 = .ok (.ladd, 1) := by decide +kernel
theorem dX10_shift_93 : decode cX10_shift 93 = .ok (.aload_n 0, 1) := by decide +kernel
theorem dX10_shift_94 : decode cX10_shift 94 = .ok (.getfield 84, 3) := by decide +kernel
theorem dX10_shift_97 : decode cX10_shift 97 = .ok (.iload_n 1, 1) := by decide +kernel
theorem dX10_shift_98 : decode cX10_shift 98 = .ok (.iaload, 1) := by decide +kernel
theorem dX10_shift_99 : decode cX10_shift 99 = .ok (.i2l, 1) := by decide +kernel
theorem dX10_shift_100 : decode cX10_shift 100 = .ok (.lcmp, 1) := by decide +kernel
theorem dX10_shift_101 : decode cX10_shift 101 = .ok (.ifCond .gt 21, 3) := by decide +kernel
theorem dX10_shift_104 : decode cX10_shift 104 = .ok (.iload 4, 2) := by decide +kernel
theorem dX10_shift_106 : decode cX10_shift 106 = .ok (.i2l, 1) := by decide +kernel
theorem dX10_shift_107 : decode cX10_shift 107 = .ok (.iload 5, 2) := by decide +kernel
theorem dX10_shift_109 : decode cX10_shift 109 = .ok (.i2l, 1) := by decide +kernel
theorem dX10_shift_110 : decode cX10_shift 110 = .ok (.ladd, 1) := by decide +kernel
theorem dX10_shift_111 : decode cX10_shift 111 = .ok (.aload_n 0, 1) := by decide +kernel
theorem dX10_shift_112 : decode cX10_shift 112 = .ok (.getfield 84, 3) := by decide +kernel
theorem dX10_shift_115 : decode cX10_shift 115 = .ok (.iload_n 3, 1) := by decide +kernel
theorem dX10_shift_116 : decode cX10_shift 116 = .ok (.iaload, 1) := by decide +kernel
theorem dX10_shift_117 : decode cX10_shift 117 = .ok (.i2l, 1) := by decide +kernel
theorem dX10_shift_118 : decode cX10_shift 118 = .ok (.lcmp, 1) := by decide +kernel
theorem dX10_shift_119 : decode cX10_shift 119 = .ok (.ifCond .le 6, 3) := by decide +kernel
theorem dX10_shift_122 : decode cX10_shift 122 = .ok (.bipush (-13), 2) := by decide +kernel
theorem dX10_shift_124 : decode cX10_shift 124 = .ok (.ireturn, 1) := by decide +kernel
theorem dX10_shift_125 : decode cX10_shift 125 = .ok (.iload_n 1, 1) := by decide +kernel
theorem dX10_shift_126 : decode cX10_shift 126 = .ok (.iload_n 3, 1) := by decide +kernel
theorem dX10_shift_127 : decode cX10_shift 127 = .ok (.if_icmp .ne 58, 3) := by decide +kernel
theorem dX10_shift_130 : decode cX10_shift 130 = .ok (.iload_n 2, 1) := by decide +kernel
theorem dX10_shift_131 : decode cX10_shift 131 = .ok (.iload 4, 2) := by decide +kernel
theorem dX10_shift_133 : decode cX10_shift 133 = .ok (.if_icmp .ge 52, 3) := by decide +kernel
theorem dX10_shift_136 : decode cX10_shift 136 = .ok (.iload 5, 2) := by decide +kernel
theorem dX10_shift_138 : decode cX10_shift 138 = .ok (.iconst 1, 1) := by decide +kernel
theorem dX10_shift_139 : decode cX10_shift 139 = .ok (.isub, 1) := by decide +kernel
theorem dX10_shift_140 : decode cX10_shift 140 = .ok (.istore 6, 2) := by decide +kernel
theorem dX10_shift_142 : decode cX10_shift 142 = .ok (.iload 6, 2) := by decide +kernel
theorem dX10_shift_144 : decode cX10_shift 144 = .ok (.ifCond .lt 38, 3) := by decide +kernel
theorem dX10_shift_147 : decode cX10_shift 147 = .ok (.aload_n 0, 1) := by decide +kernel
theorem dX10_shift_148 : decode cX10_shift 148 = .ok (.getfield 87, 3) := by decide +kernel
theorem dX10_shift_151 : decode cX10_shift 151 = .ok (.bipush 60, 2) := by decide +kernel
theorem dX10_shift_153 : decode cX10_shift 153 = .ok (.iload_n 3, 1) := by decide +kernel
theorem dX10_shift_154 : decode cX10_shift 154 = .ok (.imul, 1) := by decide +kernel
theorem dX10_shift_155 : decode cX10_shift 155 = .ok (.iload 4, 2) := by decide +kernel
theorem dX10_shift_157 : decode cX10_shift 157 = .ok (.iadd, 1) := by decide +kernel
theorem dX10_shift_158 : decode cX10_shift 158 = .ok (.iload 6, 2) := by decide +kernel
theorem dX10_shift_160 : decode cX10_shift 160 = .ok (.iadd, 1) := by decide +kernel
theorem dX10_shift_161 : decode cX10_shift 161 = .ok (.aload_n 0, 1) := by decide +kernel
theorem dX10_shift_162 : decode cX10_shift 162 = .ok (.getfield 87, 3) := by decide +kernel
theorem dX10_shift_165 : decode cX10_shift 165 = .ok (.bipush 60, 2) := by decide +kernel
theorem dX10_shift_167 : decode cX10_shift 167 = .ok (.iload_n 1, 1) := by decide +kernel
theorem dX10_shift_168 : decode cX10_shift 168 = .ok (.imul, 1) := by decide +kernel
theorem dX10_shift_169 : decode cX10_shift 169 = .ok (.iload_n 2, 1) := by decide +kernel
theorem dX10_shift_170 : decode cX10_shift 170 = .ok (.iadd, 1) := by decide +kernel
theorem dX10_shift_171 : decode cX10_shift 171 = .ok (.iload 6, 2) := by decide +kernel
theorem dX10_shift_173 : decode cX10_shift 173 = .ok (.iadd, 1) := by decide +kernel
theorem dX10_shift_174 : decode cX10_shift 174 = .ok (.laload, 1) := by decide +kernel
theorem dX10_shift_175 : decode cX10_shift 175 = .ok (.lastore, 1) := by decide +kernel
theorem dX10_shift_176 : decode cX10_shift 176 = .ok (.iinc 6 (-1), 3) := by decide +kernel
theorem dX10_shift_179 : decode cX10_shift 179 = .ok (.goto (-37), 3) := by decide +kernel
theorem dX10_shift_182 : decode cX10_shift 182 = .ok (.goto 48, 3) := by decide +kernel
theorem dX10_shift_185 : decode cX10_shift 185 = .ok (.iconst 0, 1) := by decide +kernel
theorem dX10_shift_186 : decode cX10_shift 186 = .ok (.istore 6, 2) := by decide +kernel
theorem dX10_shift_188 : decode cX10_shift 188 = .ok (.iload 6, 2) := by decide +kernel
theorem dX10_shift_190 : decode cX10_shift 190 = .ok (.iload 5, 2) := by decide +kernel
theorem dX10_shift_192 : decode cX10_shift 192 = .ok (.if_icmp .ge 38, 3) := by decide +kernel
theorem dX10_shift_195 : decode cX10_shift 195 = .ok (.aload_n 0, 1) := by decide +kernel
theorem dX10_shift_196 : decode cX10_shift 196 = .ok (.getfield 87, 3) := by decide +kernel
theorem dX10_shift_199 : decode cX10_shift 199 = .ok (.bipush 60, 2) := by decide +kernel
theorem dX10_shift_201 : decode cX10_shift 201 = .ok (.iload_n 3, 1) := by decide +kernel
theorem dX10_shift_202 : decode cX10_shift 202 = .ok (.imul, 1) := by decide +kernel
theorem dX10_shift_203 : decode cX10_shift 203 = .ok (.iload 4, 2) := by decide +kernel
theorem dX10_shift_205 : decode cX10_shift 205 = .ok (.iadd, 1) := by decide +kernel
theorem dX10_shift_206 : decode cX10_shift 206 = .ok (.iload 6, 2) := by decide +kernel
theorem dX10_shift_208 : decode cX10_shift 208 = .ok (.iadd, 1) := by decide +kernel
theorem dX10_shift_209 : decode cX10_shift 209 = .ok (.aload_n 0, 1) := by decide +kernel
theorem dX10_shift_210 : decode cX10_shift 210 = .ok (.getfield 87, 3) := by decide +kernel
theorem dX10_shift_213 : decode cX10_shift 213 = .ok (.bipush 60, 2) := by decide +kernel
theorem dX10_shift_215 : decode cX10_shift 215 = .ok (.iload_n 1, 1) := by decide +kernel
theorem dX10_shift_216 : decode cX10_shift 216 = .ok (.imul, 1) := by decide +kernel
theorem dX10_shift_217 : decode cX10_shift 217 = .ok (.iload_n 2, 1) := by decide +kernel
theorem dX10_shift_218 : decode cX10_shift 218 = .ok (.iadd, 1) := by decide +kernel
theorem dX10_shift_219 : decode cX10_shift 219 = .ok (.iload 6, 2) := by decide +kernel
theorem dX10_shift_221 : decode cX10_shift 221 = .ok (.iadd, 1) := by decide +kernel
theorem dX10_shift_222 : decode cX10_shift 222 = .ok (.laload, 1) := by decide +kernel
theorem dX10_shift_223 : decode cX10_shift 223 = .ok (.lastore, 1) := by decide +kernel
theorem dX10_shift_224 : decode cX10_shift 224 = .ok (.iinc 6 1, 3) := by decide +kernel
theorem dX10_shift_227 : decode cX10_shift 227 = .ok (.goto (-39), 3) := by decide +kernel
theorem dX10_shift_230 : decode cX10_shift 230 = .ok (.iload 5, 2) := by decide +kernel
theorem dX10_shift_232 : decode cX10_shift 232 = .ok (.ireturn, 1) := by decide +kernel
abbrev rX10_shift : Room := { frames := 2, cells := 0, slots := 0, locals := 43 }
def mX10_shift_b188    : Nat → gS → Int32 → Int32 → Int32 → Int32 → Int32 → Int32 → Option (Int32 × gS)
  | 0, _, _, _, _, _, _, _ => none
  | n + 1, σ, x15, x16, x17, x18, x19, x20 => if x19 ≤ x20 then (some (x19, σ)) else (if inbB (((60 * x15) + x16) + x20) 360 = true then (if inbB (((60 * x17) + x18) + x20) 360 = true then gLet (gUJ σ 78 (Int32.toNatClampNeg (((60 * x17) + x18) + x20)) (σ.2.1 78 (Int32.toNatClampNeg (((60 * x15) + x16) + x20)))) (fun s21 => gLet (x20 + 1) (fun v22 => ((mX10_shift_b188  n) s21 x15 x16 x17 x18 x19 v22))) else none) else none)
set_option maxHeartbeats 4000000 in
set_option maxRecDepth 100000 in
theorem wX10_shift_b188 {p : Program} {l : Launch} {e : Env} {s : State} {m : MethodId} {args : Array Value} {below : List Frame} {meth : Method} {c : Code} {G : gE} (hC : gCx p s m args meth c G RX10 cX10_shift 7 (some .int))     (n : Nat) (σ : gS) (x15 : Int32) (x16 : Int32) (x17 : Int32) (x18 : Int32) (x19 : Int32) (x20 : Int32)  : gT p l e rX10_shift s m args below meth c G 7 iI σ 188 [(0, .ref (G.2.1 52)), (1, .int x15), (2, .int x16), (3, .int x17), (4, .int x18), (5, .int x19), (6, .int x20)] [] (mX10_shift_b188  n σ x15 x16 x17 x18 x19 x20) := by
  induction n generalizing σ x15 x16 x17 x18 x19 x20 with
  | zero => exact gT_none
  | succ n ih =>
    unfold mX10_shift_b188
    refine g_iload (pc := 188) (q := 6) hC dX10_shift_188 rfl ?_
    refine g_iload (pc := 190) (q := 5) hC dX10_shift_190 rfl ?_
    refine g_icmp_ge (pc := 192) (tgt := 230) hC dX10_shift_192 (by decide) ?_ ?_
    · refine g_iload (pc := 230) (q := 5) hC dX10_shift_230 rfl ?_
      exact g_iret (pc := 232) hC dX10_shift_232
    · refine g_aload_n (pc := 195) (q := 0) hC dX10_shift_195 rfl rfl ?_
      refine g_get (pc := 196) (v := .ref (G.2.1 78)) hC kX10 rfl 39 (by decide) fl_RX10_87 rfl dX10_shift_196 ?_
      refine g_bipush (pc := 199) (v := 60) hC dX10_shift_199 (by decide) ?_
      refine g_iload_n (pc := 201) (q := 3) hC dX10_shift_201 rfl rfl ?_
      refine g_imul (pc := 202) hC dX10_shift_202 ?_
      refine g_iload (pc := 203) (q := 4) hC dX10_shift_203 rfl ?_
      refine g_iadd (pc := 205) hC dX10_shift_205 ?_
      refine g_iload (pc := 206) (q := 6) hC dX10_shift_206 rfl ?_
      refine g_iadd (pc := 208) hC dX10_shift_208 ?_
      refine g_aload_n (pc := 209) (q := 0) hC dX10_shift_209 rfl rfl ?_
      refine g_get (pc := 210) (v := .ref (G.2.1 78)) hC kX10 rfl 39 (by decide) fl_RX10_87 rfl dX10_shift_210 ?_
      refine g_bipush (pc := 213) (v := 60) hC dX10_shift_213 (by decide) ?_
      refine g_iload_n (pc := 215) (q := 1) hC dX10_shift_215 rfl rfl ?_
      refine g_imul (pc := 216) hC dX10_shift_216 ?_
      refine g_iload_n (pc := 217) (q := 2) hC dX10_shift_217 rfl rfl ?_
      refine g_iadd (pc := 218) hC dX10_shift_218 ?_
      refine g_iload (pc := 219) (q := 6) hC dX10_shift_219 rfl ?_
      refine g_iadd (pc := 221) hC dX10_shift_221 ?_
      refine g_lald (pc := 222) hC 360 rfl dX10_shift_222 ?_
      refine g_last (pc := 223) hC 360 rfl dX10_shift_223 (fun s21 => ?_)
      refine g_iinc (pc := 224) (q := 6) (w := 1) (lv' := fun v22 => [(6, .int v22), (0, .ref (G.2.1 52)), (1, .int x15), (2, .int x16), (3, .int x17), (4, .int x18), (5, .int x19)]) hC dX10_shift_224 rfl (by decide) (by decide) (fun _ => rfl) (fun v22 => ?_)
      refine g_goto (pc := 227) (tgt := 188) hC dX10_shift_227 (by decide) ?_
      exact gT_sub [1, 2, 3, 4, 5, 6, 0] rfl (ih s21 x15 x16 x17 x18 x19 v22)
def mX10_shift_b185    (σ : gS) (x9 : Int32) (x10 : Int32) (x11 : Int32) (x12 : Int32) (x13 : Int32) : Option (Int32 × gS) := gLet 0 (fun v14 => (mX10_shift_b188  1100 σ x9 x10 x11 x12 x13 v14))
set_option maxHeartbeats 4000000 in
set_option maxRecDepth 100000 in
theorem wX10_shift_b185 {p : Program} {l : Launch} {e : Env} {s : State} {m : MethodId} {args : Array Value} {below : List Frame} {meth : Method} {c : Code} {G : gE} (hC : gCx p s m args meth c G RX10 cX10_shift 7 (some .int))     (σ : gS) (x9 : Int32) (x10 : Int32) (x11 : Int32) (x12 : Int32) (x13 : Int32)  : gT p l e rX10_shift s m args below meth c G 7 iI σ 185 [(0, .ref (G.2.1 52)), (1, .int x9), (2, .int x10), (3, .int x11), (4, .int x12), (5, .int x13)] [] (mX10_shift_b185  σ x9 x10 x11 x12 x13) := by
  unfold mX10_shift_b185
  refine g_iconst (pc := 185) (v := 0) hC dX10_shift_185 (by decide) ?_
  refine g_istore (pc := 186) (lv' := fun v14 => [(6, .int v14), (0, .ref (G.2.1 52)), (1, .int x9), (2, .int x10), (3, .int x11), (4, .int x12), (5, .int x13)]) hC dX10_shift_186 (by decide) (fun _ => rfl) (fun v14 => ?_)
  exact gT_sub [1, 2, 3, 4, 5, 6, 0] rfl (wX10_shift_b188 hC  1100 σ x9 x10 x11 x12 x13 v14)
def mX10_shift_b142    : Nat → gS → Int32 → Int32 → Int32 → Int32 → Int32 → Int32 → Option (Int32 × gS)
  | 0, _, _, _, _, _, _, _ => none
  | n + 1, σ, x24, x25, x26, x27, x28, x29 => if x29 < 0 then (some (x28, σ)) else (if inbB (((60 * x24) + x25) + x29) 360 = true then (if inbB (((60 * x26) + x27) + x29) 360 = true then gLet (gUJ σ 78 (Int32.toNatClampNeg (((60 * x26) + x27) + x29)) (σ.2.1 78 (Int32.toNatClampNeg (((60 * x24) + x25) + x29)))) (fun s30 => gLet (x29 + (-1)) (fun v31 => ((mX10_shift_b142  n) s30 x24 x25 x26 x27 x28 v31))) else none) else none)
set_option maxHeartbeats 4000000 in
set_option maxRecDepth 100000 in
theorem wX10_shift_b142 {p : Program} {l : Launch} {e : Env} {s : State} {m : MethodId} {args : Array Value} {below : List Frame} {meth : Method} {c : Code} {G : gE} (hC : gCx p s m args meth c G RX10 cX10_shift 7 (some .int))     (n : Nat) (σ : gS) (x24 : Int32) (x25 : Int32) (x26 : Int32) (x27 : Int32) (x28 : Int32) (x29 : Int32)  : gT p l e rX10_shift s m args below meth c G 7 iI σ 142 [(0, .ref (G.2.1 52)), (1, .int x24), (2, .int x25), (3, .int x26), (4, .int x27), (5, .int x28), (6, .int x29)] [] (mX10_shift_b142  n σ x24 x25 x26 x27 x28 x29) := by
  induction n generalizing σ x24 x25 x26 x27 x28 x29 with
  | zero => exact gT_none
  | succ n ih =>
    unfold mX10_shift_b142
    refine g_iload (pc := 142) (q := 6) hC dX10_shift_142 rfl ?_
    refine g_if_lt (pc := 144) (tgt := 182) hC dX10_shift_144 (by decide) ?_ ?_
    · refine g_goto (pc := 182) (tgt := 230) hC dX10_shift_182 (by decide) ?_
      refine g_iload (pc := 230) (q := 5) hC dX10_shift_230 rfl ?_
      exact g_iret (pc := 232) hC dX10_shift_232
    · refine g_aload_n (pc := 147) (q := 0) hC dX10_shift_147 rfl rfl ?_
      refine g_get (pc := 148) (v := .ref (G.2.1 78)) hC kX10 rfl 39 (by decide) fl_RX10_87 rfl dX10_shift_148 ?_
      refine g_bipush (pc := 151) (v := 60) hC dX10_shift_151 (by decide) ?_
      refine g_iload_n (pc := 153) (q := 3) hC dX10_shift_153 rfl rfl ?_
      refine g_imul (pc := 154) hC dX10_shift_154 ?_
      refine g_iload (pc := 155) (q := 4) hC dX10_shift_155 rfl ?_
      refine g_iadd (pc := 157) hC dX10_shift_157 ?_
      refine g_iload (pc := 158) (q := 6) hC dX10_shift_158 rfl ?_
      refine g_iadd (pc := 160) hC dX10_shift_160 ?_
      refine g_aload_n (pc := 161) (q := 0) hC dX10_shift_161 rfl rfl ?_
      refine g_get (pc := 162) (v := .ref (G.2.1 78)) hC kX10 rfl 39 (by decide) fl_RX10_87 rfl dX10_shift_162 ?_
      refine g_bipush (pc := 165) (v := 60) hC dX10_shift_165 (by decide) ?_
      refine g_iload_n (pc := 167) (q := 1) hC dX10_shift_167 rfl rfl ?_
      refine g_imul (pc := 168) hC dX10_shift_168 ?_
      refine g_iload_n (pc := 169) (q := 2) hC dX10_shift_169 rfl rfl ?_
      refine g_iadd (pc := 170) hC dX10_shift_170 ?_
      refine g_iload (pc := 171) (q := 6) hC dX10_shift_171 rfl ?_
      refine g_iadd (pc := 173) hC dX10_shift_173 ?_
      refine g_lald (pc := 174) hC 360 rfl dX10_shift_174 ?_
      refine g_last (pc := 175) hC 360 rfl dX10_shift_175 (fun s30 => ?_)
      refine g_iinc (pc := 176) (q := 6) (w := (-1)) (lv' := fun v31 => [(6, .int v31), (0, .ref (G.2.1 52)), (1, .int x24), (2, .int x25), (3, .int x26), (4, .int x27), (5, .int x28)]) hC dX10_shift_176 rfl (by decide) (by decide) (fun _ => rfl) (fun v31 => ?_)
      refine g_goto (pc := 179) (tgt := 142) hC dX10_shift_179 (by decide) ?_
      exact gT_sub [1, 2, 3, 4, 5, 6, 0] rfl (ih s30 x24 x25 x26 x27 x28 v31)
def mX10_shift (σ : gS) (p0 : Int32) (p1 : Int32) (p2 : Int32) (p3 : Int32) (p4 : Int32) : Option (Int32 × gS) := gBind (mX10_isShelf σ p0) (fun r1 s2 => if r1 = true then (gBind (mX10_isShelf s2 p2) (fun r3 s4 => if r3 = true then (if inbB p0 6 = true then (if (s4.1 76 (Int32.toNatClampNeg p0)) = (-1) then (some ((-11), s4)) else (if inbB p2 6 = true then (if (s4.1 76 (Int32.toNatClampNeg p2)) = (-1) then (some ((-11), s4)) else (gBind (mX10_isRow s4 p0) (fun r5 s6 => if r5 = true then (gBind (mX10_isRow s6 p2) (fun r7 s8 => if r7 = true then (if inbB p0 6 = true then (if inbB p2 6 = true then (if (s8.1 76 (Int32.toNatClampNeg p0)) = (s8.1 76 (Int32.toNatClampNeg p2)) then (if p4 < 0 then (some ((-13), s8)) else (if p1 < 0 then (some ((-13), s8)) else (if p3 < 0 then (some ((-13), s8)) else (if inbB p0 6 = true then (if 0 < (lg_cmp ((Int32.toInt64 p1) + (Int32.toInt64 p4)) (Int32.toInt64 (s8.1 77 (Int32.toNatClampNeg p0)))) then (some ((-13), s8)) else (if inbB p2 6 = true then (if (lg_cmp ((Int32.toInt64 p3) + (Int32.toInt64 p4)) (Int32.toInt64 (s8.1 77 (Int32.toNatClampNeg p2)))) ≤ 0 then (if p0 = p2 then (if p3 ≤ p1 then ((mX10_shift_b185  s8 p0 p1 p2 p3 p4)) else (gLet (p4 - 1) (fun v23 => (mX10_shift_b142  1100 s8 p0 p1 p2 p3 p4 v23)))) else ((mX10_shift_b185  s8 p0 p1 p2 p3 p4))) else (some ((-13), s8))) else none)) else none)))) else (some ((-12), s8))) else none) else none) else (some ((-12), s8)))) else (some ((-12), s6))))) else none)) else none) else (some ((-1), s4)))) else (some ((-1), s2)))
set_option maxHeartbeats 4000000 in
set_option maxRecDepth 100000 in
theorem tX10_shift (l : Launch) (G : gE) (σ : gS) (p0 : Int32) (p1 : Int32) (p2 : Int32) (p3 : Int32) (p4 : Int32) : gM l G yX10_shift cX10_shift 7 (some .int) rX10_shift iI [.ref (G.2.1 52), .int p0, .int p1, .int p2, .int p3, .int p4] σ (mX10_shift σ p0 p1 p2 p3 p4) := by
  refine gM_of (by decide) (Nat.le_of_ble_eq_true rfl) ?_
  intro p e s m args below meth c hC
  unfold mX10_shift
  show gT p l e rX10_shift s m args below meth c G 7 iI σ 0 [(0, .ref (G.2.1 52)), (1, .int p0), (2, .int p1), (3, .int p2), (4, .int p3), (5, .int p4)] [] _
  refine g_iload_n (pc := 0) (q := 1) hC dX10_shift_0 rfl rfl ?_
  refine g_callSz (pc := 1) (As := [.int p0]) (rest := []) hC lk_RX10_132 (tX10_isShelf _ _ σ p0) rfl rfl (Nat.le_of_ble_eq_true rfl) ⟨rfl, rfl, Nat.le_of_ble_eq_true rfl, Nat.le_of_ble_eq_true rfl⟩ dX10_shift_1 (fun r1 s2 => ?_)
  refine g_bif_eq (pc := 4) (tgt := 14) hC dX10_shift_4 (by decide) ?_ ?_
  · refine g_iconst (pc := 14) (v := (-1)) hC dX10_shift_14 (by decide) ?_
    exact g_iret (pc := 15) hC dX10_shift_15
  · refine g_iload_n (pc := 7) (q := 3) hC dX10_shift_7 rfl rfl ?_
    refine g_callSz (pc := 8) (As := [.int p2]) (rest := []) hC lk_RX10_132 (tX10_isShelf _ _ s2 p2) rfl rfl (Nat.le_of_ble_eq_true rfl) ⟨rfl, rfl, Nat.le_of_ble_eq_true rfl, Nat.le_of_ble_eq_true rfl⟩ dX10_shift_8 (fun r3 s4 => ?_)
    refine g_bif_ne (pc := 11) (tgt := 16) hC dX10_shift_11 (by decide) ?_ ?_
    · refine g_aload_n (pc := 16) (q := 0) hC dX10_shift_16 rfl rfl ?_
      refine g_get (pc := 17) (v := .ref (G.2.1 76)) hC kX10 rfl 37 (by decide) fl_RX10_81 rfl dX10_shift_17 ?_
      refine g_iload_n (pc := 20) (q := 1) hC dX10_shift_20 rfl rfl ?_
      refine g_iald (pc := 21) hC 6 rfl (by decide) dX10_shift_21 ?_
      refine g_iconst (pc := 22) (v := (-1)) hC dX10_shift_22 (by decide) ?_
      refine g_icmp_eq (pc := 23) (tgt := 36) hC dX10_shift_23 (by decide) ?_ ?_
      · refine g_bipush (pc := 36) (v := (-11)) hC dX10_shift_36 (by decide) ?_
        exact g_iret (pc := 38) hC dX10_shift_38
      · refine g_aload_n (pc := 26) (q := 0) hC dX10_shift_26 rfl rfl ?_
        refine g_get (pc := 27) (v := .ref (G.2.1 76)) hC kX10 rfl 37 (by decide) fl_RX10_81 rfl dX10_shift_27 ?_
        refine g_iload_n (pc := 30) (q := 3) hC dX10_shift_30 rfl rfl ?_
        refine g_iald (pc := 31) hC 6 rfl (by decide) dX10_shift_31 ?_
        refine g_iconst (pc := 32) (v := (-1)) hC dX10_shift_32 (by decide) ?_
        refine g_icmp_ne (pc := 33) (tgt := 39) hC dX10_shift_33 (by decide) ?_ ?_
        · refine g_aload_n (pc := 39) (q := 0) hC dX10_shift_39 rfl rfl ?_
          refine g_iload_n (pc := 40) (q := 1) hC dX10_shift_40 rfl rfl ?_
          refine g_callVz (pc := 41) (As := [.int p0]) (rest := []) hC lk_RX10_357 kX10 rfl (tX10_isRow _ _ s4 p0) rfl rfl (Nat.le_of_ble_eq_true rfl) ⟨rfl, rfl, Nat.le_of_ble_eq_true rfl, Nat.le_of_ble_eq_true rfl⟩ dX10_shift_41 (fun r5 s6 => ?_)
          refine g_bif_eq (pc := 44) (tgt := 70) hC dX10_shift_44 (by decide) ?_ ?_
          · refine g_bipush (pc := 70) (v := (-12)) hC dX10_shift_70 (by decide) ?_
            exact g_iret (pc := 72) hC dX10_shift_72
          · refine g_aload_n (pc := 47) (q := 0) hC dX10_shift_47 rfl rfl ?_
            refine g_iload_n (pc := 48) (q := 3) hC dX10_shift_48 rfl rfl ?_
            refine g_callVz (pc := 49) (As := [.int p2]) (rest := []) hC lk_RX10_357 kX10 rfl (tX10_isRow _ _ s6 p2) rfl rfl (Nat.le_of_ble_eq_true rfl) ⟨rfl, rfl, Nat.le_of_ble_eq_true rfl, Nat.le_of_ble_eq_true rfl⟩ dX10_shift_49 (fun r7 s8 => ?_)
            refine g_bif_eq (pc := 52) (tgt := 70) hC dX10_shift_52 (by decide) ?_ ?_
            · refine g_bipush (pc := 70) (v := (-12)) hC dX10_shift_70 (by decide) ?_
              exact g_iret (pc := 72) hC dX10_shift_72
            · refine g_aload_n (pc := 55) (q := 0) hC dX10_shift_55 rfl rfl ?_
              refine g_get (pc := 56) (v := .ref (G.2.1 76)) hC kX10 rfl 37 (by decide) fl_RX10_81 rfl dX10_shift_56 ?_
              refine g_iload_n (pc := 59) (q := 1) hC dX10_shift_59 rfl rfl ?_
              refine g_iald (pc := 60) hC 6 rfl (by decide) dX10_shift_60 ?_
              refine g_aload_n (pc := 61) (q := 0) hC dX10_shift_61 rfl rfl ?_
              refine g_get (pc := 62) (v := .ref (G.2.1 76)) hC kX10 rfl 37 (by decide) fl_RX10_81 rfl dX10_shift_62 ?_
              refine g_iload_n (pc := 65) (q := 3) hC dX10_shift_65 rfl rfl ?_
              refine g_iald (pc := 66) hC 6 rfl (by decide) dX10_shift_66 ?_
              refine g_icmp_eq (pc := 67) (tgt := 73) hC dX10_shift_67 (by decide) ?_ ?_
              · refine g_iload (pc := 73) (q := 5) hC dX10_shift_73 rfl ?_
                refine g_if_lt (pc := 75) (tgt := 122) hC dX10_shift_75 (by decide) ?_ ?_
                · refine g_bipush (pc := 122) (v := (-13)) hC dX10_shift_122 (by decide) ?_
                  exact g_iret (pc := 124) hC dX10_shift_124
                · refine g_iload_n (pc := 78) (q := 2) hC dX10_shift_78 rfl rfl ?_
                  refine g_if_lt (pc := 79) (tgt := 122) hC dX10_shift_79 (by decide) ?_ ?_
                  · refine g_bipush (pc := 122) (v := (-13)) hC dX10_shift_122 (by decide) ?_
                    exact g_iret (pc := 124) hC dX10_shift_124
                  · refine g_iload (pc := 82) (q := 4) hC dX10_shift_82 rfl ?_
                    refine g_if_lt (pc := 84) (tgt := 122) hC dX10_shift_84 (by decide) ?_ ?_
                    · refine g_bipush (pc := 122) (v := (-13)) hC dX10_shift_122 (by decide) ?_
                      exact g_iret (pc := 124) hC dX10_shift_124
                    · refine g_iload_n (pc := 87) (q := 2) hC dX10_shift_87 rfl rfl ?_
                      refine g_i2l (pc := 88) hC dX10_shift_88 ?_
                      refine g_iload (pc := 89) (q := 5) hC dX10_shift_89 rfl ?_
                      refine g_i2l (pc := 91) hC dX10_shift_91 ?_
                      refine g_ladd (pc := 92) hC dX10_shift_92 ?_
                      refine g_aload_n (pc := 93) (q := 0) hC dX10_shift_93 rfl rfl ?_
                      refine g_get (pc := 94) (v := .ref (G.2.1 77)) hC kX10 rfl 38 (by decide) fl_RX10_84 rfl dX10_shift_94 ?_
                      refine g_iload_n (pc := 97) (q := 1) hC dX10_shift_97 rfl rfl ?_
                      refine g_iald (pc := 98) hC 6 rfl (by decide) dX10_shift_98 ?_
                      refine g_i2l (pc := 99) hC dX10_shift_99 ?_
                      refine g_lcmp (pc := 100) hC dX10_shift_100 ?_
                      refine g_if_gt (pc := 101) (tgt := 122) hC dX10_shift_101 (by decide) ?_ ?_
                      · refine g_bipush (pc := 122) (v := (-13)) hC dX10_shift_122 (by decide) ?_
                        exact g_iret (pc := 124) hC dX10_shift_124
                      · refine g_iload (pc := 104) (q := 4) hC dX10_shift_104 rfl ?_
                        refine g_i2l (pc := 106) hC dX10_shift_106 ?_
                        refine g_iload (pc := 107) (q := 5) hC dX10_shift_107 rfl ?_
                        refine g_i2l (pc := 109) hC dX10_shift_109 ?_
                        refine g_ladd (pc := 110) hC dX10_shift_110 ?_
                        refine g_aload_n (pc := 111) (q := 0) hC dX10_shift_111 rfl rfl ?_
                        refine g_get (pc := 112) (v := .ref (G.2.1 77)) hC kX10 rfl 38 (by decide) fl_RX10_84 rfl dX10_shift_112 ?_
                        refine g_iload_n (pc := 115) (q := 3) hC dX10_shift_115 rfl rfl ?_
                        refine g_iald (pc := 116) hC 6 rfl (by decide) dX10_shift_116 ?_
                        refine g_i2l (pc := 117) hC dX10_shift_117 ?_
                        refine g_lcmp (pc := 118) hC dX10_shift_118 ?_
                        refine g_if_le (pc := 119) (tgt := 125) hC dX10_shift_119 (by decide) ?_ ?_
                        · refine g_iload_n (pc := 125) (q := 1) hC dX10_shift_125 rfl rfl ?_
                          refine g_iload_n (pc := 126) (q := 3) hC dX10_shift_126 rfl rfl ?_
                          refine g_icmp_ne (pc := 127) (tgt := 185) hC dX10_shift_127 (by decide) ?_ ?_
                          · exact gT_sub [0, 1, 2, 3, 4, 5] rfl (wX10_shift_b185 hC  s8 p0 p1 p2 p3 p4)
                          · refine g_iload_n (pc := 130) (q := 2) hC dX10_shift_130 rfl rfl ?_
                            refine g_iload (pc := 131) (q := 4) hC dX10_shift_131 rfl ?_
                            refine g_icmp_ge (pc := 133) (tgt := 185) hC dX10_shift_133 (by decide) ?_ ?_
                            · exact gT_sub [0, 1, 2, 3, 4, 5] rfl (wX10_shift_b185 hC  s8 p0 p1 p2 p3 p4)
                            · refine g_iload (pc := 136) (q := 5) hC dX10_shift_136 rfl ?_
                              refine g_iconst (pc := 138) (v := 1) hC dX10_shift_138 (by decide) ?_
                              refine g_isub (pc := 139) hC dX10_shift_139 ?_
                              refine g_istore (pc := 140) (lv' := fun v23 => [(6, .int v23), (0, .ref (G.2.1 52)), (1, .int p0), (2, .int p1), (3, .int p2), (4, .int p3), (5, .int p4)]) hC dX10_shift_140 (by decide) (fun _ => rfl) (fun v23 => ?_)
                              exact gT_sub [1, 2, 3, 4, 5, 6, 0] rfl (wX10_shift_b142 hC  1100 s8 p0 p1 p2 p3 p4 v23)
                        · refine g_bipush (pc := 122) (v := (-13)) hC dX10_shift_122 (by decide) ?_
                          exact g_iret (pc := 124) hC dX10_shift_124
              · refine g_bipush (pc := 70) (v := (-12)) hC dX10_shift_70 (by decide) ?_
                exact g_iret (pc := 72) hC dX10_shift_72
        · refine g_bipush (pc := 36) (v := (-11)) hC dX10_shift_36 (by decide) ?_
          exact g_iret (pc := 38) hC dX10_shift_38
    · refine g_iconst (pc := 14) (v := (-1)) hC dX10_shift_14 (by decide) ?_
      exact g_iret (pc := 15) hC dX10_shift_15
theorem lk_RX10_342 : gLS RX10 342 yX10_above cX10_above 1 (some .int) 1 := ⟨(gBig_tab 1538 (by decide +kernel) (by decide +kernel)), (gBig_tab 1539 (by decide +kernel) (by decide +kernel)), (gBig_tab 11 (by decide +kernel) (by decide +kernel)), (gBig_tab 1540 (by decide +kernel) (by decide +kernel)), by decide +kernel, by decide +kernel, by decide +kernel⟩
theorem dX10_taken_0 : decode cX10_taken 0 = .ok (.iload_n 1, 1) := by decide +kernel
theorem dX10_taken_1 : decode cX10_taken 1 = .ok (.invokestatic 132, 3) := by decide +kernel
theorem dX10_taken_4 : decode cX10_taken 4 = .ok (.ifCond .eq 13, 3) := by decide +kernel
theorem dX10_taken_7 : decode cX10_taken 7 = .ok (.iload_n 2, 1) := by decide +kernel
theorem dX10_taken_8 : decode cX10_taken 8 = .ok (.iconst 0, 1) := by decide +kernel
theorem dX10_taken_9 : decode cX10_taken 9 = .ok (.bipush 7, 2) := by decide +kernel
theorem dX10_taken_11 : decode cX10_taken 11 = .ok (.invokestatic 110, 3) := by decide +kernel
theorem dX10_taken_14 : decode cX10_taken 14 = .ok (.ifCond .ne 5, 3) := by decide +kernel
theorem dX10_taken_17 : decode cX10_taken 17 = .ok (.iconst (-1), 1) := by decide +kernel
theorem dX10_taken_18 : decode cX10_taken 18 = .ok (.ireturn, 1) := by decide +kernel
theorem dX10_taken_19 : decode cX10_taken 19 = .ok (.aload_n 0, 1) := by decide +kernel
theorem dX10_taken_20 : decode cX10_taken 20 = .ok (.getfield 81, 3) := by decide +kernel
theorem dX10_taken_23 : decode cX10_taken 23 = .ok (.iload_n 1, 1) := by decide +kernel
theorem dX10_taken_24 : decode cX10_taken 24 = .ok (.iaload, 1) := by decide +kernel
theorem dX10_taken_25 : decode cX10_taken 25 = .ok (.iconst (-1), 1) := by decide +kernel
theorem dX10_taken_26 : decode cX10_taken 26 = .ok (.if_icmp .ne 6, 3) := by decide +kernel
theorem dX10_taken_29 : decode cX10_taken 29 = .ok (.bipush (-11), 2) := by decide +kernel
theorem dX10_taken_31 : decode cX10_taken 31 = .ok (.ireturn, 1) := by decide +kernel
theorem dX10_taken_32 : decode cX10_taken 32 = .ok (.aload_n 0, 1) := by decide +kernel
theorem dX10_taken_33 : decode cX10_taken 33 = .ok (.iload_n 1, 1) := by decide +kernel
theorem dX10_taken_34 : decode cX10_taken 34 = .ok (.invokevirtual 357, 3) := by decide +kernel
theorem dX10_taken_37 : decode cX10_taken 37 = .ok (.ifCond .eq 6, 3) := by decide +kernel
theorem dX10_taken_40 : decode cX10_taken 40 = .ok (.bipush (-12), 2) := by decide +kernel
theorem dX10_taken_42 : decode cX10_taken 42 = .ok (.ireturn, 1) := by decide +kernel
theorem dX10_taken_43 : decode cX10_taken 43 = .ok (.aload_n 0, 1) := by decide +kernel
theorem dX10_taken_44 : decode cX10_taken 44 = .ok (.getfield 75, 3) := by decide +kernel
theorem dX10_taken_47 : decode cX10_taken 47 = .ok (.aload_n 0, 1) := by decide +kernel
theorem dX10_taken_48 : decode cX10_taken 48 = .ok (.getfield 81, 3) := by decide +kernel
theorem dX10_taken_51 : decode cX10_taken 51 = .ok (.iload_n 1, 1) := by decide +kernel
theorem dX10_taken_52 : decode cX10_taken 52 = .ok (.iaload, 1) := by decide +kernel
theorem dX10_taken_53 : decode cX10_taken 53 = .ok (.bipush 10, 2) := by decide +kernel
theorem dX10_taken_55 : decode cX10_taken 55 = .ok (.isub, 1) := by decide +kernel
theorem dX10_taken_56 : decode cX10_taken 56 = .ok (.iaload, 1) := by decide +kernel
theorem dX10_taken_57 : decode cX10_taken 57 = .ok (.istore_n 3, 1) := by decide +kernel
theorem dX10_taken_58 : decode cX10_taken 58 = .ok (.iload_n 3, 1) := by decide +kernel
theorem dX10_taken_59 : decode cX10_taken 59 = .ok (.istore 4, 2) := by decide +kernel
theorem dX10_taken_61 : decode cX10_taken 61 = .ok (.iload 4, 2) := by decide +kernel
theorem dX10_taken_63 : decode cX10_taken 63 = .ok (.iload_n 2, 1) := by decide +kernel
theorem dX10_taken_64 : decode cX10_taken 64 = .ok (.if_icmp .eq 18, 3) := by decide +kernel
theorem dX10_taken_67 : decode cX10_taken 67 = .ok (.iload 4, 2) := by decide +kernel
theorem dX10_taken_69 : decode cX10_taken 69 = .ok (.ifCond .le 13, 3) := by decide +kernel
theorem dX10_taken_72 : decode cX10_taken 72 = .ok (.iload 4, 2) := by decide +kernel
theorem dX10_taken_74 : decode cX10_taken 74 = .ok (.invokestatic 342, 3) := by decide +kernel
theorem dX10_taken_77 : decode cX10_taken 77 = .ok (.istore 4, 2) := by decide +kernel
theorem dX10_taken_79 : decode cX10_taken 79 = .ok (.goto (-18), 3) := by decide +kernel
theorem dX10_taken_82 : decode cX10_taken 82 = .ok (.iload 4, 2) := by decide +kernel
theorem dX10_taken_84 : decode cX10_taken 84 = .ok (.iload_n 2, 1) := by decide +kernel
theorem dX10_taken_85 : decode cX10_taken 85 = .ok (.if_icmp .ne 7, 3) := by decide +kernel
theorem dX10_taken_88 : decode cX10_taken 88 = .ok (.iload_n 3, 1) := by decide +kernel
theorem dX10_taken_89 : decode cX10_taken 89 = .ok (.goto 5, 3) := by decide +kernel
theorem dX10_taken_92 : decode cX10_taken 92 = .ok (.bipush (-12), 2) := by decide +kernel
theorem dX10_taken_94 : decode cX10_taken 94 = .ok (.ireturn, 1) := by decide +kernel
abbrev rX10_taken : Room := { frames := 2, cells := 0, slots := 0, locals := 43 }
def mX10_taken_b82    (σ : gS) (x12 : Int32) (x13 : Int32) (x14 : Int32) : Option (Int32 × gS) := if x14 = x12 then (some (x13, σ)) else (some ((-12), σ))
set_option maxHeartbeats 4000000 in
set_option maxRecDepth 100000 in
theorem wX10_taken_b82 {p : Program} {l : Launch} {e : Env} {s : State} {m : MethodId} {args : Array Value} {below : List Frame} {meth : Method} {c : Code} {G : gE} (hC : gCx p s m args meth c G RX10 cX10_taken 5 (some .int))     (σ : gS) (x12 : Int32) (x13 : Int32) (x14 : Int32)  : gT p l e rX10_taken s m args below meth c G 5 iI σ 82 [(2, .int x12), (3, .int x13), (4, .int x14)] [] (mX10_taken_b82  σ x12 x13 x14) := by
  unfold mX10_taken_b82
  refine g_iload (pc := 82) (q := 2) hC dX10_taken_82 rfl ?_
  refine g_iload_n (pc := 84) (q := 0) hC dX10_taken_84 rfl rfl ?_
  refine g_icmp_ne (pc := 85) (tgt := 92) hC dX10_taken_85 (by decide) ?_ ?_
  · refine g_bipush (pc := 92) (v := (-12)) hC dX10_taken_92 (by decide) ?_
    exact g_iret (pc := 94) hC dX10_taken_94
  · refine g_iload_n (pc := 88) (q := 1) hC dX10_taken_88 rfl rfl ?_
    refine g_goto (pc := 89) (tgt := 94) hC dX10_taken_89 (by decide) ?_
    exact g_iret (pc := 94) hC dX10_taken_94
def mX10_taken_b61    : Nat → gS → Int32 → Int32 → Int32 → Option (Int32 × gS)
  | 0, _, _, _, _ => none
  | n + 1, σ, x9, x10, x11 => if x11 = x9 then ((mX10_taken_b82  σ x9 x10 x11)) else (if x11 ≤ 0 then ((mX10_taken_b82  σ x9 x10 x11)) else (gBind (mX10_above σ x11) (fun r15 s16 => gLet r15 (fun v17 => ((mX10_taken_b61  n) s16 x9 x10 v17)))))
set_option maxHeartbeats 4000000 in
set_option maxRecDepth 100000 in
theorem wX10_taken_b61 {p : Program} {l : Launch} {e : Env} {s : State} {m : MethodId} {args : Array Value} {below : List Frame} {meth : Method} {c : Code} {G : gE} (hC : gCx p s m args meth c G RX10 cX10_taken 5 (some .int))     (n : Nat) (σ : gS) (x9 : Int32) (x10 : Int32) (x11 : Int32)  : gT p l e rX10_taken s m args below meth c G 5 iI σ 61 [(2, .int x9), (3, .int x10), (4, .int x11)] [] (mX10_taken_b61  n σ x9 x10 x11) := by
  induction n generalizing σ x9 x10 x11 with
  | zero => exact gT_none
  | succ n ih =>
    unfold mX10_taken_b61
    refine g_iload (pc := 61) (q := 2) hC dX10_taken_61 rfl ?_
    refine g_iload_n (pc := 63) (q := 0) hC dX10_taken_63 rfl rfl ?_
    refine g_icmp_eq (pc := 64) (tgt := 82) hC dX10_taken_64 (by decide) ?_ ?_
    · exact gT_sub [0, 1, 2] rfl (wX10_taken_b82 hC  σ x9 x10 x11)
    · refine g_iload (pc := 67) (q := 2) hC dX10_taken_67 rfl ?_
      refine g_if_le (pc := 69) (tgt := 82) hC dX10_taken_69 (by decide) ?_ ?_
      · exact gT_sub [0, 1, 2] rfl (wX10_taken_b82 hC  σ x9 x10 x11)
      · refine g_iload (pc := 72) (q := 2) hC dX10_taken_72 rfl ?_
        refine g_callSi (pc := 74) (As := [.int x11]) (rest := []) hC lk_RX10_342 (tX10_above _ _ σ x11) rfl rfl (Nat.le_of_ble_eq_true rfl) ⟨rfl, rfl, Nat.le_of_ble_eq_true rfl, Nat.le_of_ble_eq_true rfl⟩ dX10_taken_74 (fun r15 s16 => ?_)
        refine g_istore (pc := 77) (lv' := fun v17 => [(4, .int v17), (2, .int x9), (3, .int x10)]) hC dX10_taken_77 (by decide) (fun _ => rfl) (fun v17 => ?_)
        refine g_goto (pc := 79) (tgt := 61) hC dX10_taken_79 (by decide) ?_
        exact gT_sub [1, 2, 0] rfl (ih s16 x9 x10 v17)
def mX10_taken (σ : gS) (p0 : Int32) (p1 : Int32) : Option (Int32 × gS) := gBind (mX10_isShelf σ p0) (fun r1 s2 => if r1 = true then (gBind (mX10_within s2 p1 0 7) (fun r3 s4 => if r3 = true then (if inbB p0 6 = true then (if (s4.1 76 (Int32.toNatClampNeg p0)) = (-1) then (some ((-11), s4)) else (gBind (mX10_isRow s4 p0) (fun r5 s6 => if r5 = true then (some ((-12), s6)) else (if inbB p0 6 = true then (if inbB ((s6.1 76 (Int32.toNatClampNeg p0)) - 10) 50 = true then (gLet (s6.1 74 (Int32.toNatClampNeg ((s6.1 76 (Int32.toNatClampNeg p0)) - 10))) (fun v7 => gLet v7 (fun v8 => (mX10_taken_b61  1100 s6 p1 v7 v8)))) else none) else none)))) else none) else (some ((-1), s4)))) else (some ((-1), s2)))
set_option maxHeartbeats 4000000 in
set_option maxRecDepth 100000 in
theorem tX10_taken (l : Launch) (G : gE) (σ : gS) (p0 : Int32) (p1 : Int32) : gM l G yX10_taken cX10_taken 5 (some .int) rX10_taken iI [.ref (G.2.1 52), .int p0, .int p1] σ (mX10_taken σ p0 p1) := by
  refine gM_of (by decide) (Nat.le_of_ble_eq_true rfl) ?_
  intro p e s m args below meth c hC
  unfold mX10_taken
  show gT p l e rX10_taken s m args below meth c G 5 iI σ 0 [(0, .ref (G.2.1 52)), (1, .int p0), (2, .int p1)] [] _
  refine g_iload_n (pc := 0) (q := 1) hC dX10_taken_0 rfl rfl ?_
  refine g_callSz (pc := 1) (As := [.int p0]) (rest := []) hC lk_RX10_132 (tX10_isShelf _ _ σ p0) rfl rfl (Nat.le_of_ble_eq_true rfl) ⟨rfl, rfl, Nat.le_of_ble_eq_true rfl, Nat.le_of_ble_eq_true rfl⟩ dX10_taken_1 (fun r1 s2 => ?_)
  refine g_bif_eq (pc := 4) (tgt := 17) hC dX10_taken_4 (by decide) ?_ ?_
  · refine g_iconst (pc := 17) (v := (-1)) hC dX10_taken_17 (by decide) ?_
    exact g_iret (pc := 18) hC dX10_taken_18
  · refine g_iload_n (pc := 7) (q := 2) hC dX10_taken_7 rfl rfl ?_
    refine g_iconst (pc := 8) (v := 0) hC dX10_taken_8 (by decide) ?_
    refine g_bipush (pc := 9) (v := 7) hC dX10_taken_9 (by decide) ?_
    refine g_callSz (pc := 11) (As := [.int p1, .int 0, .int 7]) (rest := []) hC lk_RX10_110 (tX10_within _ _ s2 p1 0 7) rfl rfl (Nat.le_of_ble_eq_true rfl) ⟨rfl, rfl, Nat.le_of_ble_eq_true rfl, Nat.le_of_ble_eq_true rfl⟩ dX10_taken_11 (fun r3 s4 => ?_)
    refine g_bif_ne (pc := 14) (tgt := 19) hC dX10_taken_14 (by decide) ?_ ?_
    · refine g_aload_n (pc := 19) (q := 0) hC dX10_taken_19 rfl rfl ?_
      refine g_get (pc := 20) (v := .ref (G.2.1 76)) hC kX10 rfl 37 (by decide) fl_RX10_81 rfl dX10_taken_20 ?_
      refine g_iload_n (pc := 23) (q := 1) hC dX10_taken_23 rfl rfl ?_
      refine g_iald (pc := 24) hC 6 rfl (by decide) dX10_taken_24 ?_
      refine g_iconst (pc := 25) (v := (-1)) hC dX10_taken_25 (by decide) ?_
      refine g_icmp_ne (pc := 26) (tgt := 32) hC dX10_taken_26 (by decide) ?_ ?_
      · refine g_aload_n (pc := 32) (q := 0) hC dX10_taken_32 rfl rfl ?_
        refine g_iload_n (pc := 33) (q := 1) hC dX10_taken_33 rfl rfl ?_
        refine g_callVz (pc := 34) (As := [.int p0]) (rest := []) hC lk_RX10_357 kX10 rfl (tX10_isRow _ _ s4 p0) rfl rfl (Nat.le_of_ble_eq_true rfl) ⟨rfl, rfl, Nat.le_of_ble_eq_true rfl, Nat.le_of_ble_eq_true rfl⟩ dX10_taken_34 (fun r5 s6 => ?_)
        refine g_bif_eq (pc := 37) (tgt := 43) hC dX10_taken_37 (by decide) ?_ ?_
        · refine g_aload_n (pc := 43) (q := 0) hC dX10_taken_43 rfl rfl ?_
          refine g_get (pc := 44) (v := .ref (G.2.1 74)) hC kX10 rfl 34 (by decide) fl_RX10_75 rfl dX10_taken_44 ?_
          refine g_aload_n (pc := 47) (q := 0) hC dX10_taken_47 rfl rfl ?_
          refine g_get (pc := 48) (v := .ref (G.2.1 76)) hC kX10 rfl 37 (by decide) fl_RX10_81 rfl dX10_taken_48 ?_
          refine g_iload_n (pc := 51) (q := 1) hC dX10_taken_51 rfl rfl ?_
          refine g_iald (pc := 52) hC 6 rfl (by decide) dX10_taken_52 ?_
          refine g_bipush (pc := 53) (v := 10) hC dX10_taken_53 (by decide) ?_
          refine g_isub (pc := 55) hC dX10_taken_55 ?_
          refine g_iald (pc := 56) hC 50 rfl (by decide) dX10_taken_56 ?_
          refine g_istore_n (pc := 57) (lv' := fun v7 => [(3, .int v7), (0, .ref (G.2.1 52)), (1, .int p0), (2, .int p1)]) hC dX10_taken_57 rfl (by decide) (fun _ => rfl) (fun v7 => ?_)
          refine g_iload_n (pc := 58) (q := 0) hC dX10_taken_58 rfl rfl ?_
          refine g_istore (pc := 59) (lv' := fun v8 => [(4, .int v8), (3, .int v7), (0, .ref (G.2.1 52)), (1, .int p0), (2, .int p1)]) hC dX10_taken_59 (by decide) (fun _ => rfl) (fun v8 => ?_)
          exact gT_sub [4, 1, 0] rfl (wX10_taken_b61 hC  1100 s6 p1 v7 v8)
        · refine g_bipush (pc := 40) (v := (-12)) hC dX10_taken_40 (by decide) ?_
          exact g_iret (pc := 42) hC dX10_taken_42
      · refine g_bipush (pc := 29) (v := (-11)) hC dX10_taken_29 (by decide) ?_
        exact g_iret (pc := 31) hC dX10_taken_31
    · refine g_iconst (pc := 17) (v := (-1)) hC dX10_taken_17 (by decide) ?_
      exact g_iret (pc := 18) hC dX10_taken_18
theorem dX10_count_0 : decode cX10_count 0 = .ok (.iload_n 1, 1) := by decide +kernel
theorem dX10_count_1 : decode cX10_count 1 = .ok (.tableswitch 69 0 5 #[39, 44, 49, 54, 59, 64], 39) := by decide +kernel
theorem dX10_count_40 : decode cX10_count 40 = .ok (.aload_n 0, 1) := by decide +kernel
theorem dX10_count_41 : decode cX10_count 41 = .ok (.getfield 106, 3) := by decide +kernel
theorem dX10_count_44 : decode cX10_count 44 = .ok (.ireturn, 1) := by decide +kernel
theorem dX10_count_45 : decode cX10_count 45 = .ok (.aload_n 0, 1) := by decide +kernel
theorem dX10_count_46 : decode cX10_count 46 = .ok (.getfield 114, 3) := by decide +kernel
theorem dX10_count_49 : decode cX10_count 49 = .ok (.ireturn, 1) := by decide +kernel
theorem dX10_count_50 : decode cX10_count 50 = .ok (.aload_n 0, 1) := by decide +kernel
theorem dX10_count_51 : decode cX10_count 51 = .ok (.getfield 164, 3) := by decide +kernel
theorem dX10_count_54 : decode cX10_count 54 = .ok (.ireturn, 1) := by decide +kernel
theorem dX10_count_55 : decode cX10_count 55 = .ok (.aload_n 0, 1) := by decide +kernel
theorem dX10_count_56 : decode cX10_count 56 = .ok (.getfield 158, 3) := by decide +kernel
theorem dX10_count_59 : decode cX10_count 59 = .ok (.ireturn, 1) := by decide +kernel
theorem dX10_count_60 : decode cX10_count 60 = .ok (.aload_n 0, 1) := by decide +kernel
theorem dX10_count_61 : decode cX10_count 61 = .ok (.getfield 354, 3) := by decide +kernel
theorem dX10_count_64 : decode cX10_count 64 = .ok (.ireturn, 1) := by decide +kernel
theorem dX10_count_65 : decode cX10_count 65 = .ok (.aload_n 0, 1) := by decide +kernel
theorem dX10_count_66 : decode cX10_count 66 = .ok (.getfield 333, 3) := by decide +kernel
theorem dX10_count_69 : decode cX10_count 69 = .ok (.ireturn, 1) := by decide +kernel
theorem dX10_count_70 : decode cX10_count 70 = .ok (.iconst (-1), 1) := by decide +kernel
theorem dX10_count_71 : decode cX10_count 71 = .ok (.ireturn, 1) := by decide +kernel
abbrev rX10_count : Room := { frames := 0, cells := 0, slots := 0, locals := 0 }
def mX10_count (σ : gS) (p0 : Int32) : Option (Int32 × gS) := if p0 = 0 then (some ((σ.1 52 0), σ)) else (if p0 = 1 then (some ((σ.1 52 3), σ)) else (if p0 = 2 then (some ((σ.1 52 9), σ)) else (if p0 = 3 then (some ((σ.1 52 31), σ)) else (if p0 = 4 then (some ((σ.1 52 33), σ)) else (if p0 = 5 then (some ((σ.1 52 35), σ)) else (some ((-1), σ)))))))
set_option maxHeartbeats 4000000 in
set_option maxRecDepth 100000 in
theorem tX10_count (l : Launch) (G : gE) (σ : gS) (p0 : Int32) : gM l G yX10_count cX10_count 2 (some .int) rX10_count iI [.ref (G.2.1 52), .int p0] σ (mX10_count σ p0) := by
  refine gM_of (by decide) (Nat.le_of_ble_eq_true rfl) ?_
  intro p e s m args below meth c hC
  unfold mX10_count
  show gT p l e rX10_count s m args below meth c G 2 iI σ 0 [(0, .ref (G.2.1 52)), (1, .int p0)] [] _
  refine g_iload_n (pc := 0) (q := 1) hC dX10_count_0 rfl rfl ?_
  refine gT_if (fun c100 => ?_) (fun c100 => ?_)
  · refine g_tabIn (tgt := 40) (off := 39) hC dX10_count_1 c100 (by decide) (by decide) (by decide) (by decide) ?_
    refine g_aload_n (pc := 40) (q := 0) hC dX10_count_40 rfl rfl ?_
    refine g_get (pc := 41) (v := .int (σ.1 52 0)) hC kX10 rfl 0 (by decide) fl_RX10_106 rfl dX10_count_41 ?_
    exact g_iret (pc := 44) hC dX10_count_44
  · refine gT_if (fun c101 => ?_) (fun c101 => ?_)
    · refine g_tabIn (tgt := 45) (off := 44) hC dX10_count_1 c101 (by decide) (by decide) (by decide) (by decide) ?_
      refine g_aload_n (pc := 45) (q := 0) hC dX10_count_45 rfl rfl ?_
      refine g_get (pc := 46) (v := .int (σ.1 52 3)) hC kX10 rfl 3 (by decide) fl_RX10_114 rfl dX10_count_46 ?_
      exact g_iret (pc := 49) hC dX10_count_49
    · refine gT_if (fun c102 => ?_) (fun c102 => ?_)
      · refine g_tabIn (tgt := 50) (off := 49) hC dX10_count_1 c102 (by decide) (by decide) (by decide) (by decide) ?_
        refine g_aload_n (pc := 50) (q := 0) hC dX10_count_50 rfl rfl ?_
        refine g_get (pc := 51) (v := .int (σ.1 52 9)) hC kX10 rfl 9 (by decide) fl_RX10_164 rfl dX10_count_51 ?_
        exact g_iret (pc := 54) hC dX10_count_54
      · refine gT_if (fun c103 => ?_) (fun c103 => ?_)
        · refine g_tabIn (tgt := 55) (off := 54) hC dX10_count_1 c103 (by decide) (by decide) (by decide) (by decide) ?_
          refine g_aload_n (pc := 55) (q := 0) hC dX10_count_55 rfl rfl ?_
          refine g_get (pc := 56) (v := .int (σ.1 52 31)) hC kX10 rfl 31 (by decide) fl_RX10_158 rfl dX10_count_56 ?_
          exact g_iret (pc := 59) hC dX10_count_59
        · refine gT_if (fun c104 => ?_) (fun c104 => ?_)
          · refine g_tabIn (tgt := 60) (off := 59) hC dX10_count_1 c104 (by decide) (by decide) (by decide) (by decide) ?_
            refine g_aload_n (pc := 60) (q := 0) hC dX10_count_60 rfl rfl ?_
            refine g_get (pc := 61) (v := .int (σ.1 52 33)) hC kX10 rfl 33 (by decide) fl_RX10_354 rfl dX10_count_61 ?_
            exact g_iret (pc := 64) hC dX10_count_64
          · refine gT_if (fun c105 => ?_) (fun c105 => ?_)
            · refine g_tabIn (tgt := 65) (off := 64) hC dX10_count_1 c105 (by decide) (by decide) (by decide) (by decide) ?_
              refine g_aload_n (pc := 65) (q := 0) hC dX10_count_65 rfl rfl ?_
              refine g_get (pc := 66) (v := .int (σ.1 52 35)) hC kX10 rfl 35 (by decide) fl_RX10_333 rfl dX10_count_66 ?_
              exact g_iret (pc := 69) hC dX10_count_69
            · refine g_tabOut (tgt := 70) hC dX10_count_1 (by have q0 := gne c100 (n := 0) rfl; have q1 := gne c101 (n := 1) rfl; have q2 := gne c102 (n := 2) rfl; have q3 := gne c103 (n := 3) rfl; have q4 := gne c104 (n := 4) rfl; have q5 := gne c105 (n := 5) rfl; omega) (by decide) ?_
              refine g_iconst (pc := 70) (v := (-1)) hC dX10_count_70 (by decide) ?_
              exact g_iret (pc := 71) hC dX10_count_71
