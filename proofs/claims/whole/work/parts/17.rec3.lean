theorem lk_RX10_286 : gLV RX10 286 RX10 yX10_tries cX10_tries 9 (none) 4 := ⟨(gBig_tab 1404 (by decide +kernel) (by decide +kernel)), (gBig_tab 1406 (by decide +kernel) (by decide +kernel)), (gBig_sel 76 (by decide +kernel) (by decide +kernel)), (gBig_tab 11 (by decide +kernel) (by decide +kernel)), (gBig_tab 1407 (by decide +kernel) (by decide +kernel)), rfl, by decide +kernel, by decide +kernel, by decide +kernel⟩
theorem lk_RX10_290 : gLV RX10 290 RX10 yX10_isWanted cX10_isWanted 4 (some .boolean) 2 := ⟨(gBig_tab 1408 (by decide +kernel) (by decide +kernel)), (gBig_tab 1410 (by decide +kernel) (by decide +kernel)), (gBig_sel 77 (by decide +kernel) (by decide +kernel)), (gBig_tab 11 (by decide +kernel) (by decide +kernel)), (gBig_tab 1411 (by decide +kernel) (by decide +kernel)), rfl, by decide +kernel, by decide +kernel, by decide +kernel⟩
theorem fl_RX10_280 : Cond.fieldLink RX10 280 "WinterShedModel" "found" "Z" ∈ gBig := (gBig_tab 1098 (by decide +kernel) (by decide +kernel))
theorem fl_RX10_283 : Cond.fieldLink RX10 283 "WinterShedModel" "bestMuch" "I" ∈ gBig := (gBig_tab 1097 (by decide +kernel) (by decide +kernel))
theorem dX10_tries_0 : decode cX10_tries 0 = .ok (.iload_n 1, 1) := by decide +kernel
theorem dX10_tries_1 : decode cX10_tries 1 = .ok (.iload_n 2, 1) := by decide +kernel
theorem dX10_tries_2 : decode cX10_tries 2 = .ok (.if_icmp .ne 61, 3) := by decide +kernel
theorem dX10_tries_5 : decode cX10_tries 5 = .ok (.aload_n 0, 1) := by decide +kernel
theorem dX10_tries_6 : decode cX10_tries 6 = .ok (.getfield 280, 3) := by decide +kernel
theorem dX10_tries_9 : decode cX10_tries 9 = .ok (.ifCond .eq 13, 3) := by decide +kernel
theorem dX10_tries_12 : decode cX10_tries 12 = .ok (.iload 4, 2) := by decide +kernel
theorem dX10_tries_14 : decode cX10_tries 14 = .ok (.aload_n 0, 1) := by decide +kernel
theorem dX10_tries_15 : decode cX10_tries 15 = .ok (.getfield 283, 3) := by decide +kernel
theorem dX10_tries_18 : decode cX10_tries 18 = .ok (.if_icmp .gt 4, 3) := by decide +kernel
theorem dX10_tries_21 : decode cX10_tries 21 = .ok (.return_, 1) := by decide +kernel
theorem dX10_tries_22 : decode cX10_tries 22 = .ok (.aload_n 0, 1) := by decide +kernel
theorem dX10_tries_23 : decode cX10_tries 23 = .ok (.iconst 1, 1) := by decide +kernel
theorem dX10_tries_24 : decode cX10_tries 24 = .ok (.putfield 280, 3) := by decide +kernel
theorem dX10_tries_27 : decode cX10_tries 27 = .ok (.aload_n 0, 1) := by decide +kernel
theorem dX10_tries_28 : decode cX10_tries 28 = .ok (.iload 4, 2) := by decide +kernel
theorem dX10_tries_30 : decode cX10_tries 30 = .ok (.putfield 283, 3) := by decide +kernel
theorem dX10_tries_33 : decode cX10_tries 33 = .ok (.iconst 0, 1) := by decide +kernel
theorem dX10_tries_34 : decode cX10_tries 34 = .ok (.istore 5, 2) := by decide +kernel
theorem dX10_tries_36 : decode cX10_tries 36 = .ok (.iload 5, 2) := by decide +kernel
theorem dX10_tries_38 : decode cX10_tries 38 = .ok (.iconst 4, 1) := by decide +kernel
theorem dX10_tries_39 : decode cX10_tries 39 = .ok (.if_icmp .ge 23, 3) := by decide +kernel
theorem dX10_tries_42 : decode cX10_tries 42 = .ok (.aload_n 0, 1) := by decide +kernel
theorem dX10_tries_43 : decode cX10_tries 43 = .ok (.getfield 103, 3) := by decide +kernel
theorem dX10_tries_46 : decode cX10_tries 46 = .ok (.iload 5, 2) := by decide +kernel
theorem dX10_tries_48 : decode cX10_tries 48 = .ok (.aload_n 0, 1) := by decide +kernel
theorem dX10_tries_49 : decode cX10_tries 49 = .ok (.getfield 100, 3) := by decide +kernel
theorem dX10_tries_52 : decode cX10_tries 52 = .ok (.iload 5, 2) := by decide +kernel
theorem dX10_tries_54 : decode cX10_tries 54 = .ok (.iaload, 1) := by decide +kernel
theorem dX10_tries_55 : decode cX10_tries 55 = .ok (.iastore, 1) := by decide +kernel
theorem dX10_tries_56 : decode cX10_tries 56 = .ok (.iinc 5 1, 3) := by decide +kernel
theorem dX10_tries_59 : decode cX10_tries 59 = .ok (.goto (-23), 3) := by decide +kernel
theorem dX10_tries_62 : decode cX10_tries 62 = .ok (.return_, 1) := by decide +kernel
theorem dX10_tries_63 : decode cX10_tries 63 = .ok (.aload_n 0, 1) := by decide +kernel
theorem dX10_tries_64 : decode cX10_tries 64 = .ok (.invokevirtual 246, 3) := by decide +kernel
theorem dX10_tries_67 : decode cX10_tries 67 = .ok (.iload_n 1, 1) := by decide +kernel
theorem dX10_tries_68 : decode cX10_tries 68 = .ok (.iadd, 1) := by decide +kernel
theorem dX10_tries_69 : decode cX10_tries 69 = .ok (.istore 5, 2) := by decide +kernel
theorem dX10_tries_71 : decode cX10_tries 71 = .ok (.iload 5, 2) := by decide +kernel
theorem dX10_tries_73 : decode cX10_tries 73 = .ok (.bipush 30, 2) := by decide +kernel
theorem dX10_tries_75 : decode cX10_tries 75 = .ok (.if_icmp .lt 22, 3) := by decide +kernel
theorem dX10_tries_78 : decode cX10_tries 78 = .ok (.aload_n 0, 1) := by decide +kernel
theorem dX10_tries_79 : decode cX10_tries 79 = .ok (.getfield 100, 3) := by decide +kernel
theorem dX10_tries_82 : decode cX10_tries 82 = .ok (.iload_n 1, 1) := by decide +kernel
theorem dX10_tries_83 : decode cX10_tries 83 = .ok (.iconst 0, 1) := by decide +kernel
theorem dX10_tries_84 : decode cX10_tries 84 = .ok (.iastore, 1) := by decide +kernel
theorem dX10_tries_85 : decode cX10_tries 85 = .ok (.aload_n 0, 1) := by decide +kernel
theorem dX10_tries_86 : decode cX10_tries 86 = .ok (.iload_n 1, 1) := by decide +kernel
theorem dX10_tries_87 : decode cX10_tries 87 = .ok (.iconst 1, 1) := by decide +kernel
theorem dX10_tries_88 : decode cX10_tries 88 = .ok (.iadd, 1) := by decide +kernel
theorem dX10_tries_89 : decode cX10_tries 89 = .ok (.iload_n 2, 1) := by decide +kernel
theorem dX10_tries_90 : decode cX10_tries 90 = .ok (.iload_n 3, 1) := by decide +kernel
theorem dX10_tries_91 : decode cX10_tries 91 = .ok (.iload 4, 2) := by decide +kernel
theorem dX10_tries_93 : decode cX10_tries 93 = .ok (.invokevirtual 286, 3) := by decide +kernel
theorem dX10_tries_96 : decode cX10_tries 96 = .ok (.return_, 1) := by decide +kernel
theorem dX10_tries_97 : decode cX10_tries 97 = .ok (.iload_n 3, 1) := by decide +kernel
theorem dX10_tries_98 : decode cX10_tries 98 = .ok (.aload_n 0, 1) := by decide +kernel
theorem dX10_tries_99 : decode cX10_tries 99 = .ok (.getfield 30, 3) := by decide +kernel
theorem dX10_tries_102 : decode cX10_tries 102 = .ok (.iconst 1, 1) := by decide +kernel
theorem dX10_tries_103 : decode cX10_tries 103 = .ok (.iaload, 1) := by decide +kernel
theorem dX10_tries_104 : decode cX10_tries 104 = .ok (.if_icmp .le 7, 3) := by decide +kernel
theorem dX10_tries_107 : decode cX10_tries 107 = .ok (.iconst 0, 1) := by decide +kernel
theorem dX10_tries_108 : decode cX10_tries 108 = .ok (.goto 4, 3) := by decide +kernel
theorem dX10_tries_111 : decode cX10_tries 111 = .ok (.iload_n 3, 1) := by decide +kernel
theorem dX10_tries_112 : decode cX10_tries 112 = .ok (.istore 6, 2) := by decide +kernel
theorem dX10_tries_114 : decode cX10_tries 114 = .ok (.iconst 0, 1) := by decide +kernel
theorem dX10_tries_115 : decode cX10_tries 115 = .ok (.istore 7, 2) := by decide +kernel
theorem dX10_tries_117 : decode cX10_tries 117 = .ok (.iload 7, 2) := by decide +kernel
theorem dX10_tries_119 : decode cX10_tries 119 = .ok (.bipush 25, 2) := by decide +kernel
theorem dX10_tries_121 : decode cX10_tries 121 = .ok (.if_icmp .ge 90, 3) := by decide +kernel
theorem dX10_tries_124 : decode cX10_tries 124 = .ok (.iload 7, 2) := by decide +kernel
theorem dX10_tries_126 : decode cX10_tries 126 = .ok (.ifCond .le 17, 3) := by decide +kernel
theorem dX10_tries_129 : decode cX10_tries 129 = .ok (.aload_n 0, 1) := by decide +kernel
theorem dX10_tries_130 : decode cX10_tries 130 = .ok (.iload 5, 2) := by decide +kernel
theorem dX10_tries_132 : decode cX10_tries 132 = .ok (.iload 7, 2) := by decide +kernel
theorem dX10_tries_134 : decode cX10_tries 134 = .ok (.invokevirtual 290, 3) := by decide +kernel
theorem dX10_tries_137 : decode cX10_tries 137 = .ok (.ifCond .ne 6, 3) := by decide +kernel
theorem dX10_tries_140 : decode cX10_tries 140 = .ok (.goto 65, 3) := by decide +kernel
theorem dX10_tries_143 : decode cX10_tries 143 = .ok (.iload 6, 2) := by decide +kernel
theorem dX10_tries_145 : decode cX10_tries 145 = .ok (.iload 7, 2) := by decide +kernel
theorem dX10_tries_147 : decode cX10_tries 147 = .ok (.invokestatic 232, 3) := by decide +kernel
theorem dX10_tries_150 : decode cX10_tries 150 = .ok (.istore 8, 2) := by decide +kernel
theorem dX10_tries_152 : decode cX10_tries 152 = .ok (.aload_n 0, 1) := by decide +kernel
theorem dX10_tries_153 : decode cX10_tries 153 = .ok (.getfield 100, 3) := by decide +kernel
theorem dX10_tries_156 : decode cX10_tries 156 = .ok (.iload_n 1, 1) := by decide +kernel
theorem dX10_tries_157 : decode cX10_tries 157 = .ok (.iload 7, 2) := by decide +kernel
theorem dX10_tries_159 : decode cX10_tries 159 = .ok (.iastore, 1) := by decide +kernel
theorem dX10_tries_160 : decode cX10_tries 160 = .ok (.aload_n 0, 1) := by decide +kernel
theorem dX10_tries_161 : decode cX10_tries 161 = .ok (.iload_n 1, 1) := by decide +kernel
theorem dX10_tries_162 : decode cX10_tries 162 = .ok (.iconst 1, 1) := by decide +kernel
theorem dX10_tries_163 : decode cX10_tries 163 = .ok (.iadd, 1) := by decide +kernel
theorem dX10_tries_164 : decode cX10_tries 164 = .ok (.iload_n 2, 1) := by decide +kernel
theorem dX10_tries_165 : decode cX10_tries 165 = .ok (.aload_n 0, 1) := by decide +kernel
theorem dX10_tries_166 : decode cX10_tries 166 = .ok (.iload 6, 2) := by decide +kernel
theorem dX10_tries_168 : decode cX10_tries 168 = .ok (.iload 8, 2) := by decide +kernel
theorem dX10_tries_170 : decode cX10_tries 170 = .ok (.isub, 1) := by decide +kernel
theorem dX10_tries_171 : decode cX10_tries 171 = .ok (.iload 8, 2) := by decide +kernel
theorem dX10_tries_173 : decode cX10_tries 173 = .ok (.iload 5, 2) := by decide +kernel
theorem dX10_tries_175 : decode cX10_tries 175 = .ok (.invokevirtual 252, 3) := by decide +kernel
theorem dX10_tries_178 : decode cX10_tries 178 = .ok (.iload 4, 2) := by decide +kernel
theorem dX10_tries_180 : decode cX10_tries 180 = .ok (.aload_n 0, 1) := by decide +kernel
theorem dX10_tries_181 : decode cX10_tries 181 = .ok (.aload_n 0, 1) := by decide +kernel
theorem dX10_tries_182 : decode cX10_tries 182 = .ok (.iload 5, 2) := by decide +kernel
theorem dX10_tries_184 : decode cX10_tries 184 = .ok (.iload 8, 2) := by decide +kernel
theorem dX10_tries_186 : decode cX10_tries 186 = .ok (.invokevirtual 255, 3) := by decide +kernel
theorem dX10_tries_189 : decode cX10_tries 189 = .ok (.invokevirtual 264, 3) := by decide +kernel
theorem dX10_tries_192 : decode cX10_tries 192 = .ok (.iadd, 1) := by decide +kernel
theorem dX10_tries_193 : decode cX10_tries 193 = .ok (.aload_n 0, 1) := by decide +kernel
theorem dX10_tries_194 : decode cX10_tries 194 = .ok (.iload 5, 2) := by decide +kernel
theorem dX10_tries_196 : decode cX10_tries 196 = .ok (.iload 8, 2) := by decide +kernel
theorem dX10_tries_198 : decode cX10_tries 198 = .ok (.invokevirtual 277, 3) := by decide +kernel
theorem dX10_tries_201 : decode cX10_tries 201 = .ok (.isub, 1) := by decide +kernel
theorem dX10_tries_202 : decode cX10_tries 202 = .ok (.invokevirtual 286, 3) := by decide +kernel
theorem dX10_tries_205 : decode cX10_tries 205 = .ok (.iinc 7 1, 3) := by decide +kernel
theorem dX10_tries_208 : decode cX10_tries 208 = .ok (.goto (-91), 3) := by decide +kernel
theorem dX10_tries_211 : decode cX10_tries 211 = .ok (.return_, 1) := by decide +kernel
abbrev rrX10_tries (d : Nat) : Room := { frames := 4 + d, cells := 0, slots := 0, locals := 94 + 28 * d }
def mX10_tries_b205 (rec : (gS → Int32 → Int32 → Int32 → Int32 → Option (Unit × gS)))  (k117 : gS → Int32 → Int32 → Int32 → Int32 → Int32 → Int32 → Option (Unit × gS)) (σ : gS) (x35 : Int32) (x36 : Int32) (x37 : Int32) (x38 : Int32) (x39 : Int32) (x40 : Int32) : Option (Unit × gS) := gLet (x40 + 1) (fun v41 => (k117 σ x35 x36 x37 x38 x39 v41))
set_option maxHeartbeats 4000000 in
set_option maxRecDepth 100000 in
theorem wX10_tries_b205 {p : Program} {l : Launch} {e : Env} {s : State} {m : MethodId} {args : Array Value} {below : List Frame} {meth : Method} {c : Code} {G : gE} {d : Nat} (hC : gCx p s m args meth c G RX10 cX10_tries 9 (none)) {rec : (gS → Int32 → Int32 → Int32 → Int32 → Option (Unit × gS))} (hrec : (∀ (σ : gS) (p0 : Int32) (p1 : Int32) (p2 : Int32) (p3 : Int32), gM l G yX10_tries cX10_tries 9 (none) (rrX10_tries d) iV [.ref (G.2.1 52), .int p0, .int p1, .int p2, .int p3] σ (rec σ p0 p1 p2 p3)))   {k117 : gS → Int32 → Int32 → Int32 → Int32 → Int32 → Int32 → Option (Unit × gS)} (hk117 : ∀ (σ : gS) (x11 : Int32) (x12 : Int32) (x13 : Int32) (x14 : Int32) (x15 : Int32) (x16 : Int32), gT p l e (rrX10_tries (d + 1)) s m args below meth c G 9 iV σ 117 [(0, .ref (G.2.1 52)), (1, .int x11), (2, .int x12), (4, .int x13), (5, .int x14), (6, .int x15), (7, .int x16)] [] (k117 σ x11 x12 x13 x14 x15 x16)) (σ : gS) (x35 : Int32) (x36 : Int32) (x37 : Int32) (x38 : Int32) (x39 : Int32) (x40 : Int32)  : gT p l e (rrX10_tries (d + 1)) s m args below meth c G 9 iV σ 205 [(0, .ref (G.2.1 52)), (1, .int x35), (2, .int x36), (4, .int x37), (5, .int x38), (6, .int x39), (7, .int x40)] [] (mX10_tries_b205 rec k117 σ x35 x36 x37 x38 x39 x40) := by
  unfold mX10_tries_b205
  refine g_iinc (pc := 205) (q := 6) (w := 1) (lv' := fun v41 => [(7, .int v41), (0, .ref (G.2.1 52)), (1, .int x35), (2, .int x36), (4, .int x37), (5, .int x38), (6, .int x39)]) hC dX10_tries_205 rfl (by decide) (by decide) (fun _ => rfl) (fun v41 => ?_)
  refine g_goto (pc := 208) (tgt := 117) hC dX10_tries_208 (by decide) ?_
  exact gT_sub [1, 2, 3, 4, 5, 6, 0] rfl (hk117 σ x35 x36 x37 x38 x39 v41)
def mX10_tries_b143 (rec : (gS → Int32 → Int32 → Int32 → Int32 → Option (Unit × gS)))  (k117 : gS → Int32 → Int32 → Int32 → Int32 → Int32 → Int32 → Option (Unit × gS)) (σ : gS) (x17 : Int32) (x18 : Int32) (x19 : Int32) (x20 : Int32) (x21 : Int32) (x22 : Int32) : Option (Unit × gS) := gLet (gMin x21 x22) (fun v23 => if inbB x17 4 = true then gLet (gUI σ 82 (Int32.toNatClampNeg x17) x22) (fun s24 => gBind (mX10_nextCold s24 (x21 - v23) v23 x20) (fun r25 s26 => gBind (mX10_metOn s26 x20 v23) (fun r27 s28 => gBind (mX10_gainOf s28 r27) (fun r29 s30 => gBind (mX10_allHarm s30 x20 v23) (fun r31 s32 => gBind (rec s32 (x17 + 1) x18 r25 ((x19 + r29) - r31)) (fun r33 s34 => (mX10_tries_b205 rec k117 s34 x17 x18 x19 x20 x21 x22))))))) else none)
set_option maxHeartbeats 4000000 in
set_option maxRecDepth 100000 in
theorem wX10_tries_b143 {p : Program} {l : Launch} {e : Env} {s : State} {m : MethodId} {args : Array Value} {below : List Frame} {meth : Method} {c : Code} {G : gE} {d : Nat} (hC : gCx p s m args meth c G RX10 cX10_tries 9 (none)) {rec : (gS → Int32 → Int32 → Int32 → Int32 → Option (Unit × gS))} (hrec : (∀ (σ : gS) (p0 : Int32) (p1 : Int32) (p2 : Int32) (p3 : Int32), gM l G yX10_tries cX10_tries 9 (none) (rrX10_tries d) iV [.ref (G.2.1 52), .int p0, .int p1, .int p2, .int p3] σ (rec σ p0 p1 p2 p3)))   {k117 : gS → Int32 → Int32 → Int32 → Int32 → Int32 → Int32 → Option (Unit × gS)} (hk117 : ∀ (σ : gS) (x11 : Int32) (x12 : Int32) (x13 : Int32) (x14 : Int32) (x15 : Int32) (x16 : Int32), gT p l e (rrX10_tries (d + 1)) s m args below meth c G 9 iV σ 117 [(0, .ref (G.2.1 52)), (1, .int x11), (2, .int x12), (4, .int x13), (5, .int x14), (6, .int x15), (7, .int x16)] [] (k117 σ x11 x12 x13 x14 x15 x16)) (σ : gS) (x17 : Int32) (x18 : Int32) (x19 : Int32) (x20 : Int32) (x21 : Int32) (x22 : Int32)  : gT p l e (rrX10_tries (d + 1)) s m args below meth c G 9 iV σ 143 [(0, .ref (G.2.1 52)), (1, .int x17), (2, .int x18), (4, .int x19), (5, .int x20), (6, .int x21), (7, .int x22)] [] (mX10_tries_b143 rec k117 σ x17 x18 x19 x20 x21 x22) := by
  unfold mX10_tries_b143
  refine g_iload (pc := 143) (q := 5) hC dX10_tries_143 rfl ?_
  refine g_iload (pc := 145) (q := 6) hC dX10_tries_145 rfl ?_
  refine g_min (pc := 147) hC mth_RX10_232 ⟨by simp only [rrX10_tries] <;> omega, by simp only [rrX10_tries] <;> omega⟩ (Nat.le_of_ble_eq_true rfl) dX10_tries_147 ?_
  refine g_istore (pc := 150) (lv' := fun v23 => [(8, .int v23), (0, .ref (G.2.1 52)), (1, .int x17), (2, .int x18), (4, .int x19), (5, .int x20), (6, .int x21), (7, .int x22)]) hC dX10_tries_150 (by decide) (fun _ => rfl) (fun v23 => ?_)
  refine g_aload_n (pc := 152) (q := 1) hC dX10_tries_152 rfl rfl ?_
  refine g_get (pc := 153) (v := .ref (G.2.1 82)) hC kX10 rfl 46 (by decide) fl_RX10_100 rfl dX10_tries_153 ?_
  refine g_iload_n (pc := 156) (q := 2) hC dX10_tries_156 rfl rfl ?_
  refine g_iload (pc := 157) (q := 7) hC dX10_tries_157 rfl ?_
  refine g_iast (pc := 159) hC 4 rfl (by decide) dX10_tries_159 (fun s24 => ?_)
  refine g_aload_n (pc := 160) (q := 1) hC dX10_tries_160 rfl rfl ?_
  refine g_iload_n (pc := 161) (q := 2) hC dX10_tries_161 rfl rfl ?_
  refine g_iconst (pc := 162) (v := 1) hC dX10_tries_162 (by decide) ?_
  refine g_iadd (pc := 163) hC dX10_tries_163 ?_
  refine g_iload_n (pc := 164) (q := 3) hC dX10_tries_164 rfl rfl ?_
  refine g_aload_n (pc := 165) (q := 1) hC dX10_tries_165 rfl rfl ?_
  refine g_iload (pc := 166) (q := 6) hC dX10_tries_166 rfl ?_
  refine g_iload (pc := 168) (q := 0) hC dX10_tries_168 rfl ?_
  refine g_isub (pc := 170) hC dX10_tries_170 ?_
  refine g_iload (pc := 171) (q := 0) hC dX10_tries_171 rfl ?_
  refine g_iload (pc := 173) (q := 5) hC dX10_tries_173 rfl ?_
  refine g_callVi (pc := 175) (As := [.int (x21 - v23), .int v23, .int x20]) (rest := [.int x18, .int (x17 + 1), .ref (G.2.1 52)]) hC lk_RX10_252 kX10 rfl (tX10_nextCold _ _ s24 (x21 - v23) v23 x20) rfl rfl (Nat.le_of_ble_eq_true rfl) ⟨rfl, rfl, by simp only [rrX10_tries] <;> omega, by simp only [rrX10_tries] <;> omega⟩ dX10_tries_175 (fun r25 s26 => ?_)
  refine g_iload (pc := 178) (q := 4) hC dX10_tries_178 rfl ?_
  refine g_aload_n (pc := 180) (q := 1) hC dX10_tries_180 rfl rfl ?_
  refine g_aload_n (pc := 181) (q := 1) hC dX10_tries_181 rfl rfl ?_
  refine g_iload (pc := 182) (q := 5) hC dX10_tries_182 rfl ?_
  refine g_iload (pc := 184) (q := 0) hC dX10_tries_184 rfl ?_
  refine g_callVi (pc := 186) (As := [.int x20, .int v23]) (rest := [.ref (G.2.1 52), .int x19, .int r25, .int x18, .int (x17 + 1), .ref (G.2.1 52)]) hC lk_RX10_255 kX10 rfl (tX10_metOn _ _ s26 x20 v23) rfl rfl (Nat.le_of_ble_eq_true rfl) ⟨rfl, rfl, by simp only [rrX10_tries] <;> omega, by simp only [rrX10_tries] <;> omega⟩ dX10_tries_186 (fun r27 s28 => ?_)
  refine g_callVi (pc := 189) (As := [.int r27]) (rest := [.int x19, .int r25, .int x18, .int (x17 + 1), .ref (G.2.1 52)]) hC lk_RX10_264 kX10 rfl (tX10_gainOf _ _ s28 r27) rfl rfl (Nat.le_of_ble_eq_true rfl) ⟨rfl, rfl, by simp only [rrX10_tries] <;> omega, by simp only [rrX10_tries] <;> omega⟩ dX10_tries_189 (fun r29 s30 => ?_)
  refine g_iadd (pc := 192) hC dX10_tries_192 ?_
  refine g_aload_n (pc := 193) (q := 1) hC dX10_tries_193 rfl rfl ?_
  refine g_iload (pc := 194) (q := 5) hC dX10_tries_194 rfl ?_
  refine g_iload (pc := 196) (q := 0) hC dX10_tries_196 rfl ?_
  refine g_callVi (pc := 198) (As := [.int x20, .int v23]) (rest := [.int (x19 + r29), .int r25, .int x18, .int (x17 + 1), .ref (G.2.1 52)]) hC lk_RX10_277 kX10 rfl (tX10_allHarm _ _ s30 x20 v23) rfl rfl (Nat.le_of_ble_eq_true rfl) ⟨rfl, rfl, by simp only [rrX10_tries] <;> omega, by simp only [rrX10_tries] <;> omega⟩ dX10_tries_198 (fun r31 s32 => ?_)
  refine g_isub (pc := 201) hC dX10_tries_201 ?_
  refine g_callVv (pc := 202) (As := [.int (x17 + 1), .int x18, .int r25, .int ((x19 + r29) - r31)]) (rest := []) hC lk_RX10_286 kX10 rfl (hrec s32 (x17 + 1) x18 r25 ((x19 + r29) - r31)) rfl rfl (Nat.le_of_ble_eq_true rfl) ⟨rfl, rfl, by simp only [rrX10_tries, rrX10_tries] <;> omega, by simp only [rrX10_tries, rrX10_tries] <;> omega⟩ dX10_tries_202 (fun r33 s34 => ?_)
  exact gT_sub [1, 2, 3, 4, 5, 6, 7] rfl (wX10_tries_b205 hC hrec hk117 s34 x17 x18 x19 x20 x21 x22)
def mX10_tries_b117 (rec : (gS → Int32 → Int32 → Int32 → Int32 → Option (Unit × gS)))   : Nat → gS → Int32 → Int32 → Int32 → Int32 → Int32 → Int32 → Option (Unit × gS)
  | 0, _, _, _, _, _, _, _ => none
  | n + 1, σ, x11, x12, x13, x14, x15, x16 => if 25 ≤ x16 then (some ((), σ)) else (if x16 ≤ 0 then ((mX10_tries_b143 rec (mX10_tries_b117 rec n) σ x11 x12 x13 x14 x15 x16)) else (gBind (mX10_isWanted σ x14 x16) (fun r42 s43 => if r42 = true then ((mX10_tries_b143 rec (mX10_tries_b117 rec n) s43 x11 x12 x13 x14 x15 x16)) else ((mX10_tries_b205 rec (mX10_tries_b117 rec n) s43 x11 x12 x13 x14 x15 x16)))))
set_option maxHeartbeats 4000000 in
set_option maxRecDepth 100000 in
theorem wX10_tries_b117 {p : Program} {l : Launch} {e : Env} {s : State} {m : MethodId} {args : Array Value} {below : List Frame} {meth : Method} {c : Code} {G : gE} {d : Nat} (hC : gCx p s m args meth c G RX10 cX10_tries 9 (none)) {rec : (gS → Int32 → Int32 → Int32 → Int32 → Option (Unit × gS))} (hrec : (∀ (σ : gS) (p0 : Int32) (p1 : Int32) (p2 : Int32) (p3 : Int32), gM l G yX10_tries cX10_tries 9 (none) (rrX10_tries d) iV [.ref (G.2.1 52), .int p0, .int p1, .int p2, .int p3] σ (rec σ p0 p1 p2 p3)))    (n : Nat) (σ : gS) (x11 : Int32) (x12 : Int32) (x13 : Int32) (x14 : Int32) (x15 : Int32) (x16 : Int32)  : gT p l e (rrX10_tries (d + 1)) s m args below meth c G 9 iV σ 117 [(0, .ref (G.2.1 52)), (1, .int x11), (2, .int x12), (4, .int x13), (5, .int x14), (6, .int x15), (7, .int x16)] [] (mX10_tries_b117 rec n σ x11 x12 x13 x14 x15 x16) := by
  induction n generalizing σ x11 x12 x13 x14 x15 x16 with
  | zero => exact gT_none
  | succ n ih =>
    unfold mX10_tries_b117
    refine g_iload (pc := 117) (q := 6) hC dX10_tries_117 rfl ?_
    refine g_bipush (pc := 119) (v := 25) hC dX10_tries_119 (by decide) ?_
    refine g_icmp_ge (pc := 121) (tgt := 211) hC dX10_tries_121 (by decide) ?_ ?_
    · exact g_vret (pc := 211) hC dX10_tries_211
    · refine g_iload (pc := 124) (q := 6) hC dX10_tries_124 rfl ?_
      refine g_if_le (pc := 126) (tgt := 143) hC dX10_tries_126 (by decide) ?_ ?_
      · exact gT_sub [0, 1, 2, 3, 4, 5, 6] rfl (wX10_tries_b143 hC hrec ih σ x11 x12 x13 x14 x15 x16)
      · refine g_aload_n (pc := 129) (q := 0) hC dX10_tries_129 rfl rfl ?_
        refine g_iload (pc := 130) (q := 4) hC dX10_tries_130 rfl ?_
        refine g_iload (pc := 132) (q := 6) hC dX10_tries_132 rfl ?_
        refine g_callVz (pc := 134) (As := [.int x14, .int x16]) (rest := []) hC lk_RX10_290 kX10 rfl (tX10_isWanted _ _ σ x14 x16) rfl rfl (Nat.le_of_ble_eq_true rfl) ⟨rfl, rfl, by simp only [rrX10_tries] <;> omega, by simp only [rrX10_tries] <;> omega⟩ dX10_tries_134 (fun r42 s43 => ?_)
        refine g_bif_ne (pc := 137) (tgt := 143) hC dX10_tries_137 (by decide) ?_ ?_
        · exact gT_sub [0, 1, 2, 3, 4, 5, 6] rfl (wX10_tries_b143 hC hrec ih s43 x11 x12 x13 x14 x15 x16)
        · refine g_goto (pc := 140) (tgt := 205) hC dX10_tries_140 (by decide) ?_
          exact gT_sub [0, 1, 2, 3, 4, 5, 6] rfl (wX10_tries_b205 hC hrec ih s43 x11 x12 x13 x14 x15 x16)
def mX10_tries_b112 (rec : (gS → Int32 → Int32 → Int32 → Int32 → Option (Unit × gS)))   (σ : gS) (x4 : Int32) (x5 : Int32) (x6 : Int32) (x7 : Int32) (x8 : Int32) : Option (Unit × gS) := gLet x8 (fun v9 => gLet 0 (fun v10 => (mX10_tries_b117 rec 1100 σ x4 x5 x6 x7 v9 v10)))
set_option maxHeartbeats 4000000 in
set_option maxRecDepth 100000 in
theorem wX10_tries_b112 {p : Program} {l : Launch} {e : Env} {s : State} {m : MethodId} {args : Array Value} {below : List Frame} {meth : Method} {c : Code} {G : gE} {d : Nat} (hC : gCx p s m args meth c G RX10 cX10_tries 9 (none)) {rec : (gS → Int32 → Int32 → Int32 → Int32 → Option (Unit × gS))} (hrec : (∀ (σ : gS) (p0 : Int32) (p1 : Int32) (p2 : Int32) (p3 : Int32), gM l G yX10_tries cX10_tries 9 (none) (rrX10_tries d) iV [.ref (G.2.1 52), .int p0, .int p1, .int p2, .int p3] σ (rec σ p0 p1 p2 p3)))    (σ : gS) (x4 : Int32) (x5 : Int32) (x6 : Int32) (x7 : Int32) (x8 : Int32)  : gT p l e (rrX10_tries (d + 1)) s m args below meth c G 9 iV σ 112 [(0, .ref (G.2.1 52)), (1, .int x4), (2, .int x5), (4, .int x6), (5, .int x7)] [.int x8] (mX10_tries_b112 rec σ x4 x5 x6 x7 x8) := by
  unfold mX10_tries_b112
  refine g_istore (pc := 112) (lv' := fun v9 => [(6, .int v9), (0, .ref (G.2.1 52)), (1, .int x4), (2, .int x5), (4, .int x6), (5, .int x7)]) hC dX10_tries_112 (by decide) (fun _ => rfl) (fun v9 => ?_)
  refine g_iconst (pc := 114) (v := 0) hC dX10_tries_114 (by decide) ?_
  refine g_istore (pc := 115) (lv' := fun v10 => [(7, .int v10), (6, .int v9), (0, .ref (G.2.1 52)), (1, .int x4), (2, .int x5), (4, .int x6), (5, .int x7)]) hC dX10_tries_115 (by decide) (fun _ => rfl) (fun v10 => ?_)
  exact gT_sub [2, 3, 4, 5, 6, 1, 0] rfl (wX10_tries_b117 hC hrec 1100 σ x4 x5 x6 x7 v9 v10)
def mX10_tries_b36 (rec : (gS → Int32 → Int32 → Int32 → Int32 → Option (Unit × gS)))   : Nat → gS → Int32 → Option (Unit × gS)
  | 0, _, _ => none
  | n + 1, σ, x51 => if 4 ≤ x51 then (some ((), σ)) else (if inbB x51 4 = true then (if inbB x51 4 = true then gLet (gUI σ 83 (Int32.toNatClampNeg x51) (σ.1 82 (Int32.toNatClampNeg x51))) (fun s52 => gLet (x51 + 1) (fun v53 => ((mX10_tries_b36 rec n) s52 v53))) else none) else none)
set_option maxHeartbeats 4000000 in
set_option maxRecDepth 100000 in
theorem wX10_tries_b36 {p : Program} {l : Launch} {e : Env} {s : State} {m : MethodId} {args : Array Value} {below : List Frame} {meth : Method} {c : Code} {G : gE} {d : Nat} (hC : gCx p s m args meth c G RX10 cX10_tries 9 (none)) {rec : (gS → Int32 → Int32 → Int32 → Int32 → Option (Unit × gS))} (hrec : (∀ (σ : gS) (p0 : Int32) (p1 : Int32) (p2 : Int32) (p3 : Int32), gM l G yX10_tries cX10_tries 9 (none) (rrX10_tries d) iV [.ref (G.2.1 52), .int p0, .int p1, .int p2, .int p3] σ (rec σ p0 p1 p2 p3)))    (n : Nat) (σ : gS) (x51 : Int32)  : gT p l e (rrX10_tries (d + 1)) s m args below meth c G 9 iV σ 36 [(0, .ref (G.2.1 52)), (5, .int x51)] [] (mX10_tries_b36 rec n σ x51) := by
  induction n generalizing σ x51 with
  | zero => exact gT_none
  | succ n ih =>
    unfold mX10_tries_b36
    refine g_iload (pc := 36) (q := 1) hC dX10_tries_36 rfl ?_
    refine g_iconst (pc := 38) (v := 4) hC dX10_tries_38 (by decide) ?_
    refine g_icmp_ge (pc := 39) (tgt := 62) hC dX10_tries_39 (by decide) ?_ ?_
    · exact g_vret (pc := 62) hC dX10_tries_62
    · refine g_aload_n (pc := 42) (q := 0) hC dX10_tries_42 rfl rfl ?_
      refine g_get (pc := 43) (v := .ref (G.2.1 83)) hC kX10 rfl 47 (by decide) fl_RX10_103 rfl dX10_tries_43 ?_
      refine g_iload (pc := 46) (q := 1) hC dX10_tries_46 rfl ?_
      refine g_aload_n (pc := 48) (q := 0) hC dX10_tries_48 rfl rfl ?_
      refine g_get (pc := 49) (v := .ref (G.2.1 82)) hC kX10 rfl 46 (by decide) fl_RX10_100 rfl dX10_tries_49 ?_
      refine g_iload (pc := 52) (q := 1) hC dX10_tries_52 rfl ?_
      refine g_iald (pc := 54) hC 4 rfl (by decide) dX10_tries_54 ?_
      refine g_iast (pc := 55) hC 4 rfl (by decide) dX10_tries_55 (fun s52 => ?_)
      refine g_iinc (pc := 56) (q := 1) (w := 1) (lv' := fun v53 => [(5, .int v53), (0, .ref (G.2.1 52))]) hC dX10_tries_56 rfl (by decide) (by decide) (fun _ => rfl) (fun v53 => ?_)
      refine g_goto (pc := 59) (tgt := 36) hC dX10_tries_59 (by decide) ?_
      exact gT_sub [1, 0] rfl (ih s52 v53)
def mX10_tries_b22 (rec : (gS → Int32 → Int32 → Int32 → Int32 → Option (Unit × gS)))   (σ : gS) (x47 : Int32) : Option (Unit × gS) := gLet (gUI σ 52 45 1) (fun s48 => gLet (gUI s48 52 44 x47) (fun s49 => gLet 0 (fun v50 => (mX10_tries_b36 rec 1100 s49 v50))))
set_option maxHeartbeats 4000000 in
set_option maxRecDepth 100000 in
theorem wX10_tries_b22 {p : Program} {l : Launch} {e : Env} {s : State} {m : MethodId} {args : Array Value} {below : List Frame} {meth : Method} {c : Code} {G : gE} {d : Nat} (hC : gCx p s m args meth c G RX10 cX10_tries 9 (none)) {rec : (gS → Int32 → Int32 → Int32 → Int32 → Option (Unit × gS))} (hrec : (∀ (σ : gS) (p0 : Int32) (p1 : Int32) (p2 : Int32) (p3 : Int32), gM l G yX10_tries cX10_tries 9 (none) (rrX10_tries d) iV [.ref (G.2.1 52), .int p0, .int p1, .int p2, .int p3] σ (rec σ p0 p1 p2 p3)))    (σ : gS) (x47 : Int32)  : gT p l e (rrX10_tries (d + 1)) s m args below meth c G 9 iV σ 22 [(0, .ref (G.2.1 52)), (4, .int x47)] [] (mX10_tries_b22 rec σ x47) := by
  unfold mX10_tries_b22
  refine g_aload_n (pc := 22) (q := 0) hC dX10_tries_22 rfl rfl ?_
  refine g_iconst (pc := 23) (v := 1) hC dX10_tries_23 (by decide) ?_
  refine g_puti (pc := 24) (fty := .boolean) hC kX10 rfl 45 (by decide) fl_RX10_280 rfl rfl (by decide) rfl (fun _ _ => Nat.le_of_ble_eq_true rfl) (fun _ _ => rfl) dX10_tries_24 (fun s48 => ?_)
  refine g_aload_n (pc := 27) (q := 0) hC dX10_tries_27 rfl rfl ?_
  refine g_iload (pc := 28) (q := 1) hC dX10_tries_28 rfl ?_
  refine g_puti (pc := 30) (fty := .int) hC kX10 rfl 44 (by decide) fl_RX10_283 rfl rfl rfl rfl (fun _ _ => Nat.le_of_ble_eq_true rfl) (fun _ _ => rfl) dX10_tries_30 (fun s49 => ?_)
  refine g_iconst (pc := 33) (v := 0) hC dX10_tries_33 (by decide) ?_
  refine g_istore (pc := 34) (lv' := fun v50 => [(5, .int v50), (0, .ref (G.2.1 52)), (4, .int x47)]) hC dX10_tries_34 (by decide) (fun _ => rfl) (fun v50 => ?_)
  exact gT_sub [1, 0] rfl (wX10_tries_b36 hC hrec 1100 s49 v50)
def mrX10_tries (rec : (gS → Int32 → Int32 → Int32 → Int32 → Option (Unit × gS))) (σ : gS) (p0 : Int32) (p1 : Int32) (p2 : Int32) (p3 : Int32) : Option (Unit × gS) := if p0 = p1 then (if (σ.1 52 45) = 0 then ((mX10_tries_b22 rec σ p3)) else (if (σ.1 52 44) < p3 then ((mX10_tries_b22 rec σ p3)) else (some ((), σ)))) else (gBind (mX10_now σ ) (fun r1 s2 => gLet (r1 + p0) (fun v3 => if v3 < 30 then (if inbB 1 5 = true then (if p2 ≤ (s2.1 59 (Int32.toNatClampNeg 1)) then ((mX10_tries_b112 rec s2 p0 p1 p3 v3 p2)) else ((mX10_tries_b112 rec s2 p0 p1 p3 v3 0))) else none) else (if inbB p0 4 = true then gLet (gUI s2 82 (Int32.toNatClampNeg p0) 0) (fun s44 => gBind (rec s44 (p0 + 1) p1 p2 p3) (fun r45 s46 => some ((), s46))) else none))))
set_option maxHeartbeats 4000000 in
set_option maxRecDepth 100000 in
theorem trX10_tries {l : Launch} {G : gE} {d : Nat} {rec : (gS → Int32 → Int32 → Int32 → Int32 → Option (Unit × gS))} (hrec : (∀ (σ : gS) (p0 : Int32) (p1 : Int32) (p2 : Int32) (p3 : Int32), gM l G yX10_tries cX10_tries 9 (none) (rrX10_tries d) iV [.ref (G.2.1 52), .int p0, .int p1, .int p2, .int p3] σ (rec σ p0 p1 p2 p3))) : ∀ (σ : gS) (p0 : Int32) (p1 : Int32) (p2 : Int32) (p3 : Int32), gM l G yX10_tries cX10_tries 9 (none) (rrX10_tries (d + 1)) iV [.ref (G.2.1 52), .int p0, .int p1, .int p2, .int p3] σ (mrX10_tries rec σ p0 p1 p2 p3) := by
  intro σ p0 p1 p2 p3
  refine gM_of (by decide) (Nat.le_of_ble_eq_true rfl) ?_
  intro p e s m args below meth c hC
  unfold mrX10_tries
  show gT p l e (rrX10_tries (d + 1)) s m args below meth c G 9 iV σ 0 [(0, .ref (G.2.1 52)), (1, .int p0), (2, .int p1), (3, .int p2), (4, .int p3)] [] _
  refine g_iload_n (pc := 0) (q := 1) hC dX10_tries_0 rfl rfl ?_
  refine g_iload_n (pc := 1) (q := 2) hC dX10_tries_1 rfl rfl ?_
  refine g_icmp_ne (pc := 2) (tgt := 63) hC dX10_tries_2 (by decide) ?_ ?_
  · refine g_aload_n (pc := 63) (q := 0) hC dX10_tries_63 rfl rfl ?_
    refine g_callVi (pc := 64) (As := []) (rest := []) hC lk_RX10_246 kX10 rfl (tX10_now _ _ σ ) rfl rfl (Nat.le_of_ble_eq_true rfl) ⟨rfl, rfl, by simp only [rrX10_tries] <;> omega, by simp only [rrX10_tries] <;> omega⟩ dX10_tries_64 (fun r1 s2 => ?_)
    refine g_iload_n (pc := 67) (q := 1) hC dX10_tries_67 rfl rfl ?_
    refine g_iadd (pc := 68) hC dX10_tries_68 ?_
    refine g_istore (pc := 69) (lv' := fun v3 => [(5, .int v3), (0, .ref (G.2.1 52)), (1, .int p0), (2, .int p1), (3, .int p2), (4, .int p3)]) hC dX10_tries_69 (by decide) (fun _ => rfl) (fun v3 => ?_)
    refine g_iload (pc := 71) (q := 0) hC dX10_tries_71 rfl ?_
    refine g_bipush (pc := 73) (v := 30) hC dX10_tries_73 (by decide) ?_
    refine g_icmp_lt (pc := 75) (tgt := 97) hC dX10_tries_75 (by decide) ?_ ?_
    · refine g_iload_n (pc := 97) (q := 4) hC dX10_tries_97 rfl rfl ?_
      refine g_aload_n (pc := 98) (q := 1) hC dX10_tries_98 rfl rfl ?_
      refine g_get (pc := 99) (v := .ref (G.2.1 59)) hC kX10 rfl 8 (by decide) fl_RX10_30 rfl dX10_tries_99 ?_
      refine g_iconst (pc := 102) (v := 1) hC dX10_tries_102 (by decide) ?_
      refine g_iald (pc := 103) hC 5 rfl (by decide) dX10_tries_103 ?_
      refine g_icmp_le (pc := 104) (tgt := 111) hC dX10_tries_104 (by decide) ?_ ?_
      · refine g_iload_n (pc := 111) (q := 4) hC dX10_tries_111 rfl rfl ?_
        exact gT_sub [1, 2, 3, 5, 0] rfl (wX10_tries_b112 hC hrec s2 p0 p1 p3 v3 p2)
      · refine g_iconst (pc := 107) (v := 0) hC dX10_tries_107 (by decide) ?_
        refine g_goto (pc := 108) (tgt := 112) hC dX10_tries_108 (by decide) ?_
        exact gT_sub [1, 2, 3, 5, 0] rfl (wX10_tries_b112 hC hrec s2 p0 p1 p3 v3 0)
    · refine g_aload_n (pc := 78) (q := 1) hC dX10_tries_78 rfl rfl ?_
      refine g_get (pc := 79) (v := .ref (G.2.1 82)) hC kX10 rfl 46 (by decide) fl_RX10_100 rfl dX10_tries_79 ?_
      refine g_iload_n (pc := 82) (q := 2) hC dX10_tries_82 rfl rfl ?_
      refine g_iconst (pc := 83) (v := 0) hC dX10_tries_83 (by decide) ?_
      refine g_iast (pc := 84) hC 4 rfl (by decide) dX10_tries_84 (fun s44 => ?_)
      refine g_aload_n (pc := 85) (q := 1) hC dX10_tries_85 rfl rfl ?_
      refine g_iload_n (pc := 86) (q := 2) hC dX10_tries_86 rfl rfl ?_
      refine g_iconst (pc := 87) (v := 1) hC dX10_tries_87 (by decide) ?_
      refine g_iadd (pc := 88) hC dX10_tries_88 ?_
      refine g_iload_n (pc := 89) (q := 3) hC dX10_tries_89 rfl rfl ?_
      refine g_iload_n (pc := 90) (q := 4) hC dX10_tries_90 rfl rfl ?_
      refine g_iload (pc := 91) (q := 5) hC dX10_tries_91 rfl ?_
      refine g_callVv (pc := 93) (As := [.int (p0 + 1), .int p1, .int p2, .int p3]) (rest := []) hC lk_RX10_286 kX10 rfl (hrec s44 (p0 + 1) p1 p2 p3) rfl rfl (Nat.le_of_ble_eq_true rfl) ⟨rfl, rfl, by simp only [rrX10_tries, rrX10_tries] <;> omega, by simp only [rrX10_tries, rrX10_tries] <;> omega⟩ dX10_tries_93 (fun r45 s46 => ?_)
      exact g_vret (pc := 96) hC dX10_tries_96
  · refine g_aload_n (pc := 5) (q := 0) hC dX10_tries_5 rfl rfl ?_
    refine g_get (pc := 6) (v := .int (σ.1 52 45)) hC kX10 rfl 45 (by decide) fl_RX10_280 rfl dX10_tries_6 ?_
    refine g_if_eq (pc := 9) (tgt := 22) hC dX10_tries_9 (by decide) ?_ ?_
    · exact gT_sub [0, 4] rfl (wX10_tries_b22 hC hrec σ p3)
    · refine g_iload (pc := 12) (q := 4) hC dX10_tries_12 rfl ?_
      refine g_aload_n (pc := 14) (q := 0) hC dX10_tries_14 rfl rfl ?_
      refine g_get (pc := 15) (v := .int (σ.1 52 44)) hC kX10 rfl 44 (by decide) fl_RX10_283 rfl dX10_tries_15 ?_
      refine g_icmp_gt (pc := 18) (tgt := 22) hC dX10_tries_18 (by decide) ?_ ?_
      · exact gT_sub [0, 4] rfl (wX10_tries_b22 hC hrec σ p3)
      · exact g_vret (pc := 21) hC dX10_tries_21
def mgtries : Nat → (gS → Int32 → Int32 → Int32 → Int32 → Option (Unit × gS))
  | 0 => (fun _ _ _ _ _ => none)
  | d + 1 => (mrX10_tries (mgtries d))
theorem tgtries (l : Launch) (G : gE) : ∀ d : Nat, (∀ (σ : gS) (p0 : Int32) (p1 : Int32) (p2 : Int32) (p3 : Int32), gM l G yX10_tries cX10_tries 9 (none) (rrX10_tries d) iV [.ref (G.2.1 52), .int p0, .int p1, .int p2, .int p3] σ ((mgtries d) σ p0 p1 p2 p3)) := by
  intro d
  induction d with
  | zero => exact (fun _ _ _ _ _ _ _ h => (by cases h))
  | succ d ih => exact trX10_tries ih
abbrev rX10_tries : Room := rrX10_tries 8
def mX10_tries (σ : gS) (p0 : Int32) (p1 : Int32) (p2 : Int32) (p3 : Int32) : Option (Unit × gS) := (mgtries 8) σ p0 p1 p2 p3
theorem tX10_tries (l : Launch) (G : gE) (σ : gS) (p0 : Int32) (p1 : Int32) (p2 : Int32) (p3 : Int32) : gM l G yX10_tries cX10_tries 9 (none) rX10_tries iV [.ref (G.2.1 52), .int p0, .int p1, .int p2, .int p3] σ (mX10_tries σ p0 p1 p2 p3) := (tgtries l G 8) σ p0 p1 p2 p3
theorem dX10_best_0 : decode cX10_best 0 = .ok (.iload_n 1, 1) := by decide +kernel
theorem dX10_best_1 : decode cX10_best 1 = .ok (.iconst 1, 1) := by decide +kernel
theorem dX10_best_2 : decode cX10_best 2 = .ok (.iconst 4, 1) := by decide +kernel
theorem dX10_best_3 : decode cX10_best 3 = .ok (.invokestatic 110, 3) := by decide +kernel
theorem dX10_best_6 : decode cX10_best 6 = .ok (.ifCond .eq 14, 3) := by decide +kernel
theorem dX10_best_9 : decode cX10_best 9 = .ok (.iload_n 2, 1) := by decide +kernel
theorem dX10_best_10 : decode cX10_best 10 = .ok (.iconst (-1), 1) := by decide +kernel
theorem dX10_best_11 : decode cX10_best 11 = .ok (.iload_n 1, 1) := by decide +kernel
theorem dX10_best_12 : decode cX10_best 12 = .ok (.iconst 1, 1) := by decide +kernel
theorem dX10_best_13 : decode cX10_best 13 = .ok (.isub, 1) := by decide +kernel
theorem dX10_best_14 : decode cX10_best 14 = .ok (.invokestatic 110, 3) := by decide +kernel
theorem dX10_best_17 : decode cX10_best 17 = .ok (.ifCond .ne 7, 3) := by decide +kernel
theorem dX10_best_20 : decode cX10_best 20 = .ok (.ldc_w 293, 3) := by decide +kernel
theorem dX10_best_23 : decode cX10_best 23 = .ok (.ireturn, 1) := by decide +kernel
theorem dX10_best_24 : decode cX10_best 24 = .ok (.aload_n 0, 1) := by decide +kernel
theorem dX10_best_25 : decode cX10_best 25 = .ok (.iconst 0, 1) := by decide +kernel
theorem dX10_best_26 : decode cX10_best 26 = .ok (.putfield 280, 3) := by decide +kernel
theorem dX10_best_29 : decode cX10_best 29 = .ok (.iconst 0, 1) := by decide +kernel
theorem dX10_best_30 : decode cX10_best 30 = .ok (.istore_n 3, 1) := by decide +kernel
theorem dX10_best_31 : decode cX10_best 31 = .ok (.iload_n 3, 1) := by decide +kernel
theorem dX10_best_32 : decode cX10_best 32 = .ok (.iconst 4, 1) := by decide +kernel
theorem dX10_best_33 : decode cX10_best 33 = .ok (.if_icmp .ge 16, 3) := by decide +kernel
theorem dX10_best_36 : decode cX10_best 36 = .ok (.aload_n 0, 1) := by decide +kernel
theorem dX10_best_37 : decode cX10_best 37 = .ok (.getfield 100, 3) := by decide +kernel
theorem dX10_best_40 : decode cX10_best 40 = .ok (.iload_n 3, 1) := by decide +kernel
theorem dX10_best_41 : decode cX10_best 41 = .ok (.iconst 0, 1) := by decide +kernel
theorem dX10_best_42 : decode cX10_best 42 = .ok (.iastore, 1) := by decide +kernel
theorem dX10_best_43 : decode cX10_best 43 = .ok (.iinc 3 1, 3) := by decide +kernel
theorem dX10_best_46 : decode cX10_best 46 = .ok (.goto (-15), 3) := by decide +kernel
theorem dX10_best_49 : decode cX10_best 49 = .ok (.aload_n 0, 1) := by decide +kernel
theorem dX10_best_50 : decode cX10_best 50 = .ok (.iconst 0, 1) := by decide +kernel
theorem dX10_best_51 : decode cX10_best 51 = .ok (.iload_n 1, 1) := by decide +kernel
theorem dX10_best_52 : decode cX10_best 52 = .ok (.aload_n 0, 1) := by decide +kernel
theorem dX10_best_53 : decode cX10_best 53 = .ok (.getfield 30, 3) := by decide +kernel
theorem dX10_best_56 : decode cX10_best 56 = .ok (.iconst 0, 1) := by decide +kernel
theorem dX10_best_57 : decode cX10_best 57 = .ok (.iaload, 1) := by decide +kernel
theorem dX10_best_58 : decode cX10_best 58 = .ok (.iconst 0, 1) := by decide +kernel
theorem dX10_best_59 : decode cX10_best 59 = .ok (.invokevirtual 286, 3) := by decide +kernel
theorem dX10_best_62 : decode cX10_best 62 = .ok (.iload_n 2, 1) := by decide +kernel
theorem dX10_best_63 : decode cX10_best 63 = .ok (.iconst (-1), 1) := by decide +kernel
theorem dX10_best_64 : decode cX10_best 64 = .ok (.if_icmp .ne 10, 3) := by decide +kernel
theorem dX10_best_67 : decode cX10_best 67 = .ok (.aload_n 0, 1) := by decide +kernel
theorem dX10_best_68 : decode cX10_best 68 = .ok (.getfield 283, 3) := by decide +kernel
theorem dX10_best_71 : decode cX10_best 71 = .ok (.goto 9, 3) := by decide +kernel
theorem dX10_best_74 : decode cX10_best 74 = .ok (.aload_n 0, 1) := by decide +kernel
theorem dX10_best_75 : decode cX10_best 75 = .ok (.getfield 103, 3) := by decide +kernel
theorem dX10_best_78 : decode cX10_best 78 = .ok (.iload_n 2, 1) := by decide +kernel
theorem dX10_best_79 : decode cX10_best 79 = .ok (.iaload, 1) := by decide +kernel
theorem dX10_best_80 : decode cX10_best 80 = .ok (.ireturn, 1) := by decide +kernel
abbrev rX10_best : Room := { frames := 13, cells := 0, slots := 0, locals := 346 }
def mX10_best_b31    : Nat → gS → Int32 → Int32 → Int32 → Option (Int32 × gS)
  | 0, _, _, _, _ => none
  | n + 1, σ, x7, x8, x9 => if 4 ≤ x9 then (if inbB 0 5 = true then (gBind (mX10_tries σ 0 x7 (σ.1 59 (Int32.toNatClampNeg 0)) 0) (fun r10 s11 => if x8 = (-1) then (some ((s11.1 52 44), s11)) else (if inbB x8 4 = true then (some ((s11.1 83 (Int32.toNatClampNeg x8)), s11)) else none))) else none) else (if inbB x9 4 = true then gLet (gUI σ 82 (Int32.toNatClampNeg x9) 0) (fun s12 => gLet (x9 + 1) (fun v13 => ((mX10_best_b31  n) s12 x7 x8 v13))) else none)
set_option maxHeartbeats 4000000 in
set_option maxRecDepth 100000 in
theorem wX10_best_b31 {p : Program} {l : Launch} {e : Env} {s : State} {m : MethodId} {args : Array Value} {below : List Frame} {meth : Method} {c : Code} {G : gE} (hC : gCx p s m args meth c G RX10 cX10_best 4 (some .int))     (n : Nat) (σ : gS) (x7 : Int32) (x8 : Int32) (x9 : Int32)  : gT p l e rX10_best s m args below meth c G 4 iI σ 31 [(0, .ref (G.2.1 52)), (1, .int x7), (2, .int x8), (3, .int x9)] [] (mX10_best_b31  n σ x7 x8 x9) := by
  induction n generalizing σ x7 x8 x9 with
  | zero => exact gT_none
  | succ n ih =>
    unfold mX10_best_b31
    refine g_iload_n (pc := 31) (q := 3) hC dX10_best_31 rfl rfl ?_
    refine g_iconst (pc := 32) (v := 4) hC dX10_best_32 (by decide) ?_
    refine g_icmp_ge (pc := 33) (tgt := 49) hC dX10_best_33 (by decide) ?_ ?_
    · refine g_aload_n (pc := 49) (q := 0) hC dX10_best_49 rfl rfl ?_
      refine g_iconst (pc := 50) (v := 0) hC dX10_best_50 (by decide) ?_
      refine g_iload_n (pc := 51) (q := 1) hC dX10_best_51 rfl rfl ?_
      refine g_aload_n (pc := 52) (q := 0) hC dX10_best_52 rfl rfl ?_
      refine g_get (pc := 53) (v := .ref (G.2.1 59)) hC kX10 rfl 8 (by decide) fl_RX10_30 rfl dX10_best_53 ?_
      refine g_iconst (pc := 56) (v := 0) hC dX10_best_56 (by decide) ?_
      refine g_iald (pc := 57) hC 5 rfl (by decide) dX10_best_57 ?_
      refine g_iconst (pc := 58) (v := 0) hC dX10_best_58 (by decide) ?_
      refine g_callVv (pc := 59) (As := [.int 0, .int x7, .int (σ.1 59 (Int32.toNatClampNeg 0)), .int 0]) (rest := []) hC lk_RX10_286 kX10 rfl (tX10_tries _ _ σ 0 x7 (σ.1 59 (Int32.toNatClampNeg 0)) 0) rfl rfl (Nat.le_of_ble_eq_true rfl) ⟨rfl, rfl, Nat.le_of_ble_eq_true rfl, Nat.le_of_ble_eq_true rfl⟩ dX10_best_59 (fun r10 s11 => ?_)
      refine g_iload_n (pc := 62) (q := 2) hC dX10_best_62 rfl rfl ?_
      refine g_iconst (pc := 63) (v := (-1)) hC dX10_best_63 (by decide) ?_
      refine g_icmp_ne (pc := 64) (tgt := 74) hC dX10_best_64 (by decide) ?_ ?_
      · refine g_aload_n (pc := 74) (q := 0) hC dX10_best_74 rfl rfl ?_
        refine g_get (pc := 75) (v := .ref (G.2.1 83)) hC kX10 rfl 47 (by decide) fl_RX10_103 rfl dX10_best_75 ?_
        refine g_iload_n (pc := 78) (q := 2) hC dX10_best_78 rfl rfl ?_
        refine g_iald (pc := 79) hC 4 rfl (by decide) dX10_best_79 ?_
        exact g_iret (pc := 80) hC dX10_best_80
      · refine g_aload_n (pc := 67) (q := 0) hC dX10_best_67 rfl rfl ?_
        refine g_get (pc := 68) (v := .int (s11.1 52 44)) hC kX10 rfl 44 (by decide) fl_RX10_283 rfl dX10_best_68 ?_
        refine g_goto (pc := 71) (tgt := 80) hC dX10_best_71 (by decide) ?_
        exact g_iret (pc := 80) hC dX10_best_80
    · refine g_aload_n (pc := 36) (q := 0) hC dX10_best_36 rfl rfl ?_
      refine g_get (pc := 37) (v := .ref (G.2.1 82)) hC kX10 rfl 46 (by decide) fl_RX10_100 rfl dX10_best_37 ?_
      refine g_iload_n (pc := 40) (q := 3) hC dX10_best_40 rfl rfl ?_
      refine g_iconst (pc := 41) (v := 0) hC dX10_best_41 (by decide) ?_
      refine g_iast (pc := 42) hC 4 rfl (by decide) dX10_best_42 (fun s12 => ?_)
      refine g_iinc (pc := 43) (q := 3) (w := 1) (lv' := fun v13 => [(3, .int v13), (0, .ref (G.2.1 52)), (1, .int x7), (2, .int x8)]) hC dX10_best_43 rfl (by decide) (by decide) (fun _ => rfl) (fun v13 => ?_)
      refine g_goto (pc := 46) (tgt := 31) hC dX10_best_46 (by decide) ?_
      exact gT_sub [1, 2, 3, 0] rfl (ih s12 x7 x8 v13)
def mX10_best (σ : gS) (p0 : Int32) (p1 : Int32) : Option (Int32 × gS) := gBind (mX10_within σ p0 1 4) (fun r1 s2 => if r1 = true then (gBind (mX10_within s2 p1 (-1) (p0 - 1)) (fun r3 s4 => if r3 = true then (gLet (gUI s4 52 45 0) (fun s5 => gLet 0 (fun v6 => (mX10_best_b31  1100 s5 p0 p1 v6)))) else (some ((-2000000000), s4)))) else (some ((-2000000000), s2)))
set_option maxHeartbeats 4000000 in
set_option maxRecDepth 100000 in
theorem tX10_best (l : Launch) (G : gE) (σ : gS) (p0 : Int32) (p1 : Int32) : gM l G yX10_best cX10_best 4 (some .int) rX10_best iI [.ref (G.2.1 52), .int p0, .int p1] σ (mX10_best σ p0 p1) := by
  refine gM_of (by decide) (Nat.le_of_ble_eq_true rfl) ?_
  intro p e s m args below meth c hC
  unfold mX10_best
  show gT p l e rX10_best s m args below meth c G 4 iI σ 0 [(0, .ref (G.2.1 52)), (1, .int p0), (2, .int p1)] [] _
  refine g_iload_n (pc := 0) (q := 1) hC dX10_best_0 rfl rfl ?_
  refine g_iconst (pc := 1) (v := 1) hC dX10_best_1 (by decide) ?_
  refine g_iconst (pc := 2) (v := 4) hC dX10_best_2 (by decide) ?_
  refine g_callSz (pc := 3) (As := [.int p0, .int 1, .int 4]) (rest := []) hC lk_RX10_110 (tX10_within _ _ σ p0 1 4) rfl rfl (Nat.le_of_ble_eq_true rfl) ⟨rfl, rfl, Nat.le_of_ble_eq_true rfl, Nat.le_of_ble_eq_true rfl⟩ dX10_best_3 (fun r1 s2 => ?_)
  refine g_bif_eq (pc := 6) (tgt := 20) hC dX10_best_6 (by decide) ?_ ?_
  · refine g_ldcw (pc := 20) hC dX10_best_20 cst_RX10_293 ?_
    exact g_iret (pc := 23) hC dX10_best_23
  · refine g_iload_n (pc := 9) (q := 2) hC dX10_best_9 rfl rfl ?_
    refine g_iconst (pc := 10) (v := (-1)) hC dX10_best_10 (by decide) ?_
    refine g_iload_n (pc := 11) (q := 1) hC dX10_best_11 rfl rfl ?_
    refine g_iconst (pc := 12) (v := 1) hC dX10_best_12 (by decide) ?_
    refine g_isub (pc := 13) hC dX10_best_13 ?_
    refine g_callSz (pc := 14) (As := [.int p1, .int (-1), .int (p0 - 1)]) (rest := []) hC lk_RX10_110 (tX10_within _ _ s2 p1 (-1) (p0 - 1)) rfl rfl (Nat.le_of_ble_eq_true rfl) ⟨rfl, rfl, Nat.le_of_ble_eq_true rfl, Nat.le_of_ble_eq_true rfl⟩ dX10_best_14 (fun r3 s4 => ?_)
    refine g_bif_ne (pc := 17) (tgt := 24) hC dX10_best_17 (by decide) ?_ ?_
    · refine g_aload_n (pc := 24) (q := 0) hC dX10_best_24 rfl rfl ?_
      refine g_iconst (pc := 25) (v := 0) hC dX10_best_25 (by decide) ?_
      refine g_puti (pc := 26) (fty := .boolean) hC kX10 rfl 45 (by decide) fl_RX10_280 rfl rfl (by decide) rfl (fun _ _ => Nat.le_of_ble_eq_true rfl) (fun _ _ => rfl) dX10_best_26 (fun s5 => ?_)
      refine g_iconst (pc := 29) (v := 0) hC dX10_best_29 (by decide) ?_
      refine g_istore_n (pc := 30) (lv' := fun v6 => [(3, .int v6), (0, .ref (G.2.1 52)), (1, .int p0), (2, .int p1)]) hC dX10_best_30 rfl (by decide) (fun _ => rfl) (fun v6 => ?_)
      exact gT_sub [1, 2, 3, 0] rfl (wX10_best_b31 hC  1100 s5 p0 p1 v6)
    · refine g_ldcw (pc := 20) hC dX10_best_20 cst_RX10_293 ?_
      exact g_iret (pc := 23) hC dX10_best_23
theorem lk_RX10_321 : gLV RX10 321 RX10 yX10_doing cX10_doing 11 (some .int) 7 := ⟨(gBig_tab 1489 (by decide +kernel) (by decide +kernel)), (gBig_tab 1491 (by decide +kernel) (by decide +kernel)), (gBig_sel 86 (by decide +kernel) (by decide +kernel)), (gBig_tab 11 (by decide +kernel) (by decide +kernel)), (gBig_tab 1492 (by decide +kernel) (by decide +kernel)), rfl, by decide +kernel, by decide +kernel, by decide +kernel⟩
theorem dX10_turnFrom_0 : decode cX10_turnFrom 0 = .ok (.aload_n 0, 1) := by decide +kernel
theorem dX10_turnFrom_1 : decode cX10_turnFrom 1 = .ok (.invokevirtual 246, 3) := by decide +kernel
theorem dX10_turnFrom_4 : decode cX10_turnFrom 4 = .ok (.iload_n 1, 1) := by decide +kernel
theorem dX10_turnFrom_5 : decode cX10_turnFrom 5 = .ok (.iadd, 1) := by decide +kernel
theorem dX10_turnFrom_6 : decode cX10_turnFrom 6 = .ok (.istore 7, 2) := by decide +kernel
theorem dX10_turnFrom_8 : decode cX10_turnFrom 8 = .ok (.iload_n 1, 1) := by decide +kernel
theorem dX10_turnFrom_9 : decode cX10_turnFrom 9 = .ok (.iload_n 2, 1) := by decide +kernel
theorem dX10_turnFrom_10 : decode cX10_turnFrom 10 = .ok (.if_icmp .eq 10, 3) := by decide +kernel
theorem dX10_turnFrom_13 : decode cX10_turnFrom 13 = .ok (.iload 7, 2) := by decide +kernel
theorem dX10_turnFrom_15 : decode cX10_turnFrom 15 = .ok (.bipush 30, 2) := by decide +kernel
theorem dX10_turnFrom_17 : decode cX10_turnFrom 17 = .ok (.if_icmp .lt 5, 3) := by decide +kernel
theorem dX10_turnFrom_20 : decode cX10_turnFrom 20 = .ok (.iconst 0, 1) := by decide +kernel
theorem dX10_turnFrom_21 : decode cX10_turnFrom 21 = .ok (.ireturn, 1) := by decide +kernel
theorem dX10_turnFrom_22 : decode cX10_turnFrom 22 = .ok (.aload_n 0, 1) := by decide +kernel
theorem dX10_turnFrom_23 : decode cX10_turnFrom 23 = .ok (.iload_n 1, 1) := by decide +kernel
theorem dX10_turnFrom_24 : decode cX10_turnFrom 24 = .ok (.iload_n 2, 1) := by decide +kernel
theorem dX10_turnFrom_25 : decode cX10_turnFrom 25 = .ok (.iload_n 3, 1) := by decide +kernel
theorem dX10_turnFrom_26 : decode cX10_turnFrom 26 = .ok (.iload 4, 2) := by decide +kernel
theorem dX10_turnFrom_28 : decode cX10_turnFrom 28 = .ok (.iload 5, 2) := by decide +kernel
theorem dX10_turnFrom_30 : decode cX10_turnFrom 30 = .ok (.iload 6, 2) := by decide +kernel
theorem dX10_turnFrom_32 : decode cX10_turnFrom 32 = .ok (.iconst 0, 1) := by decide +kernel
theorem dX10_turnFrom_33 : decode cX10_turnFrom 33 = .ok (.invokevirtual 321, 3) := by decide +kernel
theorem dX10_turnFrom_36 : decode cX10_turnFrom 36 = .ok (.istore 8, 2) := by decide +kernel
theorem dX10_turnFrom_38 : decode cX10_turnFrom 38 = .ok (.aload_n 0, 1) := by decide +kernel
theorem dX10_turnFrom_39 : decode cX10_turnFrom 39 = .ok (.iload_n 1, 1) := by decide +kernel
theorem dX10_turnFrom_40 : decode cX10_turnFrom 40 = .ok (.iload_n 2, 1) := by decide +kernel
theorem dX10_turnFrom_41 : decode cX10_turnFrom 41 = .ok (.iload_n 3, 1) := by decide +kernel
theorem dX10_turnFrom_42 : decode cX10_turnFrom 42 = .ok (.iload 4, 2) := by decide +kernel
theorem dX10_turnFrom_44 : decode cX10_turnFrom 44 = .ok (.iload 5, 2) := by decide +kernel
theorem dX10_turnFrom_46 : decode cX10_turnFrom 46 = .ok (.iload 6, 2) := by decide +kernel
theorem dX10_turnFrom_48 : decode cX10_turnFrom 48 = .ok (.iload 5, 2) := by decide +kernel
theorem dX10_turnFrom_50 : decode cX10_turnFrom 50 = .ok (.invokevirtual 321, 3) := by decide +kernel
theorem dX10_turnFrom_53 : decode cX10_turnFrom 53 = .ok (.istore 9, 2) := by decide +kernel
theorem dX10_turnFrom_55 : decode cX10_turnFrom 55 = .ok (.iload_n 1, 1) := by decide +kernel
theorem dX10_turnFrom_56 : decode cX10_turnFrom 56 = .ok (.iconst 2, 1) := by decide +kernel
theorem dX10_turnFrom_57 : decode cX10_turnFrom 57 = .ok (.irem, 1) := by decide +kernel
theorem dX10_turnFrom_58 : decode cX10_turnFrom 58 = .ok (.ifCond .ne 13, 3) := by decide +kernel
theorem dX10_turnFrom_61 : decode cX10_turnFrom 61 = .ok (.iload 8, 2) := by decide +kernel
theorem dX10_turnFrom_63 : decode cX10_turnFrom 63 = .ok (.iload 9, 2) := by decide +kernel
theorem dX10_turnFrom_65 : decode cX10_turnFrom 65 = .ok (.invokestatic 237, 3) := by decide +kernel
theorem dX10_turnFrom_68 : decode cX10_turnFrom 68 = .ok (.goto 10, 3) := by decide +kernel
theorem dX10_turnFrom_71 : decode cX10_turnFrom 71 = .ok (.iload 8, 2) := by decide +kernel
theorem dX10_turnFrom_73 : decode cX10_turnFrom 73 = .ok (.iload 9, 2) := by decide +kernel
theorem dX10_turnFrom_75 : decode cX10_turnFrom 75 = .ok (.invokestatic 232, 3) := by decide +kernel
theorem dX10_turnFrom_78 : decode cX10_turnFrom 78 = .ok (.ireturn, 1) := by decide +kernel
theorem lk_RX10_325 : gLV RX10 325 RX10 yX10_turnFrom cX10_turnFrom 10 (some .int) 6 := ⟨(gBig_tab 1485 (by decide +kernel) (by decide +kernel)), (gBig_tab 1487 (by decide +kernel) (by decide +kernel)), (gBig_sel 85 (by decide +kernel) (by decide +kernel)), (gBig_tab 11 (by decide +kernel) (by decide +kernel)), (gBig_tab 1488 (by decide +kernel) (by decide +kernel)), rfl, by decide +kernel, by decide +kernel, by decide +kernel⟩
theorem dX10_doing_0 : decode cX10_doing 0 = .ok (.aload_n 0, 1) := by decide +kernel
theorem dX10_doing_1 : decode cX10_doing 1 = .ok (.invokevirtual 246, 3) := by decide +kernel
theorem dX10_doing_4 : decode cX10_doing 4 = .ok (.iload_n 1, 1) := by decide +kernel
theorem dX10_doing_5 : decode cX10_doing 5 = .ok (.iadd, 1) := by decide +kernel
theorem dX10_doing_6 : decode cX10_doing 6 = .ok (.istore 8, 2) := by decide +kernel
theorem dX10_doing_8 : decode cX10_doing 8 = .ok (.iload 6, 2) := by decide +kernel
theorem dX10_doing_10 : decode cX10_doing 10 = .ok (.aload_n 0, 1) := by decide +kernel
theorem dX10_doing_11 : decode cX10_doing 11 = .ok (.getfield 30, 3) := by decide +kernel
theorem dX10_doing_14 : decode cX10_doing 14 = .ok (.iconst 1, 1) := by decide +kernel
theorem dX10_doing_15 : decode cX10_doing 15 = .ok (.iaload, 1) := by decide +kernel
theorem dX10_doing_16 : decode cX10_doing 16 = .ok (.if_icmp .le 7, 3) := by decide +kernel
theorem dX10_doing_19 : decode cX10_doing 19 = .ok (.iconst 0, 1) := by decide +kernel
theorem dX10_doing_20 : decode cX10_doing 20 = .ok (.goto 5, 3) := by decide +kernel
theorem dX10_doing_23 : decode cX10_doing 23 = .ok (.iload 6, 2) := by decide +kernel
theorem dX10_doing_25 : decode cX10_doing 25 = .ok (.istore 9, 2) := by decide +kernel
theorem dX10_doing_27 : decode cX10_doing 27 = .ok (.iload 9, 2) := by decide +kernel
theorem dX10_doing_29 : decode cX10_doing 29 = .ok (.iload 7, 2) := by decide +kernel
theorem dX10_doing_31 : decode cX10_doing 31 = .ok (.invokestatic 232, 3) := by decide +kernel
theorem dX10_doing_34 : decode cX10_doing 34 = .ok (.istore 10, 2) := by decide +kernel
theorem dX10_doing_36 : decode cX10_doing 36 = .ok (.aload_n 0, 1) := by decide +kernel
theorem dX10_doing_37 : decode cX10_doing 37 = .ok (.iload_n 3, 1) := by decide +kernel
theorem dX10_doing_38 : decode cX10_doing 38 = .ok (.iload 8, 2) := by decide +kernel
theorem dX10_doing_40 : decode cX10_doing 40 = .ok (.iload 10, 2) := by decide +kernel
theorem dX10_doing_42 : decode cX10_doing 42 = .ok (.invokevirtual 300, 3) := by decide +kernel
theorem dX10_doing_45 : decode cX10_doing 45 = .ok (.aload_n 0, 1) := by decide +kernel
theorem dX10_doing_46 : decode cX10_doing 46 = .ok (.iload 4, 2) := by decide +kernel
theorem dX10_doing_48 : decode cX10_doing 48 = .ok (.iload 8, 2) := by decide +kernel
theorem dX10_doing_50 : decode cX10_doing 50 = .ok (.iload 10, 2) := by decide +kernel
theorem dX10_doing_52 : decode cX10_doing 52 = .ok (.invokevirtual 300, 3) := by decide +kernel
theorem dX10_doing_55 : decode cX10_doing 55 = .ok (.isub, 1) := by decide +kernel
theorem dX10_doing_56 : decode cX10_doing 56 = .ok (.aload_n 0, 1) := by decide +kernel
theorem dX10_doing_57 : decode cX10_doing 57 = .ok (.iload_n 1, 1) := by decide +kernel
theorem dX10_doing_58 : decode cX10_doing 58 = .ok (.iconst 1, 1) := by decide +kernel
theorem dX10_doing_59 : decode cX10_doing 59 = .ok (.iadd, 1) := by decide +kernel
theorem dX10_doing_60 : decode cX10_doing 60 = .ok (.iload_n 2, 1) := by decide +kernel
theorem dX10_doing_61 : decode cX10_doing 61 = .ok (.iload_n 3, 1) := by decide +kernel
theorem dX10_doing_62 : decode cX10_doing 62 = .ok (.iload 4, 2) := by decide +kernel
theorem dX10_doing_64 : decode cX10_doing 64 = .ok (.iload 5, 2) := by decide +kernel
theorem dX10_doing_66 : decode cX10_doing 66 = .ok (.aload_n 0, 1) := by decide +kernel
theorem dX10_doing_67 : decode cX10_doing 67 = .ok (.iload 9, 2) := by decide +kernel
theorem dX10_doing_69 : decode cX10_doing 69 = .ok (.iload 10, 2) := by decide +kernel
theorem dX10_doing_71 : decode cX10_doing 71 = .ok (.isub, 1) := by decide +kernel
theorem dX10_doing_72 : decode cX10_doing 72 = .ok (.iload 10, 2) := by decide +kernel
theorem dX10_doing_74 : decode cX10_doing 74 = .ok (.iload 8, 2) := by decide +kernel
theorem dX10_doing_76 : decode cX10_doing 76 = .ok (.invokevirtual 252, 3) := by decide +kernel
theorem dX10_doing_79 : decode cX10_doing 79 = .ok (.invokevirtual 325, 3) := by decide +kernel
theorem dX10_doing_82 : decode cX10_doing 82 = .ok (.iadd, 1) := by decide +kernel
theorem dX10_doing_83 : decode cX10_doing 83 = .ok (.ireturn, 1) := by decide +kernel
abbrev rrX10_turnFrom (d : Nat) : Room := { frames := 4 + d, cells := 0, slots := 0, locals := 94 + 30 * d }
abbrev rrX10_doing (d : Nat) : Room := { frames := 4 + d, cells := 0, slots := 0, locals := 94 + 30 * d }
def mrX10_turnFrom (rec : ((gS → Int32 → Int32 → Int32 → Int32 → Int32 → Int32 → Option (Int32 × gS)) × (gS → Int32 → Int32 → Int32 → Int32 → Int32 → Int32 → Int32 → Option (Int32 × gS)))) (σ : gS) (p0 : Int32) (p1 : Int32) (p2 : Int32) (p3 : Int32) (p4 : Int32) (p5 : Int32) : Option (Int32 × gS) := gBind (mX10_now σ ) (fun r1 s2 => gLet (r1 + p0) (fun v3 => if p0 = p1 then (some (0, s2)) else (if v3 < 30 then (gBind (rec.2 s2 p0 p1 p2 p3 p4 p5 0) (fun r4 s5 => gLet r4 (fun v6 => gBind (rec.2 s5 p0 p1 p2 p3 p4 p5 p4) (fun r7 s8 => gLet r7 (fun v9 => if (gRem p0 2) = 0 then (some ((gMax v6 v9), s8)) else (some ((gMin v6 v9), s8))))))) else (some (0, s2)))))
set_option maxHeartbeats 4000000 in
set_option maxRecDepth 100000 in
theorem trX10_turnFrom {l : Launch} {G : gE} {d : Nat} {rec : ((gS → Int32 → Int32 → Int32 → Int32 → Int32 → Int32 → Option (Int32 × gS)) × (gS → Int32 → Int32 → Int32 → Int32 → Int32 → Int32 → Int32 → Option (Int32 × gS)))} (hrec : (∀ (σ : gS) (p0 : Int32) (p1 : Int32) (p2 : Int32) (p3 : Int32) (p4 : Int32) (p5 : Int32), gM l G yX10_turnFrom cX10_turnFrom 10 (some .int) (rrX10_turnFrom d) iI [.ref (G.2.1 52), .int p0, .int p1, .int p2, .int p3, .int p4, .int p5] σ (rec.1 σ p0 p1 p2 p3 p4 p5)) ∧ (∀ (σ : gS) (p0 : Int32) (p1 : Int32) (p2 : Int32) (p3 : Int32) (p4 : Int32) (p5 : Int32) (p6 : Int32), gM l G yX10_doing cX10_doing 11 (some .int) (rrX10_doing d) iI [.ref (G.2.1 52), .int p0, .int p1, .int p2, .int p3, .int p4, .int p5, .int p6] σ (rec.2 σ p0 p1 p2 p3 p4 p5 p6))) : ∀ (σ : gS) (p0 : Int32) (p1 : Int32) (p2 : Int32) (p3 : Int32) (p4 : Int32) (p5 : Int32), gM l G yX10_turnFrom cX10_turnFrom 10 (some .int) (rrX10_turnFrom (d + 1)) iI [.ref (G.2.1 52), .int p0, .int p1, .int p2, .int p3, .int p4, .int p5] σ (mrX10_turnFrom rec σ p0 p1 p2 p3 p4 p5) := by
  intro σ p0 p1 p2 p3 p4 p5
  refine gM_of (by decide) (Nat.le_of_ble_eq_true rfl) ?_
  intro p e s m args below meth c hC
  unfold mrX10_turnFrom
  show gT p l e (rrX10_turnFrom (d + 1)) s m args below meth c G 10 iI σ 0 [(0, .ref (G.2.1 52)), (1, .int p0), (2, .int p1), (3, .int p2), (4, .int p3), (5, .int p4), (6, .int p5)] [] _
  refine g_aload_n (pc := 0) (q := 0) hC dX10_turnFrom_0 rfl rfl ?_
  refine g_callVi (pc := 1) (As := []) (rest := []) hC lk_RX10_246 kX10 rfl (tX10_now _ _ σ ) rfl rfl (Nat.le_of_ble_eq_true rfl) ⟨rfl, rfl, by simp only [rrX10_turnFrom] <;> omega, by simp only [rrX10_turnFrom] <;> omega⟩ dX10_turnFrom_1 (fun r1 s2 => ?_)
  refine g_iload_n (pc := 4) (q := 1) hC dX10_turnFrom_4 rfl rfl ?_
  refine g_iadd (pc := 5) hC dX10_turnFrom_5 ?_
  refine g_istore (pc := 6) (lv' := fun v3 => [(7, .int v3), (0, .ref (G.2.1 52)), (1, .int p0), (2, .int p1), (3, .int p2), (4, .int p3), (5, .int p4), (6, .int p5)]) hC dX10_turnFrom_6 (by decide) (fun _ => rfl) (fun v3 => ?_)
  refine g_iload_n (pc := 8) (q := 2) hC dX10_turnFrom_8 rfl rfl ?_
  refine g_iload_n (pc := 9) (q := 3) hC dX10_turnFrom_9 rfl rfl ?_
  refine g_icmp_eq (pc := 10) (tgt := 20) hC dX10_turnFrom_10 (by decide) ?_ ?_
  · refine g_iconst (pc := 20) (v := 0) hC dX10_turnFrom_20 (by decide) ?_
    exact g_iret (pc := 21) hC dX10_turnFrom_21
  · refine g_iload (pc := 13) (q := 0) hC dX10_turnFrom_13 rfl ?_
    refine g_bipush (pc := 15) (v := 30) hC dX10_turnFrom_15 (by decide) ?_
    refine g_icmp_lt (pc := 17) (tgt := 22) hC dX10_turnFrom_17 (by decide) ?_ ?_
    · refine g_aload_n (pc := 22) (q := 1) hC dX10_turnFrom_22 rfl rfl ?_
      refine g_iload_n (pc := 23) (q := 2) hC dX10_turnFrom_23 rfl rfl ?_
      refine g_iload_n (pc := 24) (q := 3) hC dX10_turnFrom_24 rfl rfl ?_
      refine g_iload_n (pc := 25) (q := 4) hC dX10_turnFrom_25 rfl rfl ?_
      refine g_iload (pc := 26) (q := 5) hC dX10_turnFrom_26 rfl ?_
      refine g_iload (pc := 28) (q := 6) hC dX10_turnFrom_28 rfl ?_
      refine g_iload (pc := 30) (q := 7) hC dX10_turnFrom_30 rfl ?_
      refine g_iconst (pc := 32) (v := 0) hC dX10_turnFrom_32 (by decide) ?_
      refine g_callVi (pc := 33) (As := [.int p0, .int p1, .int p2, .int p3, .int p4, .int p5, .int 0]) (rest := []) hC lk_RX10_321 kX10 rfl (hrec.2 s2 p0 p1 p2 p3 p4 p5 0) rfl rfl (Nat.le_of_ble_eq_true rfl) ⟨rfl, rfl, by simp only [rrX10_doing, rrX10_turnFrom] <;> omega, by simp only [rrX10_doing, rrX10_turnFrom] <;> omega⟩ dX10_turnFrom_33 (fun r4 s5 => ?_)
      refine g_istore (pc := 36) (lv' := fun v6 => [(8, .int v6), (7, .int v3), (0, .ref (G.2.1 52)), (1, .int p0), (2, .int p1), (3, .int p2), (4, .int p3), (5, .int p4), (6, .int p5)]) hC dX10_turnFrom_36 (by decide) (fun _ => rfl) (fun v6 => ?_)
      refine g_aload_n (pc := 38) (q := 2) hC dX10_turnFrom_38 rfl rfl ?_
      refine g_iload_n (pc := 39) (q := 3) hC dX10_turnFrom_39 rfl rfl ?_
      refine g_iload_n (pc := 40) (q := 4) hC dX10_turnFrom_40 rfl rfl ?_
      refine g_iload_n (pc := 41) (q := 5) hC dX10_turnFrom_41 rfl rfl ?_
      refine g_iload (pc := 42) (q := 6) hC dX10_turnFrom_42 rfl ?_
      refine g_iload (pc := 44) (q := 7) hC dX10_turnFrom_44 rfl ?_
      refine g_iload (pc := 46) (q := 8) hC dX10_turnFrom_46 rfl ?_
      refine g_iload (pc := 48) (q := 7) hC dX10_turnFrom_48 rfl ?_
      refine g_callVi (pc := 50) (As := [.int p0, .int p1, .int p2, .int p3, .int p4, .int p5, .int p4]) (rest := []) hC lk_RX10_321 kX10 rfl (hrec.2 s5 p0 p1 p2 p3 p4 p5 p4) rfl rfl (Nat.le_of_ble_eq_true rfl) ⟨rfl, rfl, by simp only [rrX10_doing, rrX10_turnFrom] <;> omega, by simp only [rrX10_doing, rrX10_turnFrom] <;> omega⟩ dX10_turnFrom_50 (fun r7 s8 => ?_)
      refine g_istore (pc := 53) (lv' := fun v9 => [(9, .int v9), (8, .int v6), (7, .int v3), (0, .ref (G.2.1 52)), (1, .int p0), (2, .int p1), (3, .int p2), (4, .int p3), (5, .int p4), (6, .int p5)]) hC dX10_turnFrom_53 (by decide) (fun _ => rfl) (fun v9 => ?_)
      refine g_iload_n (pc := 55) (q := 4) hC dX10_turnFrom_55 rfl rfl ?_
      refine g_iconst (pc := 56) (v := 2) hC dX10_turnFrom_56 (by decide) ?_
      refine g_iremL (pc := 57) hC dX10_turnFrom_57 (by decide) ?_
      refine g_if_ne (pc := 58) (tgt := 71) hC dX10_turnFrom_58 (by decide) ?_ ?_
      · refine g_iload (pc := 71) (q := 1) hC dX10_turnFrom_71 rfl ?_
        refine g_iload (pc := 73) (q := 0) hC dX10_turnFrom_73 rfl ?_
        refine g_min (pc := 75) hC mth_RX10_232 ⟨by simp only [rrX10_turnFrom] <;> omega, by simp only [rrX10_turnFrom] <;> omega⟩ (Nat.le_of_ble_eq_true rfl) dX10_turnFrom_75 ?_
        exact g_iret (pc := 78) hC dX10_turnFrom_78
      · refine g_iload (pc := 61) (q := 1) hC dX10_turnFrom_61 rfl ?_
        refine g_iload (pc := 63) (q := 0) hC dX10_turnFrom_63 rfl ?_
        refine g_max (pc := 65) hC mth_RX10_237 ⟨by simp only [rrX10_turnFrom] <;> omega, by simp only [rrX10_turnFrom] <;> omega⟩ (Nat.le_of_ble_eq_true rfl) dX10_turnFrom_65 ?_
        refine g_goto (pc := 68) (tgt := 78) hC dX10_turnFrom_68 (by decide) ?_
        exact g_iret (pc := 78) hC dX10_turnFrom_78
    · refine g_iconst (pc := 20) (v := 0) hC dX10_turnFrom_20 (by decide) ?_
      exact g_iret (pc := 21) hC dX10_turnFrom_21
def mX10_doing_b25 (rec : ((gS → Int32 → Int32 → Int32 → Int32 → Int32 → Int32 → Option (Int32 × gS)) × (gS → Int32 → Int32 → Int32 → Int32 → Int32 → Int32 → Int32 → Option (Int32 × gS))))   (σ : gS) (x4 : Int32) (x5 : Int32) (x6 : Int32) (x7 : Int32) (x8 : Int32) (x9 : Int32) (x10 : Int32) (x11 : Int32) : Option (Int32 × gS) := gLet x11 (fun v12 => gLet (gMin v12 x9) (fun v13 => gBind (mX10_has σ x6 x10 v13) (fun r14 s15 => gBind (mX10_has s15 x7 x10 v13) (fun r16 s17 => gBind (mX10_nextCold s17 (v12 - v13) v13 x10) (fun r18 s19 => gBind (rec.1 s19 (x4 + 1) x5 x6 x7 x8 r18) (fun r20 s21 => some (((r14 - r16) + r20), s21)))))))
set_option maxHeartbeats 4000000 in
set_option maxRecDepth 100000 in
theorem wX10_doing_b25 {p : Program} {l : Launch} {e : Env} {s : State} {m : MethodId} {args : Array Value} {below : List Frame} {meth : Method} {c : Code} {G : gE} {d : Nat} (hC : gCx p s m args meth c G RX10 cX10_doing 11 (some .int)) {rec : ((gS → Int32 → Int32 → Int32 → Int32 → Int32 → Int32 → Option (Int32 × gS)) × (gS → Int32 → Int32 → Int32 → Int32 → Int32 → Int32 → Int32 → Option (Int32 × gS)))} (hrec : (∀ (σ : gS) (p0 : Int32) (p1 : Int32) (p2 : Int32) (p3 : Int32) (p4 : Int32) (p5 : Int32), gM l G yX10_turnFrom cX10_turnFrom 10 (some .int) (rrX10_turnFrom d) iI [.ref (G.2.1 52), .int p0, .int p1, .int p2, .int p3, .int p4, .int p5] σ (rec.1 σ p0 p1 p2 p3 p4 p5)) ∧ (∀ (σ : gS) (p0 : Int32) (p1 : Int32) (p2 : Int32) (p3 : Int32) (p4 : Int32) (p5 : Int32) (p6 : Int32), gM l G yX10_doing cX10_doing 11 (some .int) (rrX10_doing d) iI [.ref (G.2.1 52), .int p0, .int p1, .int p2, .int p3, .int p4, .int p5, .int p6] σ (rec.2 σ p0 p1 p2 p3 p4 p5 p6)))    (σ : gS) (x4 : Int32) (x5 : Int32) (x6 : Int32) (x7 : Int32) (x8 : Int32) (x9 : Int32) (x10 : Int32) (x11 : Int32)  : gT p l e (rrX10_doing (d + 1)) s m args below meth c G 11 iI σ 25 [(0, .ref (G.2.1 52)), (1, .int x4), (2, .int x5), (3, .int x6), (4, .int x7), (5, .int x8), (7, .int x9), (8, .int x10)] [.int x11] (mX10_doing_b25 rec σ x4 x5 x6 x7 x8 x9 x10 x11) := by
  unfold mX10_doing_b25
  refine g_istore (pc := 25) (lv' := fun v12 => [(9, .int v12), (0, .ref (G.2.1 52)), (1, .int x4), (2, .int x5), (3, .int x6), (4, .int x7), (5, .int x8), (7, .int x9), (8, .int x10)]) hC dX10_doing_25 (by decide) (fun _ => rfl) (fun v12 => ?_)
  refine g_iload (pc := 27) (q := 0) hC dX10_doing_27 rfl ?_
  refine g_iload (pc := 29) (q := 7) hC dX10_doing_29 rfl ?_
  refine g_min (pc := 31) hC mth_RX10_232 ⟨by simp only [rrX10_doing] <;> omega, by simp only [rrX10_doing] <;> omega⟩ (Nat.le_of_ble_eq_true rfl) dX10_doing_31 ?_
  refine g_istore (pc := 34) (lv' := fun v13 => [(10, .int v13), (9, .int v12), (0, .ref (G.2.1 52)), (1, .int x4), (2, .int x5), (3, .int x6), (4, .int x7), (5, .int x8), (7, .int x9), (8, .int x10)]) hC dX10_doing_34 (by decide) (fun _ => rfl) (fun v13 => ?_)
  refine g_aload_n (pc := 36) (q := 2) hC dX10_doing_36 rfl rfl ?_
  refine g_iload_n (pc := 37) (q := 5) hC dX10_doing_37 rfl rfl ?_
  refine g_iload (pc := 38) (q := 9) hC dX10_doing_38 rfl ?_
  refine g_iload (pc := 40) (q := 0) hC dX10_doing_40 rfl ?_
  refine g_callVi (pc := 42) (As := [.int x6, .int x10, .int v13]) (rest := []) hC lk_RX10_300 kX10 rfl (tX10_has _ _ σ x6 x10 v13) rfl rfl (Nat.le_of_ble_eq_true rfl) ⟨rfl, rfl, by simp only [rrX10_doing] <;> omega, by simp only [rrX10_doing] <;> omega⟩ dX10_doing_42 (fun r14 s15 => ?_)
  refine g_aload_n (pc := 45) (q := 2) hC dX10_doing_45 rfl rfl ?_
  refine g_iload (pc := 46) (q := 6) hC dX10_doing_46 rfl ?_
  refine g_iload (pc := 48) (q := 9) hC dX10_doing_48 rfl ?_
  refine g_iload (pc := 50) (q := 0) hC dX10_doing_50 rfl ?_
  refine g_callVi (pc := 52) (As := [.int x7, .int x10, .int v13]) (rest := [.int r14]) hC lk_RX10_300 kX10 rfl (tX10_has _ _ s15 x7 x10 v13) rfl rfl (Nat.le_of_ble_eq_true rfl) ⟨rfl, rfl, by simp only [rrX10_doing] <;> omega, by simp only [rrX10_doing] <;> omega⟩ dX10_doing_52 (fun r16 s17 => ?_)
  refine g_isub (pc := 55) hC dX10_doing_55 ?_
  refine g_aload_n (pc := 56) (q := 2) hC dX10_doing_56 rfl rfl ?_
  refine g_iload_n (pc := 57) (q := 3) hC dX10_doing_57 rfl rfl ?_
  refine g_iconst (pc := 58) (v := 1) hC dX10_doing_58 (by decide) ?_
  refine g_iadd (pc := 59) hC dX10_doing_59 ?_
  refine g_iload_n (pc := 60) (q := 4) hC dX10_doing_60 rfl rfl ?_
  refine g_iload_n (pc := 61) (q := 5) hC dX10_doing_61 rfl rfl ?_
  refine g_iload (pc := 62) (q := 6) hC dX10_doing_62 rfl ?_
  refine g_iload (pc := 64) (q := 7) hC dX10_doing_64 rfl ?_
  refine g_aload_n (pc := 66) (q := 2) hC dX10_doing_66 rfl rfl ?_
  refine g_iload (pc := 67) (q := 1) hC dX10_doing_67 rfl ?_
  refine g_iload (pc := 69) (q := 0) hC dX10_doing_69 rfl ?_
  refine g_isub (pc := 71) hC dX10_doing_71 ?_
  refine g_iload (pc := 72) (q := 0) hC dX10_doing_72 rfl ?_
  refine g_iload (pc := 74) (q := 9) hC dX10_doing_74 rfl ?_
  refine g_callVi (pc := 76) (As := [.int (v12 - v13), .int v13, .int x10]) (rest := [.int x8, .int x7, .int x6, .int x5, .int (x4 + 1), .ref (G.2.1 52), .int (r14 - r16)]) hC lk_RX10_252 kX10 rfl (tX10_nextCold _ _ s17 (v12 - v13) v13 x10) rfl rfl (Nat.le_of_ble_eq_true rfl) ⟨rfl, rfl, by simp only [rrX10_doing] <;> omega, by simp only [rrX10_doing] <;> omega⟩ dX10_doing_76 (fun r18 s19 => ?_)
  refine g_callVi (pc := 79) (As := [.int (x4 + 1), .int x5, .int x6, .int x7, .int x8, .int r18]) (rest := [.int (r14 - r16)]) hC lk_RX10_325 kX10 rfl (hrec.1 s19 (x4 + 1) x5 x6 x7 x8 r18) rfl rfl (Nat.le_of_ble_eq_true rfl) ⟨rfl, rfl, by simp only [rrX10_turnFrom, rrX10_doing] <;> omega, by simp only [rrX10_turnFrom, rrX10_doing] <;> omega⟩ dX10_doing_79 (fun r20 s21 => ?_)
  refine g_iadd (pc := 82) hC dX10_doing_82 ?_
  exact g_iret (pc := 83) hC dX10_doing_83
def mrX10_doing (rec : ((gS → Int32 → Int32 → Int32 → Int32 → Int32 → Int32 → Option (Int32 × gS)) × (gS → Int32 → Int32 → Int32 → Int32 → Int32 → Int32 → Int32 → Option (Int32 × gS)))) (σ : gS) (p0 : Int32) (p1 : Int32) (p2 : Int32) (p3 : Int32) (p4 : Int32) (p5 : Int32) (p6 : Int32) : Option (Int32 × gS) := gBind (mX10_now σ ) (fun r1 s2 => gLet (r1 + p0) (fun v3 => if inbB 1 5 = true then (if p5 ≤ (s2.1 59 (Int32.toNatClampNeg 1)) then ((mX10_doing_b25 rec s2 p0 p1 p2 p3 p4 p6 v3 p5)) else ((mX10_doing_b25 rec s2 p0 p1 p2 p3 p4 p6 v3 0))) else none))
set_option maxHeartbeats 4000000 in
set_option maxRecDepth 100000 in
theorem trX10_doing {l : Launch} {G : gE} {d : Nat} {rec : ((gS → Int32 → Int32 → Int32 → Int32 → Int32 → Int32 → Option (Int32 × gS)) × (gS → Int32 → Int32 → Int32 → Int32 → Int32 → Int32 → Int32 → Option (Int32 × gS)))} (hrec : (∀ (σ : gS) (p0 : Int32) (p1 : Int32) (p2 : Int32) (p3 : Int32) (p4 : Int32) (p5 : Int32), gM l G yX10_turnFrom cX10_turnFrom 10 (some .int) (rrX10_turnFrom d) iI [.ref (G.2.1 52), .int p0, .int p1, .int p2, .int p3, .int p4, .int p5] σ (rec.1 σ p0 p1 p2 p3 p4 p5)) ∧ (∀ (σ : gS) (p0 : Int32) (p1 : Int32) (p2 : Int32) (p3 : Int32) (p4 : Int32) (p5 : Int32) (p6 : Int32), gM l G yX10_doing cX10_doing 11 (some .int) (rrX10_doing d) iI [.ref (G.2.1 52), .int p0, .int p1, .int p2, .int p3, .int p4, .int p5, .int p6] σ (rec.2 σ p0 p1 p2 p3 p4 p5 p6))) : ∀ (σ : gS) (p0 : Int32) (p1 : Int32) (p2 : Int32) (p3 : Int32) (p4 : Int32) (p5 : Int32) (p6 : Int32), gM l G yX10_doing cX10_doing 11 (some .int) (rrX10_doing (d + 1)) iI [.ref (G.2.1 52), .int p0, .int p1, .int p2, .int p3, .int p4, .int p5, .int p6] σ (mrX10_doing rec σ p0 p1 p2 p3 p4 p5 p6) := by
  intro σ p0 p1 p2 p3 p4 p5 p6
  refine gM_of (by decide) (Nat.le_of_ble_eq_true rfl) ?_
  intro p e s m args below meth c hC
  unfold mrX10_doing
  show gT p l e (rrX10_doing (d + 1)) s m args below meth c G 11 iI σ 0 [(0, .ref (G.2.1 52)), (1, .int p0), (2, .int p1), (3, .int p2), (4, .int p3), (5, .int p4), (6, .int p5), (7, .int p6)] [] _
  refine g_aload_n (pc := 0) (q := 0) hC dX10_doing_0 rfl rfl ?_
  refine g_callVi (pc := 1) (As := []) (rest := []) hC lk_RX10_246 kX10 rfl (tX10_now _ _ σ ) rfl rfl (Nat.le_of_ble_eq_true rfl) ⟨rfl, rfl, by simp only [rrX10_doing] <;> omega, by simp only [rrX10_doing] <;> omega⟩ dX10_doing_1 (fun r1 s2 => ?_)
  refine g_iload_n (pc := 4) (q := 1) hC dX10_doing_4 rfl rfl ?_
  refine g_iadd (pc := 5) hC dX10_doing_5 ?_
  refine g_istore (pc := 6) (lv' := fun v3 => [(8, .int v3), (0, .ref (G.2.1 52)), (1, .int p0), (2, .int p1), (3, .int p2), (4, .int p3), (5, .int p4), (6, .int p5), (7, .int p6)]) hC dX10_doing_6 (by decide) (fun _ => rfl) (fun v3 => ?_)
  refine g_iload (pc := 8) (q := 7) hC dX10_doing_8 rfl ?_
  refine g_aload_n (pc := 10) (q := 1) hC dX10_doing_10 rfl rfl ?_
  refine g_get (pc := 11) (v := .ref (G.2.1 59)) hC kX10 rfl 8 (by decide) fl_RX10_30 rfl dX10_doing_11 ?_
  refine g_iconst (pc := 14) (v := 1) hC dX10_doing_14 (by decide) ?_
  refine g_iald (pc := 15) hC 5 rfl (by decide) dX10_doing_15 ?_
  refine g_icmp_le (pc := 16) (tgt := 23) hC dX10_doing_16 (by decide) ?_ ?_
  · refine g_iload (pc := 23) (q := 7) hC dX10_doing_23 rfl ?_
    exact gT_sub [1, 2, 3, 4, 5, 6, 8, 0] rfl (wX10_doing_b25 hC hrec s2 p0 p1 p2 p3 p4 p6 v3 p5)
  · refine g_iconst (pc := 19) (v := 0) hC dX10_doing_19 (by decide) ?_
    refine g_goto (pc := 20) (tgt := 25) hC dX10_doing_20 (by decide) ?_
    exact gT_sub [1, 2, 3, 4, 5, 6, 8, 0] rfl (wX10_doing_b25 hC hrec s2 p0 p1 p2 p3 p4 p6 v3 0)
def mgturns : Nat → ((gS → Int32 → Int32 → Int32 → Int32 → Int32 → Int32 → Option (Int32 × gS)) × (gS → Int32 → Int32 → Int32 → Int32 → Int32 → Int32 → Int32 → Option (Int32 × gS)))
  | 0 => (fun _ _ _ _ _ _ _ => none, fun _ _ _ _ _ _ _ _ => none)
  | d + 1 => (mrX10_turnFrom (mgturns d), mrX10_doing (mgturns d))
theorem tgturns (l : Launch) (G : gE) : ∀ d : Nat, (∀ (σ : gS) (p0 : Int32) (p1 : Int32) (p2 : Int32) (p3 : Int32) (p4 : Int32) (p5 : Int32), gM l G yX10_turnFrom cX10_turnFrom 10 (some .int) (rrX10_turnFrom d) iI [.ref (G.2.1 52), .int p0, .int p1, .int p2, .int p3, .int p4, .int p5] σ ((mgturns d).1 σ p0 p1 p2 p3 p4 p5)) ∧ (∀ (σ : gS) (p0 : Int32) (p1 : Int32) (p2 : Int32) (p3 : Int32) (p4 : Int32) (p5 : Int32) (p6 : Int32), gM l G yX10_doing cX10_doing 11 (some .int) (rrX10_doing d) iI [.ref (G.2.1 52), .int p0, .int p1, .int p2, .int p3, .int p4, .int p5, .int p6] σ ((mgturns d).2 σ p0 p1 p2 p3 p4 p5 p6)) := by
  intro d
  induction d with
  | zero => exact ⟨fun _ _ _ _ _ _ _ _ _ h => (by cases h), fun _ _ _ _ _ _ _ _ _ _ h => (by cases h)⟩
  | succ d ih => exact ⟨trX10_turnFrom ih, trX10_doing ih⟩
abbrev rX10_turnFrom : Room := rrX10_turnFrom 16
def mX10_turnFrom (σ : gS) (p0 : Int32) (p1 : Int32) (p2 : Int32) (p3 : Int32) (p4 : Int32) (p5 : Int32) : Option (Int32 × gS) := (mgturns 16).1 σ p0 p1 p2 p3 p4 p5
theorem tX10_turnFrom (l : Launch) (G : gE) (σ : gS) (p0 : Int32) (p1 : Int32) (p2 : Int32) (p3 : Int32) (p4 : Int32) (p5 : Int32) : gM l G yX10_turnFrom cX10_turnFrom 10 (some .int) rX10_turnFrom iI [.ref (G.2.1 52), .int p0, .int p1, .int p2, .int p3, .int p4, .int p5] σ (mX10_turnFrom σ p0 p1 p2 p3 p4 p5) := (tgturns l G 16).1 σ p0 p1 p2 p3 p4 p5
abbrev rX10_doing : Room := rrX10_doing 16
def mX10_doing (σ : gS) (p0 : Int32) (p1 : Int32) (p2 : Int32) (p3 : Int32) (p4 : Int32) (p5 : Int32) (p6 : Int32) : Option (Int32 × gS) := (mgturns 16).2 σ p0 p1 p2 p3 p4 p5 p6
theorem tX10_doing (l : Launch) (G : gE) (σ : gS) (p0 : Int32) (p1 : Int32) (p2 : Int32) (p3 : Int32) (p4 : Int32) (p5 : Int32) (p6 : Int32) : gM l G yX10_doing cX10_doing 11 (some .int) rX10_doing iI [.ref (G.2.1 52), .int p0, .int p1, .int p2, .int p3, .int p4, .int p5, .int p6] σ (mX10_doing σ p0 p1 p2 p3 p4 p5 p6) := (tgturns l G 16).2 σ p0 p1 p2 p3 p4 p5 p6
theorem dX10_byTurns_0 : decode cX10_byTurns 0 = .ok (.iload_n 1, 1) := by decide +kernel
theorem dX10_byTurns_1 : decode cX10_byTurns 1 = .ok (.ifCond .lt 36, 3) := by decide +kernel
theorem dX10_byTurns_4 : decode cX10_byTurns 4 = .ok (.aload_n 0, 1) := by decide +kernel
theorem dX10_byTurns_5 : decode cX10_byTurns 5 = .ok (.iload_n 1, 1) := by decide +kernel
theorem dX10_byTurns_6 : decode cX10_byTurns 6 = .ok (.bipush 10, 2) := by decide +kernel
theorem dX10_byTurns_8 : decode cX10_byTurns 8 = .ok (.idiv, 1) := by decide +kernel
theorem dX10_byTurns_9 : decode cX10_byTurns 9 = .ok (.invokevirtual 117, 3) := by decide +kernel
theorem dX10_byTurns_12 : decode cX10_byTurns 12 = .ok (.ifCond .eq 25, 3) := by decide +kernel
theorem dX10_byTurns_15 : decode cX10_byTurns 15 = .ok (.aload_n 0, 1) := by decide +kernel
theorem dX10_byTurns_16 : decode cX10_byTurns 16 = .ok (.iload_n 1, 1) := by decide +kernel
theorem dX10_byTurns_17 : decode cX10_byTurns 17 = .ok (.bipush 10, 2) := by decide +kernel
theorem dX10_byTurns_19 : decode cX10_byTurns 19 = .ok (.irem, 1) := by decide +kernel
theorem dX10_byTurns_20 : decode cX10_byTurns 20 = .ok (.invokevirtual 117, 3) := by decide +kernel
theorem dX10_byTurns_23 : decode cX10_byTurns 23 = .ok (.ifCond .eq 14, 3) := by decide +kernel
theorem dX10_byTurns_26 : decode cX10_byTurns 26 = .ok (.iload_n 1, 1) := by decide +kernel
theorem dX10_byTurns_27 : decode cX10_byTurns 27 = .ok (.bipush 10, 2) := by decide +kernel
theorem dX10_byTurns_29 : decode cX10_byTurns 29 = .ok (.idiv, 1) := by decide +kernel
theorem dX10_byTurns_30 : decode cX10_byTurns 30 = .ok (.iload_n 1, 1) := by decide +kernel
theorem dX10_byTurns_31 : decode cX10_byTurns 31 = .ok (.bipush 10, 2) := by decide +kernel
theorem dX10_byTurns_33 : decode cX10_byTurns 33 = .ok (.irem, 1) := by decide +kernel
theorem dX10_byTurns_34 : decode cX10_byTurns 34 = .ok (.if_icmp .ne 7, 3) := by decide +kernel
theorem dX10_byTurns_37 : decode cX10_byTurns 37 = .ok (.ldc_w 293, 3) := by decide +kernel
theorem dX10_byTurns_40 : decode cX10_byTurns 40 = .ok (.ireturn, 1) := by decide +kernel
theorem dX10_byTurns_41 : decode cX10_byTurns 41 = .ok (.iload_n 2, 1) := by decide +kernel
theorem dX10_byTurns_42 : decode cX10_byTurns 42 = .ok (.ifCond .lt 37, 3) := by decide +kernel
theorem dX10_byTurns_45 : decode cX10_byTurns 45 = .ok (.iload_n 2, 1) := by decide +kernel
theorem dX10_byTurns_46 : decode cX10_byTurns 46 = .ok (.bipush 10, 2) := by decide +kernel
theorem dX10_byTurns_48 : decode cX10_byTurns 48 = .ok (.idiv, 1) := by decide +kernel
theorem dX10_byTurns_49 : decode cX10_byTurns 49 = .ok (.iconst 1, 1) := by decide +kernel
theorem dX10_byTurns_50 : decode cX10_byTurns 50 = .ok (.bipush 24, 2) := by decide +kernel
theorem dX10_byTurns_52 : decode cX10_byTurns 52 = .ok (.invokestatic 110, 3) := by decide +kernel
theorem dX10_byTurns_55 : decode cX10_byTurns 55 = .ok (.ifCond .eq 24, 3) := by decide +kernel
theorem dX10_byTurns_58 : decode cX10_byTurns 58 = .ok (.iload_n 2, 1) := by decide +kernel
theorem dX10_byTurns_59 : decode cX10_byTurns 59 = .ok (.bipush 10, 2) := by decide +kernel
theorem dX10_byTurns_61 : decode cX10_byTurns 61 = .ok (.irem, 1) := by decide +kernel
theorem dX10_byTurns_62 : decode cX10_byTurns 62 = .ok (.iconst 1, 1) := by decide +kernel
theorem dX10_byTurns_63 : decode cX10_byTurns 63 = .ok (.iconst 5, 1) := by decide +kernel
theorem dX10_byTurns_64 : decode cX10_byTurns 64 = .ok (.invokestatic 110, 3) := by decide +kernel
theorem dX10_byTurns_67 : decode cX10_byTurns 67 = .ok (.ifCond .eq 12, 3) := by decide +kernel
theorem dX10_byTurns_70 : decode cX10_byTurns 70 = .ok (.iload_n 3, 1) := by decide +kernel
theorem dX10_byTurns_71 : decode cX10_byTurns 71 = .ok (.iconst 0, 1) := by decide +kernel
theorem dX10_byTurns_72 : decode cX10_byTurns 72 = .ok (.iconst 1, 1) := by decide +kernel
theorem dX10_byTurns_73 : decode cX10_byTurns 73 = .ok (.invokestatic 110, 3) := by decide +kernel
theorem dX10_byTurns_76 : decode cX10_byTurns 76 = .ok (.ifCond .ne 7, 3) := by decide +kernel
theorem dX10_byTurns_79 : decode cX10_byTurns 79 = .ok (.ldc_w 293, 3) := by decide +kernel
theorem dX10_byTurns_82 : decode cX10_byTurns 82 = .ok (.ireturn, 1) := by decide +kernel
theorem dX10_byTurns_83 : decode cX10_byTurns 83 = .ok (.iload_n 1, 1) := by decide +kernel
theorem dX10_byTurns_84 : decode cX10_byTurns 84 = .ok (.bipush 10, 2) := by decide +kernel
theorem dX10_byTurns_86 : decode cX10_byTurns 86 = .ok (.idiv, 1) := by decide +kernel
theorem dX10_byTurns_87 : decode cX10_byTurns 87 = .ok (.istore 4, 2) := by decide +kernel
theorem dX10_byTurns_89 : decode cX10_byTurns 89 = .ok (.iload_n 1, 1) := by decide +kernel
theorem dX10_byTurns_90 : decode cX10_byTurns 90 = .ok (.bipush 10, 2) := by decide +kernel
theorem dX10_byTurns_92 : decode cX10_byTurns 92 = .ok (.irem, 1) := by decide +kernel
theorem dX10_byTurns_93 : decode cX10_byTurns 93 = .ok (.istore 5, 2) := by decide +kernel
theorem dX10_byTurns_95 : decode cX10_byTurns 95 = .ok (.iload_n 2, 1) := by decide +kernel
theorem dX10_byTurns_96 : decode cX10_byTurns 96 = .ok (.bipush 10, 2) := by decide +kernel
theorem dX10_byTurns_98 : decode cX10_byTurns 98 = .ok (.irem, 1) := by decide +kernel
theorem dX10_byTurns_99 : decode cX10_byTurns 99 = .ok (.istore 6, 2) := by decide +kernel
theorem dX10_byTurns_101 : decode cX10_byTurns 101 = .ok (.iload_n 2, 1) := by decide +kernel
theorem dX10_byTurns_102 : decode cX10_byTurns 102 = .ok (.bipush 10, 2) := by decide +kernel
theorem dX10_byTurns_104 : decode cX10_byTurns 104 = .ok (.idiv, 1) := by decide +kernel
theorem dX10_byTurns_105 : decode cX10_byTurns 105 = .ok (.istore 7, 2) := by decide +kernel
theorem dX10_byTurns_107 : decode cX10_byTurns 107 = .ok (.iload_n 3, 1) := by decide +kernel
theorem dX10_byTurns_108 : decode cX10_byTurns 108 = .ok (.ifCond .ne 23, 3) := by decide +kernel
theorem dX10_byTurns_111 : decode cX10_byTurns 111 = .ok (.aload_n 0, 1) := by decide +kernel
theorem dX10_byTurns_112 : decode cX10_byTurns 112 = .ok (.iconst 0, 1) := by decide +kernel
theorem dX10_byTurns_113 : decode cX10_byTurns 113 = .ok (.iload 6, 2) := by decide +kernel
theorem dX10_byTurns_115 : decode cX10_byTurns 115 = .ok (.iload 4, 2) := by decide +kernel
theorem dX10_byTurns_117 : decode cX10_byTurns 117 = .ok (.iload 5, 2) := by decide +kernel
theorem dX10_byTurns_119 : decode cX10_byTurns 119 = .ok (.iload 7, 2) := by decide +kernel
theorem dX10_byTurns_121 : decode cX10_byTurns 121 = .ok (.aload_n 0, 1) := by decide +kernel
theorem dX10_byTurns_122 : decode cX10_byTurns 122 = .ok (.getfield 30, 3) := by decide +kernel
theorem dX10_byTurns_125 : decode cX10_byTurns 125 = .ok (.iconst 0, 1) := by decide +kernel
theorem dX10_byTurns_126 : decode cX10_byTurns 126 = .ok (.iaload, 1) := by decide +kernel
theorem dX10_byTurns_127 : decode cX10_byTurns 127 = .ok (.invokevirtual 325, 3) := by decide +kernel
theorem dX10_byTurns_130 : decode cX10_byTurns 130 = .ok (.ireturn, 1) := by decide +kernel
theorem dX10_byTurns_131 : decode cX10_byTurns 131 = .ok (.aload_n 0, 1) := by decide +kernel
theorem dX10_byTurns_132 : decode cX10_byTurns 132 = .ok (.iconst 0, 1) := by decide +kernel
theorem dX10_byTurns_133 : decode cX10_byTurns 133 = .ok (.iload 6, 2) := by decide +kernel
theorem dX10_byTurns_135 : decode cX10_byTurns 135 = .ok (.iload 4, 2) := by decide +kernel
theorem dX10_byTurns_137 : decode cX10_byTurns 137 = .ok (.iload 5, 2) := by decide +kernel
theorem dX10_byTurns_139 : decode cX10_byTurns 139 = .ok (.iload 7, 2) := by decide +kernel
theorem dX10_byTurns_141 : decode cX10_byTurns 141 = .ok (.aload_n 0, 1) := by decide +kernel
theorem dX10_byTurns_142 : decode cX10_byTurns 142 = .ok (.getfield 30, 3) := by decide +kernel
theorem dX10_byTurns_145 : decode cX10_byTurns 145 = .ok (.iconst 0, 1) := by decide +kernel
theorem dX10_byTurns_146 : decode cX10_byTurns 146 = .ok (.iaload, 1) := by decide +kernel
theorem dX10_byTurns_147 : decode cX10_byTurns 147 = .ok (.iload 7, 2) := by decide +kernel
theorem dX10_byTurns_149 : decode cX10_byTurns 149 = .ok (.invokevirtual 321, 3) := by decide +kernel
theorem dX10_byTurns_152 : decode cX10_byTurns 152 = .ok (.aload_n 0, 1) := by decide +kernel
theorem dX10_byTurns_153 : decode cX10_byTurns 153 = .ok (.iconst 0, 1) := by decide +kernel
theorem dX10_byTurns_154 : decode cX10_byTurns 154 = .ok (.iload 6, 2) := by decide +kernel
theorem dX10_byTurns_156 : decode cX10_byTurns 156 = .ok (.iload 4, 2) := by decide +kernel
theorem dX10_byTurns_158 : decode cX10_byTurns 158 = .ok (.iload 5, 2) := by decide +kernel
theorem dX10_byTurns_160 : decode cX10_byTurns 160 = .ok (.iload 7, 2) := by decide +kernel
theorem dX10_byTurns_162 : decode cX10_byTurns 162 = .ok (.aload_n 0, 1) := by decide +kernel
theorem dX10_byTurns_163 : decode cX10_byTurns 163 = .ok (.getfield 30, 3) := by decide +kernel
theorem dX10_byTurns_166 : decode cX10_byTurns 166 = .ok (.iconst 0, 1) := by decide +kernel
theorem dX10_byTurns_167 : decode cX10_byTurns 167 = .ok (.iaload, 1) := by decide +kernel
theorem dX10_byTurns_168 : decode cX10_byTurns 168 = .ok (.iconst 0, 1) := by decide +kernel
theorem dX10_byTurns_169 : decode cX10_byTurns 169 = .ok (.invokevirtual 321, 3) := by decide +kernel
theorem dX10_byTurns_172 : decode cX10_byTurns 172 = .ok (.if_icmp .le 7, 3) := by decide +kernel
theorem dX10_byTurns_175 : decode cX10_byTurns 175 = .ok (.iconst 1, 1) := by decide +kernel
theorem dX10_byTurns_176 : decode cX10_byTurns 176 = .ok (.goto 4, 3) := by decide +kernel
theorem dX10_byTurns_179 : decode cX10_byTurns 179 = .ok (.iconst 0, 1) := by decide +kernel
theorem dX10_byTurns_180 : decode cX10_byTurns 180 = .ok (.ireturn, 1) := by decide +kernel
abbrev rX10_byTurns : Room := { frames := 21, cells := 0, slots := 0, locals := 604 }
def mX10_byTurns (σ : gS) (p0 : Int32) (p1 : Int32) (p2 : Int32) : Option (Int32 × gS) := if p0 < 0 then (some ((-2000000000), σ)) else (gBind (mX10_isFarm σ (p0 / 10)) (fun r1 s2 => if r1 = true then (gBind (mX10_isFarm s2 (gRem p0 10)) (fun r3 s4 => if r3 = true then (if (p0 / 10) = (gRem p0 10) then (some ((-2000000000), s4)) else (if p1 < 0 then (some ((-2000000000), s4)) else (gBind (mX10_within s4 (p1 / 10) 1 24) (fun r5 s6 => if r5 = true then (gBind (mX10_within s6 (gRem p1 10) 1 5) (fun r7 s8 => if r7 = true then (gBind (mX10_within s8 p2 0 1) (fun r9 s10 => if r9 = true then (gLet (p0 / 10) (fun v11 => gLet (gRem p0 10) (fun v12 => gLet (gRem p1 10) (fun v13 => gLet (p1 / 10) (fun v14 => if p2 = 0 then (if inbB 0 5 = true then (gBind (mX10_turnFrom s10 0 v13 v11 v12 v14 (s10.1 59 (Int32.toNatClampNeg 0))) (fun r19 s20 => some (r19, s20))) else none) else (if inbB 0 5 = true then (gBind (mX10_doing s10 0 v13 v11 v12 v14 (s10.1 59 (Int32.toNatClampNeg 0)) v14) (fun r15 s16 => if inbB 0 5 = true then (gBind (mX10_doing s16 0 v13 v11 v12 v14 (s16.1 59 (Int32.toNatClampNeg 0)) 0) (fun r17 s18 => if r15 ≤ r17 then (some (0, s18)) else (some (1, s18)))) else none)) else none)))))) else (some ((-2000000000), s10)))) else (some ((-2000000000), s8)))) else (some ((-2000000000), s6)))))) else (some ((-2000000000), s4)))) else (some ((-2000000000), s2))))
set_option maxHeartbeats 4000000 in
set_option maxRecDepth 100000 in
theorem tX10_byTurns (l : Launch) (G : gE) (σ : gS) (p0 : Int32) (p1 : Int32) (p2 : Int32) : gM l G yX10_byTurns cX10_byTurns 8 (some .int) rX10_byTurns iI [.ref (G.2.1 52), .int p0, .int p1, .int p2] σ (mX10_byTurns σ p0 p1 p2) := by
  refine gM_of (by decide) (Nat.le_of_ble_eq_true rfl) ?_
  intro p e s m args below meth c hC
  unfold mX10_byTurns
  show gT p l e rX10_byTurns s m args below meth c G 8 iI σ 0 [(0, .ref (G.2.1 52)), (1, .int p0), (2, .int p1), (3, .int p2)] [] _
  refine g_iload_n (pc := 0) (q := 1) hC dX10_byTurns_0 rfl rfl ?_
  refine g_if_lt (pc := 1) (tgt := 37) hC dX10_byTurns_1 (by decide) ?_ ?_
  · refine g_ldcw (pc := 37) hC dX10_byTurns_37 cst_RX10_293 ?_
    exact g_iret (pc := 40) hC dX10_byTurns_40
  · refine g_aload_n (pc := 4) (q := 0) hC dX10_byTurns_4 rfl rfl ?_
    refine g_iload_n (pc := 5) (q := 1) hC dX10_byTurns_5 rfl rfl ?_
    refine g_bipush (pc := 6) (v := 10) hC dX10_byTurns_6 (by decide) ?_
    refine g_idivL (pc := 8) hC dX10_byTurns_8 (by decide) ?_
    refine g_callVz (pc := 9) (As := [.int (p0 / 10)]) (rest := []) hC lk_RX10_117 kX10 rfl (tX10_isFarm _ _ σ (p0 / 10)) rfl rfl (Nat.le_of_ble_eq_true rfl) ⟨rfl, rfl, Nat.le_of_ble_eq_true rfl, Nat.le_of_ble_eq_true rfl⟩ dX10_byTurns_9 (fun r1 s2 => ?_)
    refine g_bif_eq (pc := 12) (tgt := 37) hC dX10_byTurns_12 (by decide) ?_ ?_
    · refine g_ldcw (pc := 37) hC dX10_byTurns_37 cst_RX10_293 ?_
      exact g_iret (pc := 40) hC dX10_byTurns_40
    · refine g_aload_n (pc := 15) (q := 0) hC dX10_byTurns_15 rfl rfl ?_
      refine g_iload_n (pc := 16) (q := 1) hC dX10_byTurns_16 rfl rfl ?_
      refine g_bipush (pc := 17) (v := 10) hC dX10_byTurns_17 (by decide) ?_
      refine g_iremL (pc := 19) hC dX10_byTurns_19 (by decide) ?_
      refine g_callVz (pc := 20) (As := [.int (gRem p0 10)]) (rest := []) hC lk_RX10_117 kX10 rfl (tX10_isFarm _ _ s2 (gRem p0 10)) rfl rfl (Nat.le_of_ble_eq_true rfl) ⟨rfl, rfl, Nat.le_of_ble_eq_true rfl, Nat.le_of_ble_eq_true rfl⟩ dX10_byTurns_20 (fun r3 s4 => ?_)
      refine g_bif_eq (pc := 23) (tgt := 37) hC dX10_byTurns_23 (by decide) ?_ ?_
      · refine g_ldcw (pc := 37) hC dX10_byTurns_37 cst_RX10_293 ?_
        exact g_iret (pc := 40) hC dX10_byTurns_40
      · refine g_iload_n (pc := 26) (q := 1) hC dX10_byTurns_26 rfl rfl ?_
        refine g_bipush (pc := 27) (v := 10) hC dX10_byTurns_27 (by decide) ?_
        refine g_idivL (pc := 29) hC dX10_byTurns_29 (by decide) ?_
        refine g_iload_n (pc := 30) (q := 1) hC dX10_byTurns_30 rfl rfl ?_
        refine g_bipush (pc := 31) (v := 10) hC dX10_byTurns_31 (by decide) ?_
        refine g_iremL (pc := 33) hC dX10_byTurns_33 (by decide) ?_
        refine g_icmp_ne (pc := 34) (tgt := 41) hC dX10_byTurns_34 (by decide) ?_ ?_
        · refine g_iload_n (pc := 41) (q := 2) hC dX10_byTurns_41 rfl rfl ?_
          refine g_if_lt (pc := 42) (tgt := 79) hC dX10_byTurns_42 (by decide) ?_ ?_
          · refine g_ldcw (pc := 79) hC dX10_byTurns_79 cst_RX10_293 ?_
            exact g_iret (pc := 82) hC dX10_byTurns_82
          · refine g_iload_n (pc := 45) (q := 2) hC dX10_byTurns_45 rfl rfl ?_
            refine g_bipush (pc := 46) (v := 10) hC dX10_byTurns_46 (by decide) ?_
            refine g_idivL (pc := 48) hC dX10_byTurns_48 (by decide) ?_
            refine g_iconst (pc := 49) (v := 1) hC dX10_byTurns_49 (by decide) ?_
            refine g_bipush (pc := 50) (v := 24) hC dX10_byTurns_50 (by decide) ?_
            refine g_callSz (pc := 52) (As := [.int (p1 / 10), .int 1, .int 24]) (rest := []) hC lk_RX10_110 (tX10_within _ _ s4 (p1 / 10) 1 24) rfl rfl (Nat.le_of_ble_eq_true rfl) ⟨rfl, rfl, Nat.le_of_ble_eq_true rfl, Nat.le_of_ble_eq_true rfl⟩ dX10_byTurns_52 (fun r5 s6 => ?_)
            refine g_bif_eq (pc := 55) (tgt := 79) hC dX10_byTurns_55 (by decide) ?_ ?_
            · refine g_ldcw (pc := 79) hC dX10_byTurns_79 cst_RX10_293 ?_
              exact g_iret (pc := 82) hC dX10_byTurns_82
            · refine g_iload_n (pc := 58) (q := 2) hC dX10_byTurns_58 rfl rfl ?_
              refine g_bipush (pc := 59) (v := 10) hC dX10_byTurns_59 (by decide) ?_
              refine g_iremL (pc := 61) hC dX10_byTurns_61 (by decide) ?_
              refine g_iconst (pc := 62) (v := 1) hC dX10_byTurns_62 (by decide) ?_
              refine g_iconst (pc := 63) (v := 5) hC dX10_byTurns_63 (by decide) ?_
              refine g_callSz (pc := 64) (As := [.int (gRem p1 10), .int 1, .int 5]) (rest := []) hC lk_RX10_110 (tX10_within _ _ s6 (gRem p1 10) 1 5) rfl rfl (Nat.le_of_ble_eq_true rfl) ⟨rfl, rfl, Nat.le_of_ble_eq_true rfl, Nat.le_of_ble_eq_true rfl⟩ dX10_byTurns_64 (fun r7 s8 => ?_)
              refine g_bif_eq (pc := 67) (tgt := 79) hC dX10_byTurns_67 (by decide) ?_ ?_
              · refine g_ldcw (pc := 79) hC dX10_byTurns_79 cst_RX10_293 ?_
                exact g_iret (pc := 82) hC dX10_byTurns_82
              · refine g_iload_n (pc := 70) (q := 3) hC dX10_byTurns_70 rfl rfl ?_
                refine g_iconst (pc := 71) (v := 0) hC dX10_byTurns_71 (by decide) ?_
                refine g_iconst (pc := 72) (v := 1) hC dX10_byTurns_72 (by decide) ?_
                refine g_callSz (pc := 73) (As := [.int p2, .int 0, .int 1]) (rest := []) hC lk_RX10_110 (tX10_within _ _ s8 p2 0 1) rfl rfl (Nat.le_of_ble_eq_true rfl) ⟨rfl, rfl, Nat.le_of_ble_eq_true rfl, Nat.le_of_ble_eq_true rfl⟩ dX10_byTurns_73 (fun r9 s10 => ?_)
                refine g_bif_ne (pc := 76) (tgt := 83) hC dX10_byTurns_76 (by decide) ?_ ?_
                · refine g_iload_n (pc := 83) (q := 1) hC dX10_byTurns_83 rfl rfl ?_
                  refine g_bipush (pc := 84) (v := 10) hC dX10_byTurns_84 (by decide) ?_
                  refine g_idivL (pc := 86) hC dX10_byTurns_86 (by decide) ?_
                  refine g_istore (pc := 87) (lv' := fun v11 => [(4, .int v11), (0, .ref (G.2.1 52)), (1, .int p0), (2, .int p1), (3, .int p2)]) hC dX10_byTurns_87 (by decide) (fun _ => rfl) (fun v11 => ?_)
                  refine g_iload_n (pc := 89) (q := 2) hC dX10_byTurns_89 rfl rfl ?_
                  refine g_bipush (pc := 90) (v := 10) hC dX10_byTurns_90 (by decide) ?_
                  refine g_iremL (pc := 92) hC dX10_byTurns_92 (by decide) ?_
                  refine g_istore (pc := 93) (lv' := fun v12 => [(5, .int v12), (4, .int v11), (0, .ref (G.2.1 52)), (1, .int p0), (2, .int p1), (3, .int p2)]) hC dX10_byTurns_93 (by decide) (fun _ => rfl) (fun v12 => ?_)
                  refine g_iload_n (pc := 95) (q := 4) hC dX10_byTurns_95 rfl rfl ?_
                  refine g_bipush (pc := 96) (v := 10) hC dX10_byTurns_96 (by decide) ?_
                  refine g_iremL (pc := 98) hC dX10_byTurns_98 (by decide) ?_
                  refine g_istore (pc := 99) (lv' := fun v13 => [(6, .int v13), (5, .int v12), (4, .int v11), (0, .ref (G.2.1 52)), (1, .int p0), (2, .int p1), (3, .int p2)]) hC dX10_byTurns_99 (by decide) (fun _ => rfl) (fun v13 => ?_)
                  refine g_iload_n (pc := 101) (q := 5) hC dX10_byTurns_101 rfl rfl ?_
                  refine g_bipush (pc := 102) (v := 10) hC dX10_byTurns_102 (by decide) ?_
                  refine g_idivL (pc := 104) hC dX10_byTurns_104 (by decide) ?_
                  refine g_istore (pc := 105) (lv' := fun v14 => [(7, .int v14), (6, .int v13), (5, .int v12), (4, .int v11), (0, .ref (G.2.1 52)), (1, .int p0), (2, .int p1), (3, .int p2)]) hC dX10_byTurns_105 (by decide) (fun _ => rfl) (fun v14 => ?_)
                  refine g_iload_n (pc := 107) (q := 7) hC dX10_byTurns_107 rfl rfl ?_
                  refine g_if_ne (pc := 108) (tgt := 131) hC dX10_byTurns_108 (by decide) ?_ ?_
                  · refine g_aload_n (pc := 131) (q := 4) hC dX10_byTurns_131 rfl rfl ?_
                    refine g_iconst (pc := 132) (v := 0) hC dX10_byTurns_132 (by decide) ?_
                    refine g_iload (pc := 133) (q := 1) hC dX10_byTurns_133 rfl ?_
                    refine g_iload (pc := 135) (q := 3) hC dX10_byTurns_135 rfl ?_
                    refine g_iload (pc := 137) (q := 2) hC dX10_byTurns_137 rfl ?_
                    refine g_iload (pc := 139) (q := 0) hC dX10_byTurns_139 rfl ?_
                    refine g_aload_n (pc := 141) (q := 4) hC dX10_byTurns_141 rfl rfl ?_
                    refine g_get (pc := 142) (v := .ref (G.2.1 59)) hC kX10 rfl 8 (by decide) fl_RX10_30 rfl dX10_byTurns_142 ?_
                    refine g_iconst (pc := 145) (v := 0) hC dX10_byTurns_145 (by decide) ?_
                    refine g_iald (pc := 146) hC 5 rfl (by decide) dX10_byTurns_146 ?_
                    refine g_iload (pc := 147) (q := 0) hC dX10_byTurns_147 rfl ?_
                    refine g_callVi (pc := 149) (As := [.int 0, .int v13, .int v11, .int v12, .int v14, .int (s10.1 59 (Int32.toNatClampNeg 0)), .int v14]) (rest := []) hC lk_RX10_321 kX10 rfl (tX10_doing _ _ s10 0 v13 v11 v12 v14 (s10.1 59 (Int32.toNatClampNeg 0)) v14) rfl rfl (Nat.le_of_ble_eq_true rfl) ⟨rfl, rfl, Nat.le_of_ble_eq_true rfl, Nat.le_of_ble_eq_true rfl⟩ dX10_byTurns_149 (fun r15 s16 => ?_)
                    refine g_aload_n (pc := 152) (q := 4) hC dX10_byTurns_152 rfl rfl ?_
                    refine g_iconst (pc := 153) (v := 0) hC dX10_byTurns_153 (by decide) ?_
                    refine g_iload (pc := 154) (q := 1) hC dX10_byTurns_154 rfl ?_
                    refine g_iload (pc := 156) (q := 3) hC dX10_byTurns_156 rfl ?_
                    refine g_iload (pc := 158) (q := 2) hC dX10_byTurns_158 rfl ?_
                    refine g_iload (pc := 160) (q := 0) hC dX10_byTurns_160 rfl ?_
                    refine g_aload_n (pc := 162) (q := 4) hC dX10_byTurns_162 rfl rfl ?_
                    refine g_get (pc := 163) (v := .ref (G.2.1 59)) hC kX10 rfl 8 (by decide) fl_RX10_30 rfl dX10_byTurns_163 ?_
                    refine g_iconst (pc := 166) (v := 0) hC dX10_byTurns_166 (by decide) ?_
                    refine g_iald (pc := 167) hC 5 rfl (by decide) dX10_byTurns_167 ?_
                    refine g_iconst (pc := 168) (v := 0) hC dX10_byTurns_168 (by decide) ?_
                    refine g_callVi (pc := 169) (As := [.int 0, .int v13, .int v11, .int v12, .int v14, .int (s16.1 59 (Int32.toNatClampNeg 0)), .int 0]) (rest := [.int r15]) hC lk_RX10_321 kX10 rfl (tX10_doing _ _ s16 0 v13 v11 v12 v14 (s16.1 59 (Int32.toNatClampNeg 0)) 0) rfl rfl (Nat.le_of_ble_eq_true rfl) ⟨rfl, rfl, Nat.le_of_ble_eq_true rfl, Nat.le_of_ble_eq_true rfl⟩ dX10_byTurns_169 (fun r17 s18 => ?_)
                    refine g_icmp_le (pc := 172) (tgt := 179) hC dX10_byTurns_172 (by decide) ?_ ?_
                    · refine g_iconst (pc := 179) (v := 0) hC dX10_byTurns_179 (by decide) ?_
                      exact g_iret (pc := 180) hC dX10_byTurns_180
                    · refine g_iconst (pc := 175) (v := 1) hC dX10_byTurns_175 (by decide) ?_
                      refine g_goto (pc := 176) (tgt := 180) hC dX10_byTurns_176 (by decide) ?_
                      exact g_iret (pc := 180) hC dX10_byTurns_180
                  · refine g_aload_n (pc := 111) (q := 4) hC dX10_byTurns_111 rfl rfl ?_
                    refine g_iconst (pc := 112) (v := 0) hC dX10_byTurns_112 (by decide) ?_
                    refine g_iload (pc := 113) (q := 1) hC dX10_byTurns_113 rfl ?_
                    refine g_iload (pc := 115) (q := 3) hC dX10_byTurns_115 rfl ?_
                    refine g_iload (pc := 117) (q := 2) hC dX10_byTurns_117 rfl ?_
                    refine g_iload (pc := 119) (q := 0) hC dX10_byTurns_119 rfl ?_
                    refine g_aload_n (pc := 121) (q := 4) hC dX10_byTurns_121 rfl rfl ?_
                    refine g_get (pc := 122) (v := .ref (G.2.1 59)) hC kX10 rfl 8 (by decide) fl_RX10_30 rfl dX10_byTurns_122 ?_
                    refine g_iconst (pc := 125) (v := 0) hC dX10_byTurns_125 (by decide) ?_
                    refine g_iald (pc := 126) hC 5 rfl (by decide) dX10_byTurns_126 ?_
                    refine g_callVi (pc := 127) (As := [.int 0, .int v13, .int v11, .int v12, .int v14, .int (s10.1 59 (Int32.toNatClampNeg 0))]) (rest := []) hC lk_RX10_325 kX10 rfl (tX10_turnFrom _ _ s10 0 v13 v11 v12 v14 (s10.1 59 (Int32.toNatClampNeg 0))) rfl rfl (Nat.le_of_ble_eq_true rfl) ⟨rfl, rfl, Nat.le_of_ble_eq_true rfl, Nat.le_of_ble_eq_true rfl⟩ dX10_byTurns_127 (fun r19 s20 => ?_)
                    exact g_iret (pc := 130) hC dX10_byTurns_130
                · refine g_ldcw (pc := 79) hC dX10_byTurns_79 cst_RX10_293 ?_
                  exact g_iret (pc := 82) hC dX10_byTurns_82
        · refine g_ldcw (pc := 37) hC dX10_byTurns_37 cst_RX10_293 ?_
          exact g_iret (pc := 40) hC dX10_byTurns_40
theorem fl_RX10_188 : Cond.fieldLink RX10 188 "WinterShedModel" "open" "I" ∈ gBig := (gBig_tab 1071 (by decide +kernel) (by decide +kernel))
theorem lk_RX10_191 : gLV RX10 191 RX10 yX10_is cX10_is 2 (some .boolean) 1 := ⟨(gBig_tab 1322 (by decide +kernel) (by decide +kernel)), (gBig_tab 1324 (by decide +kernel) (by decide +kernel)), (gBig_sel 62 (by decide +kernel) (by decide +kernel)), (gBig_tab 11 (by decide +kernel) (by decide +kernel)), (gBig_tab 1325 (by decide +kernel) (by decide +kernel)), rfl, by decide +kernel, by decide +kernel, by decide +kernel⟩
theorem lk_RX10_197 : gLV RX10 197 RX10 yX10_isE cX10_isE 1 (some .boolean) 0 := ⟨(gBig_tab 1283 (by decide +kernel) (by decide +kernel)), (gBig_tab 1285 (by decide +kernel) (by decide +kernel)), (gBig_sel 53 (by decide +kernel) (by decide +kernel)), (gBig_tab 11 (by decide +kernel) (by decide +kernel)), (gBig_tab 1286 (by decide +kernel) (by decide +kernel)), rfl, by decide +kernel, by decide +kernel, by decide +kernel⟩
theorem lk_RX10_181 : gLV RX10 181 RX10 yX10_codes cX10_codes 2 (some .boolean) 1 := ⟨(gBig_tab 1315 (by decide +kernel) (by decide +kernel)), (gBig_tab 1317 (by decide +kernel) (by decide +kernel)), (gBig_sel 61 (by decide +kernel) (by decide +kernel)), (gBig_tab 11 (by decide +kernel) (by decide +kernel)), (gBig_tab 1318 (by decide +kernel) (by decide +kernel)), rfl, by decide +kernel, by decide +kernel, by decide +kernel⟩
theorem lk_RX10_194 : gLV RX10 194 RX10 yX10_isO cX10_isO 3 (some .boolean) 0 := ⟨(gBig_tab 1303 (by decide +kernel) (by decide +kernel)), (gBig_tab 1305 (by decide +kernel) (by decide +kernel)), (gBig_sel 58 (by decide +kernel) (by decide +kernel)), (gBig_tab 11 (by decide +kernel) (by decide +kernel)), (gBig_tab 1306 (by decide +kernel) (by decide +kernel)), rfl, by decide +kernel, by decide +kernel, by decide +kernel⟩
theorem lk_RX10_184 : gLS RX10 184 yX10_nameOf cX10_nameOf 1 (some .int) 1 := ⟨(gBig_tab 1319 (by decide +kernel) (by decide +kernel)), (gBig_tab 1320 (by decide +kernel) (by decide +kernel)), (gBig_tab 11 (by decide +kernel) (by decide +kernel)), (gBig_tab 1321 (by decide +kernel) (by decide +kernel)), by decide +kernel, by decide +kernel, by decide +kernel⟩
theorem lk_RX10_177 : gLV RX10 177 RX10 yX10_isDigit cX10_isDigit 1 (some .boolean) 0 := ⟨(gBig_tab 1307 (by decide +kernel) (by decide +kernel)), (gBig_tab 1309 (by decide +kernel) (by decide +kernel)), (gBig_sel 59 (by decide +kernel) (by decide +kernel)), (gBig_tab 11 (by decide +kernel) (by decide +kernel)), (gBig_tab 1310 (by decide +kernel) (by decide +kernel)), rfl, by decide +kernel, by decide +kernel, by decide +kernel⟩
theorem dX10_isO_0 : decode cX10_isO 0 = .ok (.aload_n 0, 1) := by decide +kernel
theorem dX10_isO_1 : decode cX10_isO 1 = .ok (.invokevirtual 177, 3) := by decide +kernel
theorem dX10_isO_4 : decode cX10_isO 4 = .ok (.ifCond .eq 62, 3) := by decide +kernel
theorem dX10_isO_7 : decode cX10_isO 7 = .ok (.iconst 0, 1) := by decide +kernel
theorem dX10_isO_8 : decode cX10_isO 8 = .ok (.istore_n 1, 1) := by decide +kernel
theorem dX10_isO_9 : decode cX10_isO 9 = .ok (.iconst 0, 1) := by decide +kernel
theorem dX10_isO_10 : decode cX10_isO 10 = .ok (.istore_n 2, 1) := by decide +kernel
theorem dX10_isO_11 : decode cX10_isO 11 = .ok (.iload_n 2, 1) := by decide +kernel
theorem dX10_isO_12 : decode cX10_isO 12 = .ok (.iconst 4, 1) := by decide +kernel
theorem dX10_isO_13 : decode cX10_isO 13 = .ok (.if_icmp .ge 44, 3) := by decide +kernel
theorem dX10_isO_16 : decode cX10_isO 16 = .ok (.aload_n 0, 1) := by decide +kernel
theorem dX10_isO_17 : decode cX10_isO 17 = .ok (.invokevirtual 177, 3) := by decide +kernel
theorem dX10_isO_20 : decode cX10_isO 20 = .ok (.ifCond .eq 37, 3) := by decide +kernel
theorem dX10_isO_23 : decode cX10_isO 23 = .ok (.bipush 10, 2) := by decide +kernel
theorem dX10_isO_25 : decode cX10_isO 25 = .ok (.iload_n 1, 1) := by decide +kernel
theorem dX10_isO_26 : decode cX10_isO 26 = .ok (.imul, 1) := by decide +kernel
theorem dX10_isO_27 : decode cX10_isO 27 = .ok (.aload_n 0, 1) := by decide +kernel
theorem dX10_isO_28 : decode cX10_isO 28 = .ok (.getfield 33, 3) := by decide +kernel
theorem dX10_isO_31 : decode cX10_isO 31 = .ok (.aload_n 0, 1) := by decide +kernel
theorem dX10_isO_32 : decode cX10_isO 32 = .ok (.getfield 167, 3) := by decide +kernel
theorem dX10_isO_35 : decode cX10_isO 35 = .ok (.iaload, 1) := by decide +kernel
theorem dX10_isO_36 : decode cX10_isO 36 = .ok (.iadd, 1) := by decide +kernel
theorem dX10_isO_37 : decode cX10_isO 37 = .ok (.bipush 48, 2) := by decide +kernel
theorem dX10_isO_39 : decode cX10_isO 39 = .ok (.isub, 1) := by decide +kernel
theorem dX10_isO_40 : decode cX10_isO 40 = .ok (.istore_n 1, 1) := by decide +kernel
theorem dX10_isO_41 : decode cX10_isO 41 = .ok (.aload_n 0, 1) := by decide +kernel
theorem dX10_isO_42 : decode cX10_isO 42 = .ok (.dup, 1) := by decide +kernel
theorem dX10_isO_43 : decode cX10_isO 43 = .ok (.getfield 167, 3) := by decide +kernel
theorem dX10_isO_46 : decode cX10_isO 46 = .ok (.iconst 1, 1) := by decide +kernel
theorem dX10_isO_47 : decode cX10_isO 47 = .ok (.iadd, 1) := by decide +kernel
theorem dX10_isO_48 : decode cX10_isO 48 = .ok (.putfield 167, 3) := by decide +kernel
theorem dX10_isO_51 : decode cX10_isO 51 = .ok (.iinc 2 1, 3) := by decide +kernel
theorem dX10_isO_54 : decode cX10_isO 54 = .ok (.goto (-43), 3) := by decide +kernel
theorem dX10_isO_57 : decode cX10_isO 57 = .ok (.aload_n 0, 1) := by decide +kernel
theorem dX10_isO_58 : decode cX10_isO 58 = .ok (.bipush 18, 2) := by decide +kernel
theorem dX10_isO_60 : decode cX10_isO 60 = .ok (.iload_n 1, 1) := by decide +kernel
theorem dX10_isO_61 : decode cX10_isO 61 = .ok (.iadd, 1) := by decide +kernel
theorem dX10_isO_62 : decode cX10_isO 62 = .ok (.invokevirtual 181, 3) := by decide +kernel
theorem dX10_isO_65 : decode cX10_isO 65 = .ok (.ireturn, 1) := by decide +kernel
theorem dX10_isO_66 : decode cX10_isO 66 = .ok (.aload_n 0, 1) := by decide +kernel
theorem dX10_isO_67 : decode cX10_isO 67 = .ok (.invokevirtual 170, 3) := by decide +kernel
theorem dX10_isO_70 : decode cX10_isO 70 = .ok (.invokestatic 184, 3) := by decide +kernel
theorem dX10_isO_73 : decode cX10_isO 73 = .ok (.istore_n 1, 1) := by decide +kernel
theorem dX10_isO_74 : decode cX10_isO 74 = .ok (.iload_n 1, 1) := by decide +kernel
theorem dX10_isO_75 : decode cX10_isO 75 = .ok (.ifCond .lt 19, 3) := by decide +kernel
theorem dX10_isO_78 : decode cX10_isO 78 = .ok (.aload_n 0, 1) := by decide +kernel
theorem dX10_isO_79 : decode cX10_isO 79 = .ok (.dup, 1) := by decide +kernel
theorem dX10_isO_80 : decode cX10_isO 80 = .ok (.getfield 167, 3) := by decide +kernel
theorem dX10_isO_83 : decode cX10_isO 83 = .ok (.iconst 1, 1) := by decide +kernel
theorem dX10_isO_84 : decode cX10_isO 84 = .ok (.iadd, 1) := by decide +kernel
theorem dX10_isO_85 : decode cX10_isO 85 = .ok (.putfield 167, 3) := by decide +kernel
theorem dX10_isO_88 : decode cX10_isO 88 = .ok (.aload_n 0, 1) := by decide +kernel
theorem dX10_isO_89 : decode cX10_isO 89 = .ok (.iload_n 1, 1) := by decide +kernel
theorem dX10_isO_90 : decode cX10_isO 90 = .ok (.invokevirtual 181, 3) := by decide +kernel
theorem dX10_isO_93 : decode cX10_isO 93 = .ok (.ireturn, 1) := by decide +kernel
theorem dX10_isO_94 : decode cX10_isO 94 = .ok (.aload_n 0, 1) := by decide +kernel
theorem dX10_isO_95 : decode cX10_isO 95 = .ok (.getfield 188, 3) := by decide +kernel
theorem dX10_isO_98 : decode cX10_isO 98 = .ok (.bipush 6, 2) := by decide +kernel
theorem dX10_isO_100 : decode cX10_isO 100 = .ok (.if_icmp .ne 5, 3) := by decide +kernel
theorem dX10_isO_103 : decode cX10_isO 103 = .ok (.iconst 0, 1) := by decide +kernel
theorem dX10_isO_104 : decode cX10_isO 104 = .ok (.ireturn, 1) := by decide +kernel
theorem dX10_isO_105 : decode cX10_isO 105 = .ok (.aload_n 0, 1) := by decide +kernel
theorem dX10_isO_106 : decode cX10_isO 106 = .ok (.dup, 1) := by decide +kernel
theorem dX10_isO_107 : decode cX10_isO 107 = .ok (.getfield 188, 3) := by decide +kernel
theorem dX10_isO_110 : decode cX10_isO 110 = .ok (.iconst 1, 1) := by decide +kernel
theorem dX10_isO_111 : decode cX10_isO 111 = .ok (.iadd, 1) := by decide +kernel
theorem dX10_isO_112 : decode cX10_isO 112 = .ok (.putfield 188, 3) := by decide +kernel
theorem dX10_isO_115 : decode cX10_isO 115 = .ok (.aload_n 0, 1) := by decide +kernel
theorem dX10_isO_116 : decode cX10_isO 116 = .ok (.bipush 33, 2) := by decide +kernel
theorem dX10_isO_118 : decode cX10_isO 118 = .ok (.invokevirtual 191, 3) := by decide +kernel
theorem dX10_isO_121 : decode cX10_isO 121 = .ok (.ifCond .eq 28, 3) := by decide +kernel
theorem dX10_isO_124 : decode cX10_isO 124 = .ok (.aload_n 0, 1) := by decide +kernel
theorem dX10_isO_125 : decode cX10_isO 125 = .ok (.invokevirtual 194, 3) := by decide +kernel
theorem dX10_isO_128 : decode cX10_isO 128 = .ok (.ifCond .eq 16, 3) := by decide +kernel
theorem dX10_isO_131 : decode cX10_isO 131 = .ok (.aload_n 0, 1) := by decide +kernel
theorem dX10_isO_132 : decode cX10_isO 132 = .ok (.bipush 16, 2) := by decide +kernel
theorem dX10_isO_134 : decode cX10_isO 134 = .ok (.invokevirtual 181, 3) := by decide +kernel
theorem dX10_isO_137 : decode cX10_isO 137 = .ok (.ifCond .eq 7, 3) := by decide +kernel
theorem dX10_isO_140 : decode cX10_isO 140 = .ok (.iconst 1, 1) := by decide +kernel
theorem dX10_isO_141 : decode cX10_isO 141 = .ok (.goto 4, 3) := by decide +kernel
theorem dX10_isO_144 : decode cX10_isO 144 = .ok (.iconst 0, 1) := by decide +kernel
theorem dX10_isO_145 : decode cX10_isO 145 = .ok (.istore_n 2, 1) := by decide +kernel
theorem dX10_isO_146 : decode cX10_isO 146 = .ok (.goto 68, 3) := by decide +kernel
theorem dX10_isO_149 : decode cX10_isO 149 = .ok (.aload_n 0, 1) := by decide +kernel
theorem dX10_isO_150 : decode cX10_isO 150 = .ok (.bipush 45, 2) := by decide +kernel
theorem dX10_isO_152 : decode cX10_isO 152 = .ok (.invokevirtual 191, 3) := by decide +kernel
theorem dX10_isO_155 : decode cX10_isO 155 = .ok (.ifCond .eq 28, 3) := by decide +kernel
theorem dX10_isO_158 : decode cX10_isO 158 = .ok (.aload_n 0, 1) := by decide +kernel
theorem dX10_isO_159 : decode cX10_isO 159 = .ok (.invokevirtual 194, 3) := by decide +kernel
theorem dX10_isO_162 : decode cX10_isO 162 = .ok (.ifCond .eq 16, 3) := by decide +kernel
theorem dX10_isO_165 : decode cX10_isO 165 = .ok (.aload_n 0, 1) := by decide +kernel
theorem dX10_isO_166 : decode cX10_isO 166 = .ok (.bipush 17, 2) := by decide +kernel
theorem dX10_isO_168 : decode cX10_isO 168 = .ok (.invokevirtual 181, 3) := by decide +kernel
theorem dX10_isO_171 : decode cX10_isO 171 = .ok (.ifCond .eq 7, 3) := by decide +kernel
theorem dX10_isO_174 : decode cX10_isO 174 = .ok (.iconst 1, 1) := by decide +kernel
theorem dX10_isO_175 : decode cX10_isO 175 = .ok (.goto 4, 3) := by decide +kernel
theorem dX10_isO_178 : decode cX10_isO 178 = .ok (.iconst 0, 1) := by decide +kernel
theorem dX10_isO_179 : decode cX10_isO 179 = .ok (.istore_n 2, 1) := by decide +kernel
theorem dX10_isO_180 : decode cX10_isO 180 = .ok (.goto 34, 3) := by decide +kernel
theorem dX10_isO_183 : decode cX10_isO 183 = .ok (.aload_n 0, 1) := by decide +kernel
theorem dX10_isO_184 : decode cX10_isO 184 = .ok (.bipush 40, 2) := by decide +kernel
theorem dX10_isO_186 : decode cX10_isO 186 = .ok (.invokevirtual 191, 3) := by decide +kernel
theorem dX10_isO_189 : decode cX10_isO 189 = .ok (.ifCond .eq 23, 3) := by decide +kernel
theorem dX10_isO_192 : decode cX10_isO 192 = .ok (.aload_n 0, 1) := by decide +kernel
theorem dX10_isO_193 : decode cX10_isO 193 = .ok (.invokevirtual 197, 3) := by decide +kernel
theorem dX10_isO_196 : decode cX10_isO 196 = .ok (.ifCond .eq 16, 3) := by decide +kernel
theorem dX10_isO_199 : decode cX10_isO 199 = .ok (.aload_n 0, 1) := by decide +kernel
theorem dX10_isO_200 : decode cX10_isO 200 = .ok (.bipush 41, 2) := by decide +kernel
theorem dX10_isO_202 : decode cX10_isO 202 = .ok (.invokevirtual 191, 3) := by decide +kernel
theorem dX10_isO_205 : decode cX10_isO 205 = .ok (.ifCond .eq 7, 3) := by decide +kernel
theorem dX10_isO_208 : decode cX10_isO 208 = .ok (.iconst 1, 1) := by decide +kernel
theorem dX10_isO_209 : decode cX10_isO 209 = .ok (.goto 4, 3) := by decide +kernel
theorem dX10_isO_212 : decode cX10_isO 212 = .ok (.iconst 0, 1) := by decide +kernel
theorem dX10_isO_213 : decode cX10_isO 213 = .ok (.istore_n 2, 1) := by decide +kernel
theorem dX10_isO_214 : decode cX10_isO 214 = .ok (.aload_n 0, 1) := by decide +kernel
theorem dX10_isO_215 : decode cX10_isO 215 = .ok (.dup, 1) := by decide +kernel
theorem dX10_isO_216 : decode cX10_isO 216 = .ok (.getfield 188, 3) := by decide +kernel
theorem dX10_isO_219 : decode cX10_isO 219 = .ok (.iconst 1, 1) := by decide +kernel
theorem dX10_isO_220 : decode cX10_isO 220 = .ok (.isub, 1) := by decide +kernel
theorem dX10_isO_221 : decode cX10_isO 221 = .ok (.putfield 188, 3) := by decide +kernel
theorem dX10_isO_224 : decode cX10_isO 224 = .ok (.iload_n 2, 1) := by decide +kernel
theorem dX10_isO_225 : decode cX10_isO 225 = .ok (.ireturn, 1) := by decide +kernel
theorem dX10_isP_0 : decode cX10_isP 0 = .ok (.aload_n 0, 1) := by decide +kernel
theorem dX10_isP_1 : decode cX10_isP 1 = .ok (.invokevirtual 194, 3) := by decide +kernel
theorem dX10_isP_4 : decode cX10_isP 4 = .ok (.ifCond .ne 5, 3) := by decide +kernel
theorem dX10_isP_7 : decode cX10_isP 7 = .ok (.iconst 0, 1) := by decide +kernel
theorem dX10_isP_8 : decode cX10_isP 8 = .ok (.ireturn, 1) := by decide +kernel
theorem dX10_isP_9 : decode cX10_isP 9 = .ok (.aload_n 0, 1) := by decide +kernel
theorem dX10_isP_10 : decode cX10_isP 10 = .ok (.invokevirtual 170, 3) := by decide +kernel
theorem dX10_isP_13 : decode cX10_isP 13 = .ok (.bipush 42, 2) := by decide +kernel
theorem dX10_isP_15 : decode cX10_isP 15 = .ok (.if_icmp .ne 8, 3) := by decide +kernel
theorem dX10_isP_18 : decode cX10_isP 18 = .ok (.bipush 13, 2) := by decide +kernel
theorem dX10_isP_20 : decode cX10_isP 20 = .ok (.goto 32, 3) := by decide +kernel
theorem dX10_isP_23 : decode cX10_isP 23 = .ok (.aload_n 0, 1) := by decide +kernel
theorem dX10_isP_24 : decode cX10_isP 24 = .ok (.invokevirtual 170, 3) := by decide +kernel
theorem dX10_isP_27 : decode cX10_isP 27 = .ok (.bipush 47, 2) := by decide +kernel
theorem dX10_isP_29 : decode cX10_isP 29 = .ok (.if_icmp .ne 8, 3) := by decide +kernel
theorem dX10_isP_32 : decode cX10_isP 32 = .ok (.bipush 14, 2) := by decide +kernel
theorem dX10_isP_34 : decode cX10_isP 34 = .ok (.goto 18, 3) := by decide +kernel
theorem dX10_isP_37 : decode cX10_isP 37 = .ok (.aload_n 0, 1) := by decide +kernel
theorem dX10_isP_38 : decode cX10_isP 38 = .ok (.invokevirtual 170, 3) := by decide +kernel
theorem dX10_isP_41 : decode cX10_isP 41 = .ok (.bipush 37, 2) := by decide +kernel
theorem dX10_isP_43 : decode cX10_isP 43 = .ok (.if_icmp .ne 8, 3) := by decide +kernel
theorem dX10_isP_46 : decode cX10_isP 46 = .ok (.bipush 15, 2) := by decide +kernel
theorem dX10_isP_48 : decode cX10_isP 48 = .ok (.goto 4, 3) := by decide +kernel
theorem dX10_isP_51 : decode cX10_isP 51 = .ok (.iconst (-1), 1) := by decide +kernel
theorem dX10_isP_52 : decode cX10_isP 52 = .ok (.istore_n 1, 1) := by decide +kernel
theorem dX10_isP_53 : decode cX10_isP 53 = .ok (.iload_n 1, 1) := by decide +kernel
theorem dX10_isP_54 : decode cX10_isP 54 = .ok (.ifCond .ge 5, 3) := by decide +kernel
theorem dX10_isP_57 : decode cX10_isP 57 = .ok (.iconst 1, 1) := by decide +kernel
theorem dX10_isP_58 : decode cX10_isP 58 = .ok (.ireturn, 1) := by decide +kernel
theorem dX10_isP_59 : decode cX10_isP 59 = .ok (.aload_n 0, 1) := by decide +kernel
theorem dX10_isP_60 : decode cX10_isP 60 = .ok (.dup, 1) := by decide +kernel
theorem dX10_isP_61 : decode cX10_isP 61 = .ok (.getfield 167, 3) := by decide +kernel
theorem dX10_isP_64 : decode cX10_isP 64 = .ok (.iconst 1, 1) := by decide +kernel
theorem dX10_isP_65 : decode cX10_isP 65 = .ok (.iadd, 1) := by decide +kernel
theorem dX10_isP_66 : decode cX10_isP 66 = .ok (.putfield 167, 3) := by decide +kernel
theorem dX10_isP_69 : decode cX10_isP 69 = .ok (.aload_n 0, 1) := by decide +kernel
theorem dX10_isP_70 : decode cX10_isP 70 = .ok (.invokevirtual 194, 3) := by decide +kernel
theorem dX10_isP_73 : decode cX10_isP 73 = .ok (.ifCond .ne 5, 3) := by decide +kernel
theorem dX10_isP_76 : decode cX10_isP 76 = .ok (.iconst 0, 1) := by decide +kernel
theorem dX10_isP_77 : decode cX10_isP 77 = .ok (.ireturn, 1) := by decide +kernel
theorem dX10_isP_78 : decode cX10_isP 78 = .ok (.aload_n 0, 1) := by decide +kernel
theorem dX10_isP_79 : decode cX10_isP 79 = .ok (.iload_n 1, 1) := by decide +kernel
theorem dX10_isP_80 : decode cX10_isP 80 = .ok (.invokevirtual 181, 3) := by decide +kernel
theorem dX10_isP_83 : decode cX10_isP 83 = .ok (.pop, 1) := by decide +kernel
theorem dX10_isP_84 : decode cX10_isP 84 = .ok (.goto (-75), 3) := by decide +kernel
theorem lk_RX10_200 : gLV RX10 200 RX10 yX10_isP cX10_isP 2 (some .boolean) 0 := ⟨(gBig_tab 1299 (by decide +kernel) (by decide +kernel)), (gBig_tab 1301 (by decide +kernel) (by decide +kernel)), (gBig_sel 57 (by decide +kernel) (by decide +kernel)), (gBig_tab 11 (by decide +kernel) (by decide +kernel)), (gBig_tab 1302 (by decide +kernel) (by decide +kernel)), rfl, by decide +kernel, by decide +kernel, by decide +kernel⟩
theorem dX10_isS_0 : decode cX10_isS 0 = .ok (.aload_n 0, 1) := by decide +kernel
theorem dX10_isS_1 : decode cX10_isS 1 = .ok (.invokevirtual 200, 3) := by decide +kernel
theorem dX10_isS_4 : decode cX10_isS 4 = .ok (.ifCond .ne 5, 3) := by decide +kernel
theorem dX10_isS_7 : decode cX10_isS 7 = .ok (.iconst 0, 1) := by decide +kernel
theorem dX10_isS_8 : decode cX10_isS 8 = .ok (.ireturn, 1) := by decide +kernel
theorem dX10_isS_9 : decode cX10_isS 9 = .ok (.aload_n 0, 1) := by decide +kernel
theorem dX10_isS_10 : decode cX10_isS 10 = .ok (.invokevirtual 170, 3) := by decide +kernel
theorem dX10_isS_13 : decode cX10_isS 13 = .ok (.bipush 43, 2) := by decide +kernel
theorem dX10_isS_15 : decode cX10_isS 15 = .ok (.if_icmp .ne 8, 3) := by decide +kernel
theorem dX10_isS_18 : decode cX10_isS 18 = .ok (.bipush 11, 2) := by decide +kernel
theorem dX10_isS_20 : decode cX10_isS 20 = .ok (.goto 18, 3) := by decide +kernel
theorem dX10_isS_23 : decode cX10_isS 23 = .ok (.aload_n 0, 1) := by decide +kernel
theorem dX10_isS_24 : decode cX10_isS 24 = .ok (.invokevirtual 170, 3) := by decide +kernel
theorem dX10_isS_27 : decode cX10_isS 27 = .ok (.bipush 45, 2) := by decide +kernel
theorem dX10_isS_29 : decode cX10_isS 29 = .ok (.if_icmp .ne 8, 3) := by decide +kernel
theorem dX10_isS_32 : decode cX10_isS 32 = .ok (.bipush 12, 2) := by decide +kernel
theorem dX10_isS_34 : decode cX10_isS 34 = .ok (.goto 4, 3) := by decide +kernel
theorem dX10_isS_37 : decode cX10_isS 37 = .ok (.iconst (-1), 1) := by decide +kernel
theorem dX10_isS_38 : decode cX10_isS 38 = .ok (.istore_n 1, 1) := by decide +kernel
theorem dX10_isS_39 : decode cX10_isS 39 = .ok (.iload_n 1, 1) := by decide +kernel
theorem dX10_isS_40 : decode cX10_isS 40 = .ok (.ifCond .ge 5, 3) := by decide +kernel
theorem dX10_isS_43 : decode cX10_isS 43 = .ok (.iconst 1, 1) := by decide +kernel
theorem dX10_isS_44 : decode cX10_isS 44 = .ok (.ireturn, 1) := by decide +kernel
theorem dX10_isS_45 : decode cX10_isS 45 = .ok (.aload_n 0, 1) := by decide +kernel
theorem dX10_isS_46 : decode cX10_isS 46 = .ok (.dup, 1) := by decide +kernel
theorem dX10_isS_47 : decode cX10_isS 47 = .ok (.getfield 167, 3) := by decide +kernel
theorem dX10_isS_50 : decode cX10_isS 50 = .ok (.iconst 1, 1) := by decide +kernel
theorem dX10_isS_51 : decode cX10_isS 51 = .ok (.iadd, 1) := by decide +kernel
theorem dX10_isS_52 : decode cX10_isS 52 = .ok (.putfield 167, 3) := by decide +kernel
theorem dX10_isS_55 : decode cX10_isS 55 = .ok (.aload_n 0, 1) := by decide +kernel
theorem dX10_isS_56 : decode cX10_isS 56 = .ok (.invokevirtual 200, 3) := by decide +kernel
theorem dX10_isS_59 : decode cX10_isS 59 = .ok (.ifCond .ne 5, 3) := by decide +kernel
theorem dX10_isS_62 : decode cX10_isS 62 = .ok (.iconst 0, 1) := by decide +kernel
theorem dX10_isS_63 : decode cX10_isS 63 = .ok (.ireturn, 1) := by decide +kernel
theorem dX10_isS_64 : decode cX10_isS 64 = .ok (.aload_n 0, 1) := by decide +kernel
theorem dX10_isS_65 : decode cX10_isS 65 = .ok (.iload_n 1, 1) := by decide +kernel
theorem dX10_isS_66 : decode cX10_isS 66 = .ok (.invokevirtual 181, 3) := by decide +kernel
theorem dX10_isS_69 : decode cX10_isS 69 = .ok (.pop, 1) := by decide +kernel
theorem dX10_isS_70 : decode cX10_isS 70 = .ok (.goto (-61), 3) := by decide +kernel
theorem lk_RX10_203 : gLV RX10 203 RX10 yX10_isS cX10_isS 2 (some .boolean) 0 := ⟨(gBig_tab 1295 (by decide +kernel) (by decide +kernel)), (gBig_tab 1297 (by decide +kernel) (by decide +kernel)), (gBig_sel 56 (by decide +kernel) (by decide +kernel)), (gBig_tab 11 (by decide +kernel) (by decide +kernel)), (gBig_tab 1298 (by decide +kernel) (by decide +kernel)), rfl, by decide +kernel, by decide +kernel, by decide +kernel⟩
theorem dX10_isB_0 : decode cX10_isB 0 = .ok (.aload_n 0, 1) := by decide +kernel
theorem dX10_isB_1 : decode cX10_isB 1 = .ok (.invokevirtual 203, 3) := by decide +kernel
theorem dX10_isB_4 : decode cX10_isB 4 = .ok (.ifCond .ne 5, 3) := by decide +kernel
theorem dX10_isB_7 : decode cX10_isB 7 = .ok (.iconst 0, 1) := by decide +kernel
theorem dX10_isB_8 : decode cX10_isB 8 = .ok (.ireturn, 1) := by decide +kernel
theorem dX10_isB_9 : decode cX10_isB 9 = .ok (.aload_n 0, 1) := by decide +kernel
theorem dX10_isB_10 : decode cX10_isB 10 = .ok (.invokevirtual 170, 3) := by decide +kernel
theorem dX10_isB_13 : decode cX10_isB 13 = .ok (.bipush 60, 2) := by decide +kernel
theorem dX10_isB_15 : decode cX10_isB 15 = .ok (.if_icmp .ne 8, 3) := by decide +kernel
theorem dX10_isB_18 : decode cX10_isB 18 = .ok (.bipush 8, 2) := by decide +kernel
theorem dX10_isB_20 : decode cX10_isB 20 = .ok (.goto 32, 3) := by decide +kernel
theorem dX10_isB_23 : decode cX10_isB 23 = .ok (.aload_n 0, 1) := by decide +kernel
theorem dX10_isB_24 : decode cX10_isB 24 = .ok (.invokevirtual 170, 3) := by decide +kernel
theorem dX10_isB_27 : decode cX10_isB 27 = .ok (.bipush 61, 2) := by decide +kernel
theorem dX10_isB_29 : decode cX10_isB 29 = .ok (.if_icmp .ne 8, 3) := by decide +kernel
theorem dX10_isB_32 : decode cX10_isB 32 = .ok (.bipush 9, 2) := by decide +kernel
theorem dX10_isB_34 : decode cX10_isB 34 = .ok (.goto 18, 3) := by decide +kernel
theorem dX10_isB_37 : decode cX10_isB 37 = .ok (.aload_n 0, 1) := by decide +kernel
theorem dX10_isB_38 : decode cX10_isB 38 = .ok (.invokevirtual 170, 3) := by decide +kernel
theorem dX10_isB_41 : decode cX10_isB 41 = .ok (.bipush 62, 2) := by decide +kernel
theorem dX10_isB_43 : decode cX10_isB 43 = .ok (.if_icmp .ne 8, 3) := by decide +kernel
theorem dX10_isB_46 : decode cX10_isB 46 = .ok (.bipush 10, 2) := by decide +kernel
theorem dX10_isB_48 : decode cX10_isB 48 = .ok (.goto 4, 3) := by decide +kernel
theorem dX10_isB_51 : decode cX10_isB 51 = .ok (.iconst (-1), 1) := by decide +kernel
theorem dX10_isB_52 : decode cX10_isB 52 = .ok (.istore_n 1, 1) := by decide +kernel
theorem dX10_isB_53 : decode cX10_isB 53 = .ok (.iload_n 1, 1) := by decide +kernel
theorem dX10_isB_54 : decode cX10_isB 54 = .ok (.ifCond .ge 5, 3) := by decide +kernel
theorem dX10_isB_57 : decode cX10_isB 57 = .ok (.iconst 1, 1) := by decide +kernel
theorem dX10_isB_58 : decode cX10_isB 58 = .ok (.ireturn, 1) := by decide +kernel
theorem dX10_isB_59 : decode cX10_isB 59 = .ok (.aload_n 0, 1) := by decide +kernel
theorem dX10_isB_60 : decode cX10_isB 60 = .ok (.dup, 1) := by decide +kernel
theorem dX10_isB_61 : decode cX10_isB 61 = .ok (.getfield 167, 3) := by decide +kernel
theorem dX10_isB_64 : decode cX10_isB 64 = .ok (.iconst 1, 1) := by decide +kernel
theorem dX10_isB_65 : decode cX10_isB 65 = .ok (.iadd, 1) := by decide +kernel
theorem dX10_isB_66 : decode cX10_isB 66 = .ok (.putfield 167, 3) := by decide +kernel
theorem dX10_isB_69 : decode cX10_isB 69 = .ok (.aload_n 0, 1) := by decide +kernel
theorem dX10_isB_70 : decode cX10_isB 70 = .ok (.invokevirtual 203, 3) := by decide +kernel
theorem dX10_isB_73 : decode cX10_isB 73 = .ok (.ifCond .eq 15, 3) := by decide +kernel
theorem dX10_isB_76 : decode cX10_isB 76 = .ok (.aload_n 0, 1) := by decide +kernel
theorem dX10_isB_77 : decode cX10_isB 77 = .ok (.iload_n 1, 1) := by decide +kernel
theorem dX10_isB_78 : decode cX10_isB 78 = .ok (.invokevirtual 181, 3) := by decide +kernel
theorem dX10_isB_81 : decode cX10_isB 81 = .ok (.ifCond .eq 7, 3) := by decide +kernel
theorem dX10_isB_84 : decode cX10_isB 84 = .ok (.iconst 1, 1) := by decide +kernel
theorem dX10_isB_85 : decode cX10_isB 85 = .ok (.goto 4, 3) := by decide +kernel
theorem dX10_isB_88 : decode cX10_isB 88 = .ok (.iconst 0, 1) := by decide +kernel
theorem dX10_isB_89 : decode cX10_isB 89 = .ok (.ireturn, 1) := by decide +kernel
theorem lk_RX10_206 : gLV RX10 206 RX10 yX10_isB cX10_isB 2 (some .boolean) 0 := ⟨(gBig_tab 1291 (by decide +kernel) (by decide +kernel)), (gBig_tab 1293 (by decide +kernel) (by decide +kernel)), (gBig_sel 55 (by decide +kernel) (by decide +kernel)), (gBig_tab 11 (by decide +kernel) (by decide +kernel)), (gBig_tab 1294 (by decide +kernel) (by decide +kernel)), rfl, by decide +kernel, by decide +kernel, by decide +kernel⟩
theorem dX10_isA_0 : decode cX10_isA 0 = .ok (.aload_n 0, 1) := by decide +kernel
theorem dX10_isA_1 : decode cX10_isA 1 = .ok (.invokevirtual 206, 3) := by decide +kernel
theorem dX10_isA_4 : decode cX10_isA 4 = .ok (.ifCond .ne 5, 3) := by decide +kernel
theorem dX10_isA_7 : decode cX10_isA 7 = .ok (.iconst 0, 1) := by decide +kernel
theorem dX10_isA_8 : decode cX10_isA 8 = .ok (.ireturn, 1) := by decide +kernel
theorem dX10_isA_9 : decode cX10_isA 9 = .ok (.aload_n 0, 1) := by decide +kernel
theorem dX10_isA_10 : decode cX10_isA 10 = .ok (.bipush 38, 2) := by decide +kernel
theorem dX10_isA_12 : decode cX10_isA 12 = .ok (.invokevirtual 191, 3) := by decide +kernel
theorem dX10_isA_15 : decode cX10_isA 15 = .ok (.ifCond .eq 22, 3) := by decide +kernel
theorem dX10_isA_18 : decode cX10_isA 18 = .ok (.aload_n 0, 1) := by decide +kernel
theorem dX10_isA_19 : decode cX10_isA 19 = .ok (.invokevirtual 206, 3) := by decide +kernel
theorem dX10_isA_22 : decode cX10_isA 22 = .ok (.ifCond .ne 5, 3) := by decide +kernel
theorem dX10_isA_25 : decode cX10_isA 25 = .ok (.iconst 0, 1) := by decide +kernel
theorem dX10_isA_26 : decode cX10_isA 26 = .ok (.ireturn, 1) := by decide +kernel
theorem dX10_isA_27 : decode cX10_isA 27 = .ok (.aload_n 0, 1) := by decide +kernel
theorem dX10_isA_28 : decode cX10_isA 28 = .ok (.bipush 7, 2) := by decide +kernel
theorem dX10_isA_30 : decode cX10_isA 30 = .ok (.invokevirtual 181, 3) := by decide +kernel
theorem dX10_isA_33 : decode cX10_isA 33 = .ok (.pop, 1) := by decide +kernel
theorem dX10_isA_34 : decode cX10_isA 34 = .ok (.goto (-25), 3) := by decide +kernel
theorem dX10_isA_37 : decode cX10_isA 37 = .ok (.iconst 1, 1) := by decide +kernel
theorem dX10_isA_38 : decode cX10_isA 38 = .ok (.ireturn, 1) := by decide +kernel
theorem lk_RX10_209 : gLV RX10 209 RX10 yX10_isA cX10_isA 1 (some .boolean) 0 := ⟨(gBig_tab 1287 (by decide +kernel) (by decide +kernel)), (gBig_tab 1289 (by decide +kernel) (by decide +kernel)), (gBig_sel 54 (by decide +kernel) (by decide +kernel)), (gBig_tab 11 (by decide +kernel) (by decide +kernel)), (gBig_tab 1290 (by decide +kernel) (by decide +kernel)), rfl, by decide +kernel, by decide +kernel, by decide +kernel⟩
theorem dX10_isE_0 : decode cX10_isE 0 = .ok (.aload_n 0, 1) := by decide +kernel
theorem dX10_isE_1 : decode cX10_isE 1 = .ok (.invokevirtual 209, 3) := by decide +kernel
theorem dX10_isE_4 : decode cX10_isE 4 = .ok (.ifCond .ne 5, 3) := by decide +kernel
theorem dX10_isE_7 : decode cX10_isE 7 = .ok (.iconst 0, 1) := by decide +kernel
theorem dX10_isE_8 : decode cX10_isE 8 = .ok (.ireturn, 1) := by decide +kernel
theorem dX10_isE_9 : decode cX10_isE 9 = .ok (.aload_n 0, 1) := by decide +kernel
theorem dX10_isE_10 : decode cX10_isE 10 = .ok (.bipush 124, 2) := by decide +kernel
theorem dX10_isE_12 : decode cX10_isE 12 = .ok (.invokevirtual 191, 3) := by decide +kernel
theorem dX10_isE_15 : decode cX10_isE 15 = .ok (.ifCond .eq 22, 3) := by decide +kernel
theorem dX10_isE_18 : decode cX10_isE 18 = .ok (.aload_n 0, 1) := by decide +kernel
theorem dX10_isE_19 : decode cX10_isE 19 = .ok (.invokevirtual 209, 3) := by decide +kernel
theorem dX10_isE_22 : decode cX10_isE 22 = .ok (.ifCond .ne 5, 3) := by decide +kernel
theorem dX10_isE_25 : decode cX10_isE 25 = .ok (.iconst 0, 1) := by decide +kernel
theorem dX10_isE_26 : decode cX10_isE 26 = .ok (.ireturn, 1) := by decide +kernel
theorem dX10_isE_27 : decode cX10_isE 27 = .ok (.aload_n 0, 1) := by decide +kernel
theorem dX10_isE_28 : decode cX10_isE 28 = .ok (.bipush 6, 2) := by decide +kernel
theorem dX10_isE_30 : decode cX10_isE 30 = .ok (.invokevirtual 181, 3) := by decide +kernel
theorem dX10_isE_33 : decode cX10_isE 33 = .ok (.pop, 1) := by decide +kernel
theorem dX10_isE_34 : decode cX10_isE 34 = .ok (.goto (-25), 3) := by decide +kernel
theorem dX10_isE_37 : decode cX10_isE 37 = .ok (.iconst 1, 1) := by decide +kernel
theorem dX10_isE_38 : decode cX10_isE 38 = .ok (.ireturn, 1) := by decide +kernel
abbrev rrX10_isO (d : Nat) : Room := { frames := 2 + d, cells := 0, slots := 0, locals := 41 + 22 * d }
abbrev rrX10_isP (d : Nat) : Room := { frames := 2 + d, cells := 0, slots := 0, locals := 41 + 22 * d }
abbrev rrX10_isS (d : Nat) : Room := { frames := 2 + d, cells := 0, slots := 0, locals := 41 + 22 * d }
abbrev rrX10_isB (d : Nat) : Room := { frames := 2 + d, cells := 0, slots := 0, locals := 41 + 22 * d }
abbrev rrX10_isA (d : Nat) : Room := { frames := 2 + d, cells := 0, slots := 0, locals := 41 + 22 * d }
abbrev rrX10_isE (d : Nat) : Room := { frames := 2 + d, cells := 0, slots := 0, locals := 41 + 22 * d }
def mX10_isO_b214 (rec : ((gS → Option (Bool × gS)) × (gS → Option (Bool × gS)) × (gS → Option (Bool × gS)) × (gS → Option (Bool × gS)) × (gS → Option (Bool × gS)) × (gS → Option (Bool × gS))))   (σ : gS) (x17 : Int32) : Option (Bool × gS) := gLet (gUI σ 52 18 ((σ.1 52 18) - 1)) (fun s18 => if x17 = 0 then some (false, s18) else if x17 = 1 then some (true, s18) else none)
set_option maxHeartbeats 4000000 in
set_option maxRecDepth 100000 in
theorem wX10_isO_b214 {p : Program} {l : Launch} {e : Env} {s : State} {m : MethodId} {args : Array Value} {below : List Frame} {meth : Method} {c : Code} {G : gE} {d : Nat} (hC : gCx p s m args meth c G RX10 cX10_isO 3 (some .boolean)) {rec : ((gS → Option (Bool × gS)) × (gS → Option (Bool × gS)) × (gS → Option (Bool × gS)) × (gS → Option (Bool × gS)) × (gS → Option (Bool × gS)) × (gS → Option (Bool × gS)))} (hrec : (∀ (σ : gS) , gM l G yX10_isO cX10_isO 3 (some .boolean) (rrX10_isO d) iZ [.ref (G.2.1 52)] σ (rec.1 σ )) ∧ (∀ (σ : gS) , gM l G yX10_isP cX10_isP 2 (some .boolean) (rrX10_isP d) iZ [.ref (G.2.1 52)] σ (rec.2.1 σ )) ∧ (∀ (σ : gS) , gM l G yX10_isS cX10_isS 2 (some .boolean) (rrX10_isS d) iZ [.ref (G.2.1 52)] σ (rec.2.2.1 σ )) ∧ (∀ (σ : gS) , gM l G yX10_isB cX10_isB 2 (some .boolean) (rrX10_isB d) iZ [.ref (G.2.1 52)] σ (rec.2.2.2.1 σ )) ∧ (∀ (σ : gS) , gM l G yX10_isA cX10_isA 1 (some .boolean) (rrX10_isA d) iZ [.ref (G.2.1 52)] σ (rec.2.2.2.2.1 σ )) ∧ (∀ (σ : gS) , gM l G yX10_isE cX10_isE 1 (some .boolean) (rrX10_isE d) iZ [.ref (G.2.1 52)] σ (rec.2.2.2.2.2 σ )))    (σ : gS) (x17 : Int32)  : gT p l e (rrX10_isO (d + 1)) s m args below meth c G 3 iZ σ 214 [(0, .ref (G.2.1 52)), (2, .int x17)] [] (mX10_isO_b214 rec σ x17) := by
  unfold mX10_isO_b214
  refine g_aload_n (pc := 214) (q := 0) hC dX10_isO_214 rfl rfl ?_
  refine g_dup (pc := 215) hC dX10_isO_215 rfl ?_
  refine g_get (pc := 216) (v := .int (σ.1 52 18)) hC kX10 rfl 18 (by decide) fl_RX10_188 rfl dX10_isO_216 ?_
  refine g_iconst (pc := 219) (v := 1) hC dX10_isO_219 (by decide) ?_
  refine g_isub (pc := 220) hC dX10_isO_220 ?_
  refine g_puti (pc := 221) (fty := .int) hC kX10 rfl 18 (by decide) fl_RX10_188 rfl rfl rfl rfl (fun _ _ => Nat.le_of_ble_eq_true rfl) (fun _ _ => rfl) dX10_isO_221 (fun s18 => ?_)
  refine g_iload_n (pc := 224) (q := 1) hC dX10_isO_224 rfl rfl ?_
  exact g_zretI (pc := 225) hC dX10_isO_225
def mX10_isO_b213 (rec : ((gS → Option (Bool × gS)) × (gS → Option (Bool × gS)) × (gS → Option (Bool × gS)) × (gS → Option (Bool × gS)) × (gS → Option (Bool × gS)) × (gS → Option (Bool × gS))))   (σ : gS) (x15 : Int32) : Option (Bool × gS) := gLet x15 (fun v16 => (mX10_isO_b214 rec σ v16))
set_option maxHeartbeats 4000000 in
set_option maxRecDepth 100000 in
theorem wX10_isO_b213 {p : Program} {l : Launch} {e : Env} {s : State} {m : MethodId} {args : Array Value} {below : List Frame} {meth : Method} {c : Code} {G : gE} {d : Nat} (hC : gCx p s m args meth c G RX10 cX10_isO 3 (some .boolean)) {rec : ((gS → Option (Bool × gS)) × (gS → Option (Bool × gS)) × (gS → Option (Bool × gS)) × (gS → Option (Bool × gS)) × (gS → Option (Bool × gS)) × (gS → Option (Bool × gS)))} (hrec : (∀ (σ : gS) , gM l G yX10_isO cX10_isO 3 (some .boolean) (rrX10_isO d) iZ [.ref (G.2.1 52)] σ (rec.1 σ )) ∧ (∀ (σ : gS) , gM l G yX10_isP cX10_isP 2 (some .boolean) (rrX10_isP d) iZ [.ref (G.2.1 52)] σ (rec.2.1 σ )) ∧ (∀ (σ : gS) , gM l G yX10_isS cX10_isS 2 (some .boolean) (rrX10_isS d) iZ [.ref (G.2.1 52)] σ (rec.2.2.1 σ )) ∧ (∀ (σ : gS) , gM l G yX10_isB cX10_isB 2 (some .boolean) (rrX10_isB d) iZ [.ref (G.2.1 52)] σ (rec.2.2.2.1 σ )) ∧ (∀ (σ : gS) , gM l G yX10_isA cX10_isA 1 (some .boolean) (rrX10_isA d) iZ [.ref (G.2.1 52)] σ (rec.2.2.2.2.1 σ )) ∧ (∀ (σ : gS) , gM l G yX10_isE cX10_isE 1 (some .boolean) (rrX10_isE d) iZ [.ref (G.2.1 52)] σ (rec.2.2.2.2.2 σ )))    (σ : gS) (x15 : Int32)  : gT p l e (rrX10_isO (d + 1)) s m args below meth c G 3 iZ σ 213 [(0, .ref (G.2.1 52))] [.int x15] (mX10_isO_b213 rec σ x15) := by
  unfold mX10_isO_b213
  refine g_istore_n (pc := 213) (lv' := fun v16 => [(2, .int v16), (0, .ref (G.2.1 52))]) hC dX10_isO_213 rfl (by decide) (fun _ => rfl) (fun v16 => ?_)
  exact gT_sub [1, 0] rfl (wX10_isO_b214 hC hrec σ v16)
def mX10_isO_b212 (rec : ((gS → Option (Bool × gS)) × (gS → Option (Bool × gS)) × (gS → Option (Bool × gS)) × (gS → Option (Bool × gS)) × (gS → Option (Bool × gS)) × (gS → Option (Bool × gS))))   (σ : gS)  : Option (Bool × gS) := (mX10_isO_b213 rec σ 0)
set_option maxHeartbeats 4000000 in
set_option maxRecDepth 100000 in
theorem wX10_isO_b212 {p : Program} {l : Launch} {e : Env} {s : State} {m : MethodId} {args : Array Value} {below : List Frame} {meth : Method} {c : Code} {G : gE} {d : Nat} (hC : gCx p s m args meth c G RX10 cX10_isO 3 (some .boolean)) {rec : ((gS → Option (Bool × gS)) × (gS → Option (Bool × gS)) × (gS → Option (Bool × gS)) × (gS → Option (Bool × gS)) × (gS → Option (Bool × gS)) × (gS → Option (Bool × gS)))} (hrec : (∀ (σ : gS) , gM l G yX10_isO cX10_isO 3 (some .boolean) (rrX10_isO d) iZ [.ref (G.2.1 52)] σ (rec.1 σ )) ∧ (∀ (σ : gS) , gM l G yX10_isP cX10_isP 2 (some .boolean) (rrX10_isP d) iZ [.ref (G.2.1 52)] σ (rec.2.1 σ )) ∧ (∀ (σ : gS) , gM l G yX10_isS cX10_isS 2 (some .boolean) (rrX10_isS d) iZ [.ref (G.2.1 52)] σ (rec.2.2.1 σ )) ∧ (∀ (σ : gS) , gM l G yX10_isB cX10_isB 2 (some .boolean) (rrX10_isB d) iZ [.ref (G.2.1 52)] σ (rec.2.2.2.1 σ )) ∧ (∀ (σ : gS) , gM l G yX10_isA cX10_isA 1 (some .boolean) (rrX10_isA d) iZ [.ref (G.2.1 52)] σ (rec.2.2.2.2.1 σ )) ∧ (∀ (σ : gS) , gM l G yX10_isE cX10_isE 1 (some .boolean) (rrX10_isE d) iZ [.ref (G.2.1 52)] σ (rec.2.2.2.2.2 σ )))    (σ : gS)   : gT p l e (rrX10_isO (d + 1)) s m args below meth c G 3 iZ σ 212 [(0, .ref (G.2.1 52))] [] (mX10_isO_b212 rec σ ) := by
  unfold mX10_isO_b212
  refine g_iconst (pc := 212) (v := 0) hC dX10_isO_212 (by decide) ?_
  exact gT_sub [0] rfl (wX10_isO_b213 hC hrec σ 0)
def mX10_isO_b179 (rec : ((gS → Option (Bool × gS)) × (gS → Option (Bool × gS)) × (gS → Option (Bool × gS)) × (gS → Option (Bool × gS)) × (gS → Option (Bool × gS)) × (gS → Option (Bool × gS))))   (σ : gS) (x25 : Int32) : Option (Bool × gS) := gLet x25 (fun v26 => (mX10_isO_b214 rec σ v26))
set_option maxHeartbeats 4000000 in
set_option maxRecDepth 100000 in
theorem wX10_isO_b179 {p : Program} {l : Launch} {e : Env} {s : State} {m : MethodId} {args : Array Value} {below : List Frame} {meth : Method} {c : Code} {G : gE} {d : Nat} (hC : gCx p s m args meth c G RX10 cX10_isO 3 (some .boolean)) {rec : ((gS → Option (Bool × gS)) × (gS → Option (Bool × gS)) × (gS → Option (Bool × gS)) × (gS → Option (Bool × gS)) × (gS → Option (Bool × gS)) × (gS → Option (Bool × gS)))} (hrec : (∀ (σ : gS) , gM l G yX10_isO cX10_isO 3 (some .boolean) (rrX10_isO d) iZ [.ref (G.2.1 52)] σ (rec.1 σ )) ∧ (∀ (σ : gS) , gM l G yX10_isP cX10_isP 2 (some .boolean) (rrX10_isP d) iZ [.ref (G.2.1 52)] σ (rec.2.1 σ )) ∧ (∀ (σ : gS) , gM l G yX10_isS cX10_isS 2 (some .boolean) (rrX10_isS d) iZ [.ref (G.2.1 52)] σ (rec.2.2.1 σ )) ∧ (∀ (σ : gS) , gM l G yX10_isB cX10_isB 2 (some .boolean) (rrX10_isB d) iZ [.ref (G.2.1 52)] σ (rec.2.2.2.1 σ )) ∧ (∀ (σ : gS) , gM l G yX10_isA cX10_isA 1 (some .boolean) (rrX10_isA d) iZ [.ref (G.2.1 52)] σ (rec.2.2.2.2.1 σ )) ∧ (∀ (σ : gS) , gM l G yX10_isE cX10_isE 1 (some .boolean) (rrX10_isE d) iZ [.ref (G.2.1 52)] σ (rec.2.2.2.2.2 σ )))    (σ : gS) (x25 : Int32)  : gT p l e (rrX10_isO (d + 1)) s m args below meth c G 3 iZ σ 179 [(0, .ref (G.2.1 52))] [.int x25] (mX10_isO_b179 rec σ x25) := by
  unfold mX10_isO_b179
  refine g_istore_n (pc := 179) (lv' := fun v26 => [(2, .int v26), (0, .ref (G.2.1 52))]) hC dX10_isO_179 rfl (by decide) (fun _ => rfl) (fun v26 => ?_)
  refine g_goto (pc := 180) (tgt := 214) hC dX10_isO_180 (by decide) ?_
  exact gT_sub [1, 0] rfl (wX10_isO_b214 hC hrec σ v26)
def mX10_isO_b178 (rec : ((gS → Option (Bool × gS)) × (gS → Option (Bool × gS)) × (gS → Option (Bool × gS)) × (gS → Option (Bool × gS)) × (gS → Option (Bool × gS)) × (gS → Option (Bool × gS))))   (σ : gS)  : Option (Bool × gS) := (mX10_isO_b179 rec σ 0)
set_option maxHeartbeats 4000000 in
set_option maxRecDepth 100000 in
theorem wX10_isO_b178 {p : Program} {l : Launch} {e : Env} {s : State} {m : MethodId} {args : Array Value} {below : List Frame} {meth : Method} {c : Code} {G : gE} {d : Nat} (hC : gCx p s m args meth c G RX10 cX10_isO 3 (some .boolean)) {rec : ((gS → Option (Bool × gS)) × (gS → Option (Bool × gS)) × (gS → Option (Bool × gS)) × (gS → Option (Bool × gS)) × (gS → Option (Bool × gS)) × (gS → Option (Bool × gS)))} (hrec : (∀ (σ : gS) , gM l G yX10_isO cX10_isO 3 (some .boolean) (rrX10_isO d) iZ [.ref (G.2.1 52)] σ (rec.1 σ )) ∧ (∀ (σ : gS) , gM l G yX10_isP cX10_isP 2 (some .boolean) (rrX10_isP d) iZ [.ref (G.2.1 52)] σ (rec.2.1 σ )) ∧ (∀ (σ : gS) , gM l G yX10_isS cX10_isS 2 (some .boolean) (rrX10_isS d) iZ [.ref (G.2.1 52)] σ (rec.2.2.1 σ )) ∧ (∀ (σ : gS) , gM l G yX10_isB cX10_isB 2 (some .boolean) (rrX10_isB d) iZ [.ref (G.2.1 52)] σ (rec.2.2.2.1 σ )) ∧ (∀ (σ : gS) , gM l G yX10_isA cX10_isA 1 (some .boolean) (rrX10_isA d) iZ [.ref (G.2.1 52)] σ (rec.2.2.2.2.1 σ )) ∧ (∀ (σ : gS) , gM l G yX10_isE cX10_isE 1 (some .boolean) (rrX10_isE d) iZ [.ref (G.2.1 52)] σ (rec.2.2.2.2.2 σ )))    (σ : gS)   : gT p l e (rrX10_isO (d + 1)) s m args below meth c G 3 iZ σ 178 [(0, .ref (G.2.1 52))] [] (mX10_isO_b178 rec σ ) := by
  unfold mX10_isO_b178
  refine g_iconst (pc := 178) (v := 0) hC dX10_isO_178 (by decide) ?_
  exact gT_sub [0] rfl (wX10_isO_b179 hC hrec σ 0)
def mX10_isO_b145 (rec : ((gS → Option (Bool × gS)) × (gS → Option (Bool × gS)) × (gS → Option (Bool × gS)) × (gS → Option (Bool × gS)) × (gS → Option (Bool × gS)) × (gS → Option (Bool × gS))))   (σ : gS) (x31 : Int32) : Option (Bool × gS) := gLet x31 (fun v32 => (mX10_isO_b214 rec σ v32))
set_option maxHeartbeats 4000000 in
set_option maxRecDepth 100000 in
theorem wX10_isO_b145 {p : Program} {l : Launch} {e : Env} {s : State} {m : MethodId} {args : Array Value} {below : List Frame} {meth : Method} {c : Code} {G : gE} {d : Nat} (hC : gCx p s m args meth c G RX10 cX10_isO 3 (some .boolean)) {rec : ((gS → Option (Bool × gS)) × (gS → Option (Bool × gS)) × (gS → Option (Bool × gS)) × (gS → Option (Bool × gS)) × (gS → Option (Bool × gS)) × (gS → Option (Bool × gS)))} (hrec : (∀ (σ : gS) , gM l G yX10_isO cX10_isO 3 (some .boolean) (rrX10_isO d) iZ [.ref (G.2.1 52)] σ (rec.1 σ )) ∧ (∀ (σ : gS) , gM l G yX10_isP cX10_isP 2 (some .boolean) (rrX10_isP d) iZ [.ref (G.2.1 52)] σ (rec.2.1 σ )) ∧ (∀ (σ : gS) , gM l G yX10_isS cX10_isS 2 (some .boolean) (rrX10_isS d) iZ [.ref (G.2.1 52)] σ (rec.2.2.1 σ )) ∧ (∀ (σ : gS) , gM l G yX10_isB cX10_isB 2 (some .boolean) (rrX10_isB d) iZ [.ref (G.2.1 52)] σ (rec.2.2.2.1 σ )) ∧ (∀ (σ : gS) , gM l G yX10_isA cX10_isA 1 (some .boolean) (rrX10_isA d) iZ [.ref (G.2.1 52)] σ (rec.2.2.2.2.1 σ )) ∧ (∀ (σ : gS) , gM l G yX10_isE cX10_isE 1 (some .boolean) (rrX10_isE d) iZ [.ref (G.2.1 52)] σ (rec.2.2.2.2.2 σ )))    (σ : gS) (x31 : Int32)  : gT p l e (rrX10_isO (d + 1)) s m args below meth c G 3 iZ σ 145 [(0, .ref (G.2.1 52))] [.int x31] (mX10_isO_b145 rec σ x31) := by
  unfold mX10_isO_b145
  refine g_istore_n (pc := 145) (lv' := fun v32 => [(2, .int v32), (0, .ref (G.2.1 52))]) hC dX10_isO_145 rfl (by decide) (fun _ => rfl) (fun v32 => ?_)
  refine g_goto (pc := 146) (tgt := 214) hC dX10_isO_146 (by decide) ?_
  exact gT_sub [1, 0] rfl (wX10_isO_b214 hC hrec σ v32)
def mX10_isO_b144 (rec : ((gS → Option (Bool × gS)) × (gS → Option (Bool × gS)) × (gS → Option (Bool × gS)) × (gS → Option (Bool × gS)) × (gS → Option (Bool × gS)) × (gS → Option (Bool × gS))))   (σ : gS)  : Option (Bool × gS) := (mX10_isO_b145 rec σ 0)
set_option maxHeartbeats 4000000 in
set_option maxRecDepth 100000 in
theorem wX10_isO_b144 {p : Program} {l : Launch} {e : Env} {s : State} {m : MethodId} {args : Array Value} {below : List Frame} {meth : Method} {c : Code} {G : gE} {d : Nat} (hC : gCx p s m args meth c G RX10 cX10_isO 3 (some .boolean)) {rec : ((gS → Option (Bool × gS)) × (gS → Option (Bool × gS)) × (gS → Option (Bool × gS)) × (gS → Option (Bool × gS)) × (gS → Option (Bool × gS)) × (gS → Option (Bool × gS)))} (hrec : (∀ (σ : gS) , gM l G yX10_isO cX10_isO 3 (some .boolean) (rrX10_isO d) iZ [.ref (G.2.1 52)] σ (rec.1 σ )) ∧ (∀ (σ : gS) , gM l G yX10_isP cX10_isP 2 (some .boolean) (rrX10_isP d) iZ [.ref (G.2.1 52)] σ (rec.2.1 σ )) ∧ (∀ (σ : gS) , gM l G yX10_isS cX10_isS 2 (some .boolean) (rrX10_isS d) iZ [.ref (G.2.1 52)] σ (rec.2.2.1 σ )) ∧ (∀ (σ : gS) , gM l G yX10_isB cX10_isB 2 (some .boolean) (rrX10_isB d) iZ [.ref (G.2.1 52)] σ (rec.2.2.2.1 σ )) ∧ (∀ (σ : gS) , gM l G yX10_isA cX10_isA 1 (some .boolean) (rrX10_isA d) iZ [.ref (G.2.1 52)] σ (rec.2.2.2.2.1 σ )) ∧ (∀ (σ : gS) , gM l G yX10_isE cX10_isE 1 (some .boolean) (rrX10_isE d) iZ [.ref (G.2.1 52)] σ (rec.2.2.2.2.2 σ )))    (σ : gS)   : gT p l e (rrX10_isO (d + 1)) s m args below meth c G 3 iZ σ 144 [(0, .ref (G.2.1 52))] [] (mX10_isO_b144 rec σ ) := by
  unfold mX10_isO_b144
  refine g_iconst (pc := 144) (v := 0) hC dX10_isO_144 (by decide) ?_
  exact gT_sub [0] rfl (wX10_isO_b145 hC hrec σ 0)
def mX10_isO_b57 (rec : ((gS → Option (Bool × gS)) × (gS → Option (Bool × gS)) × (gS → Option (Bool × gS)) × (gS → Option (Bool × gS)) × (gS → Option (Bool × gS)) × (gS → Option (Bool × gS))))   (σ : gS) (x42 : Int32) : Option (Bool × gS) := gBind (mX10_codes σ (18 + x42)) (fun r43 s44 => some (r43, s44))
set_option maxHeartbeats 4000000 in
set_option maxRecDepth 100000 in
theorem wX10_isO_b57 {p : Program} {l : Launch} {e : Env} {s : State} {m : MethodId} {args : Array Value} {below : List Frame} {meth : Method} {c : Code} {G : gE} {d : Nat} (hC : gCx p s m args meth c G RX10 cX10_isO 3 (some .boolean)) {rec : ((gS → Option (Bool × gS)) × (gS → Option (Bool × gS)) × (gS → Option (Bool × gS)) × (gS → Option (Bool × gS)) × (gS → Option (Bool × gS)) × (gS → Option (Bool × gS)))} (hrec : (∀ (σ : gS) , gM l G yX10_isO cX10_isO 3 (some .boolean) (rrX10_isO d) iZ [.ref (G.2.1 52)] σ (rec.1 σ )) ∧ (∀ (σ : gS) , gM l G yX10_isP cX10_isP 2 (some .boolean) (rrX10_isP d) iZ [.ref (G.2.1 52)] σ (rec.2.1 σ )) ∧ (∀ (σ : gS) , gM l G yX10_isS cX10_isS 2 (some .boolean) (rrX10_isS d) iZ [.ref (G.2.1 52)] σ (rec.2.2.1 σ )) ∧ (∀ (σ : gS) , gM l G yX10_isB cX10_isB 2 (some .boolean) (rrX10_isB d) iZ [.ref (G.2.1 52)] σ (rec.2.2.2.1 σ )) ∧ (∀ (σ : gS) , gM l G yX10_isA cX10_isA 1 (some .boolean) (rrX10_isA d) iZ [.ref (G.2.1 52)] σ (rec.2.2.2.2.1 σ )) ∧ (∀ (σ : gS) , gM l G yX10_isE cX10_isE 1 (some .boolean) (rrX10_isE d) iZ [.ref (G.2.1 52)] σ (rec.2.2.2.2.2 σ )))    (σ : gS) (x42 : Int32)  : gT p l e (rrX10_isO (d + 1)) s m args below meth c G 3 iZ σ 57 [(0, .ref (G.2.1 52)), (1, .int x42)] [] (mX10_isO_b57 rec σ x42) := by
  unfold mX10_isO_b57
  refine g_aload_n (pc := 57) (q := 0) hC dX10_isO_57 rfl rfl ?_
  refine g_bipush (pc := 58) (v := 18) hC dX10_isO_58 (by decide) ?_
  refine g_iload_n (pc := 60) (q := 1) hC dX10_isO_60 rfl rfl ?_
  refine g_iadd (pc := 61) hC dX10_isO_61 ?_
  refine g_callVz (pc := 62) (As := [.int (18 + x42)]) (rest := []) hC lk_RX10_181 kX10 rfl (tX10_codes _ _ σ (18 + x42)) rfl rfl (Nat.le_of_ble_eq_true rfl) ⟨rfl, rfl, by simp only [rrX10_isO] <;> omega, by simp only [rrX10_isO] <;> omega⟩ dX10_isO_62 (fun r43 s44 => ?_)
  exact g_zret (pc := 65) hC dX10_isO_65
def mX10_isO_b11 (rec : ((gS → Option (Bool × gS)) × (gS → Option (Bool × gS)) × (gS → Option (Bool × gS)) × (gS → Option (Bool × gS)) × (gS → Option (Bool × gS)) × (gS → Option (Bool × gS))))   : Nat → gS → Int32 → Int32 → Option (Bool × gS)
  | 0, _, _, _ => none
  | n + 1, σ, x40, x41 => if 4 ≤ x41 then ((mX10_isO_b57 rec σ x40)) else (gBind (mX10_isDigit σ ) (fun r45 s46 => if r45 = true then (if inbB (s46.1 52 17) 120 = true then (gLet (((10 * x40) + (s46.1 60 (Int32.toNatClampNeg (s46.1 52 17)))) - 48) (fun v47 => gLet (gUI s46 52 17 ((s46.1 52 17) + 1)) (fun s48 => gLet (x41 + 1) (fun v49 => ((mX10_isO_b11 rec n) s48 v47 v49))))) else none) else ((mX10_isO_b57 rec s46 x40))))
set_option maxHeartbeats 4000000 in
set_option maxRecDepth 100000 in
theorem wX10_isO_b11 {p : Program} {l : Launch} {e : Env} {s : State} {m : MethodId} {args : Array Value} {below : List Frame} {meth : Method} {c : Code} {G : gE} {d : Nat} (hC : gCx p s m args meth c G RX10 cX10_isO 3 (some .boolean)) {rec : ((gS → Option (Bool × gS)) × (gS → Option (Bool × gS)) × (gS → Option (Bool × gS)) × (gS → Option (Bool × gS)) × (gS → Option (Bool × gS)) × (gS → Option (Bool × gS)))} (hrec : (∀ (σ : gS) , gM l G yX10_isO cX10_isO 3 (some .boolean) (rrX10_isO d) iZ [.ref (G.2.1 52)] σ (rec.1 σ )) ∧ (∀ (σ : gS) , gM l G yX10_isP cX10_isP 2 (some .boolean) (rrX10_isP d) iZ [.ref (G.2.1 52)] σ (rec.2.1 σ )) ∧ (∀ (σ : gS) , gM l G yX10_isS cX10_isS 2 (some .boolean) (rrX10_isS d) iZ [.ref (G.2.1 52)] σ (rec.2.2.1 σ )) ∧ (∀ (σ : gS) , gM l G yX10_isB cX10_isB 2 (some .boolean) (rrX10_isB d) iZ [.ref (G.2.1 52)] σ (rec.2.2.2.1 σ )) ∧ (∀ (σ : gS) , gM l G yX10_isA cX10_isA 1 (some .boolean) (rrX10_isA d) iZ [.ref (G.2.1 52)] σ (rec.2.2.2.2.1 σ )) ∧ (∀ (σ : gS) , gM l G yX10_isE cX10_isE 1 (some .boolean) (rrX10_isE d) iZ [.ref (G.2.1 52)] σ (rec.2.2.2.2.2 σ )))    (n : Nat) (σ : gS) (x40 : Int32) (x41 : Int32)  : gT p l e (rrX10_isO (d + 1)) s m args below meth c G 3 iZ σ 11 [(0, .ref (G.2.1 52)), (1, .int x40), (2, .int x41)] [] (mX10_isO_b11 rec n σ x40 x41) := by
  induction n generalizing σ x40 x41 with
  | zero => exact gT_none
  | succ n ih =>
    unfold mX10_isO_b11
    refine g_iload_n (pc := 11) (q := 2) hC dX10_isO_11 rfl rfl ?_
    refine g_iconst (pc := 12) (v := 4) hC dX10_isO_12 (by decide) ?_
    refine g_icmp_ge (pc := 13) (tgt := 57) hC dX10_isO_13 (by decide) ?_ ?_
    · exact gT_sub [0, 1] rfl (wX10_isO_b57 hC hrec σ x40)
    · refine g_aload_n (pc := 16) (q := 0) hC dX10_isO_16 rfl rfl ?_
      refine g_callVz (pc := 17) (As := []) (rest := []) hC lk_RX10_177 kX10 rfl (tX10_isDigit _ _ σ ) rfl rfl (Nat.le_of_ble_eq_true rfl) ⟨rfl, rfl, by simp only [rrX10_isO] <;> omega, by simp only [rrX10_isO] <;> omega⟩ dX10_isO_17 (fun r45 s46 => ?_)
      refine g_bif_eq (pc := 20) (tgt := 57) hC dX10_isO_20 (by decide) ?_ ?_
      · exact gT_sub [0, 1] rfl (wX10_isO_b57 hC hrec s46 x40)
      · refine g_bipush (pc := 23) (v := 10) hC dX10_isO_23 (by decide) ?_
        refine g_iload_n (pc := 25) (q := 1) hC dX10_isO_25 rfl rfl ?_
        refine g_imul (pc := 26) hC dX10_isO_26 ?_
        refine g_aload_n (pc := 27) (q := 0) hC dX10_isO_27 rfl rfl ?_
        refine g_get (pc := 28) (v := .ref (G.2.1 60)) hC kX10 rfl 10 (by decide) fl_RX10_33 rfl dX10_isO_28 ?_
        refine g_aload_n (pc := 31) (q := 0) hC dX10_isO_31 rfl rfl ?_
        refine g_get (pc := 32) (v := .int (s46.1 52 17)) hC kX10 rfl 17 (by decide) fl_RX10_167 rfl dX10_isO_32 ?_
        refine g_iald (pc := 35) hC 120 rfl (by decide) dX10_isO_35 ?_
        refine g_iadd (pc := 36) hC dX10_isO_36 ?_
        refine g_bipush (pc := 37) (v := 48) hC dX10_isO_37 (by decide) ?_
        refine g_isub (pc := 39) hC dX10_isO_39 ?_
        refine g_istore_n (pc := 40) (lv' := fun v47 => [(1, .int v47), (0, .ref (G.2.1 52)), (2, .int x41)]) hC dX10_isO_40 rfl (by decide) (fun _ => rfl) (fun v47 => ?_)
        refine g_aload_n (pc := 41) (q := 1) hC dX10_isO_41 rfl rfl ?_
        refine g_dup (pc := 42) hC dX10_isO_42 rfl ?_
        refine g_get (pc := 43) (v := .int (s46.1 52 17)) hC kX10 rfl 17 (by decide) fl_RX10_167 rfl dX10_isO_43 ?_
        refine g_iconst (pc := 46) (v := 1) hC dX10_isO_46 (by decide) ?_
        refine g_iadd (pc := 47) hC dX10_isO_47 ?_
        refine g_puti (pc := 48) (fty := .int) hC kX10 rfl 17 (by decide) fl_RX10_167 rfl rfl rfl rfl (fun _ _ => Nat.le_of_ble_eq_true rfl) (fun _ _ => rfl) dX10_isO_48 (fun s48 => ?_)
        refine g_iinc (pc := 51) (q := 2) (w := 1) (lv' := fun v49 => [(2, .int v49), (1, .int v47), (0, .ref (G.2.1 52))]) hC dX10_isO_51 rfl (by decide) (by decide) (fun _ => rfl) (fun v49 => ?_)
        refine g_goto (pc := 54) (tgt := 11) hC dX10_isO_54 (by decide) ?_
        exact gT_sub [2, 1, 0] rfl (ih s48 v47 v49)
def mrX10_isO (rec : ((gS → Option (Bool × gS)) × (gS → Option (Bool × gS)) × (gS → Option (Bool × gS)) × (gS → Option (Bool × gS)) × (gS → Option (Bool × gS)) × (gS → Option (Bool × gS)))) (σ : gS)  : Option (Bool × gS) := gBind (mX10_isDigit σ ) (fun r1 s2 => if r1 = true then (gLet 0 (fun v38 => gLet 0 (fun v39 => (mX10_isO_b11 rec 1100 s2 v38 v39)))) else (gBind (mX10_sign s2 ) (fun r3 s4 => gBind (mX10_nameOf s4 r3) (fun r5 s6 => gLet r5 (fun v7 => if v7 < 0 then (if (s6.1 52 18) = 6 then (some (false, s6)) else (gLet (gUI s6 52 18 ((s6.1 52 18) + 1)) (fun s8 => gBind (mX10_is s8 33) (fun r9 s10 => if r9 = true then (gBind (rec.1 s10 ) (fun r29 s30 => if r29 = true then (gBind (mX10_codes s30 16) (fun r33 s34 => if r33 = true then ((mX10_isO_b145 rec s34 1)) else ((mX10_isO_b144 rec s34 )))) else ((mX10_isO_b144 rec s30 )))) else (gBind (mX10_is s10 45) (fun r11 s12 => if r11 = true then (gBind (rec.1 s12 ) (fun r23 s24 => if r23 = true then (gBind (mX10_codes s24 17) (fun r27 s28 => if r27 = true then ((mX10_isO_b179 rec s28 1)) else ((mX10_isO_b178 rec s28 )))) else ((mX10_isO_b178 rec s24 )))) else (gBind (mX10_is s12 40) (fun r13 s14 => if r13 = true then (gBind (rec.2.2.2.2.2 s14 ) (fun r19 s20 => if r19 = true then (gBind (mX10_is s20 41) (fun r21 s22 => if r21 = true then ((mX10_isO_b213 rec s22 1)) else ((mX10_isO_b212 rec s22 )))) else ((mX10_isO_b212 rec s20 )))) else ((mX10_isO_b212 rec s14 )))))))))) else (gLet (gUI s6 52 17 ((s6.1 52 17) + 1)) (fun s35 => gBind (mX10_codes s35 v7) (fun r36 s37 => some (r36, s37)))))))))
set_option maxHeartbeats 4000000 in
set_option maxRecDepth 100000 in
theorem trX10_isO {l : Launch} {G : gE} {d : Nat} {rec : ((gS → Option (Bool × gS)) × (gS → Option (Bool × gS)) × (gS → Option (Bool × gS)) × (gS → Option (Bool × gS)) × (gS → Option (Bool × gS)) × (gS → Option (Bool × gS)))} (hrec : (∀ (σ : gS) , gM l G yX10_isO cX10_isO 3 (some .boolean) (rrX10_isO d) iZ [.ref (G.2.1 52)] σ (rec.1 σ )) ∧ (∀ (σ : gS) , gM l G yX10_isP cX10_isP 2 (some .boolean) (rrX10_isP d) iZ [.ref (G.2.1 52)] σ (rec.2.1 σ )) ∧ (∀ (σ : gS) , gM l G yX10_isS cX10_isS 2 (some .boolean) (rrX10_isS d) iZ [.ref (G.2.1 52)] σ (rec.2.2.1 σ )) ∧ (∀ (σ : gS) , gM l G yX10_isB cX10_isB 2 (some .boolean) (rrX10_isB d) iZ [.ref (G.2.1 52)] σ (rec.2.2.2.1 σ )) ∧ (∀ (σ : gS) , gM l G yX10_isA cX10_isA 1 (some .boolean) (rrX10_isA d) iZ [.ref (G.2.1 52)] σ (rec.2.2.2.2.1 σ )) ∧ (∀ (σ : gS) , gM l G yX10_isE cX10_isE 1 (some .boolean) (rrX10_isE d) iZ [.ref (G.2.1 52)] σ (rec.2.2.2.2.2 σ ))) : ∀ (σ : gS) , gM l G yX10_isO cX10_isO 3 (some .boolean) (rrX10_isO (d + 1)) iZ [.ref (G.2.1 52)] σ (mrX10_isO rec σ ) := by
  intro σ 
  refine gM_of (by decide) (Nat.le_of_ble_eq_true rfl) ?_
  intro p e s m args below meth c hC
  unfold mrX10_isO
  show gT p l e (rrX10_isO (d + 1)) s m args below meth c G 3 iZ σ 0 [(0, .ref (G.2.1 52))] [] _
  refine g_aload_n (pc := 0) (q := 0) hC dX10_isO_0 rfl rfl ?_
  refine g_callVz (pc := 1) (As := []) (rest := []) hC lk_RX10_177 kX10 rfl (tX10_isDigit _ _ σ ) rfl rfl (Nat.le_of_ble_eq_true rfl) ⟨rfl, rfl, by simp only [rrX10_isO] <;> omega, by simp only [rrX10_isO] <;> omega⟩ dX10_isO_1 (fun r1 s2 => ?_)
  refine g_bif_eq (pc := 4) (tgt := 66) hC dX10_isO_4 (by decide) ?_ ?_
  · refine g_aload_n (pc := 66) (q := 0) hC dX10_isO_66 rfl rfl ?_
    refine g_callVi (pc := 67) (As := []) (rest := []) hC lk_RX10_170 kX10 rfl (tX10_sign _ _ s2 ) rfl rfl (Nat.le_of_ble_eq_true rfl) ⟨rfl, rfl, by simp only [rrX10_isO] <;> omega, by simp only [rrX10_isO] <;> omega⟩ dX10_isO_67 (fun r3 s4 => ?_)
    refine g_callSi (pc := 70) (As := [.int r3]) (rest := []) hC lk_RX10_184 (tX10_nameOf _ _ s4 r3) rfl rfl (Nat.le_of_ble_eq_true rfl) ⟨rfl, rfl, by simp only [rrX10_isO] <;> omega, by simp only [rrX10_isO] <;> omega⟩ dX10_isO_70 (fun r5 s6 => ?_)
    refine g_istore_n (pc := 73) (lv' := fun v7 => [(1, .int v7), (0, .ref (G.2.1 52))]) hC dX10_isO_73 rfl (by decide) (fun _ => rfl) (fun v7 => ?_)
    refine g_iload_n (pc := 74) (q := 0) hC dX10_isO_74 rfl rfl ?_
    refine g_if_lt (pc := 75) (tgt := 94) hC dX10_isO_75 (by decide) ?_ ?_
    · refine g_aload_n (pc := 94) (q := 1) hC dX10_isO_94 rfl rfl ?_
      refine g_get (pc := 95) (v := .int (s6.1 52 18)) hC kX10 rfl 18 (by decide) fl_RX10_188 rfl dX10_isO_95 ?_
      refine g_bipush (pc := 98) (v := 6) hC dX10_isO_98 (by decide) ?_
      refine g_icmp_ne (pc := 100) (tgt := 105) hC dX10_isO_100 (by decide) ?_ ?_
      · refine g_aload_n (pc := 105) (q := 1) hC dX10_isO_105 rfl rfl ?_
        refine g_dup (pc := 106) hC dX10_isO_106 rfl ?_
        refine g_get (pc := 107) (v := .int (s6.1 52 18)) hC kX10 rfl 18 (by decide) fl_RX10_188 rfl dX10_isO_107 ?_
        refine g_iconst (pc := 110) (v := 1) hC dX10_isO_110 (by decide) ?_
        refine g_iadd (pc := 111) hC dX10_isO_111 ?_
        refine g_puti (pc := 112) (fty := .int) hC kX10 rfl 18 (by decide) fl_RX10_188 rfl rfl rfl rfl (fun _ _ => Nat.le_of_ble_eq_true rfl) (fun _ _ => rfl) dX10_isO_112 (fun s8 => ?_)
        refine g_aload_n (pc := 115) (q := 1) hC dX10_isO_115 rfl rfl ?_
        refine g_bipush (pc := 116) (v := 33) hC dX10_isO_116 (by decide) ?_
        refine g_callVz (pc := 118) (As := [.int 33]) (rest := []) hC lk_RX10_191 kX10 rfl (tX10_is _ _ s8 33) rfl rfl (Nat.le_of_ble_eq_true rfl) ⟨rfl, rfl, by simp only [rrX10_isO] <;> omega, by simp only [rrX10_isO] <;> omega⟩ dX10_isO_118 (fun r9 s10 => ?_)
        refine g_bif_eq (pc := 121) (tgt := 149) hC dX10_isO_121 (by decide) ?_ ?_
        · refine g_aload_n (pc := 149) (q := 1) hC dX10_isO_149 rfl rfl ?_
          refine g_bipush (pc := 150) (v := 45) hC dX10_isO_150 (by decide) ?_
          refine g_callVz (pc := 152) (As := [.int 45]) (rest := []) hC lk_RX10_191 kX10 rfl (tX10_is _ _ s10 45) rfl rfl (Nat.le_of_ble_eq_true rfl) ⟨rfl, rfl, by simp only [rrX10_isO] <;> omega, by simp only [rrX10_isO] <;> omega⟩ dX10_isO_152 (fun r11 s12 => ?_)
          refine g_bif_eq (pc := 155) (tgt := 183) hC dX10_isO_155 (by decide) ?_ ?_
          · refine g_aload_n (pc := 183) (q := 1) hC dX10_isO_183 rfl rfl ?_
            refine g_bipush (pc := 184) (v := 40) hC dX10_isO_184 (by decide) ?_
            refine g_callVz (pc := 186) (As := [.int 40]) (rest := []) hC lk_RX10_191 kX10 rfl (tX10_is _ _ s12 40) rfl rfl (Nat.le_of_ble_eq_true rfl) ⟨rfl, rfl, by simp only [rrX10_isO] <;> omega, by simp only [rrX10_isO] <;> omega⟩ dX10_isO_186 (fun r13 s14 => ?_)
            refine g_bif_eq (pc := 189) (tgt := 212) hC dX10_isO_189 (by decide) ?_ ?_
            · exact gT_sub [1] rfl (wX10_isO_b212 hC hrec s14 )
            · refine g_aload_n (pc := 192) (q := 1) hC dX10_isO_192 rfl rfl ?_
              refine g_callVz (pc := 193) (As := []) (rest := []) hC lk_RX10_197 kX10 rfl (hrec.2.2.2.2.2 s14 ) rfl rfl (Nat.le_of_ble_eq_true rfl) ⟨rfl, rfl, by simp only [rrX10_isE, rrX10_isO] <;> omega, by simp only [rrX10_isE, rrX10_isO] <;> omega⟩ dX10_isO_193 (fun r19 s20 => ?_)
              refine g_bif_eq (pc := 196) (tgt := 212) hC dX10_isO_196 (by decide) ?_ ?_
              · exact gT_sub [1] rfl (wX10_isO_b212 hC hrec s20 )
              · refine g_aload_n (pc := 199) (q := 1) hC dX10_isO_199 rfl rfl ?_
                refine g_bipush (pc := 200) (v := 41) hC dX10_isO_200 (by decide) ?_
                refine g_callVz (pc := 202) (As := [.int 41]) (rest := []) hC lk_RX10_191 kX10 rfl (tX10_is _ _ s20 41) rfl rfl (Nat.le_of_ble_eq_true rfl) ⟨rfl, rfl, by simp only [rrX10_isO] <;> omega, by simp only [rrX10_isO] <;> omega⟩ dX10_isO_202 (fun r21 s22 => ?_)
                refine g_bif_eq (pc := 205) (tgt := 212) hC dX10_isO_205 (by decide) ?_ ?_
                · exact gT_sub [1] rfl (wX10_isO_b212 hC hrec s22 )
                · refine g_iconst (pc := 208) (v := 1) hC dX10_isO_208 (by decide) ?_
                  refine g_goto (pc := 209) (tgt := 213) hC dX10_isO_209 (by decide) ?_
                  exact gT_sub [1] rfl (wX10_isO_b213 hC hrec s22 1)
          · refine g_aload_n (pc := 158) (q := 1) hC dX10_isO_158 rfl rfl ?_
            refine g_callVz (pc := 159) (As := []) (rest := []) hC lk_RX10_194 kX10 rfl (hrec.1 s12 ) rfl rfl (Nat.le_of_ble_eq_true rfl) ⟨rfl, rfl, by simp only [rrX10_isO, rrX10_isO] <;> omega, by simp only [rrX10_isO, rrX10_isO] <;> omega⟩ dX10_isO_159 (fun r23 s24 => ?_)
            refine g_bif_eq (pc := 162) (tgt := 178) hC dX10_isO_162 (by decide) ?_ ?_
            · exact gT_sub [1] rfl (wX10_isO_b178 hC hrec s24 )
            · refine g_aload_n (pc := 165) (q := 1) hC dX10_isO_165 rfl rfl ?_
              refine g_bipush (pc := 166) (v := 17) hC dX10_isO_166 (by decide) ?_
              refine g_callVz (pc := 168) (As := [.int 17]) (rest := []) hC lk_RX10_181 kX10 rfl (tX10_codes _ _ s24 17) rfl rfl (Nat.le_of_ble_eq_true rfl) ⟨rfl, rfl, by simp only [rrX10_isO] <;> omega, by simp only [rrX10_isO] <;> omega⟩ dX10_isO_168 (fun r27 s28 => ?_)
              refine g_bif_eq (pc := 171) (tgt := 178) hC dX10_isO_171 (by decide) ?_ ?_
              · exact gT_sub [1] rfl (wX10_isO_b178 hC hrec s28 )
              · refine g_iconst (pc := 174) (v := 1) hC dX10_isO_174 (by decide) ?_
                refine g_goto (pc := 175) (tgt := 179) hC dX10_isO_175 (by decide) ?_
                exact gT_sub [1] rfl (wX10_isO_b179 hC hrec s28 1)
        · refine g_aload_n (pc := 124) (q := 1) hC dX10_isO_124 rfl rfl ?_
          refine g_callVz (pc := 125) (As := []) (rest := []) hC lk_RX10_194 kX10 rfl (hrec.1 s10 ) rfl rfl (Nat.le_of_ble_eq_true rfl) ⟨rfl, rfl, by simp only [rrX10_isO, rrX10_isO] <;> omega, by simp only [rrX10_isO, rrX10_isO] <;> omega⟩ dX10_isO_125 (fun r29 s30 => ?_)
          refine g_bif_eq (pc := 128) (tgt := 144) hC dX10_isO_128 (by decide) ?_ ?_
          · exact gT_sub [1] rfl (wX10_isO_b144 hC hrec s30 )
          · refine g_aload_n (pc := 131) (q := 1) hC dX10_isO_131 rfl rfl ?_
            refine g_bipush (pc := 132) (v := 16) hC dX10_isO_132 (by decide) ?_
            refine g_callVz (pc := 134) (As := [.int 16]) (rest := []) hC lk_RX10_181 kX10 rfl (tX10_codes _ _ s30 16) rfl rfl (Nat.le_of_ble_eq_true rfl) ⟨rfl, rfl, by simp only [rrX10_isO] <;> omega, by simp only [rrX10_isO] <;> omega⟩ dX10_isO_134 (fun r33 s34 => ?_)
            refine g_bif_eq (pc := 137) (tgt := 144) hC dX10_isO_137 (by decide) ?_ ?_
            · exact gT_sub [1] rfl (wX10_isO_b144 hC hrec s34 )
            · refine g_iconst (pc := 140) (v := 1) hC dX10_isO_140 (by decide) ?_
              refine g_goto (pc := 141) (tgt := 145) hC dX10_isO_141 (by decide) ?_
              exact gT_sub [1] rfl (wX10_isO_b145 hC hrec s34 1)
      · refine g_iconst (pc := 103) (v := 0) hC dX10_isO_103 (by decide) ?_
        exact g_zret0 (pc := 104) hC dX10_isO_104
    · refine g_aload_n (pc := 78) (q := 1) hC dX10_isO_78 rfl rfl ?_
      refine g_dup (pc := 79) hC dX10_isO_79 rfl ?_
      refine g_get (pc := 80) (v := .int (s6.1 52 17)) hC kX10 rfl 17 (by decide) fl_RX10_167 rfl dX10_isO_80 ?_
      refine g_iconst (pc := 83) (v := 1) hC dX10_isO_83 (by decide) ?_
      refine g_iadd (pc := 84) hC dX10_isO_84 ?_
      refine g_puti (pc := 85) (fty := .int) hC kX10 rfl 17 (by decide) fl_RX10_167 rfl rfl rfl rfl (fun _ _ => Nat.le_of_ble_eq_true rfl) (fun _ _ => rfl) dX10_isO_85 (fun s35 => ?_)
      refine g_aload_n (pc := 88) (q := 1) hC dX10_isO_88 rfl rfl ?_
      refine g_iload_n (pc := 89) (q := 0) hC dX10_isO_89 rfl rfl ?_
      refine g_callVz (pc := 90) (As := [.int v7]) (rest := []) hC lk_RX10_181 kX10 rfl (tX10_codes _ _ s35 v7) rfl rfl (Nat.le_of_ble_eq_true rfl) ⟨rfl, rfl, by simp only [rrX10_isO] <;> omega, by simp only [rrX10_isO] <;> omega⟩ dX10_isO_90 (fun r36 s37 => ?_)
      exact g_zret (pc := 93) hC dX10_isO_93
  · refine g_iconst (pc := 7) (v := 0) hC dX10_isO_7 (by decide) ?_
    refine g_istore_n (pc := 8) (lv' := fun v38 => [(1, .int v38), (0, .ref (G.2.1 52))]) hC dX10_isO_8 rfl (by decide) (fun _ => rfl) (fun v38 => ?_)
    refine g_iconst (pc := 9) (v := 0) hC dX10_isO_9 (by decide) ?_
    refine g_istore_n (pc := 10) (lv' := fun v39 => [(2, .int v39), (1, .int v38), (0, .ref (G.2.1 52))]) hC dX10_isO_10 rfl (by decide) (fun _ => rfl) (fun v39 => ?_)
    exact gT_sub [2, 1, 0] rfl (wX10_isO_b11 hC hrec 1100 s2 v38 v39)
def mX10_isP_b52 (rec : ((gS → Option (Bool × gS)) × (gS → Option (Bool × gS)) × (gS → Option (Bool × gS)) × (gS → Option (Bool × gS)) × (gS → Option (Bool × gS)) × (gS → Option (Bool × gS))))  (k9 : gS → Option (Bool × gS)) (σ : gS) (x9 : Int32) : Option (Bool × gS) := gLet x9 (fun v10 => if 0 ≤ v10 then (gLet (gUI σ 52 17 ((σ.1 52 17) + 1)) (fun s11 => gBind (rec.1 s11 ) (fun r12 s13 => if r12 = true then (gBind (mX10_codes s13 v10) (fun r14 s15 => (k9 s15 ))) else (some (false, s13))))) else (some (true, σ)))
set_option maxHeartbeats 4000000 in
set_option maxRecDepth 100000 in
theorem wX10_isP_b52 {p : Program} {l : Launch} {e : Env} {s : State} {m : MethodId} {args : Array Value} {below : List Frame} {meth : Method} {c : Code} {G : gE} {d : Nat} (hC : gCx p s m args meth c G RX10 cX10_isP 2 (some .boolean)) {rec : ((gS → Option (Bool × gS)) × (gS → Option (Bool × gS)) × (gS → Option (Bool × gS)) × (gS → Option (Bool × gS)) × (gS → Option (Bool × gS)) × (gS → Option (Bool × gS)))} (hrec : (∀ (σ : gS) , gM l G yX10_isO cX10_isO 3 (some .boolean) (rrX10_isO d) iZ [.ref (G.2.1 52)] σ (rec.1 σ )) ∧ (∀ (σ : gS) , gM l G yX10_isP cX10_isP 2 (some .boolean) (rrX10_isP d) iZ [.ref (G.2.1 52)] σ (rec.2.1 σ )) ∧ (∀ (σ : gS) , gM l G yX10_isS cX10_isS 2 (some .boolean) (rrX10_isS d) iZ [.ref (G.2.1 52)] σ (rec.2.2.1 σ )) ∧ (∀ (σ : gS) , gM l G yX10_isB cX10_isB 2 (some .boolean) (rrX10_isB d) iZ [.ref (G.2.1 52)] σ (rec.2.2.2.1 σ )) ∧ (∀ (σ : gS) , gM l G yX10_isA cX10_isA 1 (some .boolean) (rrX10_isA d) iZ [.ref (G.2.1 52)] σ (rec.2.2.2.2.1 σ )) ∧ (∀ (σ : gS) , gM l G yX10_isE cX10_isE 1 (some .boolean) (rrX10_isE d) iZ [.ref (G.2.1 52)] σ (rec.2.2.2.2.2 σ )))   {k9 : gS → Option (Bool × gS)} (hk9 : ∀ (σ : gS) , gT p l e (rrX10_isP (d + 1)) s m args below meth c G 2 iZ σ 9 [(0, .ref (G.2.1 52))] [] (k9 σ )) (σ : gS) (x9 : Int32)  : gT p l e (rrX10_isP (d + 1)) s m args below meth c G 2 iZ σ 52 [(0, .ref (G.2.1 52))] [.int x9] (mX10_isP_b52 rec k9 σ x9) := by
  unfold mX10_isP_b52
  refine g_istore_n (pc := 52) (lv' := fun v10 => [(1, .int v10), (0, .ref (G.2.1 52))]) hC dX10_isP_52 rfl (by decide) (fun _ => rfl) (fun v10 => ?_)
  refine g_iload_n (pc := 53) (q := 0) hC dX10_isP_53 rfl rfl ?_
  refine g_if_ge (pc := 54) (tgt := 59) hC dX10_isP_54 (by decide) ?_ ?_
  · refine g_aload_n (pc := 59) (q := 1) hC dX10_isP_59 rfl rfl ?_
    refine g_dup (pc := 60) hC dX10_isP_60 rfl ?_
    refine g_get (pc := 61) (v := .int (σ.1 52 17)) hC kX10 rfl 17 (by decide) fl_RX10_167 rfl dX10_isP_61 ?_
    refine g_iconst (pc := 64) (v := 1) hC dX10_isP_64 (by decide) ?_
    refine g_iadd (pc := 65) hC dX10_isP_65 ?_
    refine g_puti (pc := 66) (fty := .int) hC kX10 rfl 17 (by decide) fl_RX10_167 rfl rfl rfl rfl (fun _ _ => Nat.le_of_ble_eq_true rfl) (fun _ _ => rfl) dX10_isP_66 (fun s11 => ?_)
    refine g_aload_n (pc := 69) (q := 1) hC dX10_isP_69 rfl rfl ?_
    refine g_callVz (pc := 70) (As := []) (rest := []) hC lk_RX10_194 kX10 rfl (hrec.1 s11 ) rfl rfl (Nat.le_of_ble_eq_true rfl) ⟨rfl, rfl, by simp only [rrX10_isO, rrX10_isP] <;> omega, by simp only [rrX10_isO, rrX10_isP] <;> omega⟩ dX10_isP_70 (fun r12 s13 => ?_)
    refine g_bif_ne (pc := 73) (tgt := 78) hC dX10_isP_73 (by decide) ?_ ?_
    · refine g_aload_n (pc := 78) (q := 1) hC dX10_isP_78 rfl rfl ?_
      refine g_iload_n (pc := 79) (q := 0) hC dX10_isP_79 rfl rfl ?_
      refine g_callVz (pc := 80) (As := [.int v10]) (rest := []) hC lk_RX10_181 kX10 rfl (tX10_codes _ _ s13 v10) rfl rfl (Nat.le_of_ble_eq_true rfl) ⟨rfl, rfl, by simp only [rrX10_isP] <;> omega, by simp only [rrX10_isP] <;> omega⟩ dX10_isP_80 (fun r14 s15 => ?_)
      refine g_pop (pc := 83) hC dX10_isP_83 rfl ?_
      refine g_goto (pc := 84) (tgt := 9) hC dX10_isP_84 (by decide) ?_
      exact gT_sub [1] rfl (hk9 s15 )
    · refine g_iconst (pc := 76) (v := 0) hC dX10_isP_76 (by decide) ?_
      exact g_zret0 (pc := 77) hC dX10_isP_77
  · refine g_iconst (pc := 57) (v := 1) hC dX10_isP_57 (by decide) ?_
    exact g_zret1 (pc := 58) hC dX10_isP_58
def mX10_isP_b9 (rec : ((gS → Option (Bool × gS)) × (gS → Option (Bool × gS)) × (gS → Option (Bool × gS)) × (gS → Option (Bool × gS)) × (gS → Option (Bool × gS)) × (gS → Option (Bool × gS))))   : Nat → gS → Option (Bool × gS)
  | 0, _ => none
  | n + 1, σ => gBind (mX10_sign σ ) (fun r3 s4 => if r3 = 42 then ((mX10_isP_b52 rec (mX10_isP_b9 rec n) s4 13)) else (gBind (mX10_sign s4 ) (fun r5 s6 => if r5 = 47 then ((mX10_isP_b52 rec (mX10_isP_b9 rec n) s6 14)) else (gBind (mX10_sign s6 ) (fun r7 s8 => if r7 = 37 then ((mX10_isP_b52 rec (mX10_isP_b9 rec n) s8 15)) else ((mX10_isP_b52 rec (mX10_isP_b9 rec n) s8 (-1))))))))
set_option maxHeartbeats 4000000 in
set_option maxRecDepth 100000 in
theorem wX10_isP_b9 {p : Program} {l : Launch} {e : Env} {s : State} {m : MethodId} {args : Array Value} {below : List Frame} {meth : Method} {c : Code} {G : gE} {d : Nat} (hC : gCx p s m args meth c G RX10 cX10_isP 2 (some .boolean)) {rec : ((gS → Option (Bool × gS)) × (gS → Option (Bool × gS)) × (gS → Option (Bool × gS)) × (gS → Option (Bool × gS)) × (gS → Option (Bool × gS)) × (gS → Option (Bool × gS)))} (hrec : (∀ (σ : gS) , gM l G yX10_isO cX10_isO 3 (some .boolean) (rrX10_isO d) iZ [.ref (G.2.1 52)] σ (rec.1 σ )) ∧ (∀ (σ : gS) , gM l G yX10_isP cX10_isP 2 (some .boolean) (rrX10_isP d) iZ [.ref (G.2.1 52)] σ (rec.2.1 σ )) ∧ (∀ (σ : gS) , gM l G yX10_isS cX10_isS 2 (some .boolean) (rrX10_isS d) iZ [.ref (G.2.1 52)] σ (rec.2.2.1 σ )) ∧ (∀ (σ : gS) , gM l G yX10_isB cX10_isB 2 (some .boolean) (rrX10_isB d) iZ [.ref (G.2.1 52)] σ (rec.2.2.2.1 σ )) ∧ (∀ (σ : gS) , gM l G yX10_isA cX10_isA 1 (some .boolean) (rrX10_isA d) iZ [.ref (G.2.1 52)] σ (rec.2.2.2.2.1 σ )) ∧ (∀ (σ : gS) , gM l G yX10_isE cX10_isE 1 (some .boolean) (rrX10_isE d) iZ [.ref (G.2.1 52)] σ (rec.2.2.2.2.2 σ )))    (n : Nat) (σ : gS)   : gT p l e (rrX10_isP (d + 1)) s m args below meth c G 2 iZ σ 9 [(0, .ref (G.2.1 52))] [] (mX10_isP_b9 rec n σ ) := by
  induction n generalizing σ  with
  | zero => exact gT_none
  | succ n ih =>
    unfold mX10_isP_b9
    refine g_aload_n (pc := 9) (q := 0) hC dX10_isP_9 rfl rfl ?_
    refine g_callVi (pc := 10) (As := []) (rest := []) hC lk_RX10_170 kX10 rfl (tX10_sign _ _ σ ) rfl rfl (Nat.le_of_ble_eq_true rfl) ⟨rfl, rfl, by simp only [rrX10_isP] <;> omega, by simp only [rrX10_isP] <;> omega⟩ dX10_isP_10 (fun r3 s4 => ?_)
    refine g_bipush (pc := 13) (v := 42) hC dX10_isP_13 (by decide) ?_
    refine g_icmp_ne (pc := 15) (tgt := 23) hC dX10_isP_15 (by decide) ?_ ?_
    · refine g_aload_n (pc := 23) (q := 0) hC dX10_isP_23 rfl rfl ?_
      refine g_callVi (pc := 24) (As := []) (rest := []) hC lk_RX10_170 kX10 rfl (tX10_sign _ _ s4 ) rfl rfl (Nat.le_of_ble_eq_true rfl) ⟨rfl, rfl, by simp only [rrX10_isP] <;> omega, by simp only [rrX10_isP] <;> omega⟩ dX10_isP_24 (fun r5 s6 => ?_)
      refine g_bipush (pc := 27) (v := 47) hC dX10_isP_27 (by decide) ?_
      refine g_icmp_ne (pc := 29) (tgt := 37) hC dX10_isP_29 (by decide) ?_ ?_
      · refine g_aload_n (pc := 37) (q := 0) hC dX10_isP_37 rfl rfl ?_
        refine g_callVi (pc := 38) (As := []) (rest := []) hC lk_RX10_170 kX10 rfl (tX10_sign _ _ s6 ) rfl rfl (Nat.le_of_ble_eq_true rfl) ⟨rfl, rfl, by simp only [rrX10_isP] <;> omega, by simp only [rrX10_isP] <;> omega⟩ dX10_isP_38 (fun r7 s8 => ?_)
        refine g_bipush (pc := 41) (v := 37) hC dX10_isP_41 (by decide) ?_
        refine g_icmp_ne (pc := 43) (tgt := 51) hC dX10_isP_43 (by decide) ?_ ?_
        · refine g_iconst (pc := 51) (v := (-1)) hC dX10_isP_51 (by decide) ?_
          exact gT_sub [0] rfl (wX10_isP_b52 hC hrec ih s8 (-1))
        · refine g_bipush (pc := 46) (v := 15) hC dX10_isP_46 (by decide) ?_
          refine g_goto (pc := 48) (tgt := 52) hC dX10_isP_48 (by decide) ?_
          exact gT_sub [0] rfl (wX10_isP_b52 hC hrec ih s8 15)
      · refine g_bipush (pc := 32) (v := 14) hC dX10_isP_32 (by decide) ?_
        refine g_goto (pc := 34) (tgt := 52) hC dX10_isP_34 (by decide) ?_
        exact gT_sub [0] rfl (wX10_isP_b52 hC hrec ih s6 14)
    · refine g_bipush (pc := 18) (v := 13) hC dX10_isP_18 (by decide) ?_
      refine g_goto (pc := 20) (tgt := 52) hC dX10_isP_20 (by decide) ?_
      exact gT_sub [0] rfl (wX10_isP_b52 hC hrec ih s4 13)
def mrX10_isP (rec : ((gS → Option (Bool × gS)) × (gS → Option (Bool × gS)) × (gS → Option (Bool × gS)) × (gS → Option (Bool × gS)) × (gS → Option (Bool × gS)) × (gS → Option (Bool × gS)))) (σ : gS)  : Option (Bool × gS) := gBind (rec.1 σ ) (fun r1 s2 => if r1 = true then ((mX10_isP_b9 rec 1100 s2 )) else (some (false, s2)))
set_option maxHeartbeats 4000000 in
set_option maxRecDepth 100000 in
theorem trX10_isP {l : Launch} {G : gE} {d : Nat} {rec : ((gS → Option (Bool × gS)) × (gS → Option (Bool × gS)) × (gS → Option (Bool × gS)) × (gS → Option (Bool × gS)) × (gS → Option (Bool × gS)) × (gS → Option (Bool × gS)))} (hrec : (∀ (σ : gS) , gM l G yX10_isO cX10_isO 3 (some .boolean) (rrX10_isO d) iZ [.ref (G.2.1 52)] σ (rec.1 σ )) ∧ (∀ (σ : gS) , gM l G yX10_isP cX10_isP 2 (some .boolean) (rrX10_isP d) iZ [.ref (G.2.1 52)] σ (rec.2.1 σ )) ∧ (∀ (σ : gS) , gM l G yX10_isS cX10_isS 2 (some .boolean) (rrX10_isS d) iZ [.ref (G.2.1 52)] σ (rec.2.2.1 σ )) ∧ (∀ (σ : gS) , gM l G yX10_isB cX10_isB 2 (some .boolean) (rrX10_isB d) iZ [.ref (G.2.1 52)] σ (rec.2.2.2.1 σ )) ∧ (∀ (σ : gS) , gM l G yX10_isA cX10_isA 1 (some .boolean) (rrX10_isA d) iZ [.ref (G.2.1 52)] σ (rec.2.2.2.2.1 σ )) ∧ (∀ (σ : gS) , gM l G yX10_isE cX10_isE 1 (some .boolean) (rrX10_isE d) iZ [.ref (G.2.1 52)] σ (rec.2.2.2.2.2 σ ))) : ∀ (σ : gS) , gM l G yX10_isP cX10_isP 2 (some .boolean) (rrX10_isP (d + 1)) iZ [.ref (G.2.1 52)] σ (mrX10_isP rec σ ) := by
  intro σ 
  refine gM_of (by decide) (Nat.le_of_ble_eq_true rfl) ?_
  intro p e s m args below meth c hC
  unfold mrX10_isP
  show gT p l e (rrX10_isP (d + 1)) s m args below meth c G 2 iZ σ 0 [(0, .ref (G.2.1 52))] [] _
  refine g_aload_n (pc := 0) (q := 0) hC dX10_isP_0 rfl rfl ?_
  refine g_callVz (pc := 1) (As := []) (rest := []) hC lk_RX10_194 kX10 rfl (hrec.1 σ ) rfl rfl (Nat.le_of_ble_eq_true rfl) ⟨rfl, rfl, by simp only [rrX10_isO, rrX10_isP] <;> omega, by simp only [rrX10_isO, rrX10_isP] <;> omega⟩ dX10_isP_1 (fun r1 s2 => ?_)
  refine g_bif_ne (pc := 4) (tgt := 9) hC dX10_isP_4 (by decide) ?_ ?_
  · exact gT_sub [0] rfl (wX10_isP_b9 hC hrec 1100 s2 )
  · refine g_iconst (pc := 7) (v := 0) hC dX10_isP_7 (by decide) ?_
    exact g_zret0 (pc := 8) hC dX10_isP_8
def mX10_isS_b38 (rec : ((gS → Option (Bool × gS)) × (gS → Option (Bool × gS)) × (gS → Option (Bool × gS)) × (gS → Option (Bool × gS)) × (gS → Option (Bool × gS)) × (gS → Option (Bool × gS))))  (k9 : gS → Option (Bool × gS)) (σ : gS) (x7 : Int32) : Option (Bool × gS) := gLet x7 (fun v8 => if 0 ≤ v8 then (gLet (gUI σ 52 17 ((σ.1 52 17) + 1)) (fun s9 => gBind (rec.2.1 s9 ) (fun r10 s11 => if r10 = true then (gBind (mX10_codes s11 v8) (fun r12 s13 => (k9 s13 ))) else (some (false, s11))))) else (some (true, σ)))
set_option maxHeartbeats 4000000 in
set_option maxRecDepth 100000 in
theorem wX10_isS_b38 {p : Program} {l : Launch} {e : Env} {s : State} {m : MethodId} {args : Array Value} {below : List Frame} {meth : Method} {c : Code} {G : gE} {d : Nat} (hC : gCx p s m args meth c G RX10 cX10_isS 2 (some .boolean)) {rec : ((gS → Option (Bool × gS)) × (gS → Option (Bool × gS)) × (gS → Option (Bool × gS)) × (gS → Option (Bool × gS)) × (gS → Option (Bool × gS)) × (gS → Option (Bool × gS)))} (hrec : (∀ (σ : gS) , gM l G yX10_isO cX10_isO 3 (some .boolean) (rrX10_isO d) iZ [.ref (G.2.1 52)] σ (rec.1 σ )) ∧ (∀ (σ : gS) , gM l G yX10_isP cX10_isP 2 (some .boolean) (rrX10_isP d) iZ [.ref (G.2.1 52)] σ (rec.2.1 σ )) ∧ (∀ (σ : gS) , gM l G yX10_isS cX10_isS 2 (some .boolean) (rrX10_isS d) iZ [.ref (G.2.1 52)] σ (rec.2.2.1 σ )) ∧ (∀ (σ : gS) , gM l G yX10_isB cX10_isB 2 (some .boolean) (rrX10_isB d) iZ [.ref (G.2.1 52)] σ (rec.2.2.2.1 σ )) ∧ (∀ (σ : gS) , gM l G yX10_isA cX10_isA 1 (some .boolean) (rrX10_isA d) iZ [.ref (G.2.1 52)] σ (rec.2.2.2.2.1 σ )) ∧ (∀ (σ : gS) , gM l G yX10_isE cX10_isE 1 (some .boolean) (rrX10_isE d) iZ [.ref (G.2.1 52)] σ (rec.2.2.2.2.2 σ )))   {k9 : gS → Option (Bool × gS)} (hk9 : ∀ (σ : gS) , gT p l e (rrX10_isS (d + 1)) s m args below meth c G 2 iZ σ 9 [(0, .ref (G.2.1 52))] [] (k9 σ )) (σ : gS) (x7 : Int32)  : gT p l e (rrX10_isS (d + 1)) s m args below meth c G 2 iZ σ 38 [(0, .ref (G.2.1 52))] [.int x7] (mX10_isS_b38 rec k9 σ x7) := by
  unfold mX10_isS_b38
  refine g_istore_n (pc := 38) (lv' := fun v8 => [(1, .int v8), (0, .ref (G.2.1 52))]) hC dX10_isS_38 rfl (by decide) (fun _ => rfl) (fun v8 => ?_)
  refine g_iload_n (pc := 39) (q := 0) hC dX10_isS_39 rfl rfl ?_
  refine g_if_ge (pc := 40) (tgt := 45) hC dX10_isS_40 (by decide) ?_ ?_
  · refine g_aload_n (pc := 45) (q := 1) hC dX10_isS_45 rfl rfl ?_
    refine g_dup (pc := 46) hC dX10_isS_46 rfl ?_
    refine g_get (pc := 47) (v := .int (σ.1 52 17)) hC kX10 rfl 17 (by decide) fl_RX10_167 rfl dX10_isS_47 ?_
    refine g_iconst (pc := 50) (v := 1) hC dX10_isS_50 (by decide) ?_
    refine g_iadd (pc := 51) hC dX10_isS_51 ?_
    refine g_puti (pc := 52) (fty := .int) hC kX10 rfl 17 (by decide) fl_RX10_167 rfl rfl rfl rfl (fun _ _ => Nat.le_of_ble_eq_true rfl) (fun _ _ => rfl) dX10_isS_52 (fun s9 => ?_)
    refine g_aload_n (pc := 55) (q := 1) hC dX10_isS_55 rfl rfl ?_
    refine g_callVz (pc := 56) (As := []) (rest := []) hC lk_RX10_200 kX10 rfl (hrec.2.1 s9 ) rfl rfl (Nat.le_of_ble_eq_true rfl) ⟨rfl, rfl, by simp only [rrX10_isP, rrX10_isS] <;> omega, by simp only [rrX10_isP, rrX10_isS] <;> omega⟩ dX10_isS_56 (fun r10 s11 => ?_)
    refine g_bif_ne (pc := 59) (tgt := 64) hC dX10_isS_59 (by decide) ?_ ?_
    · refine g_aload_n (pc := 64) (q := 1) hC dX10_isS_64 rfl rfl ?_
      refine g_iload_n (pc := 65) (q := 0) hC dX10_isS_65 rfl rfl ?_
      refine g_callVz (pc := 66) (As := [.int v8]) (rest := []) hC lk_RX10_181 kX10 rfl (tX10_codes _ _ s11 v8) rfl rfl (Nat.le_of_ble_eq_true rfl) ⟨rfl, rfl, by simp only [rrX10_isS] <;> omega, by simp only [rrX10_isS] <;> omega⟩ dX10_isS_66 (fun r12 s13 => ?_)
      refine g_pop (pc := 69) hC dX10_isS_69 rfl ?_
      refine g_goto (pc := 70) (tgt := 9) hC dX10_isS_70 (by decide) ?_
      exact gT_sub [1] rfl (hk9 s13 )
    · refine g_iconst (pc := 62) (v := 0) hC dX10_isS_62 (by decide) ?_
      exact g_zret0 (pc := 63) hC dX10_isS_63
  · refine g_iconst (pc := 43) (v := 1) hC dX10_isS_43 (by decide) ?_
    exact g_zret1 (pc := 44) hC dX10_isS_44
def mX10_isS_b9 (rec : ((gS → Option (Bool × gS)) × (gS → Option (Bool × gS)) × (gS → Option (Bool × gS)) × (gS → Option (Bool × gS)) × (gS → Option (Bool × gS)) × (gS → Option (Bool × gS))))   : Nat → gS → Option (Bool × gS)
  | 0, _ => none
  | n + 1, σ => gBind (mX10_sign σ ) (fun r3 s4 => if r3 = 43 then ((mX10_isS_b38 rec (mX10_isS_b9 rec n) s4 11)) else (gBind (mX10_sign s4 ) (fun r5 s6 => if r5 = 45 then ((mX10_isS_b38 rec (mX10_isS_b9 rec n) s6 12)) else ((mX10_isS_b38 rec (mX10_isS_b9 rec n) s6 (-1))))))
set_option maxHeartbeats 4000000 in
set_option maxRecDepth 100000 in
theorem wX10_isS_b9 {p : Program} {l : Launch} {e : Env} {s : State} {m : MethodId} {args : Array Value} {below : List Frame} {meth : Method} {c : Code} {G : gE} {d : Nat} (hC : gCx p s m args meth c G RX10 cX10_isS 2 (some .boolean)) {rec : ((gS → Option (Bool × gS)) × (gS → Option (Bool × gS)) × (gS → Option (Bool × gS)) × (gS → Option (Bool × gS)) × (gS → Option (Bool × gS)) × (gS → Option (Bool × gS)))} (hrec : (∀ (σ : gS) , gM l G yX10_isO cX10_isO 3 (some .boolean) (rrX10_isO d) iZ [.ref (G.2.1 52)] σ (rec.1 σ )) ∧ (∀ (σ : gS) , gM l G yX10_isP cX10_isP 2 (some .boolean) (rrX10_isP d) iZ [.ref (G.2.1 52)] σ (rec.2.1 σ )) ∧ (∀ (σ : gS) , gM l G yX10_isS cX10_isS 2 (some .boolean) (rrX10_isS d) iZ [.ref (G.2.1 52)] σ (rec.2.2.1 σ )) ∧ (∀ (σ : gS) , gM l G yX10_isB cX10_isB 2 (some .boolean) (rrX10_isB d) iZ [.ref (G.2.1 52)] σ (rec.2.2.2.1 σ )) ∧ (∀ (σ : gS) , gM l G yX10_isA cX10_isA 1 (some .boolean) (rrX10_isA d) iZ [.ref (G.2.1 52)] σ (rec.2.2.2.2.1 σ )) ∧ (∀ (σ : gS) , gM l G yX10_isE cX10_isE 1 (some .boolean) (rrX10_isE d) iZ [.ref (G.2.1 52)] σ (rec.2.2.2.2.2 σ )))    (n : Nat) (σ : gS)   : gT p l e (rrX10_isS (d + 1)) s m args below meth c G 2 iZ σ 9 [(0, .ref (G.2.1 52))] [] (mX10_isS_b9 rec n σ ) := by
  induction n generalizing σ  with
  | zero => exact gT_none
  | succ n ih =>
    unfold mX10_isS_b9
    refine g_aload_n (pc := 9) (q := 0) hC dX10_isS_9 rfl rfl ?_
    refine g_callVi (pc := 10) (As := []) (rest := []) hC lk_RX10_170 kX10 rfl (tX10_sign _ _ σ ) rfl rfl (Nat.le_of_ble_eq_true rfl) ⟨rfl, rfl, by simp only [rrX10_isS] <;> omega, by simp only [rrX10_isS] <;> omega⟩ dX10_isS_10 (fun r3 s4 => ?_)
    refine g_bipush (pc := 13) (v := 43) hC dX10_isS_13 (by decide) ?_
    refine g_icmp_ne (pc := 15) (tgt := 23) hC dX10_isS_15 (by decide) ?_ ?_
    · refine g_aload_n (pc := 23) (q := 0) hC dX10_isS_23 rfl rfl ?_
      refine g_callVi (pc := 24) (As := []) (rest := []) hC lk_RX10_170 kX10 rfl (tX10_sign _ _ s4 ) rfl rfl (Nat.le_of_ble_eq_true rfl) ⟨rfl, rfl, by simp only [rrX10_isS] <;> omega, by simp only [rrX10_isS] <;> omega⟩ dX10_isS_24 (fun r5 s6 => ?_)
      refine g_bipush (pc := 27) (v := 45) hC dX10_isS_27 (by decide) ?_
      refine g_icmp_ne (pc := 29) (tgt := 37) hC dX10_isS_29 (by decide) ?_ ?_
      · refine g_iconst (pc := 37) (v := (-1)) hC dX10_isS_37 (by decide) ?_
        exact gT_sub [0] rfl (wX10_isS_b38 hC hrec ih s6 (-1))
      · refine g_bipush (pc := 32) (v := 12) hC dX10_isS_32 (by decide) ?_
        refine g_goto (pc := 34) (tgt := 38) hC dX10_isS_34 (by decide) ?_
        exact gT_sub [0] rfl (wX10_isS_b38 hC hrec ih s6 12)
    · refine g_bipush (pc := 18) (v := 11) hC dX10_isS_18 (by decide) ?_
      refine g_goto (pc := 20) (tgt := 38) hC dX10_isS_20 (by decide) ?_
      exact gT_sub [0] rfl (wX10_isS_b38 hC hrec ih s4 11)
def mrX10_isS (rec : ((gS → Option (Bool × gS)) × (gS → Option (Bool × gS)) × (gS → Option (Bool × gS)) × (gS → Option (Bool × gS)) × (gS → Option (Bool × gS)) × (gS → Option (Bool × gS)))) (σ : gS)  : Option (Bool × gS) := gBind (rec.2.1 σ ) (fun r1 s2 => if r1 = true then ((mX10_isS_b9 rec 1100 s2 )) else (some (false, s2)))
set_option maxHeartbeats 4000000 in
set_option maxRecDepth 100000 in
theorem trX10_isS {l : Launch} {G : gE} {d : Nat} {rec : ((gS → Option (Bool × gS)) × (gS → Option (Bool × gS)) × (gS → Option (Bool × gS)) × (gS → Option (Bool × gS)) × (gS → Option (Bool × gS)) × (gS → Option (Bool × gS)))} (hrec : (∀ (σ : gS) , gM l G yX10_isO cX10_isO 3 (some .boolean) (rrX10_isO d) iZ [.ref (G.2.1 52)] σ (rec.1 σ )) ∧ (∀ (σ : gS) , gM l G yX10_isP cX10_isP 2 (some .boolean) (rrX10_isP d) iZ [.ref (G.2.1 52)] σ (rec.2.1 σ )) ∧ (∀ (σ : gS) , gM l G yX10_isS cX10_isS 2 (some .boolean) (rrX10_isS d) iZ [.ref (G.2.1 52)] σ (rec.2.2.1 σ )) ∧ (∀ (σ : gS) , gM l G yX10_isB cX10_isB 2 (some .boolean) (rrX10_isB d) iZ [.ref (G.2.1 52)] σ (rec.2.2.2.1 σ )) ∧ (∀ (σ : gS) , gM l G yX10_isA cX10_isA 1 (some .boolean) (rrX10_isA d) iZ [.ref (G.2.1 52)] σ (rec.2.2.2.2.1 σ )) ∧ (∀ (σ : gS) , gM l G yX10_isE cX10_isE 1 (some .boolean) (rrX10_isE d) iZ [.ref (G.2.1 52)] σ (rec.2.2.2.2.2 σ ))) : ∀ (σ : gS) , gM l G yX10_isS cX10_isS 2 (some .boolean) (rrX10_isS (d + 1)) iZ [.ref (G.2.1 52)] σ (mrX10_isS rec σ ) := by
  intro σ 
  refine gM_of (by decide) (Nat.le_of_ble_eq_true rfl) ?_
  intro p e s m args below meth c hC
  unfold mrX10_isS
  show gT p l e (rrX10_isS (d + 1)) s m args below meth c G 2 iZ σ 0 [(0, .ref (G.2.1 52))] [] _
  refine g_aload_n (pc := 0) (q := 0) hC dX10_isS_0 rfl rfl ?_
  refine g_callVz (pc := 1) (As := []) (rest := []) hC lk_RX10_200 kX10 rfl (hrec.2.1 σ ) rfl rfl (Nat.le_of_ble_eq_true rfl) ⟨rfl, rfl, by simp only [rrX10_isP, rrX10_isS] <;> omega, by simp only [rrX10_isP, rrX10_isS] <;> omega⟩ dX10_isS_1 (fun r1 s2 => ?_)
  refine g_bif_ne (pc := 4) (tgt := 9) hC dX10_isS_4 (by decide) ?_ ?_
  · exact gT_sub [0] rfl (wX10_isS_b9 hC hrec 1100 s2 )
  · refine g_iconst (pc := 7) (v := 0) hC dX10_isS_7 (by decide) ?_
    exact g_zret0 (pc := 8) hC dX10_isS_8
def mX10_isB_b52 (rec : ((gS → Option (Bool × gS)) × (gS → Option (Bool × gS)) × (gS → Option (Bool × gS)) × (gS → Option (Bool × gS)) × (gS → Option (Bool × gS)) × (gS → Option (Bool × gS))))   (σ : gS) (x9 : Int32) : Option (Bool × gS) := gLet x9 (fun v10 => if 0 ≤ v10 then (gLet (gUI σ 52 17 ((σ.1 52 17) + 1)) (fun s11 => gBind (rec.2.2.1 s11 ) (fun r12 s13 => if r12 = true then (gBind (mX10_codes s13 v10) (fun r14 s15 => if r14 = true then (some (true, s15)) else (some (false, s15)))) else (some (false, s13))))) else (some (true, σ)))
set_option maxHeartbeats 4000000 in
set_option maxRecDepth 100000 in
theorem wX10_isB_b52 {p : Program} {l : Launch} {e : Env} {s : State} {m : MethodId} {args : Array Value} {below : List Frame} {meth : Method} {c : Code} {G : gE} {d : Nat} (hC : gCx p s m args meth c G RX10 cX10_isB 2 (some .boolean)) {rec : ((gS → Option (Bool × gS)) × (gS → Option (Bool × gS)) × (gS → Option (Bool × gS)) × (gS → Option (Bool × gS)) × (gS → Option (Bool × gS)) × (gS → Option (Bool × gS)))} (hrec : (∀ (σ : gS) , gM l G yX10_isO cX10_isO 3 (some .boolean) (rrX10_isO d) iZ [.ref (G.2.1 52)] σ (rec.1 σ )) ∧ (∀ (σ : gS) , gM l G yX10_isP cX10_isP 2 (some .boolean) (rrX10_isP d) iZ [.ref (G.2.1 52)] σ (rec.2.1 σ )) ∧ (∀ (σ : gS) , gM l G yX10_isS cX10_isS 2 (some .boolean) (rrX10_isS d) iZ [.ref (G.2.1 52)] σ (rec.2.2.1 σ )) ∧ (∀ (σ : gS) , gM l G yX10_isB cX10_isB 2 (some .boolean) (rrX10_isB d) iZ [.ref (G.2.1 52)] σ (rec.2.2.2.1 σ )) ∧ (∀ (σ : gS) , gM l G yX10_isA cX10_isA 1 (some .boolean) (rrX10_isA d) iZ [.ref (G.2.1 52)] σ (rec.2.2.2.2.1 σ )) ∧ (∀ (σ : gS) , gM l G yX10_isE cX10_isE 1 (some .boolean) (rrX10_isE d) iZ [.ref (G.2.1 52)] σ (rec.2.2.2.2.2 σ )))    (σ : gS) (x9 : Int32)  : gT p l e (rrX10_isB (d + 1)) s m args below meth c G 2 iZ σ 52 [(0, .ref (G.2.1 52))] [.int x9] (mX10_isB_b52 rec σ x9) := by
  unfold mX10_isB_b52
  refine g_istore_n (pc := 52) (lv' := fun v10 => [(1, .int v10), (0, .ref (G.2.1 52))]) hC dX10_isB_52 rfl (by decide) (fun _ => rfl) (fun v10 => ?_)
  refine g_iload_n (pc := 53) (q := 0) hC dX10_isB_53 rfl rfl ?_
  refine g_if_ge (pc := 54) (tgt := 59) hC dX10_isB_54 (by decide) ?_ ?_
  · refine g_aload_n (pc := 59) (q := 1) hC dX10_isB_59 rfl rfl ?_
    refine g_dup (pc := 60) hC dX10_isB_60 rfl ?_
    refine g_get (pc := 61) (v := .int (σ.1 52 17)) hC kX10 rfl 17 (by decide) fl_RX10_167 rfl dX10_isB_61 ?_
    refine g_iconst (pc := 64) (v := 1) hC dX10_isB_64 (by decide) ?_
    refine g_iadd (pc := 65) hC dX10_isB_65 ?_
    refine g_puti (pc := 66) (fty := .int) hC kX10 rfl 17 (by decide) fl_RX10_167 rfl rfl rfl rfl (fun _ _ => Nat.le_of_ble_eq_true rfl) (fun _ _ => rfl) dX10_isB_66 (fun s11 => ?_)
    refine g_aload_n (pc := 69) (q := 1) hC dX10_isB_69 rfl rfl ?_
    refine g_callVz (pc := 70) (As := []) (rest := []) hC lk_RX10_203 kX10 rfl (hrec.2.2.1 s11 ) rfl rfl (Nat.le_of_ble_eq_true rfl) ⟨rfl, rfl, by simp only [rrX10_isS, rrX10_isB] <;> omega, by simp only [rrX10_isS, rrX10_isB] <;> omega⟩ dX10_isB_70 (fun r12 s13 => ?_)
    refine g_bif_eq (pc := 73) (tgt := 88) hC dX10_isB_73 (by decide) ?_ ?_
    · refine g_iconst (pc := 88) (v := 0) hC dX10_isB_88 (by decide) ?_
      exact g_zret0 (pc := 89) hC dX10_isB_89
    · refine g_aload_n (pc := 76) (q := 1) hC dX10_isB_76 rfl rfl ?_
      refine g_iload_n (pc := 77) (q := 0) hC dX10_isB_77 rfl rfl ?_
      refine g_callVz (pc := 78) (As := [.int v10]) (rest := []) hC lk_RX10_181 kX10 rfl (tX10_codes _ _ s13 v10) rfl rfl (Nat.le_of_ble_eq_true rfl) ⟨rfl, rfl, by simp only [rrX10_isB] <;> omega, by simp only [rrX10_isB] <;> omega⟩ dX10_isB_78 (fun r14 s15 => ?_)
      refine g_bif_eq (pc := 81) (tgt := 88) hC dX10_isB_81 (by decide) ?_ ?_
      · refine g_iconst (pc := 88) (v := 0) hC dX10_isB_88 (by decide) ?_
        exact g_zret0 (pc := 89) hC dX10_isB_89
      · refine g_iconst (pc := 84) (v := 1) hC dX10_isB_84 (by decide) ?_
        refine g_goto (pc := 85) (tgt := 89) hC dX10_isB_85 (by decide) ?_
        exact g_zret1 (pc := 89) hC dX10_isB_89
  · refine g_iconst (pc := 57) (v := 1) hC dX10_isB_57 (by decide) ?_
    exact g_zret1 (pc := 58) hC dX10_isB_58
def mrX10_isB (rec : ((gS → Option (Bool × gS)) × (gS → Option (Bool × gS)) × (gS → Option (Bool × gS)) × (gS → Option (Bool × gS)) × (gS → Option (Bool × gS)) × (gS → Option (Bool × gS)))) (σ : gS)  : Option (Bool × gS) := gBind (rec.2.2.1 σ ) (fun r1 s2 => if r1 = true then (gBind (mX10_sign s2 ) (fun r3 s4 => if r3 = 60 then ((mX10_isB_b52 rec s4 8)) else (gBind (mX10_sign s4 ) (fun r5 s6 => if r5 = 61 then ((mX10_isB_b52 rec s6 9)) else (gBind (mX10_sign s6 ) (fun r7 s8 => if r7 = 62 then ((mX10_isB_b52 rec s8 10)) else ((mX10_isB_b52 rec s8 (-1))))))))) else (some (false, s2)))
set_option maxHeartbeats 4000000 in
set_option maxRecDepth 100000 in
theorem trX10_isB {l : Launch} {G : gE} {d : Nat} {rec : ((gS → Option (Bool × gS)) × (gS → Option (Bool × gS)) × (gS → Option (Bool × gS)) × (gS → Option (Bool × gS)) × (gS → Option (Bool × gS)) × (gS → Option (Bool × gS)))} (hrec : (∀ (σ : gS) , gM l G yX10_isO cX10_isO 3 (some .boolean) (rrX10_isO d) iZ [.ref (G.2.1 52)] σ (rec.1 σ )) ∧ (∀ (σ : gS) , gM l G yX10_isP cX10_isP 2 (some .boolean) (rrX10_isP d) iZ [.ref (G.2.1 52)] σ (rec.2.1 σ )) ∧ (∀ (σ : gS) , gM l G yX10_isS cX10_isS 2 (some .boolean) (rrX10_isS d) iZ [.ref (G.2.1 52)] σ (rec.2.2.1 σ )) ∧ (∀ (σ : gS) , gM l G yX10_isB cX10_isB 2 (some .boolean) (rrX10_isB d) iZ [.ref (G.2.1 52)] σ (rec.2.2.2.1 σ )) ∧ (∀ (σ : gS) , gM l G yX10_isA cX10_isA 1 (some .boolean) (rrX10_isA d) iZ [.ref (G.2.1 52)] σ (rec.2.2.2.2.1 σ )) ∧ (∀ (σ : gS) , gM l G yX10_isE cX10_isE 1 (some .boolean) (rrX10_isE d) iZ [.ref (G.2.1 52)] σ (rec.2.2.2.2.2 σ ))) : ∀ (σ : gS) , gM l G yX10_isB cX10_isB 2 (some .boolean) (rrX10_isB (d + 1)) iZ [.ref (G.2.1 52)] σ (mrX10_isB rec σ ) := by
  intro σ 
  refine gM_of (by decide) (Nat.le_of_ble_eq_true rfl) ?_
  intro p e s m args below meth c hC
  unfold mrX10_isB
  show gT p l e (rrX10_isB (d + 1)) s m args below meth c G 2 iZ σ 0 [(0, .ref (G.2.1 52))] [] _
  refine g_aload_n (pc := 0) (q := 0) hC dX10_isB_0 rfl rfl ?_
  refine g_callVz (pc := 1) (As := []) (rest := []) hC lk_RX10_203 kX10 rfl (hrec.2.2.1 σ ) rfl rfl (Nat.le_of_ble_eq_true rfl) ⟨rfl, rfl, by simp only [rrX10_isS, rrX10_isB] <;> omega, by simp only [rrX10_isS, rrX10_isB] <;> omega⟩ dX10_isB_1 (fun r1 s2 => ?_)
  refine g_bif_ne (pc := 4) (tgt := 9) hC dX10_isB_4 (by decide) ?_ ?_
  · refine g_aload_n (pc := 9) (q := 0) hC dX10_isB_9 rfl rfl ?_
    refine g_callVi (pc := 10) (As := []) (rest := []) hC lk_RX10_170 kX10 rfl (tX10_sign _ _ s2 ) rfl rfl (Nat.le_of_ble_eq_true rfl) ⟨rfl, rfl, by simp only [rrX10_isB] <;> omega, by simp only [rrX10_isB] <;> omega⟩ dX10_isB_10 (fun r3 s4 => ?_)
    refine g_bipush (pc := 13) (v := 60) hC dX10_isB_13 (by decide) ?_
    refine g_icmp_ne (pc := 15) (tgt := 23) hC dX10_isB_15 (by decide) ?_ ?_
    · refine g_aload_n (pc := 23) (q := 0) hC dX10_isB_23 rfl rfl ?_
      refine g_callVi (pc := 24) (As := []) (rest := []) hC lk_RX10_170 kX10 rfl (tX10_sign _ _ s4 ) rfl rfl (Nat.le_of_ble_eq_true rfl) ⟨rfl, rfl, by simp only [rrX10_isB] <;> omega, by simp only [rrX10_isB] <;> omega⟩ dX10_isB_24 (fun r5 s6 => ?_)
      refine g_bipush (pc := 27) (v := 61) hC dX10_isB_27 (by decide) ?_
      refine g_icmp_ne (pc := 29) (tgt := 37) hC dX10_isB_29 (by decide) ?_ ?_
      · refine g_aload_n (pc := 37) (q := 0) hC dX10_isB_37 rfl rfl ?_
        refine g_callVi (pc := 38) (As := []) (rest := []) hC lk_RX10_170 kX10 rfl (tX10_sign _ _ s6 ) rfl rfl (Nat.le_of_ble_eq_true rfl) ⟨rfl, rfl, by simp only [rrX10_isB] <;> omega, by simp only [rrX10_isB] <;> omega⟩ dX10_isB_38 (fun r7 s8 => ?_)
        refine g_bipush (pc := 41) (v := 62) hC dX10_isB_41 (by decide) ?_
        refine g_icmp_ne (pc := 43) (tgt := 51) hC dX10_isB_43 (by decide) ?_ ?_
        · refine g_iconst (pc := 51) (v := (-1)) hC dX10_isB_51 (by decide) ?_
          exact gT_sub [0] rfl (wX10_isB_b52 hC hrec s8 (-1))
        · refine g_bipush (pc := 46) (v := 10) hC dX10_isB_46 (by decide) ?_
          refine g_goto (pc := 48) (tgt := 52) hC dX10_isB_48 (by decide) ?_
          exact gT_sub [0] rfl (wX10_isB_b52 hC hrec s8 10)
      · refine g_bipush (pc := 32) (v := 9) hC dX10_isB_32 (by decide) ?_
        refine g_goto (pc := 34) (tgt := 52) hC dX10_isB_34 (by decide) ?_
        exact gT_sub [0] rfl (wX10_isB_b52 hC hrec s6 9)
    · refine g_bipush (pc := 18) (v := 8) hC dX10_isB_18 (by decide) ?_
      refine g_goto (pc := 20) (tgt := 52) hC dX10_isB_20 (by decide) ?_
      exact gT_sub [0] rfl (wX10_isB_b52 hC hrec s4 8)
  · refine g_iconst (pc := 7) (v := 0) hC dX10_isB_7 (by decide) ?_
    exact g_zret0 (pc := 8) hC dX10_isB_8
def mX10_isA_b9 (rec : ((gS → Option (Bool × gS)) × (gS → Option (Bool × gS)) × (gS → Option (Bool × gS)) × (gS → Option (Bool × gS)) × (gS → Option (Bool × gS)) × (gS → Option (Bool × gS))))   : Nat → gS → Option (Bool × gS)
  | 0, _ => none
  | n + 1, σ => gBind (mX10_is σ 38) (fun r3 s4 => if r3 = true then (gBind (rec.2.2.2.1 s4 ) (fun r5 s6 => if r5 = true then (gBind (mX10_codes s6 7) (fun r7 s8 => ((mX10_isA_b9 rec n) s8 ))) else (some (false, s6)))) else (some (true, s4)))
set_option maxHeartbeats 4000000 in
set_option maxRecDepth 100000 in
theorem wX10_isA_b9 {p : Program} {l : Launch} {e : Env} {s : State} {m : MethodId} {args : Array Value} {below : List Frame} {meth : Method} {c : Code} {G : gE} {d : Nat} (hC : gCx p s m args meth c G RX10 cX10_isA 1 (some .boolean)) {rec : ((gS → Option (Bool × gS)) × (gS → Option (Bool × gS)) × (gS → Option (Bool × gS)) × (gS → Option (Bool × gS)) × (gS → Option (Bool × gS)) × (gS → Option (Bool × gS)))} (hrec : (∀ (σ : gS) , gM l G yX10_isO cX10_isO 3 (some .boolean) (rrX10_isO d) iZ [.ref (G.2.1 52)] σ (rec.1 σ )) ∧ (∀ (σ : gS) , gM l G yX10_isP cX10_isP 2 (some .boolean) (rrX10_isP d) iZ [.ref (G.2.1 52)] σ (rec.2.1 σ )) ∧ (∀ (σ : gS) , gM l G yX10_isS cX10_isS 2 (some .boolean) (rrX10_isS d) iZ [.ref (G.2.1 52)] σ (rec.2.2.1 σ )) ∧ (∀ (σ : gS) , gM l G yX10_isB cX10_isB 2 (some .boolean) (rrX10_isB d) iZ [.ref (G.2.1 52)] σ (rec.2.2.2.1 σ )) ∧ (∀ (σ : gS) , gM l G yX10_isA cX10_isA 1 (some .boolean) (rrX10_isA d) iZ [.ref (G.2.1 52)] σ (rec.2.2.2.2.1 σ )) ∧ (∀ (σ : gS) , gM l G yX10_isE cX10_isE 1 (some .boolean) (rrX10_isE d) iZ [.ref (G.2.1 52)] σ (rec.2.2.2.2.2 σ )))    (n : Nat) (σ : gS)   : gT p l e (rrX10_isA (d + 1)) s m args below meth c G 1 iZ σ 9 [(0, .ref (G.2.1 52))] [] (mX10_isA_b9 rec n σ ) := by
  induction n generalizing σ  with
  | zero => exact gT_none
  | succ n ih =>
    unfold mX10_isA_b9
    refine g_aload_n (pc := 9) (q := 0) hC dX10_isA_9 rfl rfl ?_
    refine g_bipush (pc := 10) (v := 38) hC dX10_isA_10 (by decide) ?_
    refine g_callVz (pc := 12) (As := [.int 38]) (rest := []) hC lk_RX10_191 kX10 rfl (tX10_is _ _ σ 38) rfl rfl (Nat.le_of_ble_eq_true rfl) ⟨rfl, rfl, by simp only [rrX10_isA] <;> omega, by simp only [rrX10_isA] <;> omega⟩ dX10_isA_12 (fun r3 s4 => ?_)
    refine g_bif_eq (pc := 15) (tgt := 37) hC dX10_isA_15 (by decide) ?_ ?_
    · refine g_iconst (pc := 37) (v := 1) hC dX10_isA_37 (by decide) ?_
      exact g_zret1 (pc := 38) hC dX10_isA_38
    · refine g_aload_n (pc := 18) (q := 0) hC dX10_isA_18 rfl rfl ?_
      refine g_callVz (pc := 19) (As := []) (rest := []) hC lk_RX10_206 kX10 rfl (hrec.2.2.2.1 s4 ) rfl rfl (Nat.le_of_ble_eq_true rfl) ⟨rfl, rfl, by simp only [rrX10_isB, rrX10_isA] <;> omega, by simp only [rrX10_isB, rrX10_isA] <;> omega⟩ dX10_isA_19 (fun r5 s6 => ?_)
      refine g_bif_ne (pc := 22) (tgt := 27) hC dX10_isA_22 (by decide) ?_ ?_
      · refine g_aload_n (pc := 27) (q := 0) hC dX10_isA_27 rfl rfl ?_
        refine g_bipush (pc := 28) (v := 7) hC dX10_isA_28 (by decide) ?_
        refine g_callVz (pc := 30) (As := [.int 7]) (rest := []) hC lk_RX10_181 kX10 rfl (tX10_codes _ _ s6 7) rfl rfl (Nat.le_of_ble_eq_true rfl) ⟨rfl, rfl, by simp only [rrX10_isA] <;> omega, by simp only [rrX10_isA] <;> omega⟩ dX10_isA_30 (fun r7 s8 => ?_)
        refine g_pop (pc := 33) hC dX10_isA_33 rfl ?_
        refine g_goto (pc := 34) (tgt := 9) hC dX10_isA_34 (by decide) ?_
        exact gT_sub [0] rfl (ih s8 )
      · refine g_iconst (pc := 25) (v := 0) hC dX10_isA_25 (by decide) ?_
        exact g_zret0 (pc := 26) hC dX10_isA_26
def mrX10_isA (rec : ((gS → Option (Bool × gS)) × (gS → Option (Bool × gS)) × (gS → Option (Bool × gS)) × (gS → Option (Bool × gS)) × (gS → Option (Bool × gS)) × (gS → Option (Bool × gS)))) (σ : gS)  : Option (Bool × gS) := gBind (rec.2.2.2.1 σ ) (fun r1 s2 => if r1 = true then ((mX10_isA_b9 rec 1100 s2 )) else (some (false, s2)))
set_option maxHeartbeats 4000000 in
set_option maxRecDepth 100000 in
theorem trX10_isA {l : Launch} {G : gE} {d : Nat} {rec : ((gS → Option (Bool × gS)) × (gS → Option (Bool × gS)) × (gS → Option (Bool × gS)) × (gS → Option (Bool × gS)) × (gS → Option (Bool × gS)) × (gS → Option (Bool × gS)))} (hrec : (∀ (σ : gS) , gM l G yX10_isO cX10_isO 3 (some .boolean) (rrX10_isO d) iZ [.ref (G.2.1 52)] σ (rec.1 σ )) ∧ (∀ (σ : gS) , gM l G yX10_isP cX10_isP 2 (some .boolean) (rrX10_isP d) iZ [.ref (G.2.1 52)] σ (rec.2.1 σ )) ∧ (∀ (σ : gS) , gM l G yX10_isS cX10_isS 2 (some .boolean) (rrX10_isS d) iZ [.ref (G.2.1 52)] σ (rec.2.2.1 σ )) ∧ (∀ (σ : gS) , gM l G yX10_isB cX10_isB 2 (some .boolean) (rrX10_isB d) iZ [.ref (G.2.1 52)] σ (rec.2.2.2.1 σ )) ∧ (∀ (σ : gS) , gM l G yX10_isA cX10_isA 1 (some .boolean) (rrX10_isA d) iZ [.ref (G.2.1 52)] σ (rec.2.2.2.2.1 σ )) ∧ (∀ (σ : gS) , gM l G yX10_isE cX10_isE 1 (some .boolean) (rrX10_isE d) iZ [.ref (G.2.1 52)] σ (rec.2.2.2.2.2 σ ))) : ∀ (σ : gS) , gM l G yX10_isA cX10_isA 1 (some .boolean) (rrX10_isA (d + 1)) iZ [.ref (G.2.1 52)] σ (mrX10_isA rec σ ) := by
  intro σ 
  refine gM_of (by decide) (Nat.le_of_ble_eq_true rfl) ?_
  intro p e s m args below meth c hC
  unfold mrX10_isA
  show gT p l e (rrX10_isA (d + 1)) s m args below meth c G 1 iZ σ 0 [(0, .ref (G.2.1 52))] [] _
  refine g_aload_n (pc := 0) (q := 0) hC dX10_isA_0 rfl rfl ?_
  refine g_callVz (pc := 1) (As := []) (rest := []) hC lk_RX10_206 kX10 rfl (hrec.2.2.2.1 σ ) rfl rfl (Nat.le_of_ble_eq_true rfl) ⟨rfl, rfl, by simp only [rrX10_isB, rrX10_isA] <;> omega, by simp only [rrX10_isB, rrX10_isA] <;> omega⟩ dX10_isA_1 (fun r1 s2 => ?_)
  refine g_bif_ne (pc := 4) (tgt := 9) hC dX10_isA_4 (by decide) ?_ ?_
  · exact gT_sub [0] rfl (wX10_isA_b9 hC hrec 1100 s2 )
  · refine g_iconst (pc := 7) (v := 0) hC dX10_isA_7 (by decide) ?_
    exact g_zret0 (pc := 8) hC dX10_isA_8
def mX10_isE_b9 (rec : ((gS → Option (Bool × gS)) × (gS → Option (Bool × gS)) × (gS → Option (Bool × gS)) × (gS → Option (Bool × gS)) × (gS → Option (Bool × gS)) × (gS → Option (Bool × gS))))   : Nat → gS → Option (Bool × gS)
  | 0, _ => none
  | n + 1, σ => gBind (mX10_is σ 124) (fun r3 s4 => if r3 = true then (gBind (rec.2.2.2.2.1 s4 ) (fun r5 s6 => if r5 = true then (gBind (mX10_codes s6 6) (fun r7 s8 => ((mX10_isE_b9 rec n) s8 ))) else (some (false, s6)))) else (some (true, s4)))
set_option maxHeartbeats 4000000 in
set_option maxRecDepth 100000 in
theorem wX10_isE_b9 {p : Program} {l : Launch} {e : Env} {s : State} {m : MethodId} {args : Array Value} {below : List Frame} {meth : Method} {c : Code} {G : gE} {d : Nat} (hC : gCx p s m args meth c G RX10 cX10_isE 1 (some .boolean)) {rec : ((gS → Option (Bool × gS)) × (gS → Option (Bool × gS)) × (gS → Option (Bool × gS)) × (gS → Option (Bool × gS)) × (gS → Option (Bool × gS)) × (gS → Option (Bool × gS)))} (hrec : (∀ (σ : gS) , gM l G yX10_isO cX10_isO 3 (some .boolean) (rrX10_isO d) iZ [.ref (G.2.1 52)] σ (rec.1 σ )) ∧ (∀ (σ : gS) , gM l G yX10_isP cX10_isP 2 (some .boolean) (rrX10_isP d) iZ [.ref (G.2.1 52)] σ (rec.2.1 σ )) ∧ (∀ (σ : gS) , gM l G yX10_isS cX10_isS 2 (some .boolean) (rrX10_isS d) iZ [.ref (G.2.1 52)] σ (rec.2.2.1 σ )) ∧ (∀ (σ : gS) , gM l G yX10_isB cX10_isB 2 (some .boolean) (rrX10_isB d) iZ [.ref (G.2.1 52)] σ (rec.2.2.2.1 σ )) ∧ (∀ (σ : gS) , gM l G yX10_isA cX10_isA 1 (some .boolean) (rrX10_isA d) iZ [.ref (G.2.1 52)] σ (rec.2.2.2.2.1 σ )) ∧ (∀ (σ : gS) , gM l G yX10_isE cX10_isE 1 (some .boolean) (rrX10_isE d) iZ [.ref (G.2.1 52)] σ (rec.2.2.2.2.2 σ )))    (n : Nat) (σ : gS)   : gT p l e (rrX10_isE (d + 1)) s m args below meth c G 1 iZ σ 9 [(0, .ref (G.2.1 52))] [] (mX10_isE_b9 rec n σ ) := by
  induction n generalizing σ  with
  | zero => exact gT_none
  | succ n ih =>
    unfold mX10_isE_b9
    refine g_aload_n (pc := 9) (q := 0) hC dX10_isE_9 rfl rfl ?_
    refine g_bipush (pc := 10) (v := 124) hC dX10_isE_10 (by decide) ?_
    refine g_callVz (pc := 12) (As := [.int 124]) (rest := []) hC lk_RX10_191 kX10 rfl (tX10_is _ _ σ 124) rfl rfl (Nat.le_of_ble_eq_true rfl) ⟨rfl, rfl, by simp only [rrX10_isE] <;> omega, by simp only [rrX10_isE] <;> omega⟩ dX10_isE_12 (fun r3 s4 => ?_)
    refine g_bif_eq (pc := 15) (tgt := 37) hC dX10_isE_15 (by decide) ?_ ?_
    · refine g_iconst (pc := 37) (v := 1) hC dX10_isE_37 (by decide) ?_
      exact g_zret1 (pc := 38) hC dX10_isE_38
    · refine g_aload_n (pc := 18) (q := 0) hC dX10_isE_18 rfl rfl ?_
      refine g_callVz (pc := 19) (As := []) (rest := []) hC lk_RX10_209 kX10 rfl (hrec.2.2.2.2.1 s4 ) rfl rfl (Nat.le_of_ble_eq_true rfl) ⟨rfl, rfl, by simp only [rrX10_isA, rrX10_isE] <;> omega, by simp only [rrX10_isA, rrX10_isE] <;> omega⟩ dX10_isE_19 (fun r5 s6 => ?_)
      refine g_bif_ne (pc := 22) (tgt := 27) hC dX10_isE_22 (by decide) ?_ ?_
      · refine g_aload_n (pc := 27) (q := 0) hC dX10_isE_27 rfl rfl ?_
        refine g_bipush (pc := 28) (v := 6) hC dX10_isE_28 (by decide) ?_
        refine g_callVz (pc := 30) (As := [.int 6]) (rest := []) hC lk_RX10_181 kX10 rfl (tX10_codes _ _ s6 6) rfl rfl (Nat.le_of_ble_eq_true rfl) ⟨rfl, rfl, by simp only [rrX10_isE] <;> omega, by simp only [rrX10_isE] <;> omega⟩ dX10_isE_30 (fun r7 s8 => ?_)
        refine g_pop (pc := 33) hC dX10_isE_33 rfl ?_
        refine g_goto (pc := 34) (tgt := 9) hC dX10_isE_34 (by decide) ?_
        exact gT_sub [0] rfl (ih s8 )
      · refine g_iconst (pc := 25) (v := 0) hC dX10_isE_25 (by decide) ?_
        exact g_zret0 (pc := 26) hC dX10_isE_26
def mrX10_isE (rec : ((gS → Option (Bool × gS)) × (gS → Option (Bool × gS)) × (gS → Option (Bool × gS)) × (gS → Option (Bool × gS)) × (gS → Option (Bool × gS)) × (gS → Option (Bool × gS)))) (σ : gS)  : Option (Bool × gS) := gBind (rec.2.2.2.2.1 σ ) (fun r1 s2 => if r1 = true then ((mX10_isE_b9 rec 1100 s2 )) else (some (false, s2)))
set_option maxHeartbeats 4000000 in
set_option maxRecDepth 100000 in
theorem trX10_isE {l : Launch} {G : gE} {d : Nat} {rec : ((gS → Option (Bool × gS)) × (gS → Option (Bool × gS)) × (gS → Option (Bool × gS)) × (gS → Option (Bool × gS)) × (gS → Option (Bool × gS)) × (gS → Option (Bool × gS)))} (hrec : (∀ (σ : gS) , gM l G yX10_isO cX10_isO 3 (some .boolean) (rrX10_isO d) iZ [.ref (G.2.1 52)] σ (rec.1 σ )) ∧ (∀ (σ : gS) , gM l G yX10_isP cX10_isP 2 (some .boolean) (rrX10_isP d) iZ [.ref (G.2.1 52)] σ (rec.2.1 σ )) ∧ (∀ (σ : gS) , gM l G yX10_isS cX10_isS 2 (some .boolean) (rrX10_isS d) iZ [.ref (G.2.1 52)] σ (rec.2.2.1 σ )) ∧ (∀ (σ : gS) , gM l G yX10_isB cX10_isB 2 (some .boolean) (rrX10_isB d) iZ [.ref (G.2.1 52)] σ (rec.2.2.2.1 σ )) ∧ (∀ (σ : gS) , gM l G yX10_isA cX10_isA 1 (some .boolean) (rrX10_isA d) iZ [.ref (G.2.1 52)] σ (rec.2.2.2.2.1 σ )) ∧ (∀ (σ : gS) , gM l G yX10_isE cX10_isE 1 (some .boolean) (rrX10_isE d) iZ [.ref (G.2.1 52)] σ (rec.2.2.2.2.2 σ ))) : ∀ (σ : gS) , gM l G yX10_isE cX10_isE 1 (some .boolean) (rrX10_isE (d + 1)) iZ [.ref (G.2.1 52)] σ (mrX10_isE rec σ ) := by
  intro σ 
  refine gM_of (by decide) (Nat.le_of_ble_eq_true rfl) ?_
  intro p e s m args below meth c hC
  unfold mrX10_isE
  show gT p l e (rrX10_isE (d + 1)) s m args below meth c G 1 iZ σ 0 [(0, .ref (G.2.1 52))] [] _
  refine g_aload_n (pc := 0) (q := 0) hC dX10_isE_0 rfl rfl ?_
  refine g_callVz (pc := 1) (As := []) (rest := []) hC lk_RX10_209 kX10 rfl (hrec.2.2.2.2.1 σ ) rfl rfl (Nat.le_of_ble_eq_true rfl) ⟨rfl, rfl, by simp only [rrX10_isA, rrX10_isE] <;> omega, by simp only [rrX10_isA, rrX10_isE] <;> omega⟩ dX10_isE_1 (fun r1 s2 => ?_)
  refine g_bif_ne (pc := 4) (tgt := 9) hC dX10_isE_4 (by decide) ?_ ?_
  · exact gT_sub [0] rfl (wX10_isE_b9 hC hrec 1100 s2 )
  · refine g_iconst (pc := 7) (v := 0) hC dX10_isE_7 (by decide) ?_
    exact g_zret0 (pc := 8) hC dX10_isE_8
def mggram : Nat → ((gS → Option (Bool × gS)) × (gS → Option (Bool × gS)) × (gS → Option (Bool × gS)) × (gS → Option (Bool × gS)) × (gS → Option (Bool × gS)) × (gS → Option (Bool × gS)))
  | 0 => (fun _ => none, fun _ => none, fun _ => none, fun _ => none, fun _ => none, fun _ => none)
  | d + 1 => (mrX10_isO (mggram d), mrX10_isP (mggram d), mrX10_isS (mggram d), mrX10_isB (mggram d), mrX10_isA (mggram d), mrX10_isE (mggram d))
theorem tggram (l : Launch) (G : gE) : ∀ d : Nat, (∀ (σ : gS) , gM l G yX10_isO cX10_isO 3 (some .boolean) (rrX10_isO d) iZ [.ref (G.2.1 52)] σ ((mggram d).1 σ )) ∧ (∀ (σ : gS) , gM l G yX10_isP cX10_isP 2 (some .boolean) (rrX10_isP d) iZ [.ref (G.2.1 52)] σ ((mggram d).2.1 σ )) ∧ (∀ (σ : gS) , gM l G yX10_isS cX10_isS 2 (some .boolean) (rrX10_isS d) iZ [.ref (G.2.1 52)] σ ((mggram d).2.2.1 σ )) ∧ (∀ (σ : gS) , gM l G yX10_isB cX10_isB 2 (some .boolean) (rrX10_isB d) iZ [.ref (G.2.1 52)] σ ((mggram d).2.2.2.1 σ )) ∧ (∀ (σ : gS) , gM l G yX10_isA cX10_isA 1 (some .boolean) (rrX10_isA d) iZ [.ref (G.2.1 52)] σ ((mggram d).2.2.2.2.1 σ )) ∧ (∀ (σ : gS) , gM l G yX10_isE cX10_isE 1 (some .boolean) (rrX10_isE d) iZ [.ref (G.2.1 52)] σ ((mggram d).2.2.2.2.2 σ )) := by
  intro d
  induction d with
  | zero => exact ⟨fun _ _ _ h => (by cases h), fun _ _ _ h => (by cases h), fun _ _ _ h => (by cases h), fun _ _ _ h => (by cases h), fun _ _ _ h => (by cases h), fun _ _ _ h => (by cases h)⟩
  | succ d ih => exact ⟨trX10_isO ih, trX10_isP ih, trX10_isS ih, trX10_isB ih, trX10_isA ih, trX10_isE ih⟩
abbrev rX10_isO : Room := rrX10_isO 64
def mX10_isO (σ : gS)  : Option (Bool × gS) := (mggram 64).1 σ 
theorem tX10_isO (l : Launch) (G : gE) (σ : gS)  : gM l G yX10_isO cX10_isO 3 (some .boolean) rX10_isO iZ [.ref (G.2.1 52)] σ (mX10_isO σ ) := (tggram l G 64).1 σ 
abbrev rX10_isP : Room := rrX10_isP 64
def mX10_isP (σ : gS)  : Option (Bool × gS) := (mggram 64).2.1 σ 
theorem tX10_isP (l : Launch) (G : gE) (σ : gS)  : gM l G yX10_isP cX10_isP 2 (some .boolean) rX10_isP iZ [.ref (G.2.1 52)] σ (mX10_isP σ ) := (tggram l G 64).2.1 σ 
abbrev rX10_isS : Room := rrX10_isS 64
def mX10_isS (σ : gS)  : Option (Bool × gS) := (mggram 64).2.2.1 σ 
theorem tX10_isS (l : Launch) (G : gE) (σ : gS)  : gM l G yX10_isS cX10_isS 2 (some .boolean) rX10_isS iZ [.ref (G.2.1 52)] σ (mX10_isS σ ) := (tggram l G 64).2.2.1 σ 
abbrev rX10_isB : Room := rrX10_isB 64
def mX10_isB (σ : gS)  : Option (Bool × gS) := (mggram 64).2.2.2.1 σ 
theorem tX10_isB (l : Launch) (G : gE) (σ : gS)  : gM l G yX10_isB cX10_isB 2 (some .boolean) rX10_isB iZ [.ref (G.2.1 52)] σ (mX10_isB σ ) := (tggram l G 64).2.2.2.1 σ 
abbrev rX10_isA : Room := rrX10_isA 64
def mX10_isA (σ : gS)  : Option (Bool × gS) := (mggram 64).2.2.2.2.1 σ 
theorem tX10_isA (l : Launch) (G : gE) (σ : gS)  : gM l G yX10_isA cX10_isA 1 (some .boolean) rX10_isA iZ [.ref (G.2.1 52)] σ (mX10_isA σ ) := (tggram l G 64).2.2.2.2.1 σ 
abbrev rX10_isE : Room := rrX10_isE 64
def mX10_isE (σ : gS)  : Option (Bool × gS) := (mggram 64).2.2.2.2.2 σ 
theorem tX10_isE (l : Launch) (G : gE) (σ : gS)  : gM l G yX10_isE cX10_isE 1 (some .boolean) rX10_isE iZ [.ref (G.2.1 52)] σ (mX10_isE σ ) := (tggram l G 64).2.2.2.2.2 σ 
theorem fl_RX10_212 : Cond.fieldLink RX10 212 "WinterShedModel" "newLines" "I" ∈ gBig := (gBig_tab 1073 (by decide +kernel) (by decide +kernel))
theorem dX10_isLine_0 : decode cX10_isLine 0 = .ok (.aload_n 0, 1) := by decide +kernel
theorem dX10_isLine_1 : decode cX10_isLine 1 = .ok (.getfield 48, 3) := by decide +kernel
theorem dX10_isLine_4 : decode cX10_isLine 4 = .ok (.aload_n 0, 1) := by decide +kernel
theorem dX10_isLine_5 : decode cX10_isLine 5 = .ok (.getfield 212, 3) := by decide +kernel
theorem dX10_isLine_8 : decode cX10_isLine 8 = .ok (.aload_n 0, 1) := by decide +kernel
theorem dX10_isLine_9 : decode cX10_isLine 9 = .ok (.getfield 174, 3) := by decide +kernel
theorem dX10_isLine_12 : decode cX10_isLine 12 = .ok (.iastore, 1) := by decide +kernel
theorem dX10_isLine_13 : decode cX10_isLine 13 = .ok (.aload_n 0, 1) := by decide +kernel
theorem dX10_isLine_14 : decode cX10_isLine 14 = .ok (.invokevirtual 197, 3) := by decide +kernel
theorem dX10_isLine_17 : decode cX10_isLine 17 = .ok (.ifCond .ne 5, 3) := by decide +kernel
theorem dX10_isLine_20 : decode cX10_isLine 20 = .ok (.iconst 0, 1) := by decide +kernel
theorem dX10_isLine_21 : decode cX10_isLine 21 = .ok (.ireturn, 1) := by decide +kernel
theorem dX10_isLine_22 : decode cX10_isLine 22 = .ok (.aload_n 0, 1) := by decide +kernel
theorem dX10_isLine_23 : decode cX10_isLine 23 = .ok (.getfield 51, 3) := by decide +kernel
theorem dX10_isLine_26 : decode cX10_isLine 26 = .ok (.aload_n 0, 1) := by decide +kernel
theorem dX10_isLine_27 : decode cX10_isLine 27 = .ok (.getfield 212, 3) := by decide +kernel
theorem dX10_isLine_30 : decode cX10_isLine 30 = .ok (.aload_n 0, 1) := by decide +kernel
theorem dX10_isLine_31 : decode cX10_isLine 31 = .ok (.getfield 48, 3) := by decide +kernel
theorem dX10_isLine_34 : decode cX10_isLine 34 = .ok (.aload_n 0, 1) := by decide +kernel
theorem dX10_isLine_35 : decode cX10_isLine 35 = .ok (.getfield 212, 3) := by decide +kernel
theorem dX10_isLine_38 : decode cX10_isLine 38 = .ok (.iaload, 1) := by decide +kernel
theorem dX10_isLine_39 : decode cX10_isLine 39 = .ok (.iastore, 1) := by decide +kernel
theorem dX10_isLine_40 : decode cX10_isLine 40 = .ok (.aload_n 0, 1) := by decide +kernel
theorem dX10_isLine_41 : decode cX10_isLine 41 = .ok (.bipush 63, 2) := by decide +kernel
theorem dX10_isLine_43 : decode cX10_isLine 43 = .ok (.invokevirtual 191, 3) := by decide +kernel
theorem dX10_isLine_46 : decode cX10_isLine 46 = .ok (.ifCond .eq 25, 3) := by decide +kernel
theorem dX10_isLine_49 : decode cX10_isLine 49 = .ok (.aload_n 0, 1) := by decide +kernel
theorem dX10_isLine_50 : decode cX10_isLine 50 = .ok (.getfield 51, 3) := by decide +kernel
theorem dX10_isLine_53 : decode cX10_isLine 53 = .ok (.aload_n 0, 1) := by decide +kernel
theorem dX10_isLine_54 : decode cX10_isLine 54 = .ok (.getfield 212, 3) := by decide +kernel
theorem dX10_isLine_57 : decode cX10_isLine 57 = .ok (.aload_n 0, 1) := by decide +kernel
theorem dX10_isLine_58 : decode cX10_isLine 58 = .ok (.getfield 174, 3) := by decide +kernel
theorem dX10_isLine_61 : decode cX10_isLine 61 = .ok (.iastore, 1) := by decide +kernel
theorem dX10_isLine_62 : decode cX10_isLine 62 = .ok (.aload_n 0, 1) := by decide +kernel
theorem dX10_isLine_63 : decode cX10_isLine 63 = .ok (.invokevirtual 197, 3) := by decide +kernel
theorem dX10_isLine_66 : decode cX10_isLine 66 = .ok (.ifCond .ne 5, 3) := by decide +kernel
theorem dX10_isLine_69 : decode cX10_isLine 69 = .ok (.iconst 0, 1) := by decide +kernel
theorem dX10_isLine_70 : decode cX10_isLine 70 = .ok (.ireturn, 1) := by decide +kernel
theorem dX10_isLine_71 : decode cX10_isLine 71 = .ok (.aload_n 0, 1) := by decide +kernel
theorem dX10_isLine_72 : decode cX10_isLine 72 = .ok (.getfield 54, 3) := by decide +kernel
theorem dX10_isLine_75 : decode cX10_isLine 75 = .ok (.aload_n 0, 1) := by decide +kernel
theorem dX10_isLine_76 : decode cX10_isLine 76 = .ok (.dup, 1) := by decide +kernel
theorem dX10_isLine_77 : decode cX10_isLine 77 = .ok (.getfield 212, 3) := by decide +kernel
theorem dX10_isLine_80 : decode cX10_isLine 80 = .ok (.dup_x1, 1) := by decide +kernel
theorem dX10_isLine_81 : decode cX10_isLine 81 = .ok (.iconst 1, 1) := by decide +kernel
theorem dX10_isLine_82 : decode cX10_isLine 82 = .ok (.iadd, 1) := by decide +kernel
theorem dX10_isLine_83 : decode cX10_isLine 83 = .ok (.putfield 212, 3) := by decide +kernel
theorem dX10_isLine_86 : decode cX10_isLine 86 = .ok (.aload_n 0, 1) := by decide +kernel
theorem dX10_isLine_87 : decode cX10_isLine 87 = .ok (.getfield 174, 3) := by decide +kernel
theorem dX10_isLine_90 : decode cX10_isLine 90 = .ok (.iastore, 1) := by decide +kernel
theorem dX10_isLine_91 : decode cX10_isLine 91 = .ok (.iconst 1, 1) := by decide +kernel
theorem dX10_isLine_92 : decode cX10_isLine 92 = .ok (.ireturn, 1) := by decide +kernel
abbrev rX10_isLine : Room := { frames := 67, cells := 0, slots := 0, locals := 1469 }
def mX10_isLine_b71    (σ : gS)  : Option (Bool × gS) := gLet (gUI σ 52 20 ((σ.1 52 20) + 1)) (fun s7 => if inbB (σ.1 52 20) 61 = true then gLet (gUI s7 67 (Int32.toNatClampNeg (σ.1 52 20)) (s7.1 52 19)) (fun s8 => some (true, s8)) else none)
set_option maxHeartbeats 4000000 in
set_option maxRecDepth 100000 in
theorem wX10_isLine_b71 {p : Program} {l : Launch} {e : Env} {s : State} {m : MethodId} {args : Array Value} {below : List Frame} {meth : Method} {c : Code} {G : gE} (hC : gCx p s m args meth c G RX10 cX10_isLine 1 (some .boolean))     (σ : gS)   : gT p l e rX10_isLine s m args below meth c G 1 iZ σ 71 [(0, .ref (G.2.1 52))] [] (mX10_isLine_b71  σ ) := by
  unfold mX10_isLine_b71
  refine g_aload_n (pc := 71) (q := 0) hC dX10_isLine_71 rfl rfl ?_
  refine g_get (pc := 72) (v := .ref (G.2.1 67)) hC kX10 rfl 23 (by decide) fl_RX10_54 rfl dX10_isLine_72 ?_
  refine g_aload_n (pc := 75) (q := 0) hC dX10_isLine_75 rfl rfl ?_
  refine g_dup (pc := 76) hC dX10_isLine_76 rfl ?_
  refine g_get (pc := 77) (v := .int (σ.1 52 20)) hC kX10 rfl 20 (by decide) fl_RX10_212 rfl dX10_isLine_77 ?_
  refine g_dup_x1 (pc := 80) hC dX10_isLine_80 rfl rfl ?_
  refine g_iconst (pc := 81) (v := 1) hC dX10_isLine_81 (by decide) ?_
  refine g_iadd (pc := 82) hC dX10_isLine_82 ?_
  refine g_puti (pc := 83) (fty := .int) hC kX10 rfl 20 (by decide) fl_RX10_212 rfl rfl rfl rfl (fun _ _ => Nat.le_of_ble_eq_true rfl) (fun _ _ => rfl) dX10_isLine_83 (fun s7 => ?_)
  refine g_aload_n (pc := 86) (q := 0) hC dX10_isLine_86 rfl rfl ?_
  refine g_get (pc := 87) (v := .int (s7.1 52 19)) hC kX10 rfl 19 (by decide) fl_RX10_174 rfl dX10_isLine_87 ?_
  refine g_iast (pc := 90) hC 61 rfl (by decide) dX10_isLine_90 (fun s8 => ?_)
  refine g_iconst (pc := 91) (v := 1) hC dX10_isLine_91 (by decide) ?_
  exact g_zret1 (pc := 92) hC dX10_isLine_92
def mX10_isLine (σ : gS)  : Option (Bool × gS) := if inbB (σ.1 52 20) 61 = true then gLet (gUI σ 65 (Int32.toNatClampNeg (σ.1 52 20)) (σ.1 52 19)) (fun s1 => gBind (mX10_isE s1 ) (fun r2 s3 => if r2 = true then (if inbB (s3.1 52 20) 61 = true then (if inbB (s3.1 52 20) 61 = true then gLet (gUI s3 66 (Int32.toNatClampNeg (s3.1 52 20)) (s3.1 65 (Int32.toNatClampNeg (s3.1 52 20)))) (fun s4 => gBind (mX10_is s4 63) (fun r5 s6 => if r5 = true then (if inbB (s6.1 52 20) 61 = true then gLet (gUI s6 66 (Int32.toNatClampNeg (s6.1 52 20)) (s6.1 52 19)) (fun s9 => gBind (mX10_isE s9 ) (fun r10 s11 => if r10 = true then ((mX10_isLine_b71  s11 )) else (some (false, s11)))) else none) else ((mX10_isLine_b71  s6 )))) else none) else none) else (some (false, s3)))) else none
set_option maxHeartbeats 4000000 in
set_option maxRecDepth 100000 in
theorem tX10_isLine (l : Launch) (G : gE) (σ : gS)  : gM l G yX10_isLine cX10_isLine 1 (some .boolean) rX10_isLine iZ [.ref (G.2.1 52)] σ (mX10_isLine σ ) := by
  refine gM_of (by decide) (Nat.le_of_ble_eq_true rfl) ?_
  intro p e s m args below meth c hC
  unfold mX10_isLine
  show gT p l e rX10_isLine s m args below meth c G 1 iZ σ 0 [(0, .ref (G.2.1 52))] [] _
  refine g_aload_n (pc := 0) (q := 0) hC dX10_isLine_0 rfl rfl ?_
  refine g_get (pc := 1) (v := .ref (G.2.1 65)) hC kX10 rfl 21 (by decide) fl_RX10_48 rfl dX10_isLine_1 ?_
  refine g_aload_n (pc := 4) (q := 0) hC dX10_isLine_4 rfl rfl ?_
  refine g_get (pc := 5) (v := .int (σ.1 52 20)) hC kX10 rfl 20 (by decide) fl_RX10_212 rfl dX10_isLine_5 ?_
  refine g_aload_n (pc := 8) (q := 0) hC dX10_isLine_8 rfl rfl ?_
  refine g_get (pc := 9) (v := .int (σ.1 52 19)) hC kX10 rfl 19 (by decide) fl_RX10_174 rfl dX10_isLine_9 ?_
  refine g_iast (pc := 12) hC 61 rfl (by decide) dX10_isLine_12 (fun s1 => ?_)
  refine g_aload_n (pc := 13) (q := 0) hC dX10_isLine_13 rfl rfl ?_
  refine g_callVz (pc := 14) (As := []) (rest := []) hC lk_RX10_197 kX10 rfl (tX10_isE _ _ s1 ) rfl rfl (Nat.le_of_ble_eq_true rfl) ⟨rfl, rfl, Nat.le_of_ble_eq_true rfl, Nat.le_of_ble_eq_true rfl⟩ dX10_isLine_14 (fun r2 s3 => ?_)
  refine g_bif_ne (pc := 17) (tgt := 22) hC dX10_isLine_17 (by decide) ?_ ?_
  · refine g_aload_n (pc := 22) (q := 0) hC dX10_isLine_22 rfl rfl ?_
    refine g_get (pc := 23) (v := .ref (G.2.1 66)) hC kX10 rfl 22 (by decide) fl_RX10_51 rfl dX10_isLine_23 ?_
    refine g_aload_n (pc := 26) (q := 0) hC dX10_isLine_26 rfl rfl ?_
    refine g_get (pc := 27) (v := .int (s3.1 52 20)) hC kX10 rfl 20 (by decide) fl_RX10_212 rfl dX10_isLine_27 ?_
    refine g_aload_n (pc := 30) (q := 0) hC dX10_isLine_30 rfl rfl ?_
    refine g_get (pc := 31) (v := .ref (G.2.1 65)) hC kX10 rfl 21 (by decide) fl_RX10_48 rfl dX10_isLine_31 ?_
    refine g_aload_n (pc := 34) (q := 0) hC dX10_isLine_34 rfl rfl ?_
    refine g_get (pc := 35) (v := .int (s3.1 52 20)) hC kX10 rfl 20 (by decide) fl_RX10_212 rfl dX10_isLine_35 ?_
    refine g_iald (pc := 38) hC 61 rfl (by decide) dX10_isLine_38 ?_
    refine g_iast (pc := 39) hC 61 rfl (by decide) dX10_isLine_39 (fun s4 => ?_)
    refine g_aload_n (pc := 40) (q := 0) hC dX10_isLine_40 rfl rfl ?_
    refine g_bipush (pc := 41) (v := 63) hC dX10_isLine_41 (by decide) ?_
    refine g_callVz (pc := 43) (As := [.int 63]) (rest := []) hC lk_RX10_191 kX10 rfl (tX10_is _ _ s4 63) rfl rfl (Nat.le_of_ble_eq_true rfl) ⟨rfl, rfl, Nat.le_of_ble_eq_true rfl, Nat.le_of_ble_eq_true rfl⟩ dX10_isLine_43 (fun r5 s6 => ?_)
    refine g_bif_eq (pc := 46) (tgt := 71) hC dX10_isLine_46 (by decide) ?_ ?_
    · exact gT_sub [0] rfl (wX10_isLine_b71 hC  s6 )
    · refine g_aload_n (pc := 49) (q := 0) hC dX10_isLine_49 rfl rfl ?_
      refine g_get (pc := 50) (v := .ref (G.2.1 66)) hC kX10 rfl 22 (by decide) fl_RX10_51 rfl dX10_isLine_50 ?_
      refine g_aload_n (pc := 53) (q := 0) hC dX10_isLine_53 rfl rfl ?_
      refine g_get (pc := 54) (v := .int (s6.1 52 20)) hC kX10 rfl 20 (by decide) fl_RX10_212 rfl dX10_isLine_54 ?_
      refine g_aload_n (pc := 57) (q := 0) hC dX10_isLine_57 rfl rfl ?_
      refine g_get (pc := 58) (v := .int (s6.1 52 19)) hC kX10 rfl 19 (by decide) fl_RX10_174 rfl dX10_isLine_58 ?_
      refine g_iast (pc := 61) hC 61 rfl (by decide) dX10_isLine_61 (fun s9 => ?_)
      refine g_aload_n (pc := 62) (q := 0) hC dX10_isLine_62 rfl rfl ?_
      refine g_callVz (pc := 63) (As := []) (rest := []) hC lk_RX10_197 kX10 rfl (tX10_isE _ _ s9 ) rfl rfl (Nat.le_of_ble_eq_true rfl) ⟨rfl, rfl, Nat.le_of_ble_eq_true rfl, Nat.le_of_ble_eq_true rfl⟩ dX10_isLine_63 (fun r10 s11 => ?_)
      refine g_bif_ne (pc := 66) (tgt := 71) hC dX10_isLine_66 (by decide) ?_ ?_
      · exact gT_sub [0] rfl (wX10_isLine_b71 hC  s11 )
      · refine g_iconst (pc := 69) (v := 0) hC dX10_isLine_69 (by decide) ?_
        exact g_zret0 (pc := 70) hC dX10_isLine_70
  · refine g_iconst (pc := 20) (v := 0) hC dX10_isLine_20 (by decide) ?_
    exact g_zret0 (pc := 21) hC dX10_isLine_21
theorem lk_RX10_215 : gLV RX10 215 RX10 yX10_isLine cX10_isLine 1 (some .boolean) 0 := ⟨(gBig_tab 1279 (by decide +kernel) (by decide +kernel)), (gBig_tab 1281 (by decide +kernel) (by decide +kernel)), (gBig_sel 52 (by decide +kernel) (by decide +kernel)), (gBig_tab 11 (by decide +kernel) (by decide +kernel)), (gBig_tab 1282 (by decide +kernel) (by decide +kernel)), rfl, by decide +kernel, by decide +kernel, by decide +kernel⟩
theorem dX10_law_0 : decode cX10_law 0 = .ok (.aload_n 0, 1) := by decide +kernel
theorem dX10_law_1 : decode cX10_law 1 = .ok (.iconst 0, 1) := by decide +kernel
theorem dX10_law_2 : decode cX10_law 2 = .ok (.putfield 167, 3) := by decide +kernel
theorem dX10_law_5 : decode cX10_law 5 = .ok (.aload_n 0, 1) := by decide +kernel
theorem dX10_law_6 : decode cX10_law 6 = .ok (.iconst 0, 1) := by decide +kernel
theorem dX10_law_7 : decode cX10_law 7 = .ok (.putfield 188, 3) := by decide +kernel
theorem dX10_law_10 : decode cX10_law 10 = .ok (.aload_n 0, 1) := by decide +kernel
theorem dX10_law_11 : decode cX10_law 11 = .ok (.iconst 0, 1) := by decide +kernel
theorem dX10_law_12 : decode cX10_law 12 = .ok (.putfield 174, 3) := by decide +kernel
theorem dX10_law_15 : decode cX10_law 15 = .ok (.aload_n 0, 1) := by decide +kernel
theorem dX10_law_16 : decode cX10_law 16 = .ok (.iconst 0, 1) := by decide +kernel
theorem dX10_law_17 : decode cX10_law 17 = .ok (.putfield 212, 3) := by decide +kernel
theorem dX10_law_20 : decode cX10_law 20 = .ok (.aload_n 0, 1) := by decide +kernel
theorem dX10_law_21 : decode cX10_law 21 = .ok (.invokevirtual 215, 3) := by decide +kernel
theorem dX10_law_24 : decode cX10_law 24 = .ok (.istore_n 1, 1) := by decide +kernel
theorem dX10_law_25 : decode cX10_law 25 = .ok (.iload_n 1, 1) := by decide +kernel
theorem dX10_law_26 : decode cX10_law 26 = .ok (.ifCond .eq 20, 3) := by decide +kernel
theorem dX10_law_29 : decode cX10_law 29 = .ok (.aload_n 0, 1) := by decide +kernel
theorem dX10_law_30 : decode cX10_law 30 = .ok (.bipush 59, 2) := by decide +kernel
theorem dX10_law_32 : decode cX10_law 32 = .ok (.invokevirtual 191, 3) := by decide +kernel
theorem dX10_law_35 : decode cX10_law 35 = .ok (.ifCond .eq 11, 3) := by decide +kernel
theorem dX10_law_38 : decode cX10_law 38 = .ok (.aload_n 0, 1) := by decide +kernel
theorem dX10_law_39 : decode cX10_law 39 = .ok (.invokevirtual 215, 3) := by decide +kernel
theorem dX10_law_42 : decode cX10_law 42 = .ok (.istore_n 1, 1) := by decide +kernel
theorem dX10_law_43 : decode cX10_law 43 = .ok (.goto (-18), 3) := by decide +kernel
theorem dX10_law_46 : decode cX10_law 46 = .ok (.iload_n 1, 1) := by decide +kernel
theorem dX10_law_47 : decode cX10_law 47 = .ok (.ifCond .eq 18, 3) := by decide +kernel
theorem dX10_law_50 : decode cX10_law 50 = .ok (.aload_n 0, 1) := by decide +kernel
theorem dX10_law_51 : decode cX10_law 51 = .ok (.getfield 167, 3) := by decide +kernel
theorem dX10_law_54 : decode cX10_law 54 = .ok (.aload_n 0, 1) := by decide +kernel
theorem dX10_law_55 : decode cX10_law 55 = .ok (.getfield 164, 3) := by decide +kernel
theorem dX10_law_58 : decode cX10_law 58 = .ok (.if_icmp .ne 7, 3) := by decide +kernel
theorem dX10_law_61 : decode cX10_law 61 = .ok (.iconst 1, 1) := by decide +kernel
theorem dX10_law_62 : decode cX10_law 62 = .ok (.goto 4, 3) := by decide +kernel
theorem dX10_law_65 : decode cX10_law 65 = .ok (.iconst 0, 1) := by decide +kernel
theorem dX10_law_66 : decode cX10_law 66 = .ok (.istore_n 2, 1) := by decide +kernel
theorem dX10_law_67 : decode cX10_law 67 = .ok (.aload_n 0, 1) := by decide +kernel
theorem dX10_law_68 : decode cX10_law 68 = .ok (.iconst 0, 1) := by decide +kernel
theorem dX10_law_69 : decode cX10_law 69 = .ok (.putfield 164, 3) := by decide +kernel
theorem dX10_law_72 : decode cX10_law 72 = .ok (.iload_n 2, 1) := by decide +kernel
theorem dX10_law_73 : decode cX10_law 73 = .ok (.ifCond .ne 11, 3) := by decide +kernel
theorem dX10_law_76 : decode cX10_law 76 = .ok (.bipush (-100), 2) := by decide +kernel
theorem dX10_law_78 : decode cX10_law 78 = .ok (.aload_n 0, 1) := by decide +kernel
theorem dX10_law_79 : decode cX10_law 79 = .ok (.getfield 167, 3) := by decide +kernel
theorem dX10_law_82 : decode cX10_law 82 = .ok (.isub, 1) := by decide +kernel
theorem dX10_law_83 : decode cX10_law 83 = .ok (.ireturn, 1) := by decide +kernel
theorem dX10_law_84 : decode cX10_law 84 = .ok (.aload_n 0, 1) := by decide +kernel
theorem dX10_law_85 : decode cX10_law 85 = .ok (.iconst 1, 1) := by decide +kernel
theorem dX10_law_86 : decode cX10_law 86 = .ok (.putfield 218, 3) := by decide +kernel
theorem dX10_law_89 : decode cX10_law 89 = .ok (.aload_n 0, 1) := by decide +kernel
theorem dX10_law_90 : decode cX10_law 90 = .ok (.aload_n 0, 1) := by decide +kernel
theorem dX10_law_91 : decode cX10_law 91 = .ok (.getfield 212, 3) := by decide +kernel
theorem dX10_law_94 : decode cX10_law 94 = .ok (.putfield 222, 3) := by decide +kernel
theorem dX10_law_97 : decode cX10_law 97 = .ok (.iconst 0, 1) := by decide +kernel
theorem dX10_law_98 : decode cX10_law 98 = .ok (.istore_n 3, 1) := by decide +kernel
theorem dX10_law_99 : decode cX10_law 99 = .ok (.iload_n 3, 1) := by decide +kernel
theorem dX10_law_100 : decode cX10_law 100 = .ok (.aload_n 0, 1) := by decide +kernel
theorem dX10_law_101 : decode cX10_law 101 = .ok (.getfield 222, 3) := by decide +kernel
theorem dX10_law_104 : decode cX10_law 104 = .ok (.if_icmp .ge 45, 3) := by decide +kernel
theorem dX10_law_107 : decode cX10_law 107 = .ok (.aload_n 0, 1) := by decide +kernel
theorem dX10_law_108 : decode cX10_law 108 = .ok (.getfield 36, 3) := by decide +kernel
theorem dX10_law_111 : decode cX10_law 111 = .ok (.iload_n 3, 1) := by decide +kernel
theorem dX10_law_112 : decode cX10_law 112 = .ok (.aload_n 0, 1) := by decide +kernel
theorem dX10_law_113 : decode cX10_law 113 = .ok (.getfield 48, 3) := by decide +kernel
theorem dX10_law_116 : decode cX10_law 116 = .ok (.iload_n 3, 1) := by decide +kernel
theorem dX10_law_117 : decode cX10_law 117 = .ok (.iaload, 1) := by decide +kernel
theorem dX10_law_118 : decode cX10_law 118 = .ok (.iastore, 1) := by decide +kernel
theorem dX10_law_119 : decode cX10_law 119 = .ok (.aload_n 0, 1) := by decide +kernel
theorem dX10_law_120 : decode cX10_law 120 = .ok (.getfield 39, 3) := by decide +kernel
theorem dX10_law_123 : decode cX10_law 123 = .ok (.iload_n 3, 1) := by decide +kernel
theorem dX10_law_124 : decode cX10_law 124 = .ok (.aload_n 0, 1) := by decide +kernel
theorem dX10_law_125 : decode cX10_law 125 = .ok (.getfield 51, 3) := by decide +kernel
theorem dX10_law_128 : decode cX10_law 128 = .ok (.iload_n 3, 1) := by decide +kernel
theorem dX10_law_129 : decode cX10_law 129 = .ok (.iaload, 1) := by decide +kernel
theorem dX10_law_130 : decode cX10_law 130 = .ok (.iastore, 1) := by decide +kernel
theorem dX10_law_131 : decode cX10_law 131 = .ok (.aload_n 0, 1) := by decide +kernel
theorem dX10_law_132 : decode cX10_law 132 = .ok (.getfield 42, 3) := by decide +kernel
theorem dX10_law_135 : decode cX10_law 135 = .ok (.iload_n 3, 1) := by decide +kernel
theorem dX10_law_136 : decode cX10_law 136 = .ok (.aload_n 0, 1) := by decide +kernel
theorem dX10_law_137 : decode cX10_law 137 = .ok (.getfield 54, 3) := by decide +kernel
theorem dX10_law_140 : decode cX10_law 140 = .ok (.iload_n 3, 1) := by decide +kernel
theorem dX10_law_141 : decode cX10_law 141 = .ok (.iaload, 1) := by decide +kernel
theorem dX10_law_142 : decode cX10_law 142 = .ok (.iastore, 1) := by decide +kernel
theorem dX10_law_143 : decode cX10_law 143 = .ok (.iinc 3 1, 3) := by decide +kernel
theorem dX10_law_146 : decode cX10_law 146 = .ok (.goto (-47), 3) := by decide +kernel
theorem dX10_law_149 : decode cX10_law 149 = .ok (.iconst 0, 1) := by decide +kernel
theorem dX10_law_150 : decode cX10_law 150 = .ok (.istore_n 3, 1) := by decide +kernel
theorem dX10_law_151 : decode cX10_law 151 = .ok (.iload_n 3, 1) := by decide +kernel
theorem dX10_law_152 : decode cX10_law 152 = .ok (.aload_n 0, 1) := by decide +kernel
theorem dX10_law_153 : decode cX10_law 153 = .ok (.getfield 174, 3) := by decide +kernel
theorem dX10_law_156 : decode cX10_law 156 = .ok (.if_icmp .ge 21, 3) := by decide +kernel
theorem dX10_law_159 : decode cX10_law 159 = .ok (.aload_n 0, 1) := by decide +kernel
theorem dX10_law_160 : decode cX10_law 160 = .ok (.getfield 45, 3) := by decide +kernel
theorem dX10_law_163 : decode cX10_law 163 = .ok (.iload_n 3, 1) := by decide +kernel
theorem dX10_law_164 : decode cX10_law 164 = .ok (.aload_n 0, 1) := by decide +kernel
theorem dX10_law_165 : decode cX10_law 165 = .ok (.getfield 57, 3) := by decide +kernel
theorem dX10_law_168 : decode cX10_law 168 = .ok (.iload_n 3, 1) := by decide +kernel
theorem dX10_law_169 : decode cX10_law 169 = .ok (.iaload, 1) := by decide +kernel
theorem dX10_law_170 : decode cX10_law 170 = .ok (.iastore, 1) := by decide +kernel
theorem dX10_law_171 : decode cX10_law 171 = .ok (.iinc 3 1, 3) := by decide +kernel
theorem dX10_law_174 : decode cX10_law 174 = .ok (.goto (-23), 3) := by decide +kernel
theorem dX10_law_177 : decode cX10_law 177 = .ok (.iconst 1, 1) := by decide +kernel
theorem dX10_law_178 : decode cX10_law 178 = .ok (.ireturn, 1) := by decide +kernel
abbrev rX10_law : Room := { frames := 68, cells := 0, slots := 0, locals := 1489 }
def mX10_law_b151    : Nat → gS → Int32 → Option (Int32 × gS)
  | 0, _, _ => none
  | n + 1, σ, x18 => if (σ.1 52 19) ≤ x18 then (some (1, σ)) else (if inbB x18 200 = true then (if inbB x18 200 = true then gLet (gUI σ 64 (Int32.toNatClampNeg x18) (σ.1 68 (Int32.toNatClampNeg x18))) (fun s19 => gLet (x18 + 1) (fun v20 => ((mX10_law_b151  n) s19 v20))) else none) else none)
set_option maxHeartbeats 4000000 in
set_option maxRecDepth 100000 in
theorem wX10_law_b151 {p : Program} {l : Launch} {e : Env} {s : State} {m : MethodId} {args : Array Value} {below : List Frame} {meth : Method} {c : Code} {G : gE} (hC : gCx p s m args meth c G RX10 cX10_law 4 (some .int))     (n : Nat) (σ : gS) (x18 : Int32)  : gT p l e rX10_law s m args below meth c G 4 iI σ 151 [(0, .ref (G.2.1 52)), (3, .int x18)] [] (mX10_law_b151  n σ x18) := by
  induction n generalizing σ x18 with
  | zero => exact gT_none
  | succ n ih =>
    unfold mX10_law_b151
    refine g_iload_n (pc := 151) (q := 1) hC dX10_law_151 rfl rfl ?_
    refine g_aload_n (pc := 152) (q := 0) hC dX10_law_152 rfl rfl ?_
    refine g_get (pc := 153) (v := .int (σ.1 52 19)) hC kX10 rfl 19 (by decide) fl_RX10_174 rfl dX10_law_153 ?_
    refine g_icmp_ge (pc := 156) (tgt := 177) hC dX10_law_156 (by decide) ?_ ?_
    · refine g_iconst (pc := 177) (v := 1) hC dX10_law_177 (by decide) ?_
      exact g_iret (pc := 178) hC dX10_law_178
    · refine g_aload_n (pc := 159) (q := 0) hC dX10_law_159 rfl rfl ?_
      refine g_get (pc := 160) (v := .ref (G.2.1 64)) hC kX10 rfl 16 (by decide) fl_RX10_45 rfl dX10_law_160 ?_
      refine g_iload_n (pc := 163) (q := 1) hC dX10_law_163 rfl rfl ?_
      refine g_aload_n (pc := 164) (q := 0) hC dX10_law_164 rfl rfl ?_
      refine g_get (pc := 165) (v := .ref (G.2.1 68)) hC kX10 rfl 24 (by decide) fl_RX10_57 rfl dX10_law_165 ?_
      refine g_iload_n (pc := 168) (q := 1) hC dX10_law_168 rfl rfl ?_
      refine g_iald (pc := 169) hC 200 rfl (by decide) dX10_law_169 ?_
      refine g_iast (pc := 170) hC 200 rfl (by decide) dX10_law_170 (fun s19 => ?_)
      refine g_iinc (pc := 171) (q := 1) (w := 1) (lv' := fun v20 => [(3, .int v20), (0, .ref (G.2.1 52))]) hC dX10_law_171 rfl (by decide) (by decide) (fun _ => rfl) (fun v20 => ?_)
      refine g_goto (pc := 174) (tgt := 151) hC dX10_law_174 (by decide) ?_
      exact gT_sub [1, 0] rfl (ih s19 v20)
def mX10_law_b99    : Nat → gS → Int32 → Option (Int32 × gS)
  | 0, _, _ => none
  | n + 1, σ, x16 => if (σ.1 52 12) ≤ x16 then (gLet 0 (fun v17 => (mX10_law_b151  1100 σ v17))) else (if inbB x16 61 = true then (if inbB x16 60 = true then gLet (gUI σ 61 (Int32.toNatClampNeg x16) (σ.1 65 (Int32.toNatClampNeg x16))) (fun s21 => if inbB x16 61 = true then (if inbB x16 60 = true then gLet (gUI s21 62 (Int32.toNatClampNeg x16) (s21.1 66 (Int32.toNatClampNeg x16))) (fun s22 => if inbB x16 61 = true then (if inbB x16 60 = true then gLet (gUI s22 63 (Int32.toNatClampNeg x16) (s22.1 67 (Int32.toNatClampNeg x16))) (fun s23 => gLet (x16 + 1) (fun v24 => ((mX10_law_b99  n) s23 v24))) else none) else none) else none) else none) else none) else none)
set_option maxHeartbeats 4000000 in
set_option maxRecDepth 100000 in
theorem wX10_law_b99 {p : Program} {l : Launch} {e : Env} {s : State} {m : MethodId} {args : Array Value} {below : List Frame} {meth : Method} {c : Code} {G : gE} (hC : gCx p s m args meth c G RX10 cX10_law 4 (some .int))     (n : Nat) (σ : gS) (x16 : Int32)  : gT p l e rX10_law s m args below meth c G 4 iI σ 99 [(0, .ref (G.2.1 52)), (3, .int x16)] [] (mX10_law_b99  n σ x16) := by
  induction n generalizing σ x16 with
  | zero => exact gT_none
  | succ n ih =>
    unfold mX10_law_b99
    refine g_iload_n (pc := 99) (q := 1) hC dX10_law_99 rfl rfl ?_
    refine g_aload_n (pc := 100) (q := 0) hC dX10_law_100 rfl rfl ?_
    refine g_get (pc := 101) (v := .int (σ.1 52 12)) hC kX10 rfl 12 (by decide) fl_RX10_222 rfl dX10_law_101 ?_
    refine g_icmp_ge (pc := 104) (tgt := 149) hC dX10_law_104 (by decide) ?_ ?_
    · refine g_iconst (pc := 149) (v := 0) hC dX10_law_149 (by decide) ?_
      refine g_istore_n (pc := 150) (lv' := fun v17 => [(3, .int v17), (0, .ref (G.2.1 52))]) hC dX10_law_150 rfl (by decide) (fun _ => rfl) (fun v17 => ?_)
      exact gT_sub [1, 0] rfl (wX10_law_b151 hC  1100 σ v17)
    · refine g_aload_n (pc := 107) (q := 0) hC dX10_law_107 rfl rfl ?_
      refine g_get (pc := 108) (v := .ref (G.2.1 61)) hC kX10 rfl 13 (by decide) fl_RX10_36 rfl dX10_law_108 ?_
      refine g_iload_n (pc := 111) (q := 1) hC dX10_law_111 rfl rfl ?_
      refine g_aload_n (pc := 112) (q := 0) hC dX10_law_112 rfl rfl ?_
      refine g_get (pc := 113) (v := .ref (G.2.1 65)) hC kX10 rfl 21 (by decide) fl_RX10_48 rfl dX10_law_113 ?_
      refine g_iload_n (pc := 116) (q := 1) hC dX10_law_116 rfl rfl ?_
      refine g_iald (pc := 117) hC 61 rfl (by decide) dX10_law_117 ?_
      refine g_iast (pc := 118) hC 60 rfl (by decide) dX10_law_118 (fun s21 => ?_)
      refine g_aload_n (pc := 119) (q := 0) hC dX10_law_119 rfl rfl ?_
      refine g_get (pc := 120) (v := .ref (G.2.1 62)) hC kX10 rfl 14 (by decide) fl_RX10_39 rfl dX10_law_120 ?_
      refine g_iload_n (pc := 123) (q := 1) hC dX10_law_123 rfl rfl ?_
      refine g_aload_n (pc := 124) (q := 0) hC dX10_law_124 rfl rfl ?_
      refine g_get (pc := 125) (v := .ref (G.2.1 66)) hC kX10 rfl 22 (by decide) fl_RX10_51 rfl dX10_law_125 ?_
      refine g_iload_n (pc := 128) (q := 1) hC dX10_law_128 rfl rfl ?_
      refine g_iald (pc := 129) hC 61 rfl (by decide) dX10_law_129 ?_
      refine g_iast (pc := 130) hC 60 rfl (by decide) dX10_law_130 (fun s22 => ?_)
      refine g_aload_n (pc := 131) (q := 0) hC dX10_law_131 rfl rfl ?_
      refine g_get (pc := 132) (v := .ref (G.2.1 63)) hC kX10 rfl 15 (by decide) fl_RX10_42 rfl dX10_law_132 ?_
      refine g_iload_n (pc := 135) (q := 1) hC dX10_law_135 rfl rfl ?_
      refine g_aload_n (pc := 136) (q := 0) hC dX10_law_136 rfl rfl ?_
      refine g_get (pc := 137) (v := .ref (G.2.1 67)) hC kX10 rfl 23 (by decide) fl_RX10_54 rfl dX10_law_137 ?_
      refine g_iload_n (pc := 140) (q := 1) hC dX10_law_140 rfl rfl ?_
      refine g_iald (pc := 141) hC 61 rfl (by decide) dX10_law_141 ?_
      refine g_iast (pc := 142) hC 60 rfl (by decide) dX10_law_142 (fun s23 => ?_)
      refine g_iinc (pc := 143) (q := 1) (w := 1) (lv' := fun v24 => [(3, .int v24), (0, .ref (G.2.1 52))]) hC dX10_law_143 rfl (by decide) (by decide) (fun _ => rfl) (fun v24 => ?_)
      refine g_goto (pc := 146) (tgt := 99) hC dX10_law_146 (by decide) ?_
      exact gT_sub [1, 0] rfl (ih s23 v24)
def mX10_law_b66    (σ : gS) (x10 : Int32) : Option (Int32 × gS) := gLet x10 (fun v11 => gLet (gUI σ 52 9 0) (fun s12 => if v11 = 0 then (some (((-100) - (s12.1 52 17)), s12)) else (gLet (gUI s12 52 11 1) (fun s13 => gLet (gUI s13 52 12 (s13.1 52 20)) (fun s14 => gLet 0 (fun v15 => (mX10_law_b99  1100 s14 v15)))))))
set_option maxHeartbeats 4000000 in
set_option maxRecDepth 100000 in
theorem wX10_law_b66 {p : Program} {l : Launch} {e : Env} {s : State} {m : MethodId} {args : Array Value} {below : List Frame} {meth : Method} {c : Code} {G : gE} (hC : gCx p s m args meth c G RX10 cX10_law 4 (some .int))     (σ : gS) (x10 : Int32)  : gT p l e rX10_law s m args below meth c G 4 iI σ 66 [(0, .ref (G.2.1 52))] [.int x10] (mX10_law_b66  σ x10) := by
  unfold mX10_law_b66
  refine g_istore_n (pc := 66) (lv' := fun v11 => [(2, .int v11), (0, .ref (G.2.1 52))]) hC dX10_law_66 rfl (by decide) (fun _ => rfl) (fun v11 => ?_)
  refine g_aload_n (pc := 67) (q := 1) hC dX10_law_67 rfl rfl ?_
  refine g_iconst (pc := 68) (v := 0) hC dX10_law_68 (by decide) ?_
  refine g_puti (pc := 69) (fty := .int) hC kX10 rfl 9 (by decide) fl_RX10_164 rfl rfl rfl rfl (fun _ _ => Nat.le_of_ble_eq_true rfl) (fun _ _ => rfl) dX10_law_69 (fun s12 => ?_)
  refine g_iload_n (pc := 72) (q := 0) hC dX10_law_72 rfl rfl ?_
  refine g_if_ne (pc := 73) (tgt := 84) hC dX10_law_73 (by decide) ?_ ?_
  · refine g_aload_n (pc := 84) (q := 1) hC dX10_law_84 rfl rfl ?_
    refine g_iconst (pc := 85) (v := 1) hC dX10_law_85 (by decide) ?_
    refine g_puti (pc := 86) (fty := .boolean) hC kX10 rfl 11 (by decide) fl_RX10_218 rfl rfl (by decide) rfl (fun _ _ => Nat.le_of_ble_eq_true rfl) (fun _ _ => rfl) dX10_law_86 (fun s13 => ?_)
    refine g_aload_n (pc := 89) (q := 1) hC dX10_law_89 rfl rfl ?_
    refine g_aload_n (pc := 90) (q := 1) hC dX10_law_90 rfl rfl ?_
    refine g_get (pc := 91) (v := .int (s13.1 52 20)) hC kX10 rfl 20 (by decide) fl_RX10_212 rfl dX10_law_91 ?_
    refine g_puti (pc := 94) (fty := .int) hC kX10 rfl 12 (by decide) fl_RX10_222 rfl rfl rfl rfl (fun _ _ => Nat.le_of_ble_eq_true rfl) (fun _ _ => rfl) dX10_law_94 (fun s14 => ?_)
    refine g_iconst (pc := 97) (v := 0) hC dX10_law_97 (by decide) ?_
    refine g_istore_n (pc := 98) (lv' := fun v15 => [(3, .int v15), (2, .int v11), (0, .ref (G.2.1 52))]) hC dX10_law_98 rfl (by decide) (fun _ => rfl) (fun v15 => ?_)
    exact gT_sub [2, 0] rfl (wX10_law_b99 hC  1100 s14 v15)
  · refine g_bipush (pc := 76) (v := (-100)) hC dX10_law_76 (by decide) ?_
    refine g_aload_n (pc := 78) (q := 1) hC dX10_law_78 rfl rfl ?_
    refine g_get (pc := 79) (v := .int (s12.1 52 17)) hC kX10 rfl 17 (by decide) fl_RX10_167 rfl dX10_law_79 ?_
    refine g_isub (pc := 82) hC dX10_law_82 ?_
    exact g_iret (pc := 83) hC dX10_law_83
def mX10_law_b65    (σ : gS)  : Option (Int32 × gS) := (mX10_law_b66  σ 0)
set_option maxHeartbeats 4000000 in
set_option maxRecDepth 100000 in
theorem wX10_law_b65 {p : Program} {l : Launch} {e : Env} {s : State} {m : MethodId} {args : Array Value} {below : List Frame} {meth : Method} {c : Code} {G : gE} (hC : gCx p s m args meth c G RX10 cX10_law 4 (some .int))     (σ : gS)   : gT p l e rX10_law s m args below meth c G 4 iI σ 65 [(0, .ref (G.2.1 52))] [] (mX10_law_b65  σ ) := by
  unfold mX10_law_b65
  refine g_iconst (pc := 65) (v := 0) hC dX10_law_65 (by decide) ?_
  exact gT_sub [0] rfl (wX10_law_b66 hC  σ 0)
def mX10_law_b46    (σ : gS) (x9 : Int32) : Option (Int32 × gS) := if x9 = 0 then ((mX10_law_b65  σ )) else (if (σ.1 52 17) = (σ.1 52 9) then ((mX10_law_b66  σ 1)) else ((mX10_law_b65  σ )))
set_option maxHeartbeats 4000000 in
set_option maxRecDepth 100000 in
theorem wX10_law_b46 {p : Program} {l : Launch} {e : Env} {s : State} {m : MethodId} {args : Array Value} {below : List Frame} {meth : Method} {c : Code} {G : gE} (hC : gCx p s m args meth c G RX10 cX10_law 4 (some .int))     (σ : gS) (x9 : Int32)  : gT p l e rX10_law s m args below meth c G 4 iI σ 46 [(0, .ref (G.2.1 52)), (1, .int x9)] [] (mX10_law_b46  σ x9) := by
  unfold mX10_law_b46
  refine g_iload_n (pc := 46) (q := 1) hC dX10_law_46 rfl rfl ?_
  refine g_if_eq (pc := 47) (tgt := 65) hC dX10_law_47 (by decide) ?_ ?_
  · exact gT_sub [0] rfl (wX10_law_b65 hC  σ )
  · refine g_aload_n (pc := 50) (q := 0) hC dX10_law_50 rfl rfl ?_
    refine g_get (pc := 51) (v := .int (σ.1 52 17)) hC kX10 rfl 17 (by decide) fl_RX10_167 rfl dX10_law_51 ?_
    refine g_aload_n (pc := 54) (q := 0) hC dX10_law_54 rfl rfl ?_
    refine g_get (pc := 55) (v := .int (σ.1 52 9)) hC kX10 rfl 9 (by decide) fl_RX10_164 rfl dX10_law_55 ?_
    refine g_icmp_ne (pc := 58) (tgt := 65) hC dX10_law_58 (by decide) ?_ ?_
    · exact gT_sub [0] rfl (wX10_law_b65 hC  σ )
    · refine g_iconst (pc := 61) (v := 1) hC dX10_law_61 (by decide) ?_
      refine g_goto (pc := 62) (tgt := 66) hC dX10_law_62 (by decide) ?_
      exact gT_sub [0] rfl (wX10_law_b66 hC  σ 1)
def mX10_law_b25    : Nat → gS → Int32 → Option (Int32 × gS)
  | 0, _, _ => none
  | n + 1, σ, x8 => if x8 = 0 then ((mX10_law_b46  σ x8)) else (gBind (mX10_is σ 59) (fun r25 s26 => if r25 = true then (gBind (mX10_isLine s26 ) (fun r27 s28 => gLet (b2i r27) (fun v29 => ((mX10_law_b25  n) s28 v29)))) else ((mX10_law_b46  s26 x8))))
set_option maxHeartbeats 4000000 in
set_option maxRecDepth 100000 in
theorem wX10_law_b25 {p : Program} {l : Launch} {e : Env} {s : State} {m : MethodId} {args : Array Value} {below : List Frame} {meth : Method} {c : Code} {G : gE} (hC : gCx p s m args meth c G RX10 cX10_law 4 (some .int))     (n : Nat) (σ : gS) (x8 : Int32)  : gT p l e rX10_law s m args below meth c G 4 iI σ 25 [(0, .ref (G.2.1 52)), (1, .int x8)] [] (mX10_law_b25  n σ x8) := by
  induction n generalizing σ x8 with
  | zero => exact gT_none
  | succ n ih =>
    unfold mX10_law_b25
    refine g_iload_n (pc := 25) (q := 1) hC dX10_law_25 rfl rfl ?_
    refine g_if_eq (pc := 26) (tgt := 46) hC dX10_law_26 (by decide) ?_ ?_
    · exact gT_sub [0, 1] rfl (wX10_law_b46 hC  σ x8)
    · refine g_aload_n (pc := 29) (q := 0) hC dX10_law_29 rfl rfl ?_
      refine g_bipush (pc := 30) (v := 59) hC dX10_law_30 (by decide) ?_
      refine g_callVz (pc := 32) (As := [.int 59]) (rest := []) hC lk_RX10_191 kX10 rfl (tX10_is _ _ σ 59) rfl rfl (Nat.le_of_ble_eq_true rfl) ⟨rfl, rfl, Nat.le_of_ble_eq_true rfl, Nat.le_of_ble_eq_true rfl⟩ dX10_law_32 (fun r25 s26 => ?_)
      refine g_bif_eq (pc := 35) (tgt := 46) hC dX10_law_35 (by decide) ?_ ?_
      · exact gT_sub [0, 1] rfl (wX10_law_b46 hC  s26 x8)
      · refine g_aload_n (pc := 38) (q := 0) hC dX10_law_38 rfl rfl ?_
        refine g_callVz (pc := 39) (As := []) (rest := []) hC lk_RX10_215 kX10 rfl (tX10_isLine _ _ s26 ) rfl rfl (Nat.le_of_ble_eq_true rfl) ⟨rfl, rfl, Nat.le_of_ble_eq_true rfl, Nat.le_of_ble_eq_true rfl⟩ dX10_law_39 (fun r27 s28 => ?_)
        refine g_istore_n (pc := 42) (lv' := fun v29 => [(1, .int v29), (0, .ref (G.2.1 52))]) hC dX10_law_42 rfl (by decide) (fun _ => rfl) (fun v29 => ?_)
        refine g_goto (pc := 43) (tgt := 25) hC dX10_law_43 (by decide) ?_
        exact gT_sub [1, 0] rfl (ih s28 v29)
def mX10_law (σ : gS)  : Option (Int32 × gS) := gLet (gUI σ 52 17 0) (fun s1 => gLet (gUI s1 52 18 0) (fun s2 => gLet (gUI s2 52 19 0) (fun s3 => gLet (gUI s3 52 20 0) (fun s4 => gBind (mX10_isLine s4 ) (fun r5 s6 => gLet (b2i r5) (fun v7 => (mX10_law_b25  1100 s6 v7)))))))
set_option maxHeartbeats 4000000 in
set_option maxRecDepth 100000 in
theorem tX10_law (l : Launch) (G : gE) (σ : gS)  : gM l G yX10_law cX10_law 4 (some .int) rX10_law iI [.ref (G.2.1 52)] σ (mX10_law σ ) := by
  refine gM_of (by decide) (Nat.le_of_ble_eq_true rfl) ?_
  intro p e s m args below meth c hC
  unfold mX10_law
  show gT p l e rX10_law s m args below meth c G 4 iI σ 0 [(0, .ref (G.2.1 52))] [] _
  refine g_aload_n (pc := 0) (q := 0) hC dX10_law_0 rfl rfl ?_
  refine g_iconst (pc := 1) (v := 0) hC dX10_law_1 (by decide) ?_
  refine g_puti (pc := 2) (fty := .int) hC kX10 rfl 17 (by decide) fl_RX10_167 rfl rfl rfl rfl (fun _ _ => Nat.le_of_ble_eq_true rfl) (fun _ _ => rfl) dX10_law_2 (fun s1 => ?_)
  refine g_aload_n (pc := 5) (q := 0) hC dX10_law_5 rfl rfl ?_
  refine g_iconst (pc := 6) (v := 0) hC dX10_law_6 (by decide) ?_
  refine g_puti (pc := 7) (fty := .int) hC kX10 rfl 18 (by decide) fl_RX10_188 rfl rfl rfl rfl (fun _ _ => Nat.le_of_ble_eq_true rfl) (fun _ _ => rfl) dX10_law_7 (fun s2 => ?_)
  refine g_aload_n (pc := 10) (q := 0) hC dX10_law_10 rfl rfl ?_
  refine g_iconst (pc := 11) (v := 0) hC dX10_law_11 (by decide) ?_
  refine g_puti (pc := 12) (fty := .int) hC kX10 rfl 19 (by decide) fl_RX10_174 rfl rfl rfl rfl (fun _ _ => Nat.le_of_ble_eq_true rfl) (fun _ _ => rfl) dX10_law_12 (fun s3 => ?_)
  refine g_aload_n (pc := 15) (q := 0) hC dX10_law_15 rfl rfl ?_
  refine g_iconst (pc := 16) (v := 0) hC dX10_law_16 (by decide) ?_
  refine g_puti (pc := 17) (fty := .int) hC kX10 rfl 20 (by decide) fl_RX10_212 rfl rfl rfl rfl (fun _ _ => Nat.le_of_ble_eq_true rfl) (fun _ _ => rfl) dX10_law_17 (fun s4 => ?_)
  refine g_aload_n (pc := 20) (q := 0) hC dX10_law_20 rfl rfl ?_
  refine g_callVz (pc := 21) (As := []) (rest := []) hC lk_RX10_215 kX10 rfl (tX10_isLine _ _ s4 ) rfl rfl (Nat.le_of_ble_eq_true rfl) ⟨rfl, rfl, Nat.le_of_ble_eq_true rfl, Nat.le_of_ble_eq_true rfl⟩ dX10_law_21 (fun r5 s6 => ?_)
  refine g_istore_n (pc := 24) (lv' := fun v7 => [(1, .int v7), (0, .ref (G.2.1 52))]) hC dX10_law_24 rfl (by decide) (fun _ => rfl) (fun v7 => ?_)
  exact gT_sub [1, 0] rfl (wX10_law_b25 hC  1100 s6 v7)
theorem lk_RX10_336 : gLV RX10 336 RX10 yX10_ran cX10_ran 2 (none) 1 := ⟨(gBig_tab 1534 (by decide +kernel) (by decide +kernel)), (gBig_tab 1536 (by decide +kernel) (by decide +kernel)), (gBig_sel 88 (by decide +kernel) (by decide +kernel)), (gBig_tab 11 (by decide +kernel) (by decide +kernel)), (gBig_tab 1537 (by decide +kernel) (by decide +kernel)), rfl, by decide +kernel, by decide +kernel, by decide +kernel⟩
theorem lk_RX10_339 : gLV RX10 339 RX10 yX10_letsBy cX10_letsBy 4 (some .int) 3 := ⟨(gBig_tab 1530 (by decide +kernel) (by decide +kernel)), (gBig_tab 1532 (by decide +kernel) (by decide +kernel)), (gBig_sel 87 (by decide +kernel) (by decide +kernel)), (gBig_tab 11 (by decide +kernel) (by decide +kernel)), (gBig_tab 1533 (by decide +kernel) (by decide +kernel)), rfl, by decide +kernel, by decide +kernel, by decide +kernel⟩
theorem dX10_letsBy_0 : decode cX10_letsBy 0 = .ok (.iload_n 2, 1) := by decide +kernel
theorem dX10_letsBy_1 : decode cX10_letsBy 1 = .ok (.lookupswitch 76 #[(0, 35), (1, 44), (6, 60)], 35) := by decide +kernel
theorem dX10_letsBy_36 : decode cX10_letsBy 36 = .ok (.aload_n 0, 1) := by decide +kernel
theorem dX10_letsBy_37 : decode cX10_letsBy 37 = .ok (.iconst 1, 1) := by decide +kernel
theorem dX10_letsBy_38 : decode cX10_letsBy 38 = .ok (.invokevirtual 336, 3) := by decide +kernel
theorem dX10_letsBy_41 : decode cX10_letsBy 41 = .ok (.iload_n 3, 1) := by decide +kernel
theorem dX10_letsBy_42 : decode cX10_letsBy 42 = .ok (.iload_n 1, 1) := by decide +kernel
theorem dX10_letsBy_43 : decode cX10_letsBy 43 = .ok (.iadd, 1) := by decide +kernel
theorem dX10_letsBy_44 : decode cX10_letsBy 44 = .ok (.ireturn, 1) := by decide +kernel
theorem dX10_letsBy_45 : decode cX10_letsBy 45 = .ok (.aload_n 0, 1) := by decide +kernel
theorem dX10_letsBy_46 : decode cX10_letsBy 46 = .ok (.bipush 20, 2) := by decide +kernel
theorem dX10_letsBy_48 : decode cX10_letsBy 48 = .ok (.invokevirtual 336, 3) := by decide +kernel
theorem dX10_letsBy_51 : decode cX10_letsBy 51 = .ok (.aload_n 0, 1) := by decide +kernel
theorem dX10_letsBy_52 : decode cX10_letsBy 52 = .ok (.iload_n 1, 1) := by decide +kernel
theorem dX10_letsBy_53 : decode cX10_letsBy 53 = .ok (.iconst 0, 1) := by decide +kernel
theorem dX10_letsBy_54 : decode cX10_letsBy 54 = .ok (.iload_n 3, 1) := by decide +kernel
theorem dX10_letsBy_55 : decode cX10_letsBy 55 = .ok (.invokevirtual 339, 3) := by decide +kernel
theorem dX10_letsBy_58 : decode cX10_letsBy 58 = .ok (.iconst 3, 1) := by decide +kernel
theorem dX10_letsBy_59 : decode cX10_letsBy 59 = .ok (.iadd, 1) := by decide +kernel
theorem dX10_letsBy_60 : decode cX10_letsBy 60 = .ok (.ireturn, 1) := by decide +kernel
theorem dX10_letsBy_61 : decode cX10_letsBy 61 = .ok (.aload_n 0, 1) := by decide +kernel
theorem dX10_letsBy_62 : decode cX10_letsBy 62 = .ok (.bipush 70, 2) := by decide +kernel
theorem dX10_letsBy_64 : decode cX10_letsBy 64 = .ok (.invokevirtual 336, 3) := by decide +kernel
theorem dX10_letsBy_67 : decode cX10_letsBy 67 = .ok (.aload_n 0, 1) := by decide +kernel
theorem dX10_letsBy_68 : decode cX10_letsBy 68 = .ok (.iload_n 1, 1) := by decide +kernel
theorem dX10_letsBy_69 : decode cX10_letsBy 69 = .ok (.iconst 0, 1) := by decide +kernel
theorem dX10_letsBy_70 : decode cX10_letsBy 70 = .ok (.iload_n 3, 1) := by decide +kernel
theorem dX10_letsBy_71 : decode cX10_letsBy 71 = .ok (.invokevirtual 339, 3) := by decide +kernel
theorem dX10_letsBy_74 : decode cX10_letsBy 74 = .ok (.iconst 2, 1) := by decide +kernel
theorem dX10_letsBy_75 : decode cX10_letsBy 75 = .ok (.imul, 1) := by decide +kernel
theorem dX10_letsBy_76 : decode cX10_letsBy 76 = .ok (.ireturn, 1) := by decide +kernel
theorem dX10_letsBy_77 : decode cX10_letsBy 77 = .ok (.aload_n 0, 1) := by decide +kernel
theorem dX10_letsBy_78 : decode cX10_letsBy 78 = .ok (.iload_n 1, 1) := by decide +kernel
theorem dX10_letsBy_79 : decode cX10_letsBy 79 = .ok (.iload_n 2, 1) := by decide +kernel
theorem dX10_letsBy_80 : decode cX10_letsBy 80 = .ok (.invokestatic 342, 3) := by decide +kernel
theorem dX10_letsBy_83 : decode cX10_letsBy 83 = .ok (.iload_n 3, 1) := by decide +kernel
theorem dX10_letsBy_84 : decode cX10_letsBy 84 = .ok (.invokevirtual 339, 3) := by decide +kernel
theorem dX10_letsBy_87 : decode cX10_letsBy 87 = .ok (.ireturn, 1) := by decide +kernel
abbrev rrX10_letsBy (d : Nat) : Room := { frames := 1 + d, cells := 0, slots := 0, locals := 21 + 23 * d }
def mrX10_letsBy (rec : (gS → Int32 → Int32 → Int32 → Option (Int32 × gS))) (σ : gS) (p0 : Int32) (p1 : Int32) (p2 : Int32) : Option (Int32 × gS) := if p1 = 0 then (gBind (mX10_ran σ 1) (fun r1 s2 => some ((p2 + p0), s2))) else (if p1 = 1 then (gBind (mX10_ran σ 20) (fun r3 s4 => gBind (rec s4 p0 0 p2) (fun r5 s6 => some ((r5 + 3), s6)))) else (if p1 = 6 then (gBind (mX10_ran σ 70) (fun r7 s8 => gBind (rec s8 p0 0 p2) (fun r9 s10 => some ((r9 * 2), s10)))) else (gBind (mX10_above σ p1) (fun r11 s12 => gBind (rec s12 p0 r11 p2) (fun r13 s14 => some (r13, s14))))))
set_option maxHeartbeats 4000000 in
set_option maxRecDepth 100000 in
theorem trX10_letsBy {l : Launch} {G : gE} {d : Nat} {rec : (gS → Int32 → Int32 → Int32 → Option (Int32 × gS))} (hrec : (∀ (σ : gS) (p0 : Int32) (p1 : Int32) (p2 : Int32), gM l G yX10_letsBy cX10_letsBy 4 (some .int) (rrX10_letsBy d) iI [.ref (G.2.1 52), .int p0, .int p1, .int p2] σ (rec σ p0 p1 p2))) : ∀ (σ : gS) (p0 : Int32) (p1 : Int32) (p2 : Int32), gM l G yX10_letsBy cX10_letsBy 4 (some .int) (rrX10_letsBy (d + 1)) iI [.ref (G.2.1 52), .int p0, .int p1, .int p2] σ (mrX10_letsBy rec σ p0 p1 p2) := by
  intro σ p0 p1 p2
  refine gM_of (by decide) (Nat.le_of_ble_eq_true rfl) ?_
  intro p e s m args below meth c hC
  unfold mrX10_letsBy
  show gT p l e (rrX10_letsBy (d + 1)) s m args below meth c G 4 iI σ 0 [(0, .ref (G.2.1 52)), (1, .int p0), (2, .int p1), (3, .int p2)] [] _
  refine g_iload_n (pc := 0) (q := 2) hC dX10_letsBy_0 rfl rfl ?_
  refine gT_if (fun c100 => ?_) (fun c100 => ?_)
  · refine g_lookup (tgt := 36) (off := 35) hC dX10_letsBy_1 (by decide) (by rw [c100]; decide) (by decide) ?_
    refine g_aload_n (pc := 36) (q := 0) hC dX10_letsBy_36 rfl rfl ?_
    refine g_iconst (pc := 37) (v := 1) hC dX10_letsBy_37 (by decide) ?_
    refine g_callVv (pc := 38) (As := [.int 1]) (rest := []) hC lk_RX10_336 kX10 rfl (tX10_ran _ _ σ 1) rfl rfl (Nat.le_of_ble_eq_true rfl) ⟨rfl, rfl, by simp only [rrX10_letsBy] <;> omega, by simp only [rrX10_letsBy] <;> omega⟩ dX10_letsBy_38 (fun r1 s2 => ?_)
    refine g_iload_n (pc := 41) (q := 3) hC dX10_letsBy_41 rfl rfl ?_
    refine g_iload_n (pc := 42) (q := 1) hC dX10_letsBy_42 rfl rfl ?_
    refine g_iadd (pc := 43) hC dX10_letsBy_43 ?_
    exact g_iret (pc := 44) hC dX10_letsBy_44
  · refine gT_if (fun c101 => ?_) (fun c101 => ?_)
    · refine g_lookup (tgt := 45) (off := 44) hC dX10_letsBy_1 (by decide) (by rw [c101]; decide) (by decide) ?_
      refine g_aload_n (pc := 45) (q := 0) hC dX10_letsBy_45 rfl rfl ?_
      refine g_bipush (pc := 46) (v := 20) hC dX10_letsBy_46 (by decide) ?_
      refine g_callVv (pc := 48) (As := [.int 20]) (rest := []) hC lk_RX10_336 kX10 rfl (tX10_ran _ _ σ 20) rfl rfl (Nat.le_of_ble_eq_true rfl) ⟨rfl, rfl, by simp only [rrX10_letsBy] <;> omega, by simp only [rrX10_letsBy] <;> omega⟩ dX10_letsBy_48 (fun r3 s4 => ?_)
      refine g_aload_n (pc := 51) (q := 0) hC dX10_letsBy_51 rfl rfl ?_
      refine g_iload_n (pc := 52) (q := 1) hC dX10_letsBy_52 rfl rfl ?_
      refine g_iconst (pc := 53) (v := 0) hC dX10_letsBy_53 (by decide) ?_
      refine g_iload_n (pc := 54) (q := 3) hC dX10_letsBy_54 rfl rfl ?_
      refine g_callVi (pc := 55) (As := [.int p0, .int 0, .int p2]) (rest := []) hC lk_RX10_339 kX10 rfl (hrec s4 p0 0 p2) rfl rfl (Nat.le_of_ble_eq_true rfl) ⟨rfl, rfl, by simp only [rrX10_letsBy, rrX10_letsBy] <;> omega, by simp only [rrX10_letsBy, rrX10_letsBy] <;> omega⟩ dX10_letsBy_55 (fun r5 s6 => ?_)
      refine g_iconst (pc := 58) (v := 3) hC dX10_letsBy_58 (by decide) ?_
      refine g_iadd (pc := 59) hC dX10_letsBy_59 ?_
      exact g_iret (pc := 60) hC dX10_letsBy_60
    · refine gT_if (fun c102 => ?_) (fun c102 => ?_)
      · refine g_lookup (tgt := 61) (off := 60) hC dX10_letsBy_1 (by decide) (by rw [c102]; decide) (by decide) ?_
        refine g_aload_n (pc := 61) (q := 0) hC dX10_letsBy_61 rfl rfl ?_
        refine g_bipush (pc := 62) (v := 70) hC dX10_letsBy_62 (by decide) ?_
        refine g_callVv (pc := 64) (As := [.int 70]) (rest := []) hC lk_RX10_336 kX10 rfl (tX10_ran _ _ σ 70) rfl rfl (Nat.le_of_ble_eq_true rfl) ⟨rfl, rfl, by simp only [rrX10_letsBy] <;> omega, by simp only [rrX10_letsBy] <;> omega⟩ dX10_letsBy_64 (fun r7 s8 => ?_)
        refine g_aload_n (pc := 67) (q := 0) hC dX10_letsBy_67 rfl rfl ?_
        refine g_iload_n (pc := 68) (q := 1) hC dX10_letsBy_68 rfl rfl ?_
        refine g_iconst (pc := 69) (v := 0) hC dX10_letsBy_69 (by decide) ?_
        refine g_iload_n (pc := 70) (q := 3) hC dX10_letsBy_70 rfl rfl ?_
        refine g_callVi (pc := 71) (As := [.int p0, .int 0, .int p2]) (rest := []) hC lk_RX10_339 kX10 rfl (hrec s8 p0 0 p2) rfl rfl (Nat.le_of_ble_eq_true rfl) ⟨rfl, rfl, by simp only [rrX10_letsBy, rrX10_letsBy] <;> omega, by simp only [rrX10_letsBy, rrX10_letsBy] <;> omega⟩ dX10_letsBy_71 (fun r9 s10 => ?_)
        refine g_iconst (pc := 74) (v := 2) hC dX10_letsBy_74 (by decide) ?_
        refine g_imul (pc := 75) hC dX10_letsBy_75 ?_
        exact g_iret (pc := 76) hC dX10_letsBy_76
      · refine g_lookup (tgt := 77) (off := 76) hC dX10_letsBy_1 (by decide) ((lv_osw c100 rfl).trans ((lv_osw c101 rfl).trans ((lv_osw c102 rfl).trans rfl))) (by decide) ?_
        refine g_aload_n (pc := 77) (q := 0) hC dX10_letsBy_77 rfl rfl ?_
        refine g_iload_n (pc := 78) (q := 1) hC dX10_letsBy_78 rfl rfl ?_
        refine g_iload_n (pc := 79) (q := 2) hC dX10_letsBy_79 rfl rfl ?_
        refine g_callSi (pc := 80) (As := [.int p1]) (rest := [.int p0, .ref (G.2.1 52)]) hC lk_RX10_342 (tX10_above _ _ σ p1) rfl rfl (Nat.le_of_ble_eq_true rfl) ⟨rfl, rfl, by simp only [rrX10_letsBy] <;> omega, by simp only [rrX10_letsBy] <;> omega⟩ dX10_letsBy_80 (fun r11 s12 => ?_)
        refine g_iload_n (pc := 83) (q := 3) hC dX10_letsBy_83 rfl rfl ?_
        refine g_callVi (pc := 84) (As := [.int p0, .int r11, .int p2]) (rest := []) hC lk_RX10_339 kX10 rfl (hrec s12 p0 r11 p2) rfl rfl (Nat.le_of_ble_eq_true rfl) ⟨rfl, rfl, by simp only [rrX10_letsBy, rrX10_letsBy] <;> omega, by simp only [rrX10_letsBy, rrX10_letsBy] <;> omega⟩ dX10_letsBy_84 (fun r13 s14 => ?_)
        exact g_iret (pc := 87) hC dX10_letsBy_87
def mglets : Nat → (gS → Int32 → Int32 → Int32 → Option (Int32 × gS))
  | 0 => (fun _ _ _ _ => none)
  | d + 1 => (mrX10_letsBy (mglets d))
theorem tglets (l : Launch) (G : gE) : ∀ d : Nat, (∀ (σ : gS) (p0 : Int32) (p1 : Int32) (p2 : Int32), gM l G yX10_letsBy cX10_letsBy 4 (some .int) (rrX10_letsBy d) iI [.ref (G.2.1 52), .int p0, .int p1, .int p2] σ ((mglets d) σ p0 p1 p2)) := by
  intro d
  induction d with
  | zero => exact (fun _ _ _ _ _ _ h => (by cases h))
  | succ d ih => exact trX10_letsBy ih
abbrev rX10_letsBy : Room := rrX10_letsBy 16
def mX10_letsBy (σ : gS) (p0 : Int32) (p1 : Int32) (p2 : Int32) : Option (Int32 × gS) := (mglets 16) σ p0 p1 p2
theorem tX10_letsBy (l : Launch) (G : gE) (σ : gS) (p0 : Int32) (p1 : Int32) (p2 : Int32) : gM l G yX10_letsBy cX10_letsBy 4 (some .int) rX10_letsBy iI [.ref (G.2.1 52), .int p0, .int p1, .int p2] σ (mX10_letsBy σ p0 p1 p2) := (tglets l G 16) σ p0 p1 p2
theorem lk_RX10_348 : gLV RX10 348 RX10 yX10_leaksBy cX10_leaksBy 5 (some .int) 3 := ⟨(gBig_tab 1545 (by decide +kernel) (by decide +kernel)), (gBig_tab 1547 (by decide +kernel) (by decide +kernel)), (gBig_sel 90 (by decide +kernel) (by decide +kernel)), (gBig_tab 11 (by decide +kernel) (by decide +kernel)), (gBig_tab 1548 (by decide +kernel) (by decide +kernel)), rfl, by decide +kernel, by decide +kernel, by decide +kernel⟩
theorem dX10_leaksBy_0 : decode cX10_leaksBy 0 = .ok (.iload_n 2, 1) := by decide +kernel
theorem dX10_leaksBy_1 : decode cX10_leaksBy 1 = .ok (.tableswitch 92 0 4 #[35, 92, 92, 45, 61], 35) := by decide +kernel
theorem dX10_leaksBy_36 : decode cX10_leaksBy 36 = .ok (.aload_n 0, 1) := by decide +kernel
theorem dX10_leaksBy_37 : decode cX10_leaksBy 37 = .ok (.bipush 11, 2) := by decide +kernel
theorem dX10_leaksBy_39 : decode cX10_leaksBy 39 = .ok (.invokevirtual 336, 3) := by decide +kernel
theorem dX10_leaksBy_42 : decode cX10_leaksBy 42 = .ok (.iload_n 3, 1) := by decide +kernel
theorem dX10_leaksBy_43 : decode cX10_leaksBy 43 = .ok (.iload_n 1, 1) := by decide +kernel
theorem dX10_leaksBy_44 : decode cX10_leaksBy 44 = .ok (.ixor, 1) := by decide +kernel
theorem dX10_leaksBy_45 : decode cX10_leaksBy 45 = .ok (.ireturn, 1) := by decide +kernel
theorem dX10_leaksBy_46 : decode cX10_leaksBy 46 = .ok (.aload_n 0, 1) := by decide +kernel
theorem dX10_leaksBy_47 : decode cX10_leaksBy 47 = .ok (.bipush 40, 2) := by decide +kernel
theorem dX10_leaksBy_49 : decode cX10_leaksBy 49 = .ok (.invokevirtual 336, 3) := by decide +kernel
theorem dX10_leaksBy_52 : decode cX10_leaksBy 52 = .ok (.aload_n 0, 1) := by decide +kernel
theorem dX10_leaksBy_53 : decode cX10_leaksBy 53 = .ok (.iload_n 1, 1) := by decide +kernel
theorem dX10_leaksBy_54 : decode cX10_leaksBy 54 = .ok (.iconst 2, 1) := by decide +kernel
theorem dX10_leaksBy_55 : decode cX10_leaksBy 55 = .ok (.iload_n 3, 1) := by decide +kernel
theorem dX10_leaksBy_56 : decode cX10_leaksBy 56 = .ok (.invokevirtual 348, 3) := by decide +kernel
theorem dX10_leaksBy_59 : decode cX10_leaksBy 59 = .ok (.iconst 3, 1) := by decide +kernel
theorem dX10_leaksBy_60 : decode cX10_leaksBy 60 = .ok (.imul, 1) := by decide +kernel
theorem dX10_leaksBy_61 : decode cX10_leaksBy 61 = .ok (.ireturn, 1) := by decide +kernel
theorem dX10_leaksBy_62 : decode cX10_leaksBy 62 = .ok (.aload_n 0, 1) := by decide +kernel
theorem dX10_leaksBy_63 : decode cX10_leaksBy 63 = .ok (.bipush 50, 2) := by decide +kernel
theorem dX10_leaksBy_65 : decode cX10_leaksBy 65 = .ok (.invokevirtual 336, 3) := by decide +kernel
theorem dX10_leaksBy_68 : decode cX10_leaksBy 68 = .ok (.aload_n 0, 1) := by decide +kernel
theorem dX10_leaksBy_69 : decode cX10_leaksBy 69 = .ok (.iload_n 1, 1) := by decide +kernel
theorem dX10_leaksBy_70 : decode cX10_leaksBy 70 = .ok (.iconst 1, 1) := by decide +kernel
theorem dX10_leaksBy_71 : decode cX10_leaksBy 71 = .ok (.iload_n 3, 1) := by decide +kernel
theorem dX10_leaksBy_72 : decode cX10_leaksBy 72 = .ok (.invokevirtual 348, 3) := by decide +kernel
theorem dX10_leaksBy_75 : decode cX10_leaksBy 75 = .ok (.istore 4, 2) := by decide +kernel
theorem dX10_leaksBy_77 : decode cX10_leaksBy 77 = .ok (.iload 4, 2) := by decide +kernel
theorem dX10_leaksBy_79 : decode cX10_leaksBy 79 = .ok (.aload_n 0, 1) := by decide +kernel
theorem dX10_leaksBy_80 : decode cX10_leaksBy 80 = .ok (.iload_n 1, 1) := by decide +kernel
theorem dX10_leaksBy_81 : decode cX10_leaksBy 81 = .ok (.aload_n 0, 1) := by decide +kernel
theorem dX10_leaksBy_82 : decode cX10_leaksBy 82 = .ok (.getfield 75, 3) := by decide +kernel
theorem dX10_leaksBy_85 : decode cX10_leaksBy 85 = .ok (.iload_n 1, 1) := by decide +kernel
theorem dX10_leaksBy_86 : decode cX10_leaksBy 86 = .ok (.iaload, 1) := by decide +kernel
theorem dX10_leaksBy_87 : decode cX10_leaksBy 87 = .ok (.iconst 2, 1) := by decide +kernel
theorem dX10_leaksBy_88 : decode cX10_leaksBy 88 = .ok (.invokevirtual 339, 3) := by decide +kernel
theorem dX10_leaksBy_91 : decode cX10_leaksBy 91 = .ok (.isub, 1) := by decide +kernel
theorem dX10_leaksBy_92 : decode cX10_leaksBy 92 = .ok (.ireturn, 1) := by decide +kernel
theorem dX10_leaksBy_93 : decode cX10_leaksBy 93 = .ok (.aload_n 0, 1) := by decide +kernel
theorem dX10_leaksBy_94 : decode cX10_leaksBy 94 = .ok (.iload_n 1, 1) := by decide +kernel
theorem dX10_leaksBy_95 : decode cX10_leaksBy 95 = .ok (.iload_n 2, 1) := by decide +kernel
theorem dX10_leaksBy_96 : decode cX10_leaksBy 96 = .ok (.invokestatic 342, 3) := by decide +kernel
theorem dX10_leaksBy_99 : decode cX10_leaksBy 99 = .ok (.iload_n 3, 1) := by decide +kernel
theorem dX10_leaksBy_100 : decode cX10_leaksBy 100 = .ok (.invokevirtual 348, 3) := by decide +kernel
theorem dX10_leaksBy_103 : decode cX10_leaksBy 103 = .ok (.ireturn, 1) := by decide +kernel
abbrev rrX10_leaksBy (d : Nat) : Room := { frames := 18 + d, cells := 0, slots := 0, locals := 412 + 24 * d }
def mrX10_leaksBy (rec : (gS → Int32 → Int32 → Int32 → Option (Int32 × gS))) (σ : gS) (p0 : Int32) (p1 : Int32) (p2 : Int32) : Option (Int32 × gS) := if p1 = 0 then (gBind (mX10_ran σ 11) (fun r1 s2 => some ((p2 ^^^ p0), s2))) else (if p1 = 1 then (gBind (mX10_above σ p1) (fun r3 s4 => gBind (rec s4 p0 r3 p2) (fun r5 s6 => some (r5, s6)))) else (if p1 = 2 then (gBind (mX10_above σ p1) (fun r7 s8 => gBind (rec s8 p0 r7 p2) (fun r9 s10 => some (r9, s10)))) else (if p1 = 3 then (gBind (mX10_ran σ 40) (fun r11 s12 => gBind (rec s12 p0 2 p2) (fun r13 s14 => some ((r13 * 3), s14)))) else (if p1 = 4 then (gBind (mX10_ran σ 50) (fun r15 s16 => gBind (rec s16 p0 1 p2) (fun r17 s18 => gLet r17 (fun v19 => if inbB p0 50 = true then (gBind (mX10_letsBy s18 p0 (s18.1 74 (Int32.toNatClampNeg p0)) 2) (fun r20 s21 => some ((v19 - r20), s21))) else none)))) else (gBind (mX10_above σ p1) (fun r22 s23 => gBind (rec s23 p0 r22 p2) (fun r24 s25 => some (r24, s25))))))))
set_option maxHeartbeats 4000000 in
set_option maxRecDepth 100000 in
theorem trX10_leaksBy {l : Launch} {G : gE} {d : Nat} {rec : (gS → Int32 → Int32 → Int32 → Option (Int32 × gS))} (hrec : (∀ (σ : gS) (p0 : Int32) (p1 : Int32) (p2 : Int32), gM l G yX10_leaksBy cX10_leaksBy 5 (some .int) (rrX10_leaksBy d) iI [.ref (G.2.1 52), .int p0, .int p1, .int p2] σ (rec σ p0 p1 p2))) : ∀ (σ : gS) (p0 : Int32) (p1 : Int32) (p2 : Int32), gM l G yX10_leaksBy cX10_leaksBy 5 (some .int) (rrX10_leaksBy (d + 1)) iI [.ref (G.2.1 52), .int p0, .int p1, .int p2] σ (mrX10_leaksBy rec σ p0 p1 p2) := by
  intro σ p0 p1 p2
  refine gM_of (by decide) (Nat.le_of_ble_eq_true rfl) ?_
  intro p e s m args below meth c hC
  unfold mrX10_leaksBy
  show gT p l e (rrX10_leaksBy (d + 1)) s m args below meth c G 5 iI σ 0 [(0, .ref (G.2.1 52)), (1, .int p0), (2, .int p1), (3, .int p2)] [] _
  refine g_iload_n (pc := 0) (q := 2) hC dX10_leaksBy_0 rfl rfl ?_
  refine gT_if (fun c100 => ?_) (fun c100 => ?_)
  · refine g_tabIn (tgt := 36) (off := 35) hC dX10_leaksBy_1 c100 (by decide) (by decide) (by decide) (by decide) ?_
    refine g_aload_n (pc := 36) (q := 0) hC dX10_leaksBy_36 rfl rfl ?_
    refine g_bipush (pc := 37) (v := 11) hC dX10_leaksBy_37 (by decide) ?_
    refine g_callVv (pc := 39) (As := [.int 11]) (rest := []) hC lk_RX10_336 kX10 rfl (tX10_ran _ _ σ 11) rfl rfl (Nat.le_of_ble_eq_true rfl) ⟨rfl, rfl, by simp only [rrX10_leaksBy] <;> omega, by simp only [rrX10_leaksBy] <;> omega⟩ dX10_leaksBy_39 (fun r1 s2 => ?_)
    refine g_iload_n (pc := 42) (q := 3) hC dX10_leaksBy_42 rfl rfl ?_
    refine g_iload_n (pc := 43) (q := 1) hC dX10_leaksBy_43 rfl rfl ?_
    refine g_ixor (pc := 44) hC dX10_leaksBy_44 ?_
    exact g_iret (pc := 45) hC dX10_leaksBy_45
  · refine gT_if (fun c101 => ?_) (fun c101 => ?_)
    · refine g_tabIn (tgt := 93) (off := 92) hC dX10_leaksBy_1 c101 (by decide) (by decide) (by decide) (by decide) ?_
      refine g_aload_n (pc := 93) (q := 0) hC dX10_leaksBy_93 rfl rfl ?_
      refine g_iload_n (pc := 94) (q := 1) hC dX10_leaksBy_94 rfl rfl ?_
      refine g_iload_n (pc := 95) (q := 2) hC dX10_leaksBy_95 rfl rfl ?_
      refine g_callSi (pc := 96) (As := [.int p1]) (rest := [.int p0, .ref (G.2.1 52)]) hC lk_RX10_342 (tX10_above _ _ σ p1) rfl rfl (Nat.le_of_ble_eq_true rfl) ⟨rfl, rfl, by simp only [rrX10_leaksBy] <;> omega, by simp only [rrX10_leaksBy] <;> omega⟩ dX10_leaksBy_96 (fun r3 s4 => ?_)
      refine g_iload_n (pc := 99) (q := 3) hC dX10_leaksBy_99 rfl rfl ?_
      refine g_callVi (pc := 100) (As := [.int p0, .int r3, .int p2]) (rest := []) hC lk_RX10_348 kX10 rfl (hrec s4 p0 r3 p2) rfl rfl (Nat.le_of_ble_eq_true rfl) ⟨rfl, rfl, by simp only [rrX10_leaksBy, rrX10_leaksBy] <;> omega, by simp only [rrX10_leaksBy, rrX10_leaksBy] <;> omega⟩ dX10_leaksBy_100 (fun r5 s6 => ?_)
      exact g_iret (pc := 103) hC dX10_leaksBy_103
    · refine gT_if (fun c102 => ?_) (fun c102 => ?_)
      · refine g_tabIn (tgt := 93) (off := 92) hC dX10_leaksBy_1 c102 (by decide) (by decide) (by decide) (by decide) ?_
        refine g_aload_n (pc := 93) (q := 0) hC dX10_leaksBy_93 rfl rfl ?_
        refine g_iload_n (pc := 94) (q := 1) hC dX10_leaksBy_94 rfl rfl ?_
        refine g_iload_n (pc := 95) (q := 2) hC dX10_leaksBy_95 rfl rfl ?_
        refine g_callSi (pc := 96) (As := [.int p1]) (rest := [.int p0, .ref (G.2.1 52)]) hC lk_RX10_342 (tX10_above _ _ σ p1) rfl rfl (Nat.le_of_ble_eq_true rfl) ⟨rfl, rfl, by simp only [rrX10_leaksBy] <;> omega, by simp only [rrX10_leaksBy] <;> omega⟩ dX10_leaksBy_96 (fun r7 s8 => ?_)
        refine g_iload_n (pc := 99) (q := 3) hC dX10_leaksBy_99 rfl rfl ?_
        refine g_callVi (pc := 100) (As := [.int p0, .int r7, .int p2]) (rest := []) hC lk_RX10_348 kX10 rfl (hrec s8 p0 r7 p2) rfl rfl (Nat.le_of_ble_eq_true rfl) ⟨rfl, rfl, by simp only [rrX10_leaksBy, rrX10_leaksBy] <;> omega, by simp only [rrX10_leaksBy, rrX10_leaksBy] <;> omega⟩ dX10_leaksBy_100 (fun r9 s10 => ?_)
        exact g_iret (pc := 103) hC dX10_leaksBy_103
      · refine gT_if (fun c103 => ?_) (fun c103 => ?_)
        · refine g_tabIn (tgt := 46) (off := 45) hC dX10_leaksBy_1 c103 (by decide) (by decide) (by decide) (by decide) ?_
          refine g_aload_n (pc := 46) (q := 0) hC dX10_leaksBy_46 rfl rfl ?_
          refine g_bipush (pc := 47) (v := 40) hC dX10_leaksBy_47 (by decide) ?_
          refine g_callVv (pc := 49) (As := [.int 40]) (rest := []) hC lk_RX10_336 kX10 rfl (tX10_ran _ _ σ 40) rfl rfl (Nat.le_of_ble_eq_true rfl) ⟨rfl, rfl, by simp only [rrX10_leaksBy] <;> omega, by simp only [rrX10_leaksBy] <;> omega⟩ dX10_leaksBy_49 (fun r11 s12 => ?_)
          refine g_aload_n (pc := 52) (q := 0) hC dX10_leaksBy_52 rfl rfl ?_
          refine g_iload_n (pc := 53) (q := 1) hC dX10_leaksBy_53 rfl rfl ?_
          refine g_iconst (pc := 54) (v := 2) hC dX10_leaksBy_54 (by decide) ?_
          refine g_iload_n (pc := 55) (q := 3) hC dX10_leaksBy_55 rfl rfl ?_
          refine g_callVi (pc := 56) (As := [.int p0, .int 2, .int p2]) (rest := []) hC lk_RX10_348 kX10 rfl (hrec s12 p0 2 p2) rfl rfl (Nat.le_of_ble_eq_true rfl) ⟨rfl, rfl, by simp only [rrX10_leaksBy, rrX10_leaksBy] <;> omega, by simp only [rrX10_leaksBy, rrX10_leaksBy] <;> omega⟩ dX10_leaksBy_56 (fun r13 s14 => ?_)
          refine g_iconst (pc := 59) (v := 3) hC dX10_leaksBy_59 (by decide) ?_
          refine g_imul (pc := 60) hC dX10_leaksBy_60 ?_
          exact g_iret (pc := 61) hC dX10_leaksBy_61
        · refine gT_if (fun c104 => ?_) (fun c104 => ?_)
          · refine g_tabIn (tgt := 62) (off := 61) hC dX10_leaksBy_1 c104 (by decide) (by decide) (by decide) (by decide) ?_
            refine g_aload_n (pc := 62) (q := 0) hC dX10_leaksBy_62 rfl rfl ?_
            refine g_bipush (pc := 63) (v := 50) hC dX10_leaksBy_63 (by decide) ?_
            refine g_callVv (pc := 65) (As := [.int 50]) (rest := []) hC lk_RX10_336 kX10 rfl (tX10_ran _ _ σ 50) rfl rfl (Nat.le_of_ble_eq_true rfl) ⟨rfl, rfl, by simp only [rrX10_leaksBy] <;> omega, by simp only [rrX10_leaksBy] <;> omega⟩ dX10_leaksBy_65 (fun r15 s16 => ?_)
            refine g_aload_n (pc := 68) (q := 0) hC dX10_leaksBy_68 rfl rfl ?_
            refine g_iload_n (pc := 69) (q := 1) hC dX10_leaksBy_69 rfl rfl ?_
            refine g_iconst (pc := 70) (v := 1) hC dX10_leaksBy_70 (by decide) ?_
            refine g_iload_n (pc := 71) (q := 3) hC dX10_leaksBy_71 rfl rfl ?_
            refine g_callVi (pc := 72) (As := [.int p0, .int 1, .int p2]) (rest := []) hC lk_RX10_348 kX10 rfl (hrec s16 p0 1 p2) rfl rfl (Nat.le_of_ble_eq_true rfl) ⟨rfl, rfl, by simp only [rrX10_leaksBy, rrX10_leaksBy] <;> omega, by simp only [rrX10_leaksBy, rrX10_leaksBy] <;> omega⟩ dX10_leaksBy_72 (fun r17 s18 => ?_)
            refine g_istore (pc := 75) (lv' := fun v19 => [(4, .int v19), (0, .ref (G.2.1 52)), (1, .int p0), (2, .int p1), (3, .int p2)]) hC dX10_leaksBy_75 (by decide) (fun _ => rfl) (fun v19 => ?_)
            refine g_iload (pc := 77) (q := 0) hC dX10_leaksBy_77 rfl ?_
            refine g_aload_n (pc := 79) (q := 1) hC dX10_leaksBy_79 rfl rfl ?_
            refine g_iload_n (pc := 80) (q := 2) hC dX10_leaksBy_80 rfl rfl ?_
            refine g_aload_n (pc := 81) (q := 1) hC dX10_leaksBy_81 rfl rfl ?_
            refine g_get (pc := 82) (v := .ref (G.2.1 74)) hC kX10 rfl 34 (by decide) fl_RX10_75 rfl dX10_leaksBy_82 ?_
            refine g_iload_n (pc := 85) (q := 2) hC dX10_leaksBy_85 rfl rfl ?_
            refine g_iald (pc := 86) hC 50 rfl (by decide) dX10_leaksBy_86 ?_
            refine g_iconst (pc := 87) (v := 2) hC dX10_leaksBy_87 (by decide) ?_
            refine g_callVi (pc := 88) (As := [.int p0, .int (s18.1 74 (Int32.toNatClampNeg p0)), .int 2]) (rest := [.int v19]) hC lk_RX10_339 kX10 rfl (tX10_letsBy _ _ s18 p0 (s18.1 74 (Int32.toNatClampNeg p0)) 2) rfl rfl (Nat.le_of_ble_eq_true rfl) ⟨rfl, rfl, by simp only [rrX10_leaksBy] <;> omega, by simp only [rrX10_leaksBy] <;> omega⟩ dX10_leaksBy_88 (fun r20 s21 => ?_)
            refine g_isub (pc := 91) hC dX10_leaksBy_91 ?_
            exact g_iret (pc := 92) hC dX10_leaksBy_92
          · refine g_tabOut (tgt := 93) hC dX10_leaksBy_1 (by have q0 := gne c100 (n := 0) rfl; have q1 := gne c101 (n := 1) rfl; have q2 := gne c102 (n := 2) rfl; have q3 := gne c103 (n := 3) rfl; have q4 := gne c104 (n := 4) rfl; omega) (by decide) ?_
            refine g_aload_n (pc := 93) (q := 0) hC dX10_leaksBy_93 rfl rfl ?_
            refine g_iload_n (pc := 94) (q := 1) hC dX10_leaksBy_94 rfl rfl ?_
            refine g_iload_n (pc := 95) (q := 2) hC dX10_leaksBy_95 rfl rfl ?_
            refine g_callSi (pc := 96) (As := [.int p1]) (rest := [.int p0, .ref (G.2.1 52)]) hC lk_RX10_342 (tX10_above _ _ σ p1) rfl rfl (Nat.le_of_ble_eq_true rfl) ⟨rfl, rfl, by simp only [rrX10_leaksBy] <;> omega, by simp only [rrX10_leaksBy] <;> omega⟩ dX10_leaksBy_96 (fun r22 s23 => ?_)
            refine g_iload_n (pc := 99) (q := 3) hC dX10_leaksBy_99 rfl rfl ?_
            refine g_callVi (pc := 100) (As := [.int p0, .int r22, .int p2]) (rest := []) hC lk_RX10_348 kX10 rfl (hrec s23 p0 r22 p2) rfl rfl (Nat.le_of_ble_eq_true rfl) ⟨rfl, rfl, by simp only [rrX10_leaksBy, rrX10_leaksBy] <;> omega, by simp only [rrX10_leaksBy, rrX10_leaksBy] <;> omega⟩ dX10_leaksBy_100 (fun r24 s25 => ?_)
            exact g_iret (pc := 103) hC dX10_leaksBy_103
def mgleaks : Nat → (gS → Int32 → Int32 → Int32 → Option (Int32 × gS))
  | 0 => (fun _ _ _ _ => none)
  | d + 1 => (mrX10_leaksBy (mgleaks d))
theorem tgleaks (l : Launch) (G : gE) : ∀ d : Nat, (∀ (σ : gS) (p0 : Int32) (p1 : Int32) (p2 : Int32), gM l G yX10_leaksBy cX10_leaksBy 5 (some .int) (rrX10_leaksBy d) iI [.ref (G.2.1 52), .int p0, .int p1, .int p2] σ ((mgleaks d) σ p0 p1 p2)) := by
  intro d
  induction d with
  | zero => exact (fun _ _ _ _ _ _ h => (by cases h))
  | succ d ih => exact trX10_leaksBy ih
abbrev rX10_leaksBy : Room := rrX10_leaksBy 16
def mX10_leaksBy (σ : gS) (p0 : Int32) (p1 : Int32) (p2 : Int32) : Option (Int32 × gS) := (mgleaks 16) σ p0 p1 p2
theorem tX10_leaksBy (l : Launch) (G : gE) (σ : gS) (p0 : Int32) (p1 : Int32) (p2 : Int32) : gM l G yX10_leaksBy cX10_leaksBy 5 (some .int) rX10_leaksBy iI [.ref (G.2.1 52), .int p0, .int p1, .int p2] σ (mX10_leaksBy σ p0 p1 p2) := (tgleaks l G 16) σ p0 p1 p2
theorem lk_RX10_345 : gLV RX10 345 RX10 yX10_growsBy cX10_growsBy 5 (some .int) 3 := ⟨(gBig_tab 1541 (by decide +kernel) (by decide +kernel)), (gBig_tab 1543 (by decide +kernel) (by decide +kernel)), (gBig_sel 89 (by decide +kernel) (by decide +kernel)), (gBig_tab 11 (by decide +kernel) (by decide +kernel)), (gBig_tab 1544 (by decide +kernel) (by decide +kernel)), rfl, by decide +kernel, by decide +kernel, by decide +kernel⟩
theorem dX10_growsBy_0 : decode cX10_growsBy 0 = .ok (.iload_n 2, 1) := by decide +kernel
theorem dX10_growsBy_1 : decode cX10_growsBy 1 = .ok (.tableswitch 130 0 7 #[47, 130, 68, 83, 130, 130, 130, 99], 47) := by decide +kernel
theorem dX10_growsBy_48 : decode cX10_growsBy 48 = .ok (.aload_n 0, 1) := by decide +kernel
theorem dX10_growsBy_49 : decode cX10_growsBy 49 = .ok (.bipush 10, 2) := by decide +kernel
theorem dX10_growsBy_51 : decode cX10_growsBy 51 = .ok (.invokevirtual 336, 3) := by decide +kernel
theorem dX10_growsBy_54 : decode cX10_growsBy 54 = .ok (.aload_n 0, 1) := by decide +kernel
theorem dX10_growsBy_55 : decode cX10_growsBy 55 = .ok (.iload_n 1, 1) := by decide +kernel
theorem dX10_growsBy_56 : decode cX10_growsBy 56 = .ok (.aload_n 0, 1) := by decide +kernel
theorem dX10_growsBy_57 : decode cX10_growsBy 57 = .ok (.getfield 75, 3) := by decide +kernel
theorem dX10_growsBy_60 : decode cX10_growsBy 60 = .ok (.iload_n 1, 1) := by decide +kernel
theorem dX10_growsBy_61 : decode cX10_growsBy 61 = .ok (.iaload, 1) := by decide +kernel
theorem dX10_growsBy_62 : decode cX10_growsBy 62 = .ok (.iload_n 3, 1) := by decide +kernel
theorem dX10_growsBy_63 : decode cX10_growsBy 63 = .ok (.invokevirtual 339, 3) := by decide +kernel
theorem dX10_growsBy_66 : decode cX10_growsBy 66 = .ok (.iconst 2, 1) := by decide +kernel
theorem dX10_growsBy_67 : decode cX10_growsBy 67 = .ok (.imul, 1) := by decide +kernel
theorem dX10_growsBy_68 : decode cX10_growsBy 68 = .ok (.ireturn, 1) := by decide +kernel
theorem dX10_growsBy_69 : decode cX10_growsBy 69 = .ok (.aload_n 0, 1) := by decide +kernel
theorem dX10_growsBy_70 : decode cX10_growsBy 70 = .ok (.bipush 30, 2) := by decide +kernel
theorem dX10_growsBy_72 : decode cX10_growsBy 72 = .ok (.invokevirtual 336, 3) := by decide +kernel
theorem dX10_growsBy_75 : decode cX10_growsBy 75 = .ok (.aload_n 0, 1) := by decide +kernel
theorem dX10_growsBy_76 : decode cX10_growsBy 76 = .ok (.iload_n 1, 1) := by decide +kernel
theorem dX10_growsBy_77 : decode cX10_growsBy 77 = .ok (.iconst 0, 1) := by decide +kernel
theorem dX10_growsBy_78 : decode cX10_growsBy 78 = .ok (.iload_n 3, 1) := by decide +kernel
theorem dX10_growsBy_79 : decode cX10_growsBy 79 = .ok (.invokevirtual 345, 3) := by decide +kernel
theorem dX10_growsBy_82 : decode cX10_growsBy 82 = .ok (.ineg, 1) := by decide +kernel
theorem dX10_growsBy_83 : decode cX10_growsBy 83 = .ok (.ireturn, 1) := by decide +kernel
theorem dX10_growsBy_84 : decode cX10_growsBy 84 = .ok (.aload_n 0, 1) := by decide +kernel
theorem dX10_growsBy_85 : decode cX10_growsBy 85 = .ok (.bipush 41, 2) := by decide +kernel
theorem dX10_growsBy_87 : decode cX10_growsBy 87 = .ok (.invokevirtual 336, 3) := by decide +kernel
theorem dX10_growsBy_90 : decode cX10_growsBy 90 = .ok (.aload_n 0, 1) := by decide +kernel
theorem dX10_growsBy_91 : decode cX10_growsBy 91 = .ok (.iload_n 1, 1) := by decide +kernel
theorem dX10_growsBy_92 : decode cX10_growsBy 92 = .ok (.iconst 2, 1) := by decide +kernel
theorem dX10_growsBy_93 : decode cX10_growsBy 93 = .ok (.iload_n 3, 1) := by decide +kernel
theorem dX10_growsBy_94 : decode cX10_growsBy 94 = .ok (.iconst 1, 1) := by decide +kernel
theorem dX10_growsBy_95 : decode cX10_growsBy 95 = .ok (.iadd, 1) := by decide +kernel
theorem dX10_growsBy_96 : decode cX10_growsBy 96 = .ok (.invokevirtual 345, 3) := by decide +kernel
theorem dX10_growsBy_99 : decode cX10_growsBy 99 = .ok (.ireturn, 1) := by decide +kernel
theorem dX10_growsBy_100 : decode cX10_growsBy 100 = .ok (.aload_n 0, 1) := by decide +kernel
theorem dX10_growsBy_101 : decode cX10_growsBy 101 = .ok (.bipush 80, 2) := by decide +kernel
theorem dX10_growsBy_103 : decode cX10_growsBy 103 = .ok (.invokevirtual 336, 3) := by decide +kernel
theorem dX10_growsBy_106 : decode cX10_growsBy 106 = .ok (.aload_n 0, 1) := by decide +kernel
theorem dX10_growsBy_107 : decode cX10_growsBy 107 = .ok (.iload_n 1, 1) := by decide +kernel
theorem dX10_growsBy_108 : decode cX10_growsBy 108 = .ok (.iconst 4, 1) := by decide +kernel
theorem dX10_growsBy_109 : decode cX10_growsBy 109 = .ok (.iload_n 3, 1) := by decide +kernel
theorem dX10_growsBy_110 : decode cX10_growsBy 110 = .ok (.invokevirtual 345, 3) := by decide +kernel
theorem dX10_growsBy_113 : decode cX10_growsBy 113 = .ok (.istore 4, 2) := by decide +kernel
theorem dX10_growsBy_115 : decode cX10_growsBy 115 = .ok (.iload 4, 2) := by decide +kernel
theorem dX10_growsBy_117 : decode cX10_growsBy 117 = .ok (.aload_n 0, 1) := by decide +kernel
theorem dX10_growsBy_118 : decode cX10_growsBy 118 = .ok (.iload_n 1, 1) := by decide +kernel
theorem dX10_growsBy_119 : decode cX10_growsBy 119 = .ok (.aload_n 0, 1) := by decide +kernel
theorem dX10_growsBy_120 : decode cX10_growsBy 120 = .ok (.getfield 75, 3) := by decide +kernel
theorem dX10_growsBy_123 : decode cX10_growsBy 123 = .ok (.iload_n 1, 1) := by decide +kernel
theorem dX10_growsBy_124 : decode cX10_growsBy 124 = .ok (.iaload, 1) := by decide +kernel
theorem dX10_growsBy_125 : decode cX10_growsBy 125 = .ok (.iconst 2, 1) := by decide +kernel
theorem dX10_growsBy_126 : decode cX10_growsBy 126 = .ok (.invokevirtual 348, 3) := by decide +kernel
theorem dX10_growsBy_129 : decode cX10_growsBy 129 = .ok (.iadd, 1) := by decide +kernel
theorem dX10_growsBy_130 : decode cX10_growsBy 130 = .ok (.ireturn, 1) := by decide +kernel
theorem dX10_growsBy_131 : decode cX10_growsBy 131 = .ok (.aload_n 0, 1) := by decide +kernel
theorem dX10_growsBy_132 : decode cX10_growsBy 132 = .ok (.iload_n 1, 1) := by decide +kernel
theorem dX10_growsBy_133 : decode cX10_growsBy 133 = .ok (.iload_n 2, 1) := by decide +kernel
theorem dX10_growsBy_134 : decode cX10_growsBy 134 = .ok (.invokestatic 342, 3) := by decide +kernel
theorem dX10_growsBy_137 : decode cX10_growsBy 137 = .ok (.iload_n 3, 1) := by decide +kernel
theorem dX10_growsBy_138 : decode cX10_growsBy 138 = .ok (.invokevirtual 345, 3) := by decide +kernel
theorem dX10_growsBy_141 : decode cX10_growsBy 141 = .ok (.ireturn, 1) := by decide +kernel
abbrev rrX10_growsBy (d : Nat) : Room := { frames := 35 + d, cells := 0, slots := 0, locals := 820 + 24 * d }
def mrX10_growsBy (rec : (gS → Int32 → Int32 → Int32 → Option (Int32 × gS))) (σ : gS) (p0 : Int32) (p1 : Int32) (p2 : Int32) : Option (Int32 × gS) := if p1 = 0 then (gBind (mX10_ran σ 10) (fun r1 s2 => if inbB p0 50 = true then (gBind (mX10_letsBy s2 p0 (s2.1 74 (Int32.toNatClampNeg p0)) p2) (fun r3 s4 => some ((r3 * 2), s4))) else none)) else (if p1 = 1 then (gBind (mX10_above σ p1) (fun r5 s6 => gBind (rec s6 p0 r5 p2) (fun r7 s8 => some (r7, s8)))) else (if p1 = 2 then (gBind (mX10_ran σ 30) (fun r9 s10 => gBind (rec s10 p0 0 p2) (fun r11 s12 => some ((-r11), s12)))) else (if p1 = 3 then (gBind (mX10_ran σ 41) (fun r13 s14 => gBind (rec s14 p0 2 (p2 + 1)) (fun r15 s16 => some (r15, s16)))) else (if p1 = 4 then (gBind (mX10_above σ p1) (fun r17 s18 => gBind (rec s18 p0 r17 p2) (fun r19 s20 => some (r19, s20)))) else (if p1 = 5 then (gBind (mX10_above σ p1) (fun r21 s22 => gBind (rec s22 p0 r21 p2) (fun r23 s24 => some (r23, s24)))) else (if p1 = 6 then (gBind (mX10_above σ p1) (fun r25 s26 => gBind (rec s26 p0 r25 p2) (fun r27 s28 => some (r27, s28)))) else (if p1 = 7 then (gBind (mX10_ran σ 80) (fun r29 s30 => gBind (rec s30 p0 4 p2) (fun r31 s32 => gLet r31 (fun v33 => if inbB p0 50 = true then (gBind (mX10_leaksBy s32 p0 (s32.1 74 (Int32.toNatClampNeg p0)) 2) (fun r34 s35 => some ((v33 + r34), s35))) else none)))) else (gBind (mX10_above σ p1) (fun r36 s37 => gBind (rec s37 p0 r36 p2) (fun r38 s39 => some (r38, s39)))))))))))
set_option maxHeartbeats 4000000 in
set_option maxRecDepth 100000 in
theorem trX10_growsBy {l : Launch} {G : gE} {d : Nat} {rec : (gS → Int32 → Int32 → Int32 → Option (Int32 × gS))} (hrec : (∀ (σ : gS) (p0 : Int32) (p1 : Int32) (p2 : Int32), gM l G yX10_growsBy cX10_growsBy 5 (some .int) (rrX10_growsBy d) iI [.ref (G.2.1 52), .int p0, .int p1, .int p2] σ (rec σ p0 p1 p2))) : ∀ (σ : gS) (p0 : Int32) (p1 : Int32) (p2 : Int32), gM l G yX10_growsBy cX10_growsBy 5 (some .int) (rrX10_growsBy (d + 1)) iI [.ref (G.2.1 52), .int p0, .int p1, .int p2] σ (mrX10_growsBy rec σ p0 p1 p2) := by
  intro σ p0 p1 p2
  refine gM_of (by decide) (Nat.le_of_ble_eq_true rfl) ?_
  intro p e s m args below meth c hC
  unfold mrX10_growsBy
  show gT p l e (rrX10_growsBy (d + 1)) s m args below meth c G 5 iI σ 0 [(0, .ref (G.2.1 52)), (1, .int p0), (2, .int p1), (3, .int p2)] [] _
  refine g_iload_n (pc := 0) (q := 2) hC dX10_growsBy_0 rfl rfl ?_
  refine gT_if (fun c100 => ?_) (fun c100 => ?_)
  · refine g_tabIn (tgt := 48) (off := 47) hC dX10_growsBy_1 c100 (by decide) (by decide) (by decide) (by decide) ?_
    refine g_aload_n (pc := 48) (q := 0) hC dX10_growsBy_48 rfl rfl ?_
    refine g_bipush (pc := 49) (v := 10) hC dX10_growsBy_49 (by decide) ?_
    refine g_callVv (pc := 51) (As := [.int 10]) (rest := []) hC lk_RX10_336 kX10 rfl (tX10_ran _ _ σ 10) rfl rfl (Nat.le_of_ble_eq_true rfl) ⟨rfl, rfl, by simp only [rrX10_growsBy] <;> omega, by simp only [rrX10_growsBy] <;> omega⟩ dX10_growsBy_51 (fun r1 s2 => ?_)
    refine g_aload_n (pc := 54) (q := 0) hC dX10_growsBy_54 rfl rfl ?_
    refine g_iload_n (pc := 55) (q := 1) hC dX10_growsBy_55 rfl rfl ?_
    refine g_aload_n (pc := 56) (q := 0) hC dX10_growsBy_56 rfl rfl ?_
    refine g_get (pc := 57) (v := .ref (G.2.1 74)) hC kX10 rfl 34 (by decide) fl_RX10_75 rfl dX10_growsBy_57 ?_
    refine g_iload_n (pc := 60) (q := 1) hC dX10_growsBy_60 rfl rfl ?_
    refine g_iald (pc := 61) hC 50 rfl (by decide) dX10_growsBy_61 ?_
    refine g_iload_n (pc := 62) (q := 3) hC dX10_growsBy_62 rfl rfl ?_
    refine g_callVi (pc := 63) (As := [.int p0, .int (s2.1 74 (Int32.toNatClampNeg p0)), .int p2]) (rest := []) hC lk_RX10_339 kX10 rfl (tX10_letsBy _ _ s2 p0 (s2.1 74 (Int32.toNatClampNeg p0)) p2) rfl rfl (Nat.le_of_ble_eq_true rfl) ⟨rfl, rfl, by simp only [rrX10_growsBy] <;> omega, by simp only [rrX10_growsBy] <;> omega⟩ dX10_growsBy_63 (fun r3 s4 => ?_)
    refine g_iconst (pc := 66) (v := 2) hC dX10_growsBy_66 (by decide) ?_
    refine g_imul (pc := 67) hC dX10_growsBy_67 ?_
    exact g_iret (pc := 68) hC dX10_growsBy_68
  · refine gT_if (fun c101 => ?_) (fun c101 => ?_)
    · refine g_tabIn (tgt := 131) (off := 130) hC dX10_growsBy_1 c101 (by decide) (by decide) (by decide) (by decide) ?_
      refine g_aload_n (pc := 131) (q := 0) hC dX10_growsBy_131 rfl rfl ?_
      refine g_iload_n (pc := 132) (q := 1) hC dX10_growsBy_132 rfl rfl ?_
      refine g_iload_n (pc := 133) (q := 2) hC dX10_growsBy_133 rfl rfl ?_
      refine g_callSi (pc := 134) (As := [.int p1]) (rest := [.int p0, .ref (G.2.1 52)]) hC lk_RX10_342 (tX10_above _ _ σ p1) rfl rfl (Nat.le_of_ble_eq_true rfl) ⟨rfl, rfl, by simp only [rrX10_growsBy] <;> omega, by simp only [rrX10_growsBy] <;> omega⟩ dX10_growsBy_134 (fun r5 s6 => ?_)
      refine g_iload_n (pc := 137) (q := 3) hC dX10_growsBy_137 rfl rfl ?_
      refine g_callVi (pc := 138) (As := [.int p0, .int r5, .int p2]) (rest := []) hC lk_RX10_345 kX10 rfl (hrec s6 p0 r5 p2) rfl rfl (Nat.le_of_ble_eq_true rfl) ⟨rfl, rfl, by simp only [rrX10_growsBy, rrX10_growsBy] <;> omega, by simp only [rrX10_growsBy, rrX10_growsBy] <;> omega⟩ dX10_growsBy_138 (fun r7 s8 => ?_)
      exact g_iret (pc := 141) hC dX10_growsBy_141
    · refine gT_if (fun c102 => ?_) (fun c102 => ?_)
      · refine g_tabIn (tgt := 69) (off := 68) hC dX10_growsBy_1 c102 (by decide) (by decide) (by decide) (by decide) ?_
        refine g_aload_n (pc := 69) (q := 0) hC dX10_growsBy_69 rfl rfl ?_
        refine g_bipush (pc := 70) (v := 30) hC dX10_growsBy_70 (by decide) ?_
        refine g_callVv (pc := 72) (As := [.int 30]) (rest := []) hC lk_RX10_336 kX10 rfl (tX10_ran _ _ σ 30) rfl rfl (Nat.le_of_ble_eq_true rfl) ⟨rfl, rfl, by simp only [rrX10_growsBy] <;> omega, by simp only [rrX10_growsBy] <;> omega⟩ dX10_growsBy_72 (fun r9 s10 => ?_)
        refine g_aload_n (pc := 75) (q := 0) hC dX10_growsBy_75 rfl rfl ?_
        refine g_iload_n (pc := 76) (q := 1) hC dX10_growsBy_76 rfl rfl ?_
        refine g_iconst (pc := 77) (v := 0) hC dX10_growsBy_77 (by decide) ?_
        refine g_iload_n (pc := 78) (q := 3) hC dX10_growsBy_78 rfl rfl ?_
        refine g_callVi (pc := 79) (As := [.int p0, .int 0, .int p2]) (rest := []) hC lk_RX10_345 kX10 rfl (hrec s10 p0 0 p2) rfl rfl (Nat.le_of_ble_eq_true rfl) ⟨rfl, rfl, by simp only [rrX10_growsBy, rrX10_growsBy] <;> omega, by simp only [rrX10_growsBy, rrX10_growsBy] <;> omega⟩ dX10_growsBy_79 (fun r11 s12 => ?_)
        refine g_ineg (pc := 82) hC dX10_growsBy_82 ?_
        exact g_iret (pc := 83) hC dX10_growsBy_83
      · refine gT_if (fun c103 => ?_) (fun c103 => ?_)
        · refine g_tabIn (tgt := 84) (off := 83) hC dX10_growsBy_1 c103 (by decide) (by decide) (by decide) (by decide) ?_
          refine g_aload_n (pc := 84) (q := 0) hC dX10_growsBy_84 rfl rfl ?_
          refine g_bipush (pc := 85) (v := 41) hC dX10_growsBy_85 (by decide) ?_
          refine g_callVv (pc := 87) (As := [.int 41]) (rest := []) hC lk_RX10_336 kX10 rfl (tX10_ran _ _ σ 41) rfl rfl (Nat.le_of_ble_eq_true rfl) ⟨rfl, rfl, by simp only [rrX10_growsBy] <;> omega, by simp only [rrX10_growsBy] <;> omega⟩ dX10_growsBy_87 (fun r13 s14 => ?_)
          refine g_aload_n (pc := 90) (q := 0) hC dX10_growsBy_90 rfl rfl ?_
          refine g_iload_n (pc := 91) (q := 1) hC dX10_growsBy_91 rfl rfl ?_
          refine g_iconst (pc := 92) (v := 2) hC dX10_growsBy_92 (by decide) ?_
          refine g_iload_n (pc := 93) (q := 3) hC dX10_growsBy_93 rfl rfl ?_
          refine g_iconst (pc := 94) (v := 1) hC dX10_growsBy_94 (by decide) ?_
          refine g_iadd (pc := 95) hC dX10_growsBy_95 ?_
          refine g_callVi (pc := 96) (As := [.int p0, .int 2, .int (p2 + 1)]) (rest := []) hC lk_RX10_345 kX10 rfl (hrec s14 p0 2 (p2 + 1)) rfl rfl (Nat.le_of_ble_eq_true rfl) ⟨rfl, rfl, by simp only [rrX10_growsBy, rrX10_growsBy] <;> omega, by simp only [rrX10_growsBy, rrX10_growsBy] <;> omega⟩ dX10_growsBy_96 (fun r15 s16 => ?_)
          exact g_iret (pc := 99) hC dX10_growsBy_99
        · refine gT_if (fun c104 => ?_) (fun c104 => ?_)
          · refine g_tabIn (tgt := 131) (off := 130) hC dX10_growsBy_1 c104 (by decide) (by decide) (by decide) (by decide) ?_
            refine g_aload_n (pc := 131) (q := 0) hC dX10_growsBy_131 rfl rfl ?_
            refine g_iload_n (pc := 132) (q := 1) hC dX10_growsBy_132 rfl rfl ?_
            refine g_iload_n (pc := 133) (q := 2) hC dX10_growsBy_133 rfl rfl ?_
            refine g_callSi (pc := 134) (As := [.int p1]) (rest := [.int p0, .ref (G.2.1 52)]) hC lk_RX10_342 (tX10_above _ _ σ p1) rfl rfl (Nat.le_of_ble_eq_true rfl) ⟨rfl, rfl, by simp only [rrX10_growsBy] <;> omega, by simp only [rrX10_growsBy] <;> omega⟩ dX10_growsBy_134 (fun r17 s18 => ?_)
            refine g_iload_n (pc := 137) (q := 3) hC dX10_growsBy_137 rfl rfl ?_
            refine g_callVi (pc := 138) (As := [.int p0, .int r17, .int p2]) (rest := []) hC lk_RX10_345 kX10 rfl (hrec s18 p0 r17 p2) rfl rfl (Nat.le_of_ble_eq_true rfl) ⟨rfl, rfl, by simp only [rrX10_growsBy, rrX10_growsBy] <;> omega, by simp only [rrX10_growsBy, rrX10_growsBy] <;> omega⟩ dX10_growsBy_138 (fun r19 s20 => ?_)
            exact g_iret (pc := 141) hC dX10_growsBy_141
          · refine gT_if (fun c105 => ?_) (fun c105 => ?_)
            · refine g_tabIn (tgt := 131) (off := 130) hC dX10_growsBy_1 c105 (by decide) (by decide) (by decide) (by decide) ?_
              refine g_aload_n (pc := 131) (q := 0) hC dX10_growsBy_131 rfl rfl ?_
              refine g_iload_n (pc := 132) (q := 1) hC dX10_growsBy_132 rfl rfl ?_
              refine g_iload_n (pc := 133) (q := 2) hC dX10_growsBy_133 rfl rfl ?_
              refine g_callSi (pc := 134) (As := [.int p1]) (rest := [.int p0, .ref (G.2.1 52)]) hC lk_RX10_342 (tX10_above _ _ σ p1) rfl rfl (Nat.le_of_ble_eq_true rfl) ⟨rfl, rfl, by simp only [rrX10_growsBy] <;> omega, by simp only [rrX10_growsBy] <;> omega⟩ dX10_growsBy_134 (fun r21 s22 => ?_)
              refine g_iload_n (pc := 137) (q := 3) hC dX10_growsBy_137 rfl rfl ?_
              refine g_callVi (pc := 138) (As := [.int p0, .int r21, .int p2]) (rest := []) hC lk_RX10_345 kX10 rfl (hrec s22 p0 r21 p2) rfl rfl (Nat.le_of_ble_eq_true rfl) ⟨rfl, rfl, by simp only [rrX10_growsBy, rrX10_growsBy] <;> omega, by simp only [rrX10_growsBy, rrX10_growsBy] <;> omega⟩ dX10_growsBy_138 (fun r23 s24 => ?_)
              exact g_iret (pc := 141) hC dX10_growsBy_141
            · refine gT_if (fun c106 => ?_) (fun c106 => ?_)
              · refine g_tabIn (tgt := 131) (off := 130) hC dX10_growsBy_1 c106 (by decide) (by decide) (by decide) (by decide) ?_
                refine g_aload_n (pc := 131) (q := 0) hC dX10_growsBy_131 rfl rfl ?_
                refine g_iload_n (pc := 132) (q := 1) hC dX10_growsBy_132 rfl rfl ?_
                refine g_iload_n (pc := 133) (q := 2) hC dX10_growsBy_133 rfl rfl ?_
                refine g_callSi (pc := 134) (As := [.int p1]) (rest := [.int p0, .ref (G.2.1 52)]) hC lk_RX10_342 (tX10_above _ _ σ p1) rfl rfl (Nat.le_of_ble_eq_true rfl) ⟨rfl, rfl, by simp only [rrX10_growsBy] <;> omega, by simp only [rrX10_growsBy] <;> omega⟩ dX10_growsBy_134 (fun r25 s26 => ?_)
                refine g_iload_n (pc := 137) (q := 3) hC dX10_growsBy_137 rfl rfl ?_
                refine g_callVi (pc := 138) (As := [.int p0, .int r25, .int p2]) (rest := []) hC lk_RX10_345 kX10 rfl (hrec s26 p0 r25 p2) rfl rfl (Nat.le_of_ble_eq_true rfl) ⟨rfl, rfl, by simp only [rrX10_growsBy, rrX10_growsBy] <;> omega, by simp only [rrX10_growsBy, rrX10_growsBy] <;> omega⟩ dX10_growsBy_138 (fun r27 s28 => ?_)
                exact g_iret (pc := 141) hC dX10_growsBy_141
              · refine gT_if (fun c107 => ?_) (fun c107 => ?_)
                · refine g_tabIn (tgt := 100) (off := 99) hC dX10_growsBy_1 c107 (by decide) (by decide) (by decide) (by decide) ?_
                  refine g_aload_n (pc := 100) (q := 0) hC dX10_growsBy_100 rfl rfl ?_
                  refine g_bipush (pc := 101) (v := 80) hC dX10_growsBy_101 (by decide) ?_
                  refine g_callVv (pc := 103) (As := [.int 80]) (rest := []) hC lk_RX10_336 kX10 rfl (tX10_ran _ _ σ 80) rfl rfl (Nat.le_of_ble_eq_true rfl) ⟨rfl, rfl, by simp only [rrX10_growsBy] <;> omega, by simp only [rrX10_growsBy] <;> omega⟩ dX10_growsBy_103 (fun r29 s30 => ?_)
                  refine g_aload_n (pc := 106) (q := 0) hC dX10_growsBy_106 rfl rfl ?_
                  refine g_iload_n (pc := 107) (q := 1) hC dX10_growsBy_107 rfl rfl ?_
                  refine g_iconst (pc := 108) (v := 4) hC dX10_growsBy_108 (by decide) ?_
                  refine g_iload_n (pc := 109) (q := 3) hC dX10_growsBy_109 rfl rfl ?_
                  refine g_callVi (pc := 110) (As := [.int p0, .int 4, .int p2]) (rest := []) hC lk_RX10_345 kX10 rfl (hrec s30 p0 4 p2) rfl rfl (Nat.le_of_ble_eq_true rfl) ⟨rfl, rfl, by simp only [rrX10_growsBy, rrX10_growsBy] <;> omega, by simp only [rrX10_growsBy, rrX10_growsBy] <;> omega⟩ dX10_growsBy_110 (fun r31 s32 => ?_)
                  refine g_istore (pc := 113) (lv' := fun v33 => [(4, .int v33), (0, .ref (G.2.1 52)), (1, .int p0), (2, .int p1), (3, .int p2)]) hC dX10_growsBy_113 (by decide) (fun _ => rfl) (fun v33 => ?_)
                  refine g_iload (pc := 115) (q := 0) hC dX10_growsBy_115 rfl ?_
                  refine g_aload_n (pc := 117) (q := 1) hC dX10_growsBy_117 rfl rfl ?_
                  refine g_iload_n (pc := 118) (q := 2) hC dX10_growsBy_118 rfl rfl ?_
                  refine g_aload_n (pc := 119) (q := 1) hC dX10_growsBy_119 rfl rfl ?_
                  refine g_get (pc := 120) (v := .ref (G.2.1 74)) hC kX10 rfl 34 (by decide) fl_RX10_75 rfl dX10_growsBy_120 ?_
                  refine g_iload_n (pc := 123) (q := 2) hC dX10_growsBy_123 rfl rfl ?_
                  refine g_iald (pc := 124) hC 50 rfl (by decide) dX10_growsBy_124 ?_
                  refine g_iconst (pc := 125) (v := 2) hC dX10_growsBy_125 (by decide) ?_
                  refine g_callVi (pc := 126) (As := [.int p0, .int (s32.1 74 (Int32.toNatClampNeg p0)), .int 2]) (rest := [.int v33]) hC lk_RX10_348 kX10 rfl (tX10_leaksBy _ _ s32 p0 (s32.1 74 (Int32.toNatClampNeg p0)) 2) rfl rfl (Nat.le_of_ble_eq_true rfl) ⟨rfl, rfl, by simp only [rrX10_growsBy] <;> omega, by simp only [rrX10_growsBy] <;> omega⟩ dX10_growsBy_126 (fun r34 s35 => ?_)
                  refine g_iadd (pc := 129) hC dX10_growsBy_129 ?_
                  exact g_iret (pc := 130) hC dX10_growsBy_130
                · refine g_tabOut (tgt := 131) hC dX10_growsBy_1 (by have q0 := gne c100 (n := 0) rfl; have q1 := gne c101 (n := 1) rfl; have q2 := gne c102 (n := 2) rfl; have q3 := gne c103 (n := 3) rfl; have q4 := gne c104 (n := 4) rfl; have q5 := gne c105 (n := 5) rfl; have q6 := gne c106 (n := 6) rfl; have q7 := gne c107 (n := 7) rfl; omega) (by decide) ?_
                  refine g_aload_n (pc := 131) (q := 0) hC dX10_growsBy_131 rfl rfl ?_
                  refine g_iload_n (pc := 132) (q := 1) hC dX10_growsBy_132 rfl rfl ?_
                  refine g_iload_n (pc := 133) (q := 2) hC dX10_growsBy_133 rfl rfl ?_
                  refine g_callSi (pc := 134) (As := [.int p1]) (rest := [.int p0, .ref (G.2.1 52)]) hC lk_RX10_342 (tX10_above _ _ σ p1) rfl rfl (Nat.le_of_ble_eq_true rfl) ⟨rfl, rfl, by simp only [rrX10_growsBy] <;> omega, by simp only [rrX10_growsBy] <;> omega⟩ dX10_growsBy_134 (fun r36 s37 => ?_)
                  refine g_iload_n (pc := 137) (q := 3) hC dX10_growsBy_137 rfl rfl ?_
                  refine g_callVi (pc := 138) (As := [.int p0, .int r36, .int p2]) (rest := []) hC lk_RX10_345 kX10 rfl (hrec s37 p0 r36 p2) rfl rfl (Nat.le_of_ble_eq_true rfl) ⟨rfl, rfl, by simp only [rrX10_growsBy, rrX10_growsBy] <;> omega, by simp only [rrX10_growsBy, rrX10_growsBy] <;> omega⟩ dX10_growsBy_138 (fun r38 s39 => ?_)
                  exact g_iret (pc := 141) hC dX10_growsBy_141
def mggrows : Nat → (gS → Int32 → Int32 → Int32 → Option (Int32 × gS))
  | 0 => (fun _ _ _ _ => none)
  | d + 1 => (mrX10_growsBy (mggrows d))
theorem tggrows (l : Launch) (G : gE) : ∀ d : Nat, (∀ (σ : gS) (p0 : Int32) (p1 : Int32) (p2 : Int32), gM l G yX10_growsBy cX10_growsBy 5 (some .int) (rrX10_growsBy d) iI [.ref (G.2.1 52), .int p0, .int p1, .int p2] σ ((mggrows d) σ p0 p1 p2)) := by
  intro d
  induction d with
  | zero => exact (fun _ _ _ _ _ _ h => (by cases h))
  | succ d ih => exact trX10_growsBy ih
abbrev rX10_growsBy : Room := rrX10_growsBy 16
def mX10_growsBy (σ : gS) (p0 : Int32) (p1 : Int32) (p2 : Int32) : Option (Int32 × gS) := (mggrows 16) σ p0 p1 p2
theorem tX10_growsBy (l : Launch) (G : gE) (σ : gS) (p0 : Int32) (p1 : Int32) (p2 : Int32) : gM l G yX10_growsBy cX10_growsBy 5 (some .int) rX10_growsBy iI [.ref (G.2.1 52), .int p0, .int p1, .int p2] σ (mX10_growsBy σ p0 p1 p2) := (tggrows l G 16) σ p0 p1 p2
theorem lk_RX10_351 : gLV RX10 351 RX10 yX10_tells cX10_tells 5 (some .int) 3 := ⟨(gBig_tab 1549 (by decide +kernel) (by decide +kernel)), (gBig_tab 1551 (by decide +kernel) (by decide +kernel)), (gBig_sel 91 (by decide +kernel) (by decide +kernel)), (gBig_tab 11 (by decide +kernel) (by decide +kernel)), (gBig_tab 1552 (by decide +kernel) (by decide +kernel)), rfl, by decide +kernel, by decide +kernel, by decide +kernel⟩
theorem dX10_tells_0 : decode cX10_tells 0 = .ok (.iload_n 2, 1) := by decide +kernel
theorem dX10_tells_1 : decode cX10_tells 1 = .ok (.lookupswitch 102 #[(0, 35), (5, 70), (7, 86)], 35) := by decide +kernel
theorem dX10_tells_36 : decode cX10_tells 36 = .ok (.aload_n 0, 1) := by decide +kernel
theorem dX10_tells_37 : decode cX10_tells 37 = .ok (.iconst 2, 1) := by decide +kernel
theorem dX10_tells_38 : decode cX10_tells 38 = .ok (.invokevirtual 336, 3) := by decide +kernel
theorem dX10_tells_41 : decode cX10_tells 41 = .ok (.aload_n 0, 1) := by decide +kernel
theorem dX10_tells_42 : decode cX10_tells 42 = .ok (.iload_n 1, 1) := by decide +kernel
theorem dX10_tells_43 : decode cX10_tells 43 = .ok (.aload_n 0, 1) := by decide +kernel
theorem dX10_tells_44 : decode cX10_tells 44 = .ok (.getfield 75, 3) := by decide +kernel
theorem dX10_tells_47 : decode cX10_tells 47 = .ok (.iload_n 1, 1) := by decide +kernel
theorem dX10_tells_48 : decode cX10_tells 48 = .ok (.iaload, 1) := by decide +kernel
theorem dX10_tells_49 : decode cX10_tells 49 = .ok (.iload_n 3, 1) := by decide +kernel
theorem dX10_tells_50 : decode cX10_tells 50 = .ok (.invokevirtual 345, 3) := by decide +kernel
theorem dX10_tells_53 : decode cX10_tells 53 = .ok (.istore 4, 2) := by decide +kernel
theorem dX10_tells_55 : decode cX10_tells 55 = .ok (.iload 4, 2) := by decide +kernel
theorem dX10_tells_57 : decode cX10_tells 57 = .ok (.aload_n 0, 1) := by decide +kernel
theorem dX10_tells_58 : decode cX10_tells 58 = .ok (.iload_n 1, 1) := by decide +kernel
theorem dX10_tells_59 : decode cX10_tells 59 = .ok (.aload_n 0, 1) := by decide +kernel
theorem dX10_tells_60 : decode cX10_tells 60 = .ok (.getfield 75, 3) := by decide +kernel
theorem dX10_tells_63 : decode cX10_tells 63 = .ok (.iload_n 1, 1) := by decide +kernel
theorem dX10_tells_64 : decode cX10_tells 64 = .ok (.iaload, 1) := by decide +kernel
theorem dX10_tells_65 : decode cX10_tells 65 = .ok (.iconst 1, 1) := by decide +kernel
theorem dX10_tells_66 : decode cX10_tells 66 = .ok (.invokevirtual 348, 3) := by decide +kernel
theorem dX10_tells_69 : decode cX10_tells 69 = .ok (.isub, 1) := by decide +kernel
theorem dX10_tells_70 : decode cX10_tells 70 = .ok (.ireturn, 1) := by decide +kernel
theorem dX10_tells_71 : decode cX10_tells 71 = .ok (.aload_n 0, 1) := by decide +kernel
theorem dX10_tells_72 : decode cX10_tells 72 = .ok (.bipush 60, 2) := by decide +kernel
theorem dX10_tells_74 : decode cX10_tells 74 = .ok (.invokevirtual 336, 3) := by decide +kernel
theorem dX10_tells_77 : decode cX10_tells 77 = .ok (.aload_n 0, 1) := by decide +kernel
theorem dX10_tells_78 : decode cX10_tells 78 = .ok (.iload_n 1, 1) := by decide +kernel
theorem dX10_tells_79 : decode cX10_tells 79 = .ok (.iconst 3, 1) := by decide +kernel
theorem dX10_tells_80 : decode cX10_tells 80 = .ok (.iload_n 3, 1) := by decide +kernel
theorem dX10_tells_81 : decode cX10_tells 81 = .ok (.invokevirtual 351, 3) := by decide +kernel
theorem dX10_tells_84 : decode cX10_tells 84 = .ok (.iconst 5, 1) := by decide +kernel
theorem dX10_tells_85 : decode cX10_tells 85 = .ok (.ixor, 1) := by decide +kernel
theorem dX10_tells_86 : decode cX10_tells 86 = .ok (.ireturn, 1) := by decide +kernel
theorem dX10_tells_87 : decode cX10_tells 87 = .ok (.aload_n 0, 1) := by decide +kernel
theorem dX10_tells_88 : decode cX10_tells 88 = .ok (.bipush 81, 2) := by decide +kernel
theorem dX10_tells_90 : decode cX10_tells 90 = .ok (.invokevirtual 336, 3) := by decide +kernel
theorem dX10_tells_93 : decode cX10_tells 93 = .ok (.aload_n 0, 1) := by decide +kernel
theorem dX10_tells_94 : decode cX10_tells 94 = .ok (.iload_n 1, 1) := by decide +kernel
theorem dX10_tells_95 : decode cX10_tells 95 = .ok (.iconst 4, 1) := by decide +kernel
theorem dX10_tells_96 : decode cX10_tells 96 = .ok (.iload_n 3, 1) := by decide +kernel
theorem dX10_tells_97 : decode cX10_tells 97 = .ok (.invokevirtual 351, 3) := by decide +kernel
theorem dX10_tells_100 : decode cX10_tells 100 = .ok (.iconst 1, 1) := by decide +kernel
theorem dX10_tells_101 : decode cX10_tells 101 = .ok (.isub, 1) := by decide +kernel
theorem dX10_tells_102 : decode cX10_tells 102 = .ok (.ireturn, 1) := by decide +kernel
theorem dX10_tells_103 : decode cX10_tells 103 = .ok (.aload_n 0, 1) := by decide +kernel
theorem dX10_tells_104 : decode cX10_tells 104 = .ok (.iload_n 1, 1) := by decide +kernel
theorem dX10_tells_105 : decode cX10_tells 105 = .ok (.iload_n 2, 1) := by decide +kernel
theorem dX10_tells_106 : decode cX10_tells 106 = .ok (.invokestatic 342, 3) := by decide +kernel
theorem dX10_tells_109 : decode cX10_tells 109 = .ok (.iload_n 3, 1) := by decide +kernel
theorem dX10_tells_110 : decode cX10_tells 110 = .ok (.invokevirtual 351, 3) := by decide +kernel
theorem dX10_tells_113 : decode cX10_tells 113 = .ok (.ireturn, 1) := by decide +kernel
abbrev rrX10_tells (d : Nat) : Room := { frames := 52 + d, cells := 0, slots := 0, locals := 1228 + 24 * d }
def mrX10_tells (rec : (gS → Int32 → Int32 → Int32 → Option (Int32 × gS))) (σ : gS) (p0 : Int32) (p1 : Int32) (p2 : Int32) : Option (Int32 × gS) := if p1 = 0 then (gBind (mX10_ran σ 2) (fun r1 s2 => if inbB p0 50 = true then (gBind (mX10_growsBy s2 p0 (s2.1 74 (Int32.toNatClampNeg p0)) p2) (fun r3 s4 => gLet r3 (fun v5 => if inbB p0 50 = true then (gBind (mX10_leaksBy s4 p0 (s4.1 74 (Int32.toNatClampNeg p0)) 1) (fun r6 s7 => some ((v5 - r6), s7))) else none))) else none)) else (if p1 = 5 then (gBind (mX10_ran σ 60) (fun r8 s9 => gBind (rec s9 p0 3 p2) (fun r10 s11 => some ((r10 ^^^ 5), s11)))) else (if p1 = 7 then (gBind (mX10_ran σ 81) (fun r12 s13 => gBind (rec s13 p0 4 p2) (fun r14 s15 => some ((r14 - 1), s15)))) else (gBind (mX10_above σ p1) (fun r16 s17 => gBind (rec s17 p0 r16 p2) (fun r18 s19 => some (r18, s19))))))
set_option maxHeartbeats 4000000 in
set_option maxRecDepth 100000 in
theorem trX10_tells {l : Launch} {G : gE} {d : Nat} {rec : (gS → Int32 → Int32 → Int32 → Option (Int32 × gS))} (hrec : (∀ (σ : gS) (p0 : Int32) (p1 : Int32) (p2 : Int32), gM l G yX10_tells cX10_tells 5 (some .int) (rrX10_tells d) iI [.ref (G.2.1 52), .int p0, .int p1, .int p2] σ (rec σ p0 p1 p2))) : ∀ (σ : gS) (p0 : Int32) (p1 : Int32) (p2 : Int32), gM l G yX10_tells cX10_tells 5 (some .int) (rrX10_tells (d + 1)) iI [.ref (G.2.1 52), .int p0, .int p1, .int p2] σ (mrX10_tells rec σ p0 p1 p2) := by
  intro σ p0 p1 p2
  refine gM_of (by decide) (Nat.le_of_ble_eq_true rfl) ?_
  intro p e s m args below meth c hC
  unfold mrX10_tells
  show gT p l e (rrX10_tells (d + 1)) s m args below meth c G 5 iI σ 0 [(0, .ref (G.2.1 52)), (1, .int p0), (2, .int p1), (3, .int p2)] [] _
  refine g_iload_n (pc := 0) (q := 2) hC dX10_tells_0 rfl rfl ?_
  refine gT_if (fun c100 => ?_) (fun c100 => ?_)
  · refine g_lookup (tgt := 36) (off := 35) hC dX10_tells_1 (by decide) (by rw [c100]; decide) (by decide) ?_
    refine g_aload_n (pc := 36) (q := 0) hC dX10_tells_36 rfl rfl ?_
    refine g_iconst (pc := 37) (v := 2) hC dX10_tells_37 (by decide) ?_
    refine g_callVv (pc := 38) (As := [.int 2]) (rest := []) hC lk_RX10_336 kX10 rfl (tX10_ran _ _ σ 2) rfl rfl (Nat.le_of_ble_eq_true rfl) ⟨rfl, rfl, by simp only [rrX10_tells] <;> omega, by simp only [rrX10_tells] <;> omega⟩ dX10_tells_38 (fun r1 s2 => ?_)
    refine g_aload_n (pc := 41) (q := 0) hC dX10_tells_41 rfl rfl ?_
    refine g_iload_n (pc := 42) (q := 1) hC dX10_tells_42 rfl rfl ?_
    refine g_aload_n (pc := 43) (q := 0) hC dX10_tells_43 rfl rfl ?_
    refine g_get (pc := 44) (v := .ref (G.2.1 74)) hC kX10 rfl 34 (by decide) fl_RX10_75 rfl dX10_tells_44 ?_
    refine g_iload_n (pc := 47) (q := 1) hC dX10_tells_47 rfl rfl ?_
    refine g_iald (pc := 48) hC 50 rfl (by decide) dX10_tells_48 ?_
    refine g_iload_n (pc := 49) (q := 3) hC dX10_tells_49 rfl rfl ?_
    refine g_callVi (pc := 50) (As := [.int p0, .int (s2.1 74 (Int32.toNatClampNeg p0)), .int p2]) (rest := []) hC lk_RX10_345 kX10 rfl (tX10_growsBy _ _ s2 p0 (s2.1 74 (Int32.toNatClampNeg p0)) p2) rfl rfl (Nat.le_of_ble_eq_true rfl) ⟨rfl, rfl, by simp only [rrX10_tells] <;> omega, by simp only [rrX10_tells] <;> omega⟩ dX10_tells_50 (fun r3 s4 => ?_)
    refine g_istore (pc := 53) (lv' := fun v5 => [(4, .int v5), (0, .ref (G.2.1 52)), (1, .int p0), (2, .int p1), (3, .int p2)]) hC dX10_tells_53 (by decide) (fun _ => rfl) (fun v5 => ?_)
    refine g_iload (pc := 55) (q := 0) hC dX10_tells_55 rfl ?_
    refine g_aload_n (pc := 57) (q := 1) hC dX10_tells_57 rfl rfl ?_
    refine g_iload_n (pc := 58) (q := 2) hC dX10_tells_58 rfl rfl ?_
    refine g_aload_n (pc := 59) (q := 1) hC dX10_tells_59 rfl rfl ?_
    refine g_get (pc := 60) (v := .ref (G.2.1 74)) hC kX10 rfl 34 (by decide) fl_RX10_75 rfl dX10_tells_60 ?_
    refine g_iload_n (pc := 63) (q := 2) hC dX10_tells_63 rfl rfl ?_
    refine g_iald (pc := 64) hC 50 rfl (by decide) dX10_tells_64 ?_
    refine g_iconst (pc := 65) (v := 1) hC dX10_tells_65 (by decide) ?_
    refine g_callVi (pc := 66) (As := [.int p0, .int (s4.1 74 (Int32.toNatClampNeg p0)), .int 1]) (rest := [.int v5]) hC lk_RX10_348 kX10 rfl (tX10_leaksBy _ _ s4 p0 (s4.1 74 (Int32.toNatClampNeg p0)) 1) rfl rfl (Nat.le_of_ble_eq_true rfl) ⟨rfl, rfl, by simp only [rrX10_tells] <;> omega, by simp only [rrX10_tells] <;> omega⟩ dX10_tells_66 (fun r6 s7 => ?_)
    refine g_isub (pc := 69) hC dX10_tells_69 ?_
    exact g_iret (pc := 70) hC dX10_tells_70
  · refine gT_if (fun c101 => ?_) (fun c101 => ?_)
    · refine g_lookup (tgt := 71) (off := 70) hC dX10_tells_1 (by decide) (by rw [c101]; decide) (by decide) ?_
      refine g_aload_n (pc := 71) (q := 0) hC dX10_tells_71 rfl rfl ?_
      refine g_bipush (pc := 72) (v := 60) hC dX10_tells_72 (by decide) ?_
      refine g_callVv (pc := 74) (As := [.int 60]) (rest := []) hC lk_RX10_336 kX10 rfl (tX10_ran _ _ σ 60) rfl rfl (Nat.le_of_ble_eq_true rfl) ⟨rfl, rfl, by simp only [rrX10_tells] <;> omega, by simp only [rrX10_tells] <;> omega⟩ dX10_tells_74 (fun r8 s9 => ?_)
      refine g_aload_n (pc := 77) (q := 0) hC dX10_tells_77 rfl rfl ?_
      refine g_iload_n (pc := 78) (q := 1) hC dX10_tells_78 rfl rfl ?_
      refine g_iconst (pc := 79) (v := 3) hC dX10_tells_79 (by decide) ?_
      refine g_iload_n (pc := 80) (q := 3) hC dX10_tells_80 rfl rfl ?_
      refine g_callVi (pc := 81) (As := [.int p0, .int 3, .int p2]) (rest := []) hC lk_RX10_351 kX10 rfl (hrec s9 p0 3 p2) rfl rfl (Nat.le_of_ble_eq_true rfl) ⟨rfl, rfl, by simp only [rrX10_tells, rrX10_tells] <;> omega, by simp only [rrX10_tells, rrX10_tells] <;> omega⟩ dX10_tells_81 (fun r10 s11 => ?_)
      refine g_iconst (pc := 84) (v := 5) hC dX10_tells_84 (by decide) ?_
      refine g_ixor (pc := 85) hC dX10_tells_85 ?_
      exact g_iret (pc := 86) hC dX10_tells_86
    · refine gT_if (fun c102 => ?_) (fun c102 => ?_)
      · refine g_lookup (tgt := 87) (off := 86) hC dX10_tells_1 (by decide) (by rw [c102]; decide) (by decide) ?_
        refine g_aload_n (pc := 87) (q := 0) hC dX10_tells_87 rfl rfl ?_
        refine g_bipush (pc := 88) (v := 81) hC dX10_tells_88 (by decide) ?_
        refine g_callVv (pc := 90) (As := [.int 81]) (rest := []) hC lk_RX10_336 kX10 rfl (tX10_ran _ _ σ 81) rfl rfl (Nat.le_of_ble_eq_true rfl) ⟨rfl, rfl, by simp only [rrX10_tells] <;> omega, by simp only [rrX10_tells] <;> omega⟩ dX10_tells_90 (fun r12 s13 => ?_)
        refine g_aload_n (pc := 93) (q := 0) hC dX10_tells_93 rfl rfl ?_
        refine g_iload_n (pc := 94) (q := 1) hC dX10_tells_94 rfl rfl ?_
        refine g_iconst (pc := 95) (v := 4) hC dX10_tells_95 (by decide) ?_
        refine g_iload_n (pc := 96) (q := 3) hC dX10_tells_96 rfl rfl ?_
        refine g_callVi (pc := 97) (As := [.int p0, .int 4, .int p2]) (rest := []) hC lk_RX10_351 kX10 rfl (hrec s13 p0 4 p2) rfl rfl (Nat.le_of_ble_eq_true rfl) ⟨rfl, rfl, by simp only [rrX10_tells, rrX10_tells] <;> omega, by simp only [rrX10_tells, rrX10_tells] <;> omega⟩ dX10_tells_97 (fun r14 s15 => ?_)
        refine g_iconst (pc := 100) (v := 1) hC dX10_tells_100 (by decide) ?_
        refine g_isub (pc := 101) hC dX10_tells_101 ?_
        exact g_iret (pc := 102) hC dX10_tells_102
      · refine g_lookup (tgt := 103) (off := 102) hC dX10_tells_1 (by decide) ((lv_osw c100 rfl).trans ((lv_osw c101 rfl).trans ((lv_osw c102 rfl).trans rfl))) (by decide) ?_
        refine g_aload_n (pc := 103) (q := 0) hC dX10_tells_103 rfl rfl ?_
        refine g_iload_n (pc := 104) (q := 1) hC dX10_tells_104 rfl rfl ?_
        refine g_iload_n (pc := 105) (q := 2) hC dX10_tells_105 rfl rfl ?_
        refine g_callSi (pc := 106) (As := [.int p1]) (rest := [.int p0, .ref (G.2.1 52)]) hC lk_RX10_342 (tX10_above _ _ σ p1) rfl rfl (Nat.le_of_ble_eq_true rfl) ⟨rfl, rfl, by simp only [rrX10_tells] <;> omega, by simp only [rrX10_tells] <;> omega⟩ dX10_tells_106 (fun r16 s17 => ?_)
        refine g_iload_n (pc := 109) (q := 3) hC dX10_tells_109 rfl rfl ?_
        refine g_callVi (pc := 110) (As := [.int p0, .int r16, .int p2]) (rest := []) hC lk_RX10_351 kX10 rfl (hrec s17 p0 r16 p2) rfl rfl (Nat.le_of_ble_eq_true rfl) ⟨rfl, rfl, by simp only [rrX10_tells, rrX10_tells] <;> omega, by simp only [rrX10_tells, rrX10_tells] <;> omega⟩ dX10_tells_110 (fun r18 s19 => ?_)
        exact g_iret (pc := 113) hC dX10_tells_113
def mgtells : Nat → (gS → Int32 → Int32 → Int32 → Option (Int32 × gS))
  | 0 => (fun _ _ _ _ => none)
  | d + 1 => (mrX10_tells (mgtells d))
theorem tgtells (l : Launch) (G : gE) : ∀ d : Nat, (∀ (σ : gS) (p0 : Int32) (p1 : Int32) (p2 : Int32), gM l G yX10_tells cX10_tells 5 (some .int) (rrX10_tells d) iI [.ref (G.2.1 52), .int p0, .int p1, .int p2] σ ((mgtells d) σ p0 p1 p2)) := by
  intro d
  induction d with
  | zero => exact (fun _ _ _ _ _ _ h => (by cases h))
  | succ d ih => exact trX10_tells ih
abbrev rX10_tells : Room := rrX10_tells 16
def mX10_tells (σ : gS) (p0 : Int32) (p1 : Int32) (p2 : Int32) : Option (Int32 × gS) := (mgtells 16) σ p0 p1 p2
theorem tX10_tells (l : Launch) (G : gE) (σ : gS) (p0 : Int32) (p1 : Int32) (p2 : Int32) : gM l G yX10_tells cX10_tells 5 (some .int) rX10_tells iI [.ref (G.2.1 52), .int p0, .int p1, .int p2] σ (mX10_tells σ p0 p1 p2) := (tgtells l G 16) σ p0 p1 p2
theorem dX10_act_0 : decode cX10_act 0 = .ok (.aload_n 0, 1) := by decide +kernel
theorem dX10_act_1 : decode cX10_act 1 = .ok (.iconst 0, 1) := by decide +kernel
theorem dX10_act_2 : decode cX10_act 2 = .ok (.putfield 333, 3) := by decide +kernel
theorem dX10_act_5 : decode cX10_act 5 = .ok (.iload_n 1, 1) := by decide +kernel
theorem dX10_act_6 : decode cX10_act 6 = .ok (.iconst 0, 1) := by decide +kernel
theorem dX10_act_7 : decode cX10_act 7 = .ok (.aload_n 0, 1) := by decide +kernel
theorem dX10_act_8 : decode cX10_act 8 = .ok (.getfield 354, 3) := by decide +kernel
theorem dX10_act_11 : decode cX10_act 11 = .ok (.iconst 1, 1) := by decide +kernel
theorem dX10_act_12 : decode cX10_act 12 = .ok (.isub, 1) := by decide +kernel
theorem dX10_act_13 : decode cX10_act 13 = .ok (.invokestatic 110, 3) := by decide +kernel
theorem dX10_act_16 : decode cX10_act 16 = .ok (.ifCond .eq 12, 3) := by decide +kernel
theorem dX10_act_19 : decode cX10_act 19 = .ok (.iload_n 2, 1) := by decide +kernel
theorem dX10_act_20 : decode cX10_act 20 = .ok (.iconst 0, 1) := by decide +kernel
theorem dX10_act_21 : decode cX10_act 21 = .ok (.iconst 3, 1) := by decide +kernel
theorem dX10_act_22 : decode cX10_act 22 = .ok (.invokestatic 110, 3) := by decide +kernel
theorem dX10_act_25 : decode cX10_act 25 = .ok (.ifCond .ne 5, 3) := by decide +kernel
theorem dX10_act_28 : decode cX10_act 28 = .ok (.iconst 0, 1) := by decide +kernel
theorem dX10_act_29 : decode cX10_act 29 = .ok (.ireturn, 1) := by decide +kernel
theorem dX10_act_30 : decode cX10_act 30 = .ok (.aload_n 0, 1) := by decide +kernel
theorem dX10_act_31 : decode cX10_act 31 = .ok (.getfield 75, 3) := by decide +kernel
theorem dX10_act_34 : decode cX10_act 34 = .ok (.iload_n 1, 1) := by decide +kernel
theorem dX10_act_35 : decode cX10_act 35 = .ok (.iaload, 1) := by decide +kernel
theorem dX10_act_36 : decode cX10_act 36 = .ok (.istore 4, 2) := by decide +kernel
theorem dX10_act_38 : decode cX10_act 38 = .ok (.iload_n 2, 1) := by decide +kernel
theorem dX10_act_39 : decode cX10_act 39 = .ok (.ifCond .ne 14, 3) := by decide +kernel
theorem dX10_act_42 : decode cX10_act 42 = .ok (.aload_n 0, 1) := by decide +kernel
theorem dX10_act_43 : decode cX10_act 43 = .ok (.iload_n 1, 1) := by decide +kernel
theorem dX10_act_44 : decode cX10_act 44 = .ok (.iload 4, 2) := by decide +kernel
theorem dX10_act_46 : decode cX10_act 46 = .ok (.iload_n 3, 1) := by decide +kernel
theorem dX10_act_47 : decode cX10_act 47 = .ok (.invokevirtual 339, 3) := by decide +kernel
theorem dX10_act_50 : decode cX10_act 50 = .ok (.goto 43, 3) := by decide +kernel
theorem dX10_act_53 : decode cX10_act 53 = .ok (.iload_n 2, 1) := by decide +kernel
theorem dX10_act_54 : decode cX10_act 54 = .ok (.iconst 1, 1) := by decide +kernel
theorem dX10_act_55 : decode cX10_act 55 = .ok (.if_icmp .ne 14, 3) := by decide +kernel
theorem dX10_act_58 : decode cX10_act 58 = .ok (.aload_n 0, 1) := by decide +kernel
theorem dX10_act_59 : decode cX10_act 59 = .ok (.iload_n 1, 1) := by decide +kernel
theorem dX10_act_60 : decode cX10_act 60 = .ok (.iload 4, 2) := by decide +kernel
theorem dX10_act_62 : decode cX10_act 62 = .ok (.iload_n 3, 1) := by decide +kernel
theorem dX10_act_63 : decode cX10_act 63 = .ok (.invokevirtual 345, 3) := by decide +kernel
theorem dX10_act_66 : decode cX10_act 66 = .ok (.goto 27, 3) := by decide +kernel
theorem dX10_act_69 : decode cX10_act 69 = .ok (.iload_n 2, 1) := by decide +kernel
theorem dX10_act_70 : decode cX10_act 70 = .ok (.iconst 2, 1) := by decide +kernel
theorem dX10_act_71 : decode cX10_act 71 = .ok (.if_icmp .ne 14, 3) := by decide +kernel
theorem dX10_act_74 : decode cX10_act 74 = .ok (.aload_n 0, 1) := by decide +kernel
theorem dX10_act_75 : decode cX10_act 75 = .ok (.iload_n 1, 1) := by decide +kernel
theorem dX10_act_76 : decode cX10_act 76 = .ok (.iload 4, 2) := by decide +kernel
theorem dX10_act_78 : decode cX10_act 78 = .ok (.iload_n 3, 1) := by decide +kernel
theorem dX10_act_79 : decode cX10_act 79 = .ok (.invokevirtual 348, 3) := by decide +kernel
theorem dX10_act_82 : decode cX10_act 82 = .ok (.goto 11, 3) := by decide +kernel
theorem dX10_act_85 : decode cX10_act 85 = .ok (.aload_n 0, 1) := by decide +kernel
theorem dX10_act_86 : decode cX10_act 86 = .ok (.iload_n 1, 1) := by decide +kernel
theorem dX10_act_87 : decode cX10_act 87 = .ok (.iload 4, 2) := by decide +kernel
theorem dX10_act_89 : decode cX10_act 89 = .ok (.iload_n 3, 1) := by decide +kernel
theorem dX10_act_90 : decode cX10_act 90 = .ok (.invokevirtual 351, 3) := by decide +kernel
theorem dX10_act_93 : decode cX10_act 93 = .ok (.ireturn, 1) := by decide +kernel
abbrev rX10_act : Room := { frames := 69, cells := 0, slots := 0, locals := 1636 }
def mX10_act (σ : gS) (p0 : Int32) (p1 : Int32) (p2 : Int32) : Option (Int32 × gS) := gLet (gUI σ 52 35 0) (fun s1 => gBind (mX10_within s1 p0 0 ((s1.1 52 33) - 1)) (fun r2 s3 => if r2 = true then (gBind (mX10_within s3 p1 0 3) (fun r4 s5 => if r4 = true then (if inbB p0 50 = true then (gLet (s5.1 74 (Int32.toNatClampNeg p0)) (fun v6 => if p1 = 0 then (gBind (mX10_letsBy s5 p0 v6 p2) (fun r13 s14 => some (r13, s14))) else (if p1 = 1 then (gBind (mX10_growsBy s5 p0 v6 p2) (fun r11 s12 => some (r11, s12))) else (if p1 = 2 then (gBind (mX10_leaksBy s5 p0 v6 p2) (fun r9 s10 => some (r9, s10))) else (gBind (mX10_tells s5 p0 v6 p2) (fun r7 s8 => some (r7, s8))))))) else none) else (some (0, s5)))) else (some (0, s3))))
set_option maxHeartbeats 4000000 in
set_option maxRecDepth 100000 in
theorem tX10_act (l : Launch) (G : gE) (σ : gS) (p0 : Int32) (p1 : Int32) (p2 : Int32) : gM l G yX10_act cX10_act 5 (some .int) rX10_act iI [.ref (G.2.1 52), .int p0, .int p1, .int p2] σ (mX10_act σ p0 p1 p2) := by
  refine gM_of (by decide) (Nat.le_of_ble_eq_true rfl) ?_
  intro p e s m args below meth c hC
  unfold mX10_act
  show gT p l e rX10_act s m args below meth c G 5 iI σ 0 [(0, .ref (G.2.1 52)), (1, .int p0), (2, .int p1), (3, .int p2)] [] _
  refine g_aload_n (pc := 0) (q := 0) hC dX10_act_0 rfl rfl ?_
  refine g_iconst (pc := 1) (v := 0) hC dX10_act_1 (by decide) ?_
  refine g_puti (pc := 2) (fty := .int) hC kX10 rfl 35 (by decide) fl_RX10_333 rfl rfl rfl rfl (fun _ _ => Nat.le_of_ble_eq_true rfl) (fun _ _ => rfl) dX10_act_2 (fun s1 => ?_)
  refine g_iload_n (pc := 5) (q := 1) hC dX10_act_5 rfl rfl ?_
  refine g_iconst (pc := 6) (v := 0) hC dX10_act_6 (by decide) ?_
  refine g_aload_n (pc := 7) (q := 0) hC dX10_act_7 rfl rfl ?_
  refine g_get (pc := 8) (v := .int (s1.1 52 33)) hC kX10 rfl 33 (by decide) fl_RX10_354 rfl dX10_act_8 ?_
  refine g_iconst (pc := 11) (v := 1) hC dX10_act_11 (by decide) ?_
  refine g_isub (pc := 12) hC dX10_act_12 ?_
  refine g_callSz (pc := 13) (As := [.int p0, .int 0, .int ((s1.1 52 33) - 1)]) (rest := []) hC lk_RX10_110 (tX10_within _ _ s1 p0 0 ((s1.1 52 33) - 1)) rfl rfl (Nat.le_of_ble_eq_true rfl) ⟨rfl, rfl, Nat.le_of_ble_eq_true rfl, Nat.le_of_ble_eq_true rfl⟩ dX10_act_13 (fun r2 s3 => ?_)
  refine g_bif_eq (pc := 16) (tgt := 28) hC dX10_act_16 (by decide) ?_ ?_
  · refine g_iconst (pc := 28) (v := 0) hC dX10_act_28 (by decide) ?_
    exact g_iret (pc := 29) hC dX10_act_29
  · refine g_iload_n (pc := 19) (q := 2) hC dX10_act_19 rfl rfl ?_
    refine g_iconst (pc := 20) (v := 0) hC dX10_act_20 (by decide) ?_
    refine g_iconst (pc := 21) (v := 3) hC dX10_act_21 (by decide) ?_
    refine g_callSz (pc := 22) (As := [.int p1, .int 0, .int 3]) (rest := []) hC lk_RX10_110 (tX10_within _ _ s3 p1 0 3) rfl rfl (Nat.le_of_ble_eq_true rfl) ⟨rfl, rfl, Nat.le_of_ble_eq_true rfl, Nat.le_of_ble_eq_true rfl⟩ dX10_act_22 (fun r4 s5 => ?_)
    refine g_bif_ne (pc := 25) (tgt := 30) hC dX10_act_25 (by decide) ?_ ?_
    · refine g_aload_n (pc := 30) (q := 0) hC dX10_act_30 rfl rfl ?_
      refine g_get (pc := 31) (v := .ref (G.2.1 74)) hC kX10 rfl 34 (by decide) fl_RX10_75 rfl dX10_act_31 ?_
      refine g_iload_n (pc := 34) (q := 1) hC dX10_act_34 rfl rfl ?_
      refine g_iald (pc := 35) hC 50 rfl (by decide) dX10_act_35 ?_
      refine g_istore (pc := 36) (lv' := fun v6 => [(4, .int v6), (0, .ref (G.2.1 52)), (1, .int p0), (2, .int p1), (3, .int p2)]) hC dX10_act_36 (by decide) (fun _ => rfl) (fun v6 => ?_)
      refine g_iload_n (pc := 38) (q := 3) hC dX10_act_38 rfl rfl ?_
      refine g_if_ne (pc := 39) (tgt := 53) hC dX10_act_39 (by decide) ?_ ?_
      · refine g_iload_n (pc := 53) (q := 3) hC dX10_act_53 rfl rfl ?_
        refine g_iconst (pc := 54) (v := 1) hC dX10_act_54 (by decide) ?_
        refine g_icmp_ne (pc := 55) (tgt := 69) hC dX10_act_55 (by decide) ?_ ?_
        · refine g_iload_n (pc := 69) (q := 3) hC dX10_act_69 rfl rfl ?_
          refine g_iconst (pc := 70) (v := 2) hC dX10_act_70 (by decide) ?_
          refine g_icmp_ne (pc := 71) (tgt := 85) hC dX10_act_71 (by decide) ?_ ?_
          · refine g_aload_n (pc := 85) (q := 1) hC dX10_act_85 rfl rfl ?_
            refine g_iload_n (pc := 86) (q := 2) hC dX10_act_86 rfl rfl ?_
            refine g_iload (pc := 87) (q := 0) hC dX10_act_87 rfl ?_
            refine g_iload_n (pc := 89) (q := 4) hC dX10_act_89 rfl rfl ?_
            refine g_callVi (pc := 90) (As := [.int p0, .int v6, .int p2]) (rest := []) hC lk_RX10_351 kX10 rfl (tX10_tells _ _ s5 p0 v6 p2) rfl rfl (Nat.le_of_ble_eq_true rfl) ⟨rfl, rfl, Nat.le_of_ble_eq_true rfl, Nat.le_of_ble_eq_true rfl⟩ dX10_act_90 (fun r7 s8 => ?_)
            exact g_iret (pc := 93) hC dX10_act_93
          · refine g_aload_n (pc := 74) (q := 1) hC dX10_act_74 rfl rfl ?_
            refine g_iload_n (pc := 75) (q := 2) hC dX10_act_75 rfl rfl ?_
            refine g_iload (pc := 76) (q := 0) hC dX10_act_76 rfl ?_
            refine g_iload_n (pc := 78) (q := 4) hC dX10_act_78 rfl rfl ?_
            refine g_callVi (pc := 79) (As := [.int p0, .int v6, .int p2]) (rest := []) hC lk_RX10_348 kX10 rfl (tX10_leaksBy _ _ s5 p0 v6 p2) rfl rfl (Nat.le_of_ble_eq_true rfl) ⟨rfl, rfl, Nat.le_of_ble_eq_true rfl, Nat.le_of_ble_eq_true rfl⟩ dX10_act_79 (fun r9 s10 => ?_)
            refine g_goto (pc := 82) (tgt := 93) hC dX10_act_82 (by decide) ?_
            exact g_iret (pc := 93) hC dX10_act_93
        · refine g_aload_n (pc := 58) (q := 1) hC dX10_act_58 rfl rfl ?_
          refine g_iload_n (pc := 59) (q := 2) hC dX10_act_59 rfl rfl ?_
          refine g_iload (pc := 60) (q := 0) hC dX10_act_60 rfl ?_
          refine g_iload_n (pc := 62) (q := 4) hC dX10_act_62 rfl rfl ?_
          refine g_callVi (pc := 63) (As := [.int p0, .int v6, .int p2]) (rest := []) hC lk_RX10_345 kX10 rfl (tX10_growsBy _ _ s5 p0 v6 p2) rfl rfl (Nat.le_of_ble_eq_true rfl) ⟨rfl, rfl, Nat.le_of_ble_eq_true rfl, Nat.le_of_ble_eq_true rfl⟩ dX10_act_63 (fun r11 s12 => ?_)
          refine g_goto (pc := 66) (tgt := 93) hC dX10_act_66 (by decide) ?_
          exact g_iret (pc := 93) hC dX10_act_93
      · refine g_aload_n (pc := 42) (q := 1) hC dX10_act_42 rfl rfl ?_
        refine g_iload_n (pc := 43) (q := 2) hC dX10_act_43 rfl rfl ?_
        refine g_iload (pc := 44) (q := 0) hC dX10_act_44 rfl ?_
        refine g_iload_n (pc := 46) (q := 4) hC dX10_act_46 rfl rfl ?_
        refine g_callVi (pc := 47) (As := [.int p0, .int v6, .int p2]) (rest := []) hC lk_RX10_339 kX10 rfl (tX10_letsBy _ _ s5 p0 v6 p2) rfl rfl (Nat.le_of_ble_eq_true rfl) ⟨rfl, rfl, Nat.le_of_ble_eq_true rfl, Nat.le_of_ble_eq_true rfl⟩ dX10_act_47 (fun r13 s14 => ?_)
        refine g_goto (pc := 50) (tgt := 93) hC dX10_act_50 (by decide) ?_
        exact g_iret (pc := 93) hC dX10_act_93
    · refine g_iconst (pc := 28) (v := 0) hC dX10_act_28 (by decide) ?_
      exact g_iret (pc := 29) hC dX10_act_29
