theorem fl_RX9_447 : Cond.fieldLink RX9 447 "WinterShed$Search" "days" "I" ∈ gBig := (gBig_tab 144 (by decide +kernel) (by decide +kernel))
theorem fl_RX9_454 : Cond.fieldLink RX9 454 "WinterShed$Search" "tried" "[I" ∈ gBig := (gBig_tab 148 (by decide +kernel) (by decide +kernel))
theorem lk_RX9_196 : gLV RX9 196 RX9 yX9_tryDay cX9_tryDay 9 (none) 3 := ⟨(gBig_tab 726 (by decide +kernel) (by decide +kernel)), (gBig_tab 728 (by decide +kernel) (by decide +kernel)), (gBig_sel 25 (by decide +kernel) (by decide +kernel)), (gBig_tab 1 (by decide +kernel) (by decide +kernel)), (gBig_tab 729 (by decide +kernel) (by decide +kernel)), rfl, by decide +kernel, by decide +kernel, by decide +kernel⟩
theorem lk_RX9_451 : gLV RX9 451 RX8 yX8_wantsExactly cX8_wantsExactly 4 (some .boolean) 2 := ⟨(gBig_tab 736 (by decide +kernel) (by decide +kernel)), (gBig_tab 737 (by decide +kernel) (by decide +kernel)), (gBig_tab 738 (by decide +kernel) (by decide +kernel)), (gBig_tab 2 (by decide +kernel) (by decide +kernel)), (gBig_tab 739 (by decide +kernel) (by decide +kernel)), rfl, by decide +kernel, by decide +kernel, by decide +kernel⟩
theorem lk_RX9_448 : gLV RX9 448 RX4 yX4_offer cX4_offer 2 (none) 1 := ⟨(gBig_tab 730 (by decide +kernel) (by decide +kernel)), (gBig_tab 731 (by decide +kernel) (by decide +kernel)), (gBig_tab 732 (by decide +kernel) (by decide +kernel)), (gBig_tab 5 (by decide +kernel) (by decide +kernel)), (gBig_tab 733 (by decide +kernel) (by decide +kernel)), rfl, by decide +kernel, by decide +kernel, by decide +kernel⟩
theorem dX9_tryDay_0 : decode cX9_tryDay 0 = .ok (.iload_n 1, 1) := by decide +kernel
theorem dX9_tryDay_1 : decode cX9_tryDay 1 = .ok (.aload_n 0, 1) := by decide +kernel
theorem dX9_tryDay_2 : decode cX9_tryDay 2 = .ok (.getfield 36, 3) := by decide +kernel
theorem dX9_tryDay_5 : decode cX9_tryDay 5 = .ok (.getfield 447, 3) := by decide +kernel
theorem dX9_tryDay_8 : decode cX9_tryDay 8 = .ok (.if_icmp .lt 12, 3) := by decide +kernel
theorem dX9_tryDay_11 : decode cX9_tryDay 11 = .ok (.aload_n 0, 1) := by decide +kernel
theorem dX9_tryDay_12 : decode cX9_tryDay 12 = .ok (.getfield 36, 3) := by decide +kernel
theorem dX9_tryDay_15 : decode cX9_tryDay 15 = .ok (.iload_n 3, 1) := by decide +kernel
theorem dX9_tryDay_16 : decode cX9_tryDay 16 = .ok (.invokevirtual 448, 3) := by decide +kernel
theorem dX9_tryDay_19 : decode cX9_tryDay 19 = .ok (.return_, 1) := by decide +kernel
theorem dX9_tryDay_20 : decode cX9_tryDay 20 = .ok (.aload_n 0, 1) := by decide +kernel
theorem dX9_tryDay_21 : decode cX9_tryDay 21 = .ok (.getfield 19, 3) := by decide +kernel
theorem dX9_tryDay_24 : decode cX9_tryDay 24 = .ok (.getfield 153, 3) := by decide +kernel
theorem dX9_tryDay_27 : decode cX9_tryDay 27 = .ok (.iload_n 1, 1) := by decide +kernel
theorem dX9_tryDay_28 : decode cX9_tryDay 28 = .ok (.iadd, 1) := by decide +kernel
theorem dX9_tryDay_29 : decode cX9_tryDay 29 = .ok (.istore 4, 2) := by decide +kernel
theorem dX9_tryDay_31 : decode cX9_tryDay 31 = .ok (.aload_n 0, 1) := by decide +kernel
theorem dX9_tryDay_32 : decode cX9_tryDay 32 = .ok (.getfield 19, 3) := by decide +kernel
theorem dX9_tryDay_35 : decode cX9_tryDay 35 = .ok (.iload 4, 2) := by decide +kernel
theorem dX9_tryDay_37 : decode cX9_tryDay 37 = .ok (.iload_n 2, 1) := by decide +kernel
theorem dX9_tryDay_38 : decode cX9_tryDay 38 = .ok (.invokevirtual 275, 3) := by decide +kernel
theorem dX9_tryDay_41 : decode cX9_tryDay 41 = .ok (.istore 5, 2) := by decide +kernel
theorem dX9_tryDay_43 : decode cX9_tryDay 43 = .ok (.iconst 0, 1) := by decide +kernel
theorem dX9_tryDay_44 : decode cX9_tryDay 44 = .ok (.istore 6, 2) := by decide +kernel
theorem dX9_tryDay_46 : decode cX9_tryDay 46 = .ok (.iload 6, 2) := by decide +kernel
theorem dX9_tryDay_48 : decode cX9_tryDay 48 = .ok (.bipush 24, 2) := by decide +kernel
theorem dX9_tryDay_50 : decode cX9_tryDay 50 = .ok (.if_icmp .gt 111, 3) := by decide +kernel
theorem dX9_tryDay_53 : decode cX9_tryDay 53 = .ok (.iload 6, 2) := by decide +kernel
theorem dX9_tryDay_55 : decode cX9_tryDay 55 = .ok (.ifCond .eq 24, 3) := by decide +kernel
theorem dX9_tryDay_58 : decode cX9_tryDay 58 = .ok (.iload 4, 2) := by decide +kernel
theorem dX9_tryDay_60 : decode cX9_tryDay 60 = .ok (.bipush 29, 2) := by decide +kernel
theorem dX9_tryDay_62 : decode cX9_tryDay 62 = .ok (.if_icmp .gt 93, 3) := by decide +kernel
theorem dX9_tryDay_65 : decode cX9_tryDay 65 = .ok (.aload_n 0, 1) := by decide +kernel
theorem dX9_tryDay_66 : decode cX9_tryDay 66 = .ok (.getfield 10, 3) := by decide +kernel
theorem dX9_tryDay_69 : decode cX9_tryDay 69 = .ok (.iload 4, 2) := by decide +kernel
theorem dX9_tryDay_71 : decode cX9_tryDay 71 = .ok (.iload 6, 2) := by decide +kernel
theorem dX9_tryDay_73 : decode cX9_tryDay 73 = .ok (.invokevirtual 451, 3) := by decide +kernel
theorem dX9_tryDay_76 : decode cX9_tryDay 76 = .ok (.ifCond .eq 79, 3) := by decide +kernel
theorem dX9_tryDay_79 : decode cX9_tryDay 79 = .ok (.iload 6, 2) := by decide +kernel
theorem dX9_tryDay_81 : decode cX9_tryDay 81 = .ok (.iload 5, 2) := by decide +kernel
theorem dX9_tryDay_83 : decode cX9_tryDay 83 = .ok (.invokestatic 294, 3) := by decide +kernel
theorem dX9_tryDay_86 : decode cX9_tryDay 86 = .ok (.istore 7, 2) := by decide +kernel
theorem dX9_tryDay_88 : decode cX9_tryDay 88 = .ok (.aload_n 0, 1) := by decide +kernel
theorem dX9_tryDay_89 : decode cX9_tryDay 89 = .ok (.getfield 10, 3) := by decide +kernel
theorem dX9_tryDay_92 : decode cX9_tryDay 92 = .ok (.iload 4, 2) := by decide +kernel
theorem dX9_tryDay_94 : decode cX9_tryDay 94 = .ok (.iload 7, 2) := by decide +kernel
theorem dX9_tryDay_96 : decode cX9_tryDay 96 = .ok (.invokevirtual 320, 3) := by decide +kernel
theorem dX9_tryDay_99 : decode cX9_tryDay 99 = .ok (.aload_n 0, 1) := by decide +kernel
theorem dX9_tryDay_100 : decode cX9_tryDay 100 = .ok (.getfield 10, 3) := by decide +kernel
theorem dX9_tryDay_103 : decode cX9_tryDay 103 = .ok (.iload 4, 2) := by decide +kernel
theorem dX9_tryDay_105 : decode cX9_tryDay 105 = .ok (.iload 7, 2) := by decide +kernel
theorem dX9_tryDay_107 : decode cX9_tryDay 107 = .ok (.invokevirtual 323, 3) := by decide +kernel
theorem dX9_tryDay_110 : decode cX9_tryDay 110 = .ok (.isub, 1) := by decide +kernel
theorem dX9_tryDay_111 : decode cX9_tryDay 111 = .ok (.istore 8, 2) := by decide +kernel
theorem dX9_tryDay_113 : decode cX9_tryDay 113 = .ok (.aload_n 0, 1) := by decide +kernel
theorem dX9_tryDay_114 : decode cX9_tryDay 114 = .ok (.getfield 36, 3) := by decide +kernel
theorem dX9_tryDay_117 : decode cX9_tryDay 117 = .ok (.getfield 454, 3) := by decide +kernel
theorem dX9_tryDay_120 : decode cX9_tryDay 120 = .ok (.iload_n 1, 1) := by decide +kernel
theorem dX9_tryDay_121 : decode cX9_tryDay 121 = .ok (.iload 6, 2) := by decide +kernel
theorem dX9_tryDay_123 : decode cX9_tryDay 123 = .ok (.iastore, 1) := by decide +kernel
theorem dX9_tryDay_124 : decode cX9_tryDay 124 = .ok (.aload_n 0, 1) := by decide +kernel
theorem dX9_tryDay_125 : decode cX9_tryDay 125 = .ok (.iload_n 1, 1) := by decide +kernel
theorem dX9_tryDay_126 : decode cX9_tryDay 126 = .ok (.iconst 1, 1) := by decide +kernel
theorem dX9_tryDay_127 : decode cX9_tryDay 127 = .ok (.iadd, 1) := by decide +kernel
theorem dX9_tryDay_128 : decode cX9_tryDay 128 = .ok (.aload_n 0, 1) := by decide +kernel
theorem dX9_tryDay_129 : decode cX9_tryDay 129 = .ok (.getfield 51, 3) := by decide +kernel
theorem dX9_tryDay_132 : decode cX9_tryDay 132 = .ok (.aload_n 0, 1) := by decide +kernel
theorem dX9_tryDay_133 : decode cX9_tryDay 133 = .ok (.getfield 19, 3) := by decide +kernel
theorem dX9_tryDay_136 : decode cX9_tryDay 136 = .ok (.iload 4, 2) := by decide +kernel
theorem dX9_tryDay_138 : decode cX9_tryDay 138 = .ok (.iload 5, 2) := by decide +kernel
theorem dX9_tryDay_140 : decode cX9_tryDay 140 = .ok (.iload 7, 2) := by decide +kernel
theorem dX9_tryDay_142 : decode cX9_tryDay 142 = .ok (.isub, 1) := by decide +kernel
theorem dX9_tryDay_143 : decode cX9_tryDay 143 = .ok (.iload 7, 2) := by decide +kernel
theorem dX9_tryDay_145 : decode cX9_tryDay 145 = .ok (.invokevirtual 326, 3) := by decide +kernel
theorem dX9_tryDay_148 : decode cX9_tryDay 148 = .ok (.iload_n 3, 1) := by decide +kernel
theorem dX9_tryDay_149 : decode cX9_tryDay 149 = .ok (.iload 8, 2) := by decide +kernel
theorem dX9_tryDay_151 : decode cX9_tryDay 151 = .ok (.iadd, 1) := by decide +kernel
theorem dX9_tryDay_152 : decode cX9_tryDay 152 = .ok (.invokevirtual 196, 3) := by decide +kernel
theorem dX9_tryDay_155 : decode cX9_tryDay 155 = .ok (.iinc 6 1, 3) := by decide +kernel
theorem dX9_tryDay_158 : decode cX9_tryDay 158 = .ok (.goto (-112), 3) := by decide +kernel
theorem dX9_tryDay_161 : decode cX9_tryDay 161 = .ok (.return_, 1) := by decide +kernel
abbrev rrX9_tryDay (d : Nat) : Room := { frames := 4 + d, cells := 0, slots := 0, locals := 96 + 28 * d }
def mX9_tryDay_b155 (rec : (gS → Int32 → Int32 → Int32 → Option (Unit × gS)))  (k46 : gS → Int32 → Int32 → Int32 → Int32 → Int32 → Option (Unit × gS)) (σ : gS) (x28 : Int32) (x29 : Int32) (x30 : Int32) (x31 : Int32) (x32 : Int32) : Option (Unit × gS) := gLet (x32 + 1) (fun v33 => (k46 σ x28 x29 x30 x31 v33))
set_option maxHeartbeats 4000000 in
set_option maxRecDepth 100000 in
theorem wX9_tryDay_b155 {p : Program} {l : Launch} {e : Env} {s : State} {m : MethodId} {args : Array Value} {below : List Frame} {meth : Method} {c : Code} {G : gE} {d : Nat} (hC : gCx p s m args meth c G RX9 cX9_tryDay 9 (none)) {rec : (gS → Int32 → Int32 → Int32 → Option (Unit × gS))} (hrec : (∀ (σ : gS) (p0 : Int32) (p1 : Int32) (p2 : Int32), gM l G yX9_tryDay cX9_tryDay 9 (none) (rrX9_tryDay d) iV [.ref (G.2.1 0), .int p0, .int p1, .int p2] σ (rec σ p0 p1 p2)))   {k46 : gS → Int32 → Int32 → Int32 → Int32 → Int32 → Option (Unit × gS)} (hk46 : ∀ (σ : gS) (x6 : Int32) (x7 : Int32) (x8 : Int32) (x9 : Int32) (x10 : Int32), gT p l e (rrX9_tryDay (d + 1)) s m args below meth c G 9 iV σ 46 [(0, .ref (G.2.1 0)), (1, .int x6), (3, .int x7), (4, .int x8), (5, .int x9), (6, .int x10)] [] (k46 σ x6 x7 x8 x9 x10)) (σ : gS) (x28 : Int32) (x29 : Int32) (x30 : Int32) (x31 : Int32) (x32 : Int32)  : gT p l e (rrX9_tryDay (d + 1)) s m args below meth c G 9 iV σ 155 [(0, .ref (G.2.1 0)), (1, .int x28), (3, .int x29), (4, .int x30), (5, .int x31), (6, .int x32)] [] (mX9_tryDay_b155 rec k46 σ x28 x29 x30 x31 x32) := by
  unfold mX9_tryDay_b155
  refine g_iinc (pc := 155) (q := 5) (w := 1) (lv' := fun v33 => [(6, .int v33), (0, .ref (G.2.1 0)), (1, .int x28), (3, .int x29), (4, .int x30), (5, .int x31)]) hC dX9_tryDay_155 rfl (by decide) (by decide) (fun _ => rfl) (fun v33 => ?_)
  refine g_goto (pc := 158) (tgt := 46) hC dX9_tryDay_158 (by decide) ?_
  exact gT_sub [1, 2, 3, 4, 5, 0] rfl (hk46 σ x28 x29 x30 x31 v33)
def mX9_tryDay_b79 (rec : (gS → Int32 → Int32 → Int32 → Option (Unit × gS)))  (k46 : gS → Int32 → Int32 → Int32 → Int32 → Int32 → Option (Unit × gS)) (σ : gS) (x11 : Int32) (x12 : Int32) (x13 : Int32) (x14 : Int32) (x15 : Int32) : Option (Unit × gS) := gLet (gMin x15 x14) (fun v16 => gBind (mX8_gain σ x13 v16) (fun r17 s18 => gBind (mX8_harmOfAll s18 x13 v16) (fun r19 s20 => gLet (r17 - r19) (fun v21 => if inbB x11 4 = true then gLet (gUI s20 15 (Int32.toNatClampNeg x11) x15) (fun s22 => gOpt (s22.2.2 0 7) (none) (fun k23 => if gk k23 = 3 then (gBind (mX3_overnight s22 k23 8 x13 (x14 - v16) v16) (fun r24 s25 => gBind (rec s25 (x11 + 1) r24 (x12 + v21)) (fun r26 s27 => (mX9_tryDay_b155 rec k46 s27 x11 x12 x13 x14 x15)))) else none)) else none))))
set_option maxHeartbeats 4000000 in
set_option maxRecDepth 100000 in
theorem wX9_tryDay_b79 {p : Program} {l : Launch} {e : Env} {s : State} {m : MethodId} {args : Array Value} {below : List Frame} {meth : Method} {c : Code} {G : gE} {d : Nat} (hC : gCx p s m args meth c G RX9 cX9_tryDay 9 (none)) {rec : (gS → Int32 → Int32 → Int32 → Option (Unit × gS))} (hrec : (∀ (σ : gS) (p0 : Int32) (p1 : Int32) (p2 : Int32), gM l G yX9_tryDay cX9_tryDay 9 (none) (rrX9_tryDay d) iV [.ref (G.2.1 0), .int p0, .int p1, .int p2] σ (rec σ p0 p1 p2)))   {k46 : gS → Int32 → Int32 → Int32 → Int32 → Int32 → Option (Unit × gS)} (hk46 : ∀ (σ : gS) (x6 : Int32) (x7 : Int32) (x8 : Int32) (x9 : Int32) (x10 : Int32), gT p l e (rrX9_tryDay (d + 1)) s m args below meth c G 9 iV σ 46 [(0, .ref (G.2.1 0)), (1, .int x6), (3, .int x7), (4, .int x8), (5, .int x9), (6, .int x10)] [] (k46 σ x6 x7 x8 x9 x10)) (σ : gS) (x11 : Int32) (x12 : Int32) (x13 : Int32) (x14 : Int32) (x15 : Int32)  : gT p l e (rrX9_tryDay (d + 1)) s m args below meth c G 9 iV σ 79 [(0, .ref (G.2.1 0)), (1, .int x11), (3, .int x12), (4, .int x13), (5, .int x14), (6, .int x15)] [] (mX9_tryDay_b79 rec k46 σ x11 x12 x13 x14 x15) := by
  unfold mX9_tryDay_b79
  refine g_iload (pc := 79) (q := 5) hC dX9_tryDay_79 rfl ?_
  refine g_iload (pc := 81) (q := 4) hC dX9_tryDay_81 rfl ?_
  refine g_min (pc := 83) hC mth_RX9_294 ⟨by simp only [rrX9_tryDay] <;> omega, by simp only [rrX9_tryDay] <;> omega⟩ (Nat.le_of_ble_eq_true rfl) dX9_tryDay_83 ?_
  refine g_istore (pc := 86) (lv' := fun v16 => [(7, .int v16), (0, .ref (G.2.1 0)), (1, .int x11), (3, .int x12), (4, .int x13), (5, .int x14), (6, .int x15)]) hC dX9_tryDay_86 (by decide) (fun _ => rfl) (fun v16 => ?_)
  refine g_aload_n (pc := 88) (q := 1) hC dX9_tryDay_88 rfl rfl ?_
  refine g_get (pc := 89) (v := .ref (G.2.1 1)) hC kX9 rfl 0 (by decide) fl_RX9_10 rfl dX9_tryDay_89 ?_
  refine g_iload (pc := 92) (q := 4) hC dX9_tryDay_92 rfl ?_
  refine g_iload (pc := 94) (q := 0) hC dX9_tryDay_94 rfl ?_
  refine g_callVi (pc := 96) (As := [.int x13, .int v16]) (rest := []) hC lk_RX9_320 kX8 rfl (tX8_gain _ _ σ x13 v16) rfl rfl (Nat.le_of_ble_eq_true rfl) ⟨rfl, rfl, by simp only [rrX9_tryDay] <;> omega, by simp only [rrX9_tryDay] <;> omega⟩ dX9_tryDay_96 (fun r17 s18 => ?_)
  refine g_aload_n (pc := 99) (q := 1) hC dX9_tryDay_99 rfl rfl ?_
  refine g_get (pc := 100) (v := .ref (G.2.1 1)) hC kX9 rfl 0 (by decide) fl_RX9_10 rfl dX9_tryDay_100 ?_
  refine g_iload (pc := 103) (q := 4) hC dX9_tryDay_103 rfl ?_
  refine g_iload (pc := 105) (q := 0) hC dX9_tryDay_105 rfl ?_
  refine g_callVi (pc := 107) (As := [.int x13, .int v16]) (rest := [.int r17]) hC lk_RX9_323 kX8 rfl (tX8_harmOfAll _ _ s18 x13 v16) rfl rfl (Nat.le_of_ble_eq_true rfl) ⟨rfl, rfl, by simp only [rrX9_tryDay] <;> omega, by simp only [rrX9_tryDay] <;> omega⟩ dX9_tryDay_107 (fun r19 s20 => ?_)
  refine g_isub (pc := 110) hC dX9_tryDay_110 ?_
  refine g_istore (pc := 111) (lv' := fun v21 => [(8, .int v21), (7, .int v16), (0, .ref (G.2.1 0)), (1, .int x11), (3, .int x12), (4, .int x13), (5, .int x14), (6, .int x15)]) hC dX9_tryDay_111 (by decide) (fun _ => rfl) (fun v21 => ?_)
  refine g_aload_n (pc := 113) (q := 2) hC dX9_tryDay_113 rfl rfl ?_
  refine g_get (pc := 114) (v := .ref (G.2.1 14)) hC kX9 rfl 4 (by decide) fl_RX9_36 rfl dX9_tryDay_114 ?_
  refine g_get (pc := 117) (v := .ref (G.2.1 15)) hC kX4 rfl 2 (by decide) fl_RX9_454 rfl dX9_tryDay_117 ?_
  refine g_iload_n (pc := 120) (q := 3) hC dX9_tryDay_120 rfl rfl ?_
  refine g_iload (pc := 121) (q := 7) hC dX9_tryDay_121 rfl ?_
  refine g_iast (pc := 123) hC 4 rfl (by decide) dX9_tryDay_123 (fun s22 => ?_)
  refine g_aload_n (pc := 124) (q := 2) hC dX9_tryDay_124 rfl rfl ?_
  refine g_iload_n (pc := 125) (q := 3) hC dX9_tryDay_125 rfl rfl ?_
  refine g_iconst (pc := 126) (v := 1) hC dX9_tryDay_126 (by decide) ?_
  refine g_iadd (pc := 127) hC dX9_tryDay_127 ?_
  refine g_aload_n (pc := 128) (q := 2) hC dX9_tryDay_128 rfl rfl ?_
  refine g_get (pc := 129) (v := va_rf ((s22.2.2 0 7).map G.2.1)) hC kX9 rfl 7 (by decide) fl_RX9_51 rfl dX9_tryDay_129 ?_
  refine gT_opt ?_ (fun k23 => ?_)
  · exact gT_none
  · refine gT_if (fun hk23 => ?_) (fun _ => gT_none)
    refine g_aload_n (pc := 132) (q := 2) hC dX9_tryDay_132 rfl rfl ?_
    refine g_get (pc := 133) (v := .ref (G.2.1 8)) hC kX9 rfl 1 (by decide) fl_RX9_19 rfl dX9_tryDay_133 ?_
    refine g_iload (pc := 136) (q := 5) hC dX9_tryDay_136 rfl ?_
    refine g_iload (pc := 138) (q := 6) hC dX9_tryDay_138 rfl ?_
    refine g_iload (pc := 140) (q := 1) hC dX9_tryDay_140 rfl ?_
    refine g_isub (pc := 142) hC dX9_tryDay_142 ?_
    refine g_iload (pc := 143) (q := 1) hC dX9_tryDay_143 rfl ?_
    refine g_callVi (pc := 145) (As := [.ref (G.2.1 8), .int x13, .int (x14 - v16), .int v16]) (rest := [.int (x11 + 1), .ref (G.2.1 0)]) hC lk_RX9_326 kX3 hk23 (tX3_overnight _ _ s22 k23 8 x13 (x14 - v16) v16) rfl rfl (Nat.le_of_ble_eq_true rfl) ⟨rfl, rfl, by simp only [rrX9_tryDay] <;> omega, by simp only [rrX9_tryDay] <;> omega⟩ dX9_tryDay_145 (fun r24 s25 => ?_)
    refine g_iload_n (pc := 148) (q := 4) hC dX9_tryDay_148 rfl rfl ?_
    refine g_iload (pc := 149) (q := 0) hC dX9_tryDay_149 rfl ?_
    refine g_iadd (pc := 151) hC dX9_tryDay_151 ?_
    refine g_callVv (pc := 152) (As := [.int (x11 + 1), .int r24, .int (x12 + v21)]) (rest := []) hC lk_RX9_196 kX9 rfl (hrec s25 (x11 + 1) r24 (x12 + v21)) rfl rfl (Nat.le_of_ble_eq_true rfl) ⟨rfl, rfl, by simp only [rrX9_tryDay, rrX9_tryDay] <;> omega, by simp only [rrX9_tryDay, rrX9_tryDay] <;> omega⟩ dX9_tryDay_152 (fun r26 s27 => ?_)
    exact gT_sub [2, 3, 4, 5, 6, 7] rfl (wX9_tryDay_b155 hC hrec hk46 s27 x11 x12 x13 x14 x15)
def mX9_tryDay_b46 (rec : (gS → Int32 → Int32 → Int32 → Option (Unit × gS)))   : Nat → gS → Int32 → Int32 → Int32 → Int32 → Int32 → Option (Unit × gS)
  | 0, _, _, _, _, _, _ => none
  | n + 1, σ, x6, x7, x8, x9, x10 => if 24 < x10 then (some ((), σ)) else (if x10 = 0 then ((mX9_tryDay_b79 rec (mX9_tryDay_b46 rec n) σ x6 x7 x8 x9 x10)) else (if 29 < x8 then ((mX9_tryDay_b155 rec (mX9_tryDay_b46 rec n) σ x6 x7 x8 x9 x10)) else (gBind (mX8_wantsExactly σ x8 x10) (fun r34 s35 => if r34 = true then ((mX9_tryDay_b79 rec (mX9_tryDay_b46 rec n) s35 x6 x7 x8 x9 x10)) else ((mX9_tryDay_b155 rec (mX9_tryDay_b46 rec n) s35 x6 x7 x8 x9 x10))))))
set_option maxHeartbeats 4000000 in
set_option maxRecDepth 100000 in
theorem wX9_tryDay_b46 {p : Program} {l : Launch} {e : Env} {s : State} {m : MethodId} {args : Array Value} {below : List Frame} {meth : Method} {c : Code} {G : gE} {d : Nat} (hC : gCx p s m args meth c G RX9 cX9_tryDay 9 (none)) {rec : (gS → Int32 → Int32 → Int32 → Option (Unit × gS))} (hrec : (∀ (σ : gS) (p0 : Int32) (p1 : Int32) (p2 : Int32), gM l G yX9_tryDay cX9_tryDay 9 (none) (rrX9_tryDay d) iV [.ref (G.2.1 0), .int p0, .int p1, .int p2] σ (rec σ p0 p1 p2)))    (n : Nat) (σ : gS) (x6 : Int32) (x7 : Int32) (x8 : Int32) (x9 : Int32) (x10 : Int32)  : gT p l e (rrX9_tryDay (d + 1)) s m args below meth c G 9 iV σ 46 [(0, .ref (G.2.1 0)), (1, .int x6), (3, .int x7), (4, .int x8), (5, .int x9), (6, .int x10)] [] (mX9_tryDay_b46 rec n σ x6 x7 x8 x9 x10) := by
  induction n generalizing σ x6 x7 x8 x9 x10 with
  | zero => exact gT_none
  | succ n ih =>
    unfold mX9_tryDay_b46
    refine g_iload (pc := 46) (q := 5) hC dX9_tryDay_46 rfl ?_
    refine g_bipush (pc := 48) (v := 24) hC dX9_tryDay_48 (by decide) ?_
    refine g_icmp_gt (pc := 50) (tgt := 161) hC dX9_tryDay_50 (by decide) ?_ ?_
    · exact g_vret (pc := 161) hC dX9_tryDay_161
    · refine g_iload (pc := 53) (q := 5) hC dX9_tryDay_53 rfl ?_
      refine g_if_eq (pc := 55) (tgt := 79) hC dX9_tryDay_55 (by decide) ?_ ?_
      · exact gT_sub [0, 1, 2, 3, 4, 5] rfl (wX9_tryDay_b79 hC hrec ih σ x6 x7 x8 x9 x10)
      · refine g_iload (pc := 58) (q := 3) hC dX9_tryDay_58 rfl ?_
        refine g_bipush (pc := 60) (v := 29) hC dX9_tryDay_60 (by decide) ?_
        refine g_icmp_gt (pc := 62) (tgt := 155) hC dX9_tryDay_62 (by decide) ?_ ?_
        · exact gT_sub [0, 1, 2, 3, 4, 5] rfl (wX9_tryDay_b155 hC hrec ih σ x6 x7 x8 x9 x10)
        · refine g_aload_n (pc := 65) (q := 0) hC dX9_tryDay_65 rfl rfl ?_
          refine g_get (pc := 66) (v := .ref (G.2.1 1)) hC kX9 rfl 0 (by decide) fl_RX9_10 rfl dX9_tryDay_66 ?_
          refine g_iload (pc := 69) (q := 3) hC dX9_tryDay_69 rfl ?_
          refine g_iload (pc := 71) (q := 5) hC dX9_tryDay_71 rfl ?_
          refine g_callVz (pc := 73) (As := [.int x8, .int x10]) (rest := []) hC lk_RX9_451 kX8 rfl (tX8_wantsExactly _ _ σ x8 x10) rfl rfl (Nat.le_of_ble_eq_true rfl) ⟨rfl, rfl, by simp only [rrX9_tryDay] <;> omega, by simp only [rrX9_tryDay] <;> omega⟩ dX9_tryDay_73 (fun r34 s35 => ?_)
          refine g_bif_eq (pc := 76) (tgt := 155) hC dX9_tryDay_76 (by decide) ?_ ?_
          · exact gT_sub [0, 1, 2, 3, 4, 5] rfl (wX9_tryDay_b155 hC hrec ih s35 x6 x7 x8 x9 x10)
          · exact gT_sub [0, 1, 2, 3, 4, 5] rfl (wX9_tryDay_b79 hC hrec ih s35 x6 x7 x8 x9 x10)
def mrX9_tryDay (rec : (gS → Int32 → Int32 → Int32 → Option (Unit × gS))) (σ : gS) (p0 : Int32) (p1 : Int32) (p2 : Int32) : Option (Unit × gS) := if p0 < (σ.1 14 0) then (gLet ((σ.1 8 4) + p0) (fun v1 => gBind (mX5_atDawn σ 8 v1 p1) (fun r2 s3 => gLet r2 (fun v4 => gLet 0 (fun v5 => (mX9_tryDay_b46 rec 1100 s3 p0 p2 v1 v4 v5)))))) else (gBind (mX4_offer σ p2) (fun r36 s37 => some ((), s37)))
set_option maxHeartbeats 4000000 in
set_option maxRecDepth 100000 in
theorem trX9_tryDay {l : Launch} {G : gE} {d : Nat} {rec : (gS → Int32 → Int32 → Int32 → Option (Unit × gS))} (hrec : (∀ (σ : gS) (p0 : Int32) (p1 : Int32) (p2 : Int32), gM l G yX9_tryDay cX9_tryDay 9 (none) (rrX9_tryDay d) iV [.ref (G.2.1 0), .int p0, .int p1, .int p2] σ (rec σ p0 p1 p2))) : ∀ (σ : gS) (p0 : Int32) (p1 : Int32) (p2 : Int32), gM l G yX9_tryDay cX9_tryDay 9 (none) (rrX9_tryDay (d + 1)) iV [.ref (G.2.1 0), .int p0, .int p1, .int p2] σ (mrX9_tryDay rec σ p0 p1 p2) := by
  intro σ p0 p1 p2
  refine gM_of (by decide) (Nat.le_of_ble_eq_true rfl) ?_
  intro p e s m args below meth c hC
  unfold mrX9_tryDay
  show gT p l e (rrX9_tryDay (d + 1)) s m args below meth c G 9 iV σ 0 [(0, .ref (G.2.1 0)), (1, .int p0), (2, .int p1), (3, .int p2)] [] _
  refine g_iload_n (pc := 0) (q := 1) hC dX9_tryDay_0 rfl rfl ?_
  refine g_aload_n (pc := 1) (q := 0) hC dX9_tryDay_1 rfl rfl ?_
  refine g_get (pc := 2) (v := .ref (G.2.1 14)) hC kX9 rfl 4 (by decide) fl_RX9_36 rfl dX9_tryDay_2 ?_
  refine g_get (pc := 5) (v := .int (σ.1 14 0)) hC kX4 rfl 0 (by decide) fl_RX9_447 rfl dX9_tryDay_5 ?_
  refine g_icmp_lt (pc := 8) (tgt := 20) hC dX9_tryDay_8 (by decide) ?_ ?_
  · refine g_aload_n (pc := 20) (q := 0) hC dX9_tryDay_20 rfl rfl ?_
    refine g_get (pc := 21) (v := .ref (G.2.1 8)) hC kX9 rfl 1 (by decide) fl_RX9_19 rfl dX9_tryDay_21 ?_
    refine g_get (pc := 24) (v := .int (σ.1 8 4)) hC kX5 rfl 4 (by decide) fl_RX9_153 rfl dX9_tryDay_24 ?_
    refine g_iload_n (pc := 27) (q := 1) hC dX9_tryDay_27 rfl rfl ?_
    refine g_iadd (pc := 28) hC dX9_tryDay_28 ?_
    refine g_istore (pc := 29) (lv' := fun v1 => [(4, .int v1), (0, .ref (G.2.1 0)), (1, .int p0), (2, .int p1), (3, .int p2)]) hC dX9_tryDay_29 (by decide) (fun _ => rfl) (fun v1 => ?_)
    refine g_aload_n (pc := 31) (q := 1) hC dX9_tryDay_31 rfl rfl ?_
    refine g_get (pc := 32) (v := .ref (G.2.1 8)) hC kX9 rfl 1 (by decide) fl_RX9_19 rfl dX9_tryDay_32 ?_
    refine g_iload (pc := 35) (q := 0) hC dX9_tryDay_35 rfl ?_
    refine g_iload_n (pc := 37) (q := 3) hC dX9_tryDay_37 rfl rfl ?_
    refine g_callVi (pc := 38) (As := [.int v1, .int p1]) (rest := []) hC lk_RX9_275 kX5 rfl (tX5_atDawn _ _ σ 8 v1 p1) rfl rfl (Nat.le_of_ble_eq_true rfl) ⟨rfl, rfl, by simp only [rrX9_tryDay] <;> omega, by simp only [rrX9_tryDay] <;> omega⟩ dX9_tryDay_38 (fun r2 s3 => ?_)
    refine g_istore (pc := 41) (lv' := fun v4 => [(5, .int v4), (4, .int v1), (0, .ref (G.2.1 0)), (1, .int p0), (2, .int p1), (3, .int p2)]) hC dX9_tryDay_41 (by decide) (fun _ => rfl) (fun v4 => ?_)
    refine g_iconst (pc := 43) (v := 0) hC dX9_tryDay_43 (by decide) ?_
    refine g_istore (pc := 44) (lv' := fun v5 => [(6, .int v5), (5, .int v4), (4, .int v1), (0, .ref (G.2.1 0)), (1, .int p0), (2, .int p1), (3, .int p2)]) hC dX9_tryDay_44 (by decide) (fun _ => rfl) (fun v5 => ?_)
    exact gT_sub [3, 4, 6, 2, 1, 0] rfl (wX9_tryDay_b46 hC hrec 1100 s3 p0 p2 v1 v4 v5)
  · refine g_aload_n (pc := 11) (q := 0) hC dX9_tryDay_11 rfl rfl ?_
    refine g_get (pc := 12) (v := .ref (G.2.1 14)) hC kX9 rfl 4 (by decide) fl_RX9_36 rfl dX9_tryDay_12 ?_
    refine g_iload_n (pc := 15) (q := 3) hC dX9_tryDay_15 rfl rfl ?_
    refine g_callVv (pc := 16) (As := [.int p2]) (rest := []) hC lk_RX9_448 kX4 rfl (tX4_offer _ _ σ p2) rfl rfl (Nat.le_of_ble_eq_true rfl) ⟨rfl, rfl, by simp only [rrX9_tryDay] <;> omega, by simp only [rrX9_tryDay] <;> omega⟩ dX9_tryDay_16 (fun r36 s37 => ?_)
    exact g_vret (pc := 19) hC dX9_tryDay_19
def mgtryDay : Nat → (gS → Int32 → Int32 → Int32 → Option (Unit × gS))
  | 0 => (fun _ _ _ _ => none)
  | d + 1 => (mrX9_tryDay (mgtryDay d))
theorem tgtryDay (l : Launch) (G : gE) : ∀ d : Nat, (∀ (σ : gS) (p0 : Int32) (p1 : Int32) (p2 : Int32), gM l G yX9_tryDay cX9_tryDay 9 (none) (rrX9_tryDay d) iV [.ref (G.2.1 0), .int p0, .int p1, .int p2] σ ((mgtryDay d) σ p0 p1 p2)) := by
  intro d
  induction d with
  | zero => exact (fun _ _ _ _ _ _ h => (by cases h))
  | succ d ih => exact trX9_tryDay ih
abbrev rX9_tryDay : Room := rrX9_tryDay 8
def mX9_tryDay (σ : gS) (p0 : Int32) (p1 : Int32) (p2 : Int32) : Option (Unit × gS) := (mgtryDay 8) σ p0 p1 p2
theorem tX9_tryDay (l : Launch) (G : gE) (σ : gS) (p0 : Int32) (p1 : Int32) (p2 : Int32) : gM l G yX9_tryDay cX9_tryDay 9 (none) rX9_tryDay iV [.ref (G.2.1 0), .int p0, .int p1, .int p2] σ (mX9_tryDay σ p0 p1 p2) := (tgtryDay l G 8) σ p0 p1 p2
theorem fl_RX9_202 : Cond.fieldLink RX9 202 "WinterShed$Search" "chosen" "[I" ∈ gBig := (gBig_tab 150 (by decide +kernel) (by decide +kernel))
theorem fl_RX9_199 : Cond.fieldLink RX9 199 "WinterShed$Search" "most" "I" ∈ gBig := (gBig_tab 146 (by decide +kernel) (by decide +kernel))
theorem lk_RX9_189 : gLV RX9 189 RX4 yX4_begin cX4_begin 2 (none) 1 := ⟨(gBig_tab 722 (by decide +kernel) (by decide +kernel)), (gBig_tab 723 (by decide +kernel) (by decide +kernel)), (gBig_tab 724 (by decide +kernel) (by decide +kernel)), (gBig_tab 5 (by decide +kernel) (by decide +kernel)), (gBig_tab 725 (by decide +kernel) (by decide +kernel)), rfl, by decide +kernel, by decide +kernel, by decide +kernel⟩
theorem dX9_best_0 : decode cX9_best 0 = .ok (.iload_n 1, 1) := by decide +kernel
theorem dX9_best_1 : decode cX9_best 1 = .ok (.iconst 1, 1) := by decide +kernel
theorem dX9_best_2 : decode cX9_best 2 = .ok (.iconst 4, 1) := by decide +kernel
theorem dX9_best_3 : decode cX9_best 3 = .ok (.invokestatic 102, 3) := by decide +kernel
theorem dX9_best_6 : decode cX9_best 6 = .ok (.ifCond .eq 14, 3) := by decide +kernel
theorem dX9_best_9 : decode cX9_best 9 = .ok (.iload_n 2, 1) := by decide +kernel
theorem dX9_best_10 : decode cX9_best 10 = .ok (.iconst (-1), 1) := by decide +kernel
theorem dX9_best_11 : decode cX9_best 11 = .ok (.iload_n 1, 1) := by decide +kernel
theorem dX9_best_12 : decode cX9_best 12 = .ok (.iconst 1, 1) := by decide +kernel
theorem dX9_best_13 : decode cX9_best 13 = .ok (.isub, 1) := by decide +kernel
theorem dX9_best_14 : decode cX9_best 14 = .ok (.invokestatic 102, 3) := by decide +kernel
theorem dX9_best_17 : decode cX9_best 17 = .ok (.ifCond .ne 6, 3) := by decide +kernel
theorem dX9_best_20 : decode cX9_best 20 = .ok (.ldc 188, 2) := by decide +kernel
theorem dX9_best_22 : decode cX9_best 22 = .ok (.ireturn, 1) := by decide +kernel
theorem dX9_best_23 : decode cX9_best 23 = .ok (.aload_n 0, 1) := by decide +kernel
theorem dX9_best_24 : decode cX9_best 24 = .ok (.getfield 36, 3) := by decide +kernel
theorem dX9_best_27 : decode cX9_best 27 = .ok (.iload_n 1, 1) := by decide +kernel
theorem dX9_best_28 : decode cX9_best 28 = .ok (.invokevirtual 189, 3) := by decide +kernel
theorem dX9_best_31 : decode cX9_best 31 = .ok (.aload_n 0, 1) := by decide +kernel
theorem dX9_best_32 : decode cX9_best 32 = .ok (.iconst 0, 1) := by decide +kernel
theorem dX9_best_33 : decode cX9_best 33 = .ok (.aload_n 0, 1) := by decide +kernel
theorem dX9_best_34 : decode cX9_best 34 = .ok (.getfield 19, 3) := by decide +kernel
theorem dX9_best_37 : decode cX9_best 37 = .ok (.getfield 193, 3) := by decide +kernel
theorem dX9_best_40 : decode cX9_best 40 = .ok (.iconst 0, 1) := by decide +kernel
theorem dX9_best_41 : decode cX9_best 41 = .ok (.invokevirtual 196, 3) := by decide +kernel
theorem dX9_best_44 : decode cX9_best 44 = .ok (.iload_n 2, 1) := by decide +kernel
theorem dX9_best_45 : decode cX9_best 45 = .ok (.iconst (-1), 1) := by decide +kernel
theorem dX9_best_46 : decode cX9_best 46 = .ok (.if_icmp .ne 13, 3) := by decide +kernel
theorem dX9_best_49 : decode cX9_best 49 = .ok (.aload_n 0, 1) := by decide +kernel
theorem dX9_best_50 : decode cX9_best 50 = .ok (.getfield 36, 3) := by decide +kernel
theorem dX9_best_53 : decode cX9_best 53 = .ok (.getfield 199, 3) := by decide +kernel
theorem dX9_best_56 : decode cX9_best 56 = .ok (.goto 12, 3) := by decide +kernel
theorem dX9_best_59 : decode cX9_best 59 = .ok (.aload_n 0, 1) := by decide +kernel
theorem dX9_best_60 : decode cX9_best 60 = .ok (.getfield 36, 3) := by decide +kernel
theorem dX9_best_63 : decode cX9_best 63 = .ok (.getfield 202, 3) := by decide +kernel
theorem dX9_best_66 : decode cX9_best 66 = .ok (.iload_n 2, 1) := by decide +kernel
theorem dX9_best_67 : decode cX9_best 67 = .ok (.iaload, 1) := by decide +kernel
theorem dX9_best_68 : decode cX9_best 68 = .ok (.ireturn, 1) := by decide +kernel
abbrev rX9_best : Room := { frames := 13, cells := 0, slots := 0, locals := 348 }
def mX9_best (σ : gS) (p0 : Int32) (p1 : Int32) : Option (Int32 × gS) := gBind (mX9_within σ p0 1 4) (fun r1 s2 => if r1 = true then (gBind (mX9_within s2 p1 (-1) (p0 - 1)) (fun r3 s4 => if r3 = true then (gBind (mX4_begin s4 p0) (fun r5 s6 => gBind (mX9_tryDay s6 0 (s6.1 8 0) 0) (fun r7 s8 => if p1 = (-1) then (some ((s8.1 14 1), s8)) else (if inbB p1 4 = true then (some ((s8.1 16 (Int32.toNatClampNeg p1)), s8)) else none)))) else (some ((-2000000000), s4)))) else (some ((-2000000000), s2)))
set_option maxHeartbeats 4000000 in
set_option maxRecDepth 100000 in
theorem tX9_best (l : Launch) (G : gE) (σ : gS) (p0 : Int32) (p1 : Int32) : gM l G yX9_best cX9_best 3 (some .int) rX9_best iI [.ref (G.2.1 0), .int p0, .int p1] σ (mX9_best σ p0 p1) := by
  refine gM_of (by decide) (Nat.le_of_ble_eq_true rfl) ?_
  intro p e s m args below meth c hC
  unfold mX9_best
  show gT p l e rX9_best s m args below meth c G 3 iI σ 0 [(0, .ref (G.2.1 0)), (1, .int p0), (2, .int p1)] [] _
  refine g_iload_n (pc := 0) (q := 1) hC dX9_best_0 rfl rfl ?_
  refine g_iconst (pc := 1) (v := 1) hC dX9_best_1 (by decide) ?_
  refine g_iconst (pc := 2) (v := 4) hC dX9_best_2 (by decide) ?_
  refine g_callSz (pc := 3) (As := [.int p0, .int 1, .int 4]) (rest := []) hC lk_RX9_102 (tX9_within _ _ σ p0 1 4) rfl rfl (Nat.le_of_ble_eq_true rfl) ⟨rfl, rfl, Nat.le_of_ble_eq_true rfl, Nat.le_of_ble_eq_true rfl⟩ dX9_best_3 (fun r1 s2 => ?_)
  refine g_bif_eq (pc := 6) (tgt := 20) hC dX9_best_6 (by decide) ?_ ?_
  · refine g_ldc (pc := 20) hC dX9_best_20 cst_RX9_188 ?_
    exact g_iret (pc := 22) hC dX9_best_22
  · refine g_iload_n (pc := 9) (q := 2) hC dX9_best_9 rfl rfl ?_
    refine g_iconst (pc := 10) (v := (-1)) hC dX9_best_10 (by decide) ?_
    refine g_iload_n (pc := 11) (q := 1) hC dX9_best_11 rfl rfl ?_
    refine g_iconst (pc := 12) (v := 1) hC dX9_best_12 (by decide) ?_
    refine g_isub (pc := 13) hC dX9_best_13 ?_
    refine g_callSz (pc := 14) (As := [.int p1, .int (-1), .int (p0 - 1)]) (rest := []) hC lk_RX9_102 (tX9_within _ _ s2 p1 (-1) (p0 - 1)) rfl rfl (Nat.le_of_ble_eq_true rfl) ⟨rfl, rfl, Nat.le_of_ble_eq_true rfl, Nat.le_of_ble_eq_true rfl⟩ dX9_best_14 (fun r3 s4 => ?_)
    refine g_bif_ne (pc := 17) (tgt := 23) hC dX9_best_17 (by decide) ?_ ?_
    · refine g_aload_n (pc := 23) (q := 0) hC dX9_best_23 rfl rfl ?_
      refine g_get (pc := 24) (v := .ref (G.2.1 14)) hC kX9 rfl 4 (by decide) fl_RX9_36 rfl dX9_best_24 ?_
      refine g_iload_n (pc := 27) (q := 1) hC dX9_best_27 rfl rfl ?_
      refine g_callVv (pc := 28) (As := [.int p0]) (rest := []) hC lk_RX9_189 kX4 rfl (tX4_begin _ _ s4 p0) rfl rfl (Nat.le_of_ble_eq_true rfl) ⟨rfl, rfl, Nat.le_of_ble_eq_true rfl, Nat.le_of_ble_eq_true rfl⟩ dX9_best_28 (fun r5 s6 => ?_)
      refine g_aload_n (pc := 31) (q := 0) hC dX9_best_31 rfl rfl ?_
      refine g_iconst (pc := 32) (v := 0) hC dX9_best_32 (by decide) ?_
      refine g_aload_n (pc := 33) (q := 0) hC dX9_best_33 rfl rfl ?_
      refine g_get (pc := 34) (v := .ref (G.2.1 8)) hC kX9 rfl 1 (by decide) fl_RX9_19 rfl dX9_best_34 ?_
      refine g_get (pc := 37) (v := .int (s6.1 8 0)) hC kX5 rfl 0 (by decide) fl_RX9_193 rfl dX9_best_37 ?_
      refine g_iconst (pc := 40) (v := 0) hC dX9_best_40 (by decide) ?_
      refine g_callVv (pc := 41) (As := [.int 0, .int (s6.1 8 0), .int 0]) (rest := []) hC lk_RX9_196 kX9 rfl (tX9_tryDay _ _ s6 0 (s6.1 8 0) 0) rfl rfl (Nat.le_of_ble_eq_true rfl) ⟨rfl, rfl, Nat.le_of_ble_eq_true rfl, Nat.le_of_ble_eq_true rfl⟩ dX9_best_41 (fun r7 s8 => ?_)
      refine g_iload_n (pc := 44) (q := 2) hC dX9_best_44 rfl rfl ?_
      refine g_iconst (pc := 45) (v := (-1)) hC dX9_best_45 (by decide) ?_
      refine g_icmp_ne (pc := 46) (tgt := 59) hC dX9_best_46 (by decide) ?_ ?_
      · refine g_aload_n (pc := 59) (q := 0) hC dX9_best_59 rfl rfl ?_
        refine g_get (pc := 60) (v := .ref (G.2.1 14)) hC kX9 rfl 4 (by decide) fl_RX9_36 rfl dX9_best_60 ?_
        refine g_get (pc := 63) (v := .ref (G.2.1 16)) hC kX4 rfl 3 (by decide) fl_RX9_202 rfl dX9_best_63 ?_
        refine g_iload_n (pc := 66) (q := 2) hC dX9_best_66 rfl rfl ?_
        refine g_iald (pc := 67) hC 4 rfl (by decide) dX9_best_67 ?_
        exact g_iret (pc := 68) hC dX9_best_68
      · refine g_aload_n (pc := 49) (q := 0) hC dX9_best_49 rfl rfl ?_
        refine g_get (pc := 50) (v := .ref (G.2.1 14)) hC kX9 rfl 4 (by decide) fl_RX9_36 rfl dX9_best_50 ?_
        refine g_get (pc := 53) (v := .int (s8.1 14 1)) hC kX4 rfl 1 (by decide) fl_RX9_199 rfl dX9_best_53 ?_
        refine g_goto (pc := 56) (tgt := 68) hC dX9_best_56 (by decide) ?_
        exact g_iret (pc := 68) hC dX9_best_68
    · refine g_ldc (pc := 20) hC dX9_best_20 cst_RX9_188 ?_
      exact g_iret (pc := 22) hC dX9_best_22
theorem fl_RX9_469 : Cond.fieldLink RX9 469 "WinterShed$Search" "first" "I" ∈ gBig := (gBig_tab 153 (by decide +kernel) (by decide +kernel))
theorem fl_RX9_475 : Cond.fieldLink RX9 475 "WinterShed$Search" "second" "I" ∈ gBig := (gBig_tab 155 (by decide +kernel) (by decide +kernel))
theorem fl_RX9_478 : Cond.fieldLink RX9 478 "WinterShed$Search" "turns" "I" ∈ gBig := (gBig_tab 159 (by decide +kernel) (by decide +kernel))
theorem fl_RX9_481 : Cond.fieldLink RX9 481 "WinterShed$Search" "hours" "I" ∈ gBig := (gBig_tab 157 (by decide +kernel) (by decide +kernel))
theorem lk_RX9_278 : gLV RX9 278 RX9 yX9_afterTurn cX9_afterTurn 13 (some .int) 3 := ⟨(gBig_tab 875 (by decide +kernel) (by decide +kernel)), (gBig_tab 877 (by decide +kernel) (by decide +kernel)), (gBig_sel 36 (by decide +kernel) (by decide +kernel)), (gBig_tab 1 (by decide +kernel) (by decide +kernel)), (gBig_tab 878 (by decide +kernel) (by decide +kernel)), rfl, by decide +kernel, by decide +kernel, by decide +kernel⟩
theorem lk_RX9_472 : gLV RX9 472 RX8 yX8_share cX8_share 6 (some .int) 3 := ⟨(gBig_tab 879 (by decide +kernel) (by decide +kernel)), (gBig_tab 777 (by decide +kernel) (by decide +kernel)), (gBig_tab 778 (by decide +kernel) (by decide +kernel)), (gBig_tab 2 (by decide +kernel) (by decide +kernel)), (gBig_tab 779 (by decide +kernel) (by decide +kernel)), rfl, by decide +kernel, by decide +kernel, by decide +kernel⟩
theorem dX9_afterTurn_0 : decode cX9_afterTurn 0 = .ok (.aload_n 0, 1) := by decide +kernel
theorem dX9_afterTurn_1 : decode cX9_afterTurn 1 = .ok (.getfield 19, 3) := by decide +kernel
theorem dX9_afterTurn_4 : decode cX9_afterTurn 4 = .ok (.getfield 153, 3) := by decide +kernel
theorem dX9_afterTurn_7 : decode cX9_afterTurn 7 = .ok (.iload_n 1, 1) := by decide +kernel
theorem dX9_afterTurn_8 : decode cX9_afterTurn 8 = .ok (.iadd, 1) := by decide +kernel
theorem dX9_afterTurn_9 : decode cX9_afterTurn 9 = .ok (.istore 4, 2) := by decide +kernel
theorem dX9_afterTurn_11 : decode cX9_afterTurn 11 = .ok (.iload_n 3, 1) := by decide +kernel
theorem dX9_afterTurn_12 : decode cX9_afterTurn 12 = .ok (.iload_n 2, 1) := by decide +kernel
theorem dX9_afterTurn_13 : decode cX9_afterTurn 13 = .ok (.invokestatic 294, 3) := by decide +kernel
theorem dX9_afterTurn_16 : decode cX9_afterTurn 16 = .ok (.istore 5, 2) := by decide +kernel
theorem dX9_afterTurn_18 : decode cX9_afterTurn 18 = .ok (.aload_n 0, 1) := by decide +kernel
theorem dX9_afterTurn_19 : decode cX9_afterTurn 19 = .ok (.getfield 10, 3) := by decide +kernel
theorem dX9_afterTurn_22 : decode cX9_afterTurn 22 = .ok (.aload_n 0, 1) := by decide +kernel
theorem dX9_afterTurn_23 : decode cX9_afterTurn 23 = .ok (.getfield 36, 3) := by decide +kernel
theorem dX9_afterTurn_26 : decode cX9_afterTurn 26 = .ok (.getfield 469, 3) := by decide +kernel
theorem dX9_afterTurn_29 : decode cX9_afterTurn 29 = .ok (.iload 4, 2) := by decide +kernel
theorem dX9_afterTurn_31 : decode cX9_afterTurn 31 = .ok (.iload 5, 2) := by decide +kernel
theorem dX9_afterTurn_33 : decode cX9_afterTurn 33 = .ok (.invokevirtual 472, 3) := by decide +kernel
theorem dX9_afterTurn_36 : decode cX9_afterTurn 36 = .ok (.aload_n 0, 1) := by decide +kernel
theorem dX9_afterTurn_37 : decode cX9_afterTurn 37 = .ok (.getfield 10, 3) := by decide +kernel
theorem dX9_afterTurn_40 : decode cX9_afterTurn 40 = .ok (.aload_n 0, 1) := by decide +kernel
theorem dX9_afterTurn_41 : decode cX9_afterTurn 41 = .ok (.getfield 36, 3) := by decide +kernel
theorem dX9_afterTurn_44 : decode cX9_afterTurn 44 = .ok (.getfield 475, 3) := by decide +kernel
theorem dX9_afterTurn_47 : decode cX9_afterTurn 47 = .ok (.iload 4, 2) := by decide +kernel
theorem dX9_afterTurn_49 : decode cX9_afterTurn 49 = .ok (.iload 5, 2) := by decide +kernel
theorem dX9_afterTurn_51 : decode cX9_afterTurn 51 = .ok (.invokevirtual 472, 3) := by decide +kernel
theorem dX9_afterTurn_54 : decode cX9_afterTurn 54 = .ok (.isub, 1) := by decide +kernel
theorem dX9_afterTurn_55 : decode cX9_afterTurn 55 = .ok (.istore 6, 2) := by decide +kernel
theorem dX9_afterTurn_57 : decode cX9_afterTurn 57 = .ok (.iload_n 1, 1) := by decide +kernel
theorem dX9_afterTurn_58 : decode cX9_afterTurn 58 = .ok (.iconst 1, 1) := by decide +kernel
theorem dX9_afterTurn_59 : decode cX9_afterTurn 59 = .ok (.iadd, 1) := by decide +kernel
theorem dX9_afterTurn_60 : decode cX9_afterTurn 60 = .ok (.istore 7, 2) := by decide +kernel
theorem dX9_afterTurn_62 : decode cX9_afterTurn 62 = .ok (.iload 4, 2) := by decide +kernel
theorem dX9_afterTurn_64 : decode cX9_afterTurn 64 = .ok (.iconst 1, 1) := by decide +kernel
theorem dX9_afterTurn_65 : decode cX9_afterTurn 65 = .ok (.iadd, 1) := by decide +kernel
theorem dX9_afterTurn_66 : decode cX9_afterTurn 66 = .ok (.istore 8, 2) := by decide +kernel
theorem dX9_afterTurn_68 : decode cX9_afterTurn 68 = .ok (.iload 7, 2) := by decide +kernel
theorem dX9_afterTurn_70 : decode cX9_afterTurn 70 = .ok (.aload_n 0, 1) := by decide +kernel
theorem dX9_afterTurn_71 : decode cX9_afterTurn 71 = .ok (.getfield 36, 3) := by decide +kernel
theorem dX9_afterTurn_74 : decode cX9_afterTurn 74 = .ok (.getfield 478, 3) := by decide +kernel
theorem dX9_afterTurn_77 : decode cX9_afterTurn 77 = .ok (.if_icmp .ge 10, 3) := by decide +kernel
theorem dX9_afterTurn_80 : decode cX9_afterTurn 80 = .ok (.iload 8, 2) := by decide +kernel
theorem dX9_afterTurn_82 : decode cX9_afterTurn 82 = .ok (.bipush 29, 2) := by decide +kernel
theorem dX9_afterTurn_84 : decode cX9_afterTurn 84 = .ok (.if_icmp .le 6, 3) := by decide +kernel
theorem dX9_afterTurn_87 : decode cX9_afterTurn 87 = .ok (.iload 6, 2) := by decide +kernel
theorem dX9_afterTurn_89 : decode cX9_afterTurn 89 = .ok (.ireturn, 1) := by decide +kernel
theorem dX9_afterTurn_90 : decode cX9_afterTurn 90 = .ok (.aload_n 0, 1) := by decide +kernel
theorem dX9_afterTurn_91 : decode cX9_afterTurn 91 = .ok (.getfield 19, 3) := by decide +kernel
theorem dX9_afterTurn_94 : decode cX9_afterTurn 94 = .ok (.iload 8, 2) := by decide +kernel
theorem dX9_afterTurn_96 : decode cX9_afterTurn 96 = .ok (.aload_n 0, 1) := by decide +kernel
theorem dX9_afterTurn_97 : decode cX9_afterTurn 97 = .ok (.getfield 51, 3) := by decide +kernel
theorem dX9_afterTurn_100 : decode cX9_afterTurn 100 = .ok (.aload_n 0, 1) := by decide +kernel
theorem dX9_afterTurn_101 : decode cX9_afterTurn 101 = .ok (.getfield 19, 3) := by decide +kernel
theorem dX9_afterTurn_104 : decode cX9_afterTurn 104 = .ok (.iload 4, 2) := by decide +kernel
theorem dX9_afterTurn_106 : decode cX9_afterTurn 106 = .ok (.iload_n 2, 1) := by decide +kernel
theorem dX9_afterTurn_107 : decode cX9_afterTurn 107 = .ok (.iload 5, 2) := by decide +kernel
theorem dX9_afterTurn_109 : decode cX9_afterTurn 109 = .ok (.isub, 1) := by decide +kernel
theorem dX9_afterTurn_110 : decode cX9_afterTurn 110 = .ok (.iload 5, 2) := by decide +kernel
theorem dX9_afterTurn_112 : decode cX9_afterTurn 112 = .ok (.invokevirtual 326, 3) := by decide +kernel
theorem dX9_afterTurn_115 : decode cX9_afterTurn 115 = .ok (.invokevirtual 275, 3) := by decide +kernel
theorem dX9_afterTurn_118 : decode cX9_afterTurn 118 = .ok (.istore 9, 2) := by decide +kernel
theorem dX9_afterTurn_120 : decode cX9_afterTurn 120 = .ok (.aload_n 0, 1) := by decide +kernel
theorem dX9_afterTurn_121 : decode cX9_afterTurn 121 = .ok (.iload 7, 2) := by decide +kernel
theorem dX9_afterTurn_123 : decode cX9_afterTurn 123 = .ok (.iload 9, 2) := by decide +kernel
theorem dX9_afterTurn_125 : decode cX9_afterTurn 125 = .ok (.iconst 0, 1) := by decide +kernel
theorem dX9_afterTurn_126 : decode cX9_afterTurn 126 = .ok (.invokevirtual 278, 3) := by decide +kernel
theorem dX9_afterTurn_129 : decode cX9_afterTurn 129 = .ok (.istore 10, 2) := by decide +kernel
theorem dX9_afterTurn_131 : decode cX9_afterTurn 131 = .ok (.aload_n 0, 1) := by decide +kernel
theorem dX9_afterTurn_132 : decode cX9_afterTurn 132 = .ok (.iload 7, 2) := by decide +kernel
theorem dX9_afterTurn_134 : decode cX9_afterTurn 134 = .ok (.iload 9, 2) := by decide +kernel
theorem dX9_afterTurn_136 : decode cX9_afterTurn 136 = .ok (.aload_n 0, 1) := by decide +kernel
theorem dX9_afterTurn_137 : decode cX9_afterTurn 137 = .ok (.getfield 36, 3) := by decide +kernel
theorem dX9_afterTurn_140 : decode cX9_afterTurn 140 = .ok (.getfield 481, 3) := by decide +kernel
theorem dX9_afterTurn_143 : decode cX9_afterTurn 143 = .ok (.invokevirtual 278, 3) := by decide +kernel
theorem dX9_afterTurn_146 : decode cX9_afterTurn 146 = .ok (.istore 11, 2) := by decide +kernel
theorem dX9_afterTurn_148 : decode cX9_afterTurn 148 = .ok (.iload 7, 2) := by decide +kernel
theorem dX9_afterTurn_150 : decode cX9_afterTurn 150 = .ok (.iconst 2, 1) := by decide +kernel
theorem dX9_afterTurn_151 : decode cX9_afterTurn 151 = .ok (.irem, 1) := by decide +kernel
theorem dX9_afterTurn_152 : decode cX9_afterTurn 152 = .ok (.ifCond .ne 7, 3) := by decide +kernel
theorem dX9_afterTurn_155 : decode cX9_afterTurn 155 = .ok (.iconst 1, 1) := by decide +kernel
theorem dX9_afterTurn_156 : decode cX9_afterTurn 156 = .ok (.goto 4, 3) := by decide +kernel
theorem dX9_afterTurn_159 : decode cX9_afterTurn 159 = .ok (.iconst 0, 1) := by decide +kernel
theorem dX9_afterTurn_160 : decode cX9_afterTurn 160 = .ok (.istore 12, 2) := by decide +kernel
theorem dX9_afterTurn_162 : decode cX9_afterTurn 162 = .ok (.iload 6, 2) := by decide +kernel
theorem dX9_afterTurn_164 : decode cX9_afterTurn 164 = .ok (.iload 12, 2) := by decide +kernel
theorem dX9_afterTurn_166 : decode cX9_afterTurn 166 = .ok (.ifCond .eq 13, 3) := by decide +kernel
theorem dX9_afterTurn_169 : decode cX9_afterTurn 169 = .ok (.iload 10, 2) := by decide +kernel
theorem dX9_afterTurn_171 : decode cX9_afterTurn 171 = .ok (.iload 11, 2) := by decide +kernel
theorem dX9_afterTurn_173 : decode cX9_afterTurn 173 = .ok (.invokestatic 281, 3) := by decide +kernel
theorem dX9_afterTurn_176 : decode cX9_afterTurn 176 = .ok (.goto 10, 3) := by decide +kernel
theorem dX9_afterTurn_179 : decode cX9_afterTurn 179 = .ok (.iload 10, 2) := by decide +kernel
theorem dX9_afterTurn_181 : decode cX9_afterTurn 181 = .ok (.iload 11, 2) := by decide +kernel
theorem dX9_afterTurn_183 : decode cX9_afterTurn 183 = .ok (.invokestatic 294, 3) := by decide +kernel
theorem dX9_afterTurn_186 : decode cX9_afterTurn 186 = .ok (.iadd, 1) := by decide +kernel
theorem dX9_afterTurn_187 : decode cX9_afterTurn 187 = .ok (.ireturn, 1) := by decide +kernel
abbrev rrX9_afterTurn (d : Nat) : Room := { frames := 4 + d, cells := 0, slots := 0, locals := 96 + 32 * d }
def mX9_afterTurn_b160 (rec : (gS → Int32 → Int32 → Int32 → Option (Int32 × gS)))   (σ : gS) (x22 : Int32) (x23 : Int32) (x24 : Int32) (x25 : Int32) : Option (Int32 × gS) := gLet x25 (fun v26 => if v26 = 0 then (some ((x22 + (gMin x23 x24)), σ)) else (some ((x22 + (gMax x23 x24)), σ)))
set_option maxHeartbeats 4000000 in
set_option maxRecDepth 100000 in
theorem wX9_afterTurn_b160 {p : Program} {l : Launch} {e : Env} {s : State} {m : MethodId} {args : Array Value} {below : List Frame} {meth : Method} {c : Code} {G : gE} {d : Nat} (hC : gCx p s m args meth c G RX9 cX9_afterTurn 13 (some .int)) {rec : (gS → Int32 → Int32 → Int32 → Option (Int32 × gS))} (hrec : (∀ (σ : gS) (p0 : Int32) (p1 : Int32) (p2 : Int32), gM l G yX9_afterTurn cX9_afterTurn 13 (some .int) (rrX9_afterTurn d) iI [.ref (G.2.1 0), .int p0, .int p1, .int p2] σ (rec σ p0 p1 p2)))    (σ : gS) (x22 : Int32) (x23 : Int32) (x24 : Int32) (x25 : Int32)  : gT p l e (rrX9_afterTurn (d + 1)) s m args below meth c G 13 iI σ 160 [(6, .int x22), (10, .int x23), (11, .int x24)] [.int x25] (mX9_afterTurn_b160 rec σ x22 x23 x24 x25) := by
  unfold mX9_afterTurn_b160
  refine g_istore (pc := 160) (lv' := fun v26 => [(12, .int v26), (6, .int x22), (10, .int x23), (11, .int x24)]) hC dX9_afterTurn_160 (by decide) (fun _ => rfl) (fun v26 => ?_)
  refine g_iload (pc := 162) (q := 1) hC dX9_afterTurn_162 rfl ?_
  refine g_iload (pc := 164) (q := 0) hC dX9_afterTurn_164 rfl ?_
  refine g_if_eq (pc := 166) (tgt := 179) hC dX9_afterTurn_166 (by decide) ?_ ?_
  · refine g_iload (pc := 179) (q := 2) hC dX9_afterTurn_179 rfl ?_
    refine g_iload (pc := 181) (q := 3) hC dX9_afterTurn_181 rfl ?_
    refine g_min (pc := 183) hC mth_RX9_294 ⟨by simp only [rrX9_afterTurn] <;> omega, by simp only [rrX9_afterTurn] <;> omega⟩ (Nat.le_of_ble_eq_true rfl) dX9_afterTurn_183 ?_
    refine g_iadd (pc := 186) hC dX9_afterTurn_186 ?_
    exact g_iret (pc := 187) hC dX9_afterTurn_187
  · refine g_iload (pc := 169) (q := 2) hC dX9_afterTurn_169 rfl ?_
    refine g_iload (pc := 171) (q := 3) hC dX9_afterTurn_171 rfl ?_
    refine g_max (pc := 173) hC mth_RX9_281 ⟨by simp only [rrX9_afterTurn] <;> omega, by simp only [rrX9_afterTurn] <;> omega⟩ (Nat.le_of_ble_eq_true rfl) dX9_afterTurn_173 ?_
    refine g_goto (pc := 176) (tgt := 186) hC dX9_afterTurn_176 (by decide) ?_
    refine g_iadd (pc := 186) hC dX9_afterTurn_186 ?_
    exact g_iret (pc := 187) hC dX9_afterTurn_187
def mrX9_afterTurn (rec : (gS → Int32 → Int32 → Int32 → Option (Int32 × gS))) (σ : gS) (p0 : Int32) (p1 : Int32) (p2 : Int32) : Option (Int32 × gS) := gLet ((σ.1 8 4) + p0) (fun v1 => gLet (gMin p2 p1) (fun v2 => gBind (mX8_share σ (σ.1 14 5) v1 v2) (fun r3 s4 => gBind (mX8_share s4 (s4.1 14 6) v1 v2) (fun r5 s6 => gLet (r3 - r5) (fun v7 => gLet (p0 + 1) (fun v8 => gLet (v1 + 1) (fun v9 => if (s6.1 14 8) ≤ v8 then (some (v7, s6)) else (if v9 ≤ 29 then (gOpt (s6.2.2 0 7) (none) (fun k10 => if gk k10 = 3 then (gBind (mX3_overnight s6 k10 8 v1 (p1 - v2) v2) (fun r11 s12 => gBind (mX5_atDawn s12 8 v9 r11) (fun r13 s14 => gLet r13 (fun v15 => gBind (rec s14 v8 v15 0) (fun r16 s17 => gLet r16 (fun v18 => gBind (rec s17 v8 v15 (s17.1 14 7)) (fun r19 s20 => gLet r19 (fun v21 => if (gRem v8 2) = 0 then ((mX9_afterTurn_b160 rec s20 v7 v18 v21 1)) else ((mX9_afterTurn_b160 rec s20 v7 v18 v21 0)))))))))) else none)) else (some (v7, s6))))))))))
set_option maxHeartbeats 4000000 in
set_option maxRecDepth 100000 in
theorem trX9_afterTurn {l : Launch} {G : gE} {d : Nat} {rec : (gS → Int32 → Int32 → Int32 → Option (Int32 × gS))} (hrec : (∀ (σ : gS) (p0 : Int32) (p1 : Int32) (p2 : Int32), gM l G yX9_afterTurn cX9_afterTurn 13 (some .int) (rrX9_afterTurn d) iI [.ref (G.2.1 0), .int p0, .int p1, .int p2] σ (rec σ p0 p1 p2))) : ∀ (σ : gS) (p0 : Int32) (p1 : Int32) (p2 : Int32), gM l G yX9_afterTurn cX9_afterTurn 13 (some .int) (rrX9_afterTurn (d + 1)) iI [.ref (G.2.1 0), .int p0, .int p1, .int p2] σ (mrX9_afterTurn rec σ p0 p1 p2) := by
  intro σ p0 p1 p2
  refine gM_of (by decide) (Nat.le_of_ble_eq_true rfl) ?_
  intro p e s m args below meth c hC
  unfold mrX9_afterTurn
  show gT p l e (rrX9_afterTurn (d + 1)) s m args below meth c G 13 iI σ 0 [(0, .ref (G.2.1 0)), (1, .int p0), (2, .int p1), (3, .int p2)] [] _
  refine g_aload_n (pc := 0) (q := 0) hC dX9_afterTurn_0 rfl rfl ?_
  refine g_get (pc := 1) (v := .ref (G.2.1 8)) hC kX9 rfl 1 (by decide) fl_RX9_19 rfl dX9_afterTurn_1 ?_
  refine g_get (pc := 4) (v := .int (σ.1 8 4)) hC kX5 rfl 4 (by decide) fl_RX9_153 rfl dX9_afterTurn_4 ?_
  refine g_iload_n (pc := 7) (q := 1) hC dX9_afterTurn_7 rfl rfl ?_
  refine g_iadd (pc := 8) hC dX9_afterTurn_8 ?_
  refine g_istore (pc := 9) (lv' := fun v1 => [(4, .int v1), (0, .ref (G.2.1 0)), (1, .int p0), (2, .int p1), (3, .int p2)]) hC dX9_afterTurn_9 (by decide) (fun _ => rfl) (fun v1 => ?_)
  refine g_iload_n (pc := 11) (q := 4) hC dX9_afterTurn_11 rfl rfl ?_
  refine g_iload_n (pc := 12) (q := 3) hC dX9_afterTurn_12 rfl rfl ?_
  refine g_min (pc := 13) hC mth_RX9_294 ⟨by simp only [rrX9_afterTurn] <;> omega, by simp only [rrX9_afterTurn] <;> omega⟩ (Nat.le_of_ble_eq_true rfl) dX9_afterTurn_13 ?_
  refine g_istore (pc := 16) (lv' := fun v2 => [(5, .int v2), (4, .int v1), (0, .ref (G.2.1 0)), (1, .int p0), (2, .int p1), (3, .int p2)]) hC dX9_afterTurn_16 (by decide) (fun _ => rfl) (fun v2 => ?_)
  refine g_aload_n (pc := 18) (q := 2) hC dX9_afterTurn_18 rfl rfl ?_
  refine g_get (pc := 19) (v := .ref (G.2.1 1)) hC kX9 rfl 0 (by decide) fl_RX9_10 rfl dX9_afterTurn_19 ?_
  refine g_aload_n (pc := 22) (q := 2) hC dX9_afterTurn_22 rfl rfl ?_
  refine g_get (pc := 23) (v := .ref (G.2.1 14)) hC kX9 rfl 4 (by decide) fl_RX9_36 rfl dX9_afterTurn_23 ?_
  refine g_get (pc := 26) (v := .int (σ.1 14 5)) hC kX4 rfl 5 (by decide) fl_RX9_469 rfl dX9_afterTurn_26 ?_
  refine g_iload (pc := 29) (q := 1) hC dX9_afterTurn_29 rfl ?_
  refine g_iload (pc := 31) (q := 0) hC dX9_afterTurn_31 rfl ?_
  refine g_callVi (pc := 33) (As := [.int (σ.1 14 5), .int v1, .int v2]) (rest := []) hC lk_RX9_472 kX8 rfl (tX8_share _ _ σ (σ.1 14 5) v1 v2) rfl rfl (Nat.le_of_ble_eq_true rfl) ⟨rfl, rfl, by simp only [rrX9_afterTurn] <;> omega, by simp only [rrX9_afterTurn] <;> omega⟩ dX9_afterTurn_33 (fun r3 s4 => ?_)
  refine g_aload_n (pc := 36) (q := 2) hC dX9_afterTurn_36 rfl rfl ?_
  refine g_get (pc := 37) (v := .ref (G.2.1 1)) hC kX9 rfl 0 (by decide) fl_RX9_10 rfl dX9_afterTurn_37 ?_
  refine g_aload_n (pc := 40) (q := 2) hC dX9_afterTurn_40 rfl rfl ?_
  refine g_get (pc := 41) (v := .ref (G.2.1 14)) hC kX9 rfl 4 (by decide) fl_RX9_36 rfl dX9_afterTurn_41 ?_
  refine g_get (pc := 44) (v := .int (s4.1 14 6)) hC kX4 rfl 6 (by decide) fl_RX9_475 rfl dX9_afterTurn_44 ?_
  refine g_iload (pc := 47) (q := 1) hC dX9_afterTurn_47 rfl ?_
  refine g_iload (pc := 49) (q := 0) hC dX9_afterTurn_49 rfl ?_
  refine g_callVi (pc := 51) (As := [.int (s4.1 14 6), .int v1, .int v2]) (rest := [.int r3]) hC lk_RX9_472 kX8 rfl (tX8_share _ _ s4 (s4.1 14 6) v1 v2) rfl rfl (Nat.le_of_ble_eq_true rfl) ⟨rfl, rfl, by simp only [rrX9_afterTurn] <;> omega, by simp only [rrX9_afterTurn] <;> omega⟩ dX9_afterTurn_51 (fun r5 s6 => ?_)
  refine g_isub (pc := 54) hC dX9_afterTurn_54 ?_
  refine g_istore (pc := 55) (lv' := fun v7 => [(6, .int v7), (5, .int v2), (4, .int v1), (0, .ref (G.2.1 0)), (1, .int p0), (2, .int p1), (3, .int p2)]) hC dX9_afterTurn_55 (by decide) (fun _ => rfl) (fun v7 => ?_)
  refine g_iload_n (pc := 57) (q := 4) hC dX9_afterTurn_57 rfl rfl ?_
  refine g_iconst (pc := 58) (v := 1) hC dX9_afterTurn_58 (by decide) ?_
  refine g_iadd (pc := 59) hC dX9_afterTurn_59 ?_
  refine g_istore (pc := 60) (lv' := fun v8 => [(7, .int v8), (6, .int v7), (5, .int v2), (4, .int v1), (0, .ref (G.2.1 0)), (1, .int p0), (2, .int p1), (3, .int p2)]) hC dX9_afterTurn_60 (by decide) (fun _ => rfl) (fun v8 => ?_)
  refine g_iload (pc := 62) (q := 3) hC dX9_afterTurn_62 rfl ?_
  refine g_iconst (pc := 64) (v := 1) hC dX9_afterTurn_64 (by decide) ?_
  refine g_iadd (pc := 65) hC dX9_afterTurn_65 ?_
  refine g_istore (pc := 66) (lv' := fun v9 => [(8, .int v9), (7, .int v8), (6, .int v7), (5, .int v2), (4, .int v1), (0, .ref (G.2.1 0)), (1, .int p0), (2, .int p1), (3, .int p2)]) hC dX9_afterTurn_66 (by decide) (fun _ => rfl) (fun v9 => ?_)
  refine g_iload (pc := 68) (q := 1) hC dX9_afterTurn_68 rfl ?_
  refine g_aload_n (pc := 70) (q := 5) hC dX9_afterTurn_70 rfl rfl ?_
  refine g_get (pc := 71) (v := .ref (G.2.1 14)) hC kX9 rfl 4 (by decide) fl_RX9_36 rfl dX9_afterTurn_71 ?_
  refine g_get (pc := 74) (v := .int (s6.1 14 8)) hC kX4 rfl 8 (by decide) fl_RX9_478 rfl dX9_afterTurn_74 ?_
  refine g_icmp_ge (pc := 77) (tgt := 87) hC dX9_afterTurn_77 (by decide) ?_ ?_
  · refine g_iload (pc := 87) (q := 2) hC dX9_afterTurn_87 rfl ?_
    exact g_iret (pc := 89) hC dX9_afterTurn_89
  · refine g_iload (pc := 80) (q := 0) hC dX9_afterTurn_80 rfl ?_
    refine g_bipush (pc := 82) (v := 29) hC dX9_afterTurn_82 (by decide) ?_
    refine g_icmp_le (pc := 84) (tgt := 90) hC dX9_afterTurn_84 (by decide) ?_ ?_
    · refine g_aload_n (pc := 90) (q := 5) hC dX9_afterTurn_90 rfl rfl ?_
      refine g_get (pc := 91) (v := .ref (G.2.1 8)) hC kX9 rfl 1 (by decide) fl_RX9_19 rfl dX9_afterTurn_91 ?_
      refine g_iload (pc := 94) (q := 0) hC dX9_afterTurn_94 rfl ?_
      refine g_aload_n (pc := 96) (q := 5) hC dX9_afterTurn_96 rfl rfl ?_
      refine g_get (pc := 97) (v := va_rf ((s6.2.2 0 7).map G.2.1)) hC kX9 rfl 7 (by decide) fl_RX9_51 rfl dX9_afterTurn_97 ?_
      refine gT_opt ?_ (fun k10 => ?_)
      · exact gT_none
      · refine gT_if (fun hk10 => ?_) (fun _ => gT_none)
        refine g_aload_n (pc := 100) (q := 5) hC dX9_afterTurn_100 rfl rfl ?_
        refine g_get (pc := 101) (v := .ref (G.2.1 8)) hC kX9 rfl 1 (by decide) fl_RX9_19 rfl dX9_afterTurn_101 ?_
        refine g_iload (pc := 104) (q := 4) hC dX9_afterTurn_104 rfl ?_
        refine g_iload_n (pc := 106) (q := 7) hC dX9_afterTurn_106 rfl rfl ?_
        refine g_iload (pc := 107) (q := 3) hC dX9_afterTurn_107 rfl ?_
        refine g_isub (pc := 109) hC dX9_afterTurn_109 ?_
        refine g_iload (pc := 110) (q := 3) hC dX9_afterTurn_110 rfl ?_
        refine g_callVi (pc := 112) (As := [.ref (G.2.1 8), .int v1, .int (p1 - v2), .int v2]) (rest := [.int v9, .ref (G.2.1 8)]) hC lk_RX9_326 kX3 hk10 (tX3_overnight _ _ s6 k10 8 v1 (p1 - v2) v2) rfl rfl (Nat.le_of_ble_eq_true rfl) ⟨rfl, rfl, by simp only [rrX9_afterTurn] <;> omega, by simp only [rrX9_afterTurn] <;> omega⟩ dX9_afterTurn_112 (fun r11 s12 => ?_)
        refine g_callVi (pc := 115) (As := [.int v9, .int r11]) (rest := []) hC lk_RX9_275 kX5 rfl (tX5_atDawn _ _ s12 8 v9 r11) rfl rfl (Nat.le_of_ble_eq_true rfl) ⟨rfl, rfl, by simp only [rrX9_afterTurn] <;> omega, by simp only [rrX9_afterTurn] <;> omega⟩ dX9_afterTurn_115 (fun r13 s14 => ?_)
        refine g_istore (pc := 118) (lv' := fun v15 => [(9, .int v15), (8, .int v9), (7, .int v8), (6, .int v7), (5, .int v2), (4, .int v1), (0, .ref (G.2.1 0)), (1, .int p0), (2, .int p1), (3, .int p2)]) hC dX9_afterTurn_118 (by decide) (fun _ => rfl) (fun v15 => ?_)
        refine g_aload_n (pc := 120) (q := 6) hC dX9_afterTurn_120 rfl rfl ?_
        refine g_iload (pc := 121) (q := 2) hC dX9_afterTurn_121 rfl ?_
        refine g_iload (pc := 123) (q := 0) hC dX9_afterTurn_123 rfl ?_
        refine g_iconst (pc := 125) (v := 0) hC dX9_afterTurn_125 (by decide) ?_
        refine g_callVi (pc := 126) (As := [.int v8, .int v15, .int 0]) (rest := []) hC lk_RX9_278 kX9 rfl (hrec s14 v8 v15 0) rfl rfl (Nat.le_of_ble_eq_true rfl) ⟨rfl, rfl, by simp only [rrX9_afterTurn, rrX9_afterTurn] <;> omega, by simp only [rrX9_afterTurn, rrX9_afterTurn] <;> omega⟩ dX9_afterTurn_126 (fun r16 s17 => ?_)
        refine g_istore (pc := 129) (lv' := fun v18 => [(10, .int v18), (9, .int v15), (8, .int v9), (7, .int v8), (6, .int v7), (5, .int v2), (4, .int v1), (0, .ref (G.2.1 0)), (1, .int p0), (2, .int p1), (3, .int p2)]) hC dX9_afterTurn_129 (by decide) (fun _ => rfl) (fun v18 => ?_)
        refine g_aload_n (pc := 131) (q := 7) hC dX9_afterTurn_131 rfl rfl ?_
        refine g_iload (pc := 132) (q := 3) hC dX9_afterTurn_132 rfl ?_
        refine g_iload (pc := 134) (q := 1) hC dX9_afterTurn_134 rfl ?_
        refine g_aload_n (pc := 136) (q := 7) hC dX9_afterTurn_136 rfl rfl ?_
        refine g_get (pc := 137) (v := .ref (G.2.1 14)) hC kX9 rfl 4 (by decide) fl_RX9_36 rfl dX9_afterTurn_137 ?_
        refine g_get (pc := 140) (v := .int (s17.1 14 7)) hC kX4 rfl 7 (by decide) fl_RX9_481 rfl dX9_afterTurn_140 ?_
        refine g_callVi (pc := 143) (As := [.int v8, .int v15, .int (s17.1 14 7)]) (rest := []) hC lk_RX9_278 kX9 rfl (hrec s17 v8 v15 (s17.1 14 7)) rfl rfl (Nat.le_of_ble_eq_true rfl) ⟨rfl, rfl, by simp only [rrX9_afterTurn, rrX9_afterTurn] <;> omega, by simp only [rrX9_afterTurn, rrX9_afterTurn] <;> omega⟩ dX9_afterTurn_143 (fun r19 s20 => ?_)
        refine g_istore (pc := 146) (lv' := fun v21 => [(11, .int v21), (10, .int v18), (9, .int v15), (8, .int v9), (7, .int v8), (6, .int v7), (5, .int v2), (4, .int v1), (0, .ref (G.2.1 0)), (1, .int p0), (2, .int p1), (3, .int p2)]) hC dX9_afterTurn_146 (by decide) (fun _ => rfl) (fun v21 => ?_)
        refine g_iload (pc := 148) (q := 4) hC dX9_afterTurn_148 rfl ?_
        refine g_iconst (pc := 150) (v := 2) hC dX9_afterTurn_150 (by decide) ?_
        refine g_iremL (pc := 151) hC dX9_afterTurn_151 (by decide) ?_
        refine g_if_ne (pc := 152) (tgt := 159) hC dX9_afterTurn_152 (by decide) ?_ ?_
        · refine g_iconst (pc := 159) (v := 0) hC dX9_afterTurn_159 (by decide) ?_
          exact gT_sub [5, 1, 0] rfl (wX9_afterTurn_b160 hC hrec s20 v7 v18 v21 0)
        · refine g_iconst (pc := 155) (v := 1) hC dX9_afterTurn_155 (by decide) ?_
          refine g_goto (pc := 156) (tgt := 160) hC dX9_afterTurn_156 (by decide) ?_
          exact gT_sub [5, 1, 0] rfl (wX9_afterTurn_b160 hC hrec s20 v7 v18 v21 1)
    · refine g_iload (pc := 87) (q := 2) hC dX9_afterTurn_87 rfl ?_
      exact g_iret (pc := 89) hC dX9_afterTurn_89
def mgafterTurn : Nat → (gS → Int32 → Int32 → Int32 → Option (Int32 × gS))
  | 0 => (fun _ _ _ _ => none)
  | d + 1 => (mrX9_afterTurn (mgafterTurn d))
theorem tgafterTurn (l : Launch) (G : gE) : ∀ d : Nat, (∀ (σ : gS) (p0 : Int32) (p1 : Int32) (p2 : Int32), gM l G yX9_afterTurn cX9_afterTurn 13 (some .int) (rrX9_afterTurn d) iI [.ref (G.2.1 0), .int p0, .int p1, .int p2] σ ((mgafterTurn d) σ p0 p1 p2)) := by
  intro d
  induction d with
  | zero => exact (fun _ _ _ _ _ _ h => (by cases h))
  | succ d ih => exact trX9_afterTurn ih
abbrev rX9_afterTurn : Room := rrX9_afterTurn 8
def mX9_afterTurn (σ : gS) (p0 : Int32) (p1 : Int32) (p2 : Int32) : Option (Int32 × gS) := (mgafterTurn 8) σ p0 p1 p2
theorem tX9_afterTurn (l : Launch) (G : gE) (σ : gS) (p0 : Int32) (p1 : Int32) (p2 : Int32) : gM l G yX9_afterTurn cX9_afterTurn 13 (some .int) rX9_afterTurn iI [.ref (G.2.1 0), .int p0, .int p1, .int p2] σ (mX9_afterTurn σ p0 p1 p2) := (tgafterTurn l G 8) σ p0 p1 p2
theorem lk_RX9_272 : gLV RX9 272 RX4 yX4_beginTurns cX4_beginTurns 5 (none) 4 := ⟨(gBig_tab 871 (by decide +kernel) (by decide +kernel)), (gBig_tab 872 (by decide +kernel) (by decide +kernel)), (gBig_tab 873 (by decide +kernel) (by decide +kernel)), (gBig_tab 5 (by decide +kernel) (by decide +kernel)), (gBig_tab 874 (by decide +kernel) (by decide +kernel)), rfl, by decide +kernel, by decide +kernel, by decide +kernel⟩
theorem dX9_byTurns_0 : decode cX9_byTurns 0 = .ok (.iload_n 1, 1) := by decide +kernel
theorem dX9_byTurns_1 : decode cX9_byTurns 1 = .ok (.ifCond .lt 16, 3) := by decide +kernel
theorem dX9_byTurns_4 : decode cX9_byTurns 4 = .ok (.iload_n 2, 1) := by decide +kernel
theorem dX9_byTurns_5 : decode cX9_byTurns 5 = .ok (.ifCond .lt 12, 3) := by decide +kernel
theorem dX9_byTurns_8 : decode cX9_byTurns 8 = .ok (.iload_n 3, 1) := by decide +kernel
theorem dX9_byTurns_9 : decode cX9_byTurns 9 = .ok (.iconst 0, 1) := by decide +kernel
theorem dX9_byTurns_10 : decode cX9_byTurns 10 = .ok (.iconst 1, 1) := by decide +kernel
theorem dX9_byTurns_11 : decode cX9_byTurns 11 = .ok (.invokestatic 102, 3) := by decide +kernel
theorem dX9_byTurns_14 : decode cX9_byTurns 14 = .ok (.ifCond .ne 6, 3) := by decide +kernel
theorem dX9_byTurns_17 : decode cX9_byTurns 17 = .ok (.ldc 188, 2) := by decide +kernel
theorem dX9_byTurns_19 : decode cX9_byTurns 19 = .ok (.ireturn, 1) := by decide +kernel
theorem dX9_byTurns_20 : decode cX9_byTurns 20 = .ok (.iload_n 1, 1) := by decide +kernel
theorem dX9_byTurns_21 : decode cX9_byTurns 21 = .ok (.bipush 10, 2) := by decide +kernel
theorem dX9_byTurns_23 : decode cX9_byTurns 23 = .ok (.idiv, 1) := by decide +kernel
theorem dX9_byTurns_24 : decode cX9_byTurns 24 = .ok (.istore 4, 2) := by decide +kernel
theorem dX9_byTurns_26 : decode cX9_byTurns 26 = .ok (.iload_n 1, 1) := by decide +kernel
theorem dX9_byTurns_27 : decode cX9_byTurns 27 = .ok (.bipush 10, 2) := by decide +kernel
theorem dX9_byTurns_29 : decode cX9_byTurns 29 = .ok (.irem, 1) := by decide +kernel
theorem dX9_byTurns_30 : decode cX9_byTurns 30 = .ok (.istore 5, 2) := by decide +kernel
theorem dX9_byTurns_32 : decode cX9_byTurns 32 = .ok (.iload_n 2, 1) := by decide +kernel
theorem dX9_byTurns_33 : decode cX9_byTurns 33 = .ok (.bipush 10, 2) := by decide +kernel
theorem dX9_byTurns_35 : decode cX9_byTurns 35 = .ok (.idiv, 1) := by decide +kernel
theorem dX9_byTurns_36 : decode cX9_byTurns 36 = .ok (.istore 6, 2) := by decide +kernel
theorem dX9_byTurns_38 : decode cX9_byTurns 38 = .ok (.iload_n 2, 1) := by decide +kernel
theorem dX9_byTurns_39 : decode cX9_byTurns 39 = .ok (.bipush 10, 2) := by decide +kernel
theorem dX9_byTurns_41 : decode cX9_byTurns 41 = .ok (.irem, 1) := by decide +kernel
theorem dX9_byTurns_42 : decode cX9_byTurns 42 = .ok (.istore 7, 2) := by decide +kernel
theorem dX9_byTurns_44 : decode cX9_byTurns 44 = .ok (.aload_n 0, 1) := by decide +kernel
theorem dX9_byTurns_45 : decode cX9_byTurns 45 = .ok (.getfield 10, 3) := by decide +kernel
theorem dX9_byTurns_48 : decode cX9_byTurns 48 = .ok (.iload 4, 2) := by decide +kernel
theorem dX9_byTurns_50 : decode cX9_byTurns 50 = .ok (.invokevirtual 162, 3) := by decide +kernel
theorem dX9_byTurns_53 : decode cX9_byTurns 53 = .ok (.ifCond .eq 43, 3) := by decide +kernel
theorem dX9_byTurns_56 : decode cX9_byTurns 56 = .ok (.aload_n 0, 1) := by decide +kernel
theorem dX9_byTurns_57 : decode cX9_byTurns 57 = .ok (.getfield 10, 3) := by decide +kernel
theorem dX9_byTurns_60 : decode cX9_byTurns 60 = .ok (.iload 5, 2) := by decide +kernel
theorem dX9_byTurns_62 : decode cX9_byTurns 62 = .ok (.invokevirtual 162, 3) := by decide +kernel
theorem dX9_byTurns_65 : decode cX9_byTurns 65 = .ok (.ifCond .eq 31, 3) := by decide +kernel
theorem dX9_byTurns_68 : decode cX9_byTurns 68 = .ok (.iload 4, 2) := by decide +kernel
theorem dX9_byTurns_70 : decode cX9_byTurns 70 = .ok (.iload 5, 2) := by decide +kernel
theorem dX9_byTurns_72 : decode cX9_byTurns 72 = .ok (.if_icmp .eq 24, 3) := by decide +kernel
theorem dX9_byTurns_75 : decode cX9_byTurns 75 = .ok (.iload 6, 2) := by decide +kernel
theorem dX9_byTurns_77 : decode cX9_byTurns 77 = .ok (.iconst 1, 1) := by decide +kernel
theorem dX9_byTurns_78 : decode cX9_byTurns 78 = .ok (.bipush 24, 2) := by decide +kernel
theorem dX9_byTurns_80 : decode cX9_byTurns 80 = .ok (.invokestatic 102, 3) := by decide +kernel
theorem dX9_byTurns_83 : decode cX9_byTurns 83 = .ok (.ifCond .eq 13, 3) := by decide +kernel
theorem dX9_byTurns_86 : decode cX9_byTurns 86 = .ok (.iload 7, 2) := by decide +kernel
theorem dX9_byTurns_88 : decode cX9_byTurns 88 = .ok (.iconst 1, 1) := by decide +kernel
theorem dX9_byTurns_89 : decode cX9_byTurns 89 = .ok (.iconst 5, 1) := by decide +kernel
theorem dX9_byTurns_90 : decode cX9_byTurns 90 = .ok (.invokestatic 102, 3) := by decide +kernel
theorem dX9_byTurns_93 : decode cX9_byTurns 93 = .ok (.ifCond .ne 6, 3) := by decide +kernel
theorem dX9_byTurns_96 : decode cX9_byTurns 96 = .ok (.ldc 188, 2) := by decide +kernel
theorem dX9_byTurns_98 : decode cX9_byTurns 98 = .ok (.ireturn, 1) := by decide +kernel
theorem dX9_byTurns_99 : decode cX9_byTurns 99 = .ok (.aload_n 0, 1) := by decide +kernel
theorem dX9_byTurns_100 : decode cX9_byTurns 100 = .ok (.getfield 36, 3) := by decide +kernel
theorem dX9_byTurns_103 : decode cX9_byTurns 103 = .ok (.iload 4, 2) := by decide +kernel
theorem dX9_byTurns_105 : decode cX9_byTurns 105 = .ok (.iload 5, 2) := by decide +kernel
theorem dX9_byTurns_107 : decode cX9_byTurns 107 = .ok (.iload 6, 2) := by decide +kernel
theorem dX9_byTurns_109 : decode cX9_byTurns 109 = .ok (.iload 7, 2) := by decide +kernel
theorem dX9_byTurns_111 : decode cX9_byTurns 111 = .ok (.invokevirtual 272, 3) := by decide +kernel
theorem dX9_byTurns_114 : decode cX9_byTurns 114 = .ok (.aload_n 0, 1) := by decide +kernel
theorem dX9_byTurns_115 : decode cX9_byTurns 115 = .ok (.getfield 19, 3) := by decide +kernel
theorem dX9_byTurns_118 : decode cX9_byTurns 118 = .ok (.aload_n 0, 1) := by decide +kernel
theorem dX9_byTurns_119 : decode cX9_byTurns 119 = .ok (.getfield 19, 3) := by decide +kernel
theorem dX9_byTurns_122 : decode cX9_byTurns 122 = .ok (.getfield 153, 3) := by decide +kernel
theorem dX9_byTurns_125 : decode cX9_byTurns 125 = .ok (.aload_n 0, 1) := by decide +kernel
theorem dX9_byTurns_126 : decode cX9_byTurns 126 = .ok (.getfield 19, 3) := by decide +kernel
theorem dX9_byTurns_129 : decode cX9_byTurns 129 = .ok (.getfield 193, 3) := by decide +kernel
theorem dX9_byTurns_132 : decode cX9_byTurns 132 = .ok (.invokevirtual 275, 3) := by decide +kernel
theorem dX9_byTurns_135 : decode cX9_byTurns 135 = .ok (.istore 8, 2) := by decide +kernel
theorem dX9_byTurns_137 : decode cX9_byTurns 137 = .ok (.aload_n 0, 1) := by decide +kernel
theorem dX9_byTurns_138 : decode cX9_byTurns 138 = .ok (.iconst 0, 1) := by decide +kernel
theorem dX9_byTurns_139 : decode cX9_byTurns 139 = .ok (.iload 8, 2) := by decide +kernel
theorem dX9_byTurns_141 : decode cX9_byTurns 141 = .ok (.iconst 0, 1) := by decide +kernel
theorem dX9_byTurns_142 : decode cX9_byTurns 142 = .ok (.invokevirtual 278, 3) := by decide +kernel
theorem dX9_byTurns_145 : decode cX9_byTurns 145 = .ok (.istore 9, 2) := by decide +kernel
theorem dX9_byTurns_147 : decode cX9_byTurns 147 = .ok (.aload_n 0, 1) := by decide +kernel
theorem dX9_byTurns_148 : decode cX9_byTurns 148 = .ok (.iconst 0, 1) := by decide +kernel
theorem dX9_byTurns_149 : decode cX9_byTurns 149 = .ok (.iload 8, 2) := by decide +kernel
theorem dX9_byTurns_151 : decode cX9_byTurns 151 = .ok (.iload 6, 2) := by decide +kernel
theorem dX9_byTurns_153 : decode cX9_byTurns 153 = .ok (.invokevirtual 278, 3) := by decide +kernel
theorem dX9_byTurns_156 : decode cX9_byTurns 156 = .ok (.istore 10, 2) := by decide +kernel
theorem dX9_byTurns_158 : decode cX9_byTurns 158 = .ok (.iload_n 3, 1) := by decide +kernel
theorem dX9_byTurns_159 : decode cX9_byTurns 159 = .ok (.ifCond .ne 11, 3) := by decide +kernel
theorem dX9_byTurns_162 : decode cX9_byTurns 162 = .ok (.iload 9, 2) := by decide +kernel
theorem dX9_byTurns_164 : decode cX9_byTurns 164 = .ok (.iload 10, 2) := by decide +kernel
theorem dX9_byTurns_166 : decode cX9_byTurns 166 = .ok (.invokestatic 281, 3) := by decide +kernel
theorem dX9_byTurns_169 : decode cX9_byTurns 169 = .ok (.ireturn, 1) := by decide +kernel
theorem dX9_byTurns_170 : decode cX9_byTurns 170 = .ok (.iload 10, 2) := by decide +kernel
theorem dX9_byTurns_172 : decode cX9_byTurns 172 = .ok (.iload 9, 2) := by decide +kernel
theorem dX9_byTurns_174 : decode cX9_byTurns 174 = .ok (.if_icmp .le 7, 3) := by decide +kernel
theorem dX9_byTurns_177 : decode cX9_byTurns 177 = .ok (.iconst 1, 1) := by decide +kernel
theorem dX9_byTurns_178 : decode cX9_byTurns 178 = .ok (.goto 4, 3) := by decide +kernel
theorem dX9_byTurns_181 : decode cX9_byTurns 181 = .ok (.iconst 0, 1) := by decide +kernel
theorem dX9_byTurns_182 : decode cX9_byTurns 182 = .ok (.ireturn, 1) := by decide +kernel
abbrev rX9_byTurns : Room := { frames := 13, cells := 0, slots := 0, locals := 384 }
def mX9_byTurns (σ : gS) (p0 : Int32) (p1 : Int32) (p2 : Int32) : Option (Int32 × gS) := if p0 < 0 then (some ((-2000000000), σ)) else (if p1 < 0 then (some ((-2000000000), σ)) else (gBind (mX9_within σ p2 0 1) (fun r1 s2 => if r1 = true then (gLet (p0 / 10) (fun v3 => gLet (gRem p0 10) (fun v4 => gLet (p1 / 10) (fun v5 => gLet (gRem p1 10) (fun v6 => gBind (mX8_hasFarm s2 v3) (fun r7 s8 => if r7 = true then (gBind (mX8_hasFarm s8 v4) (fun r9 s10 => if r9 = true then (if v3 = v4 then (some ((-2000000000), s10)) else (gBind (mX9_within s10 v5 1 24) (fun r11 s12 => if r11 = true then (gBind (mX9_within s12 v6 1 5) (fun r13 s14 => if r13 = true then (gBind (mX4_beginTurns s14 v3 v4 v5 v6) (fun r15 s16 => gBind (mX5_atDawn s16 8 (s16.1 8 4) (s16.1 8 0)) (fun r17 s18 => gLet r17 (fun v19 => gBind (mX9_afterTurn s18 0 v19 0) (fun r20 s21 => gLet r20 (fun v22 => gBind (mX9_afterTurn s21 0 v19 v5) (fun r23 s24 => gLet r23 (fun v25 => if p2 = 0 then (some ((gMax v22 v25), s24)) else (if v25 ≤ v22 then (some (0, s24)) else (some (1, s24))))))))))) else (some ((-2000000000), s14)))) else (some ((-2000000000), s12))))) else (some ((-2000000000), s10)))) else (some ((-2000000000), s8)))))))) else (some ((-2000000000), s2)))))
set_option maxHeartbeats 4000000 in
set_option maxRecDepth 100000 in
theorem tX9_byTurns (l : Launch) (G : gE) (σ : gS) (p0 : Int32) (p1 : Int32) (p2 : Int32) : gM l G yX9_byTurns cX9_byTurns 11 (some .int) rX9_byTurns iI [.ref (G.2.1 0), .int p0, .int p1, .int p2] σ (mX9_byTurns σ p0 p1 p2) := by
  refine gM_of (by decide) (Nat.le_of_ble_eq_true rfl) ?_
  intro p e s m args below meth c hC
  unfold mX9_byTurns
  show gT p l e rX9_byTurns s m args below meth c G 11 iI σ 0 [(0, .ref (G.2.1 0)), (1, .int p0), (2, .int p1), (3, .int p2)] [] _
  refine g_iload_n (pc := 0) (q := 1) hC dX9_byTurns_0 rfl rfl ?_
  refine g_if_lt (pc := 1) (tgt := 17) hC dX9_byTurns_1 (by decide) ?_ ?_
  · refine g_ldc (pc := 17) hC dX9_byTurns_17 cst_RX9_188 ?_
    exact g_iret (pc := 19) hC dX9_byTurns_19
  · refine g_iload_n (pc := 4) (q := 2) hC dX9_byTurns_4 rfl rfl ?_
    refine g_if_lt (pc := 5) (tgt := 17) hC dX9_byTurns_5 (by decide) ?_ ?_
    · refine g_ldc (pc := 17) hC dX9_byTurns_17 cst_RX9_188 ?_
      exact g_iret (pc := 19) hC dX9_byTurns_19
    · refine g_iload_n (pc := 8) (q := 3) hC dX9_byTurns_8 rfl rfl ?_
      refine g_iconst (pc := 9) (v := 0) hC dX9_byTurns_9 (by decide) ?_
      refine g_iconst (pc := 10) (v := 1) hC dX9_byTurns_10 (by decide) ?_
      refine g_callSz (pc := 11) (As := [.int p2, .int 0, .int 1]) (rest := []) hC lk_RX9_102 (tX9_within _ _ σ p2 0 1) rfl rfl (Nat.le_of_ble_eq_true rfl) ⟨rfl, rfl, Nat.le_of_ble_eq_true rfl, Nat.le_of_ble_eq_true rfl⟩ dX9_byTurns_11 (fun r1 s2 => ?_)
      refine g_bif_ne (pc := 14) (tgt := 20) hC dX9_byTurns_14 (by decide) ?_ ?_
      · refine g_iload_n (pc := 20) (q := 1) hC dX9_byTurns_20 rfl rfl ?_
        refine g_bipush (pc := 21) (v := 10) hC dX9_byTurns_21 (by decide) ?_
        refine g_idivL (pc := 23) hC dX9_byTurns_23 (by decide) ?_
        refine g_istore (pc := 24) (lv' := fun v3 => [(4, .int v3), (0, .ref (G.2.1 0)), (1, .int p0), (2, .int p1), (3, .int p2)]) hC dX9_byTurns_24 (by decide) (fun _ => rfl) (fun v3 => ?_)
        refine g_iload_n (pc := 26) (q := 2) hC dX9_byTurns_26 rfl rfl ?_
        refine g_bipush (pc := 27) (v := 10) hC dX9_byTurns_27 (by decide) ?_
        refine g_iremL (pc := 29) hC dX9_byTurns_29 (by decide) ?_
        refine g_istore (pc := 30) (lv' := fun v4 => [(5, .int v4), (4, .int v3), (0, .ref (G.2.1 0)), (1, .int p0), (2, .int p1), (3, .int p2)]) hC dX9_byTurns_30 (by decide) (fun _ => rfl) (fun v4 => ?_)
        refine g_iload_n (pc := 32) (q := 4) hC dX9_byTurns_32 rfl rfl ?_
        refine g_bipush (pc := 33) (v := 10) hC dX9_byTurns_33 (by decide) ?_
        refine g_idivL (pc := 35) hC dX9_byTurns_35 (by decide) ?_
        refine g_istore (pc := 36) (lv' := fun v5 => [(6, .int v5), (5, .int v4), (4, .int v3), (0, .ref (G.2.1 0)), (1, .int p0), (2, .int p1), (3, .int p2)]) hC dX9_byTurns_36 (by decide) (fun _ => rfl) (fun v5 => ?_)
        refine g_iload_n (pc := 38) (q := 5) hC dX9_byTurns_38 rfl rfl ?_
        refine g_bipush (pc := 39) (v := 10) hC dX9_byTurns_39 (by decide) ?_
        refine g_iremL (pc := 41) hC dX9_byTurns_41 (by decide) ?_
        refine g_istore (pc := 42) (lv' := fun v6 => [(7, .int v6), (6, .int v5), (5, .int v4), (4, .int v3), (0, .ref (G.2.1 0)), (1, .int p0), (2, .int p1), (3, .int p2)]) hC dX9_byTurns_42 (by decide) (fun _ => rfl) (fun v6 => ?_)
        refine g_aload_n (pc := 44) (q := 4) hC dX9_byTurns_44 rfl rfl ?_
        refine g_get (pc := 45) (v := .ref (G.2.1 1)) hC kX9 rfl 0 (by decide) fl_RX9_10 rfl dX9_byTurns_45 ?_
        refine g_iload (pc := 48) (q := 3) hC dX9_byTurns_48 rfl ?_
        refine g_callVz (pc := 50) (As := [.int v3]) (rest := []) hC lk_RX9_162 kX8 rfl (tX8_hasFarm _ _ s2 v3) rfl rfl (Nat.le_of_ble_eq_true rfl) ⟨rfl, rfl, Nat.le_of_ble_eq_true rfl, Nat.le_of_ble_eq_true rfl⟩ dX9_byTurns_50 (fun r7 s8 => ?_)
        refine g_bif_eq (pc := 53) (tgt := 96) hC dX9_byTurns_53 (by decide) ?_ ?_
        · refine g_ldc (pc := 96) hC dX9_byTurns_96 cst_RX9_188 ?_
          exact g_iret (pc := 98) hC dX9_byTurns_98
        · refine g_aload_n (pc := 56) (q := 4) hC dX9_byTurns_56 rfl rfl ?_
          refine g_get (pc := 57) (v := .ref (G.2.1 1)) hC kX9 rfl 0 (by decide) fl_RX9_10 rfl dX9_byTurns_57 ?_
          refine g_iload (pc := 60) (q := 2) hC dX9_byTurns_60 rfl ?_
          refine g_callVz (pc := 62) (As := [.int v4]) (rest := []) hC lk_RX9_162 kX8 rfl (tX8_hasFarm _ _ s8 v4) rfl rfl (Nat.le_of_ble_eq_true rfl) ⟨rfl, rfl, Nat.le_of_ble_eq_true rfl, Nat.le_of_ble_eq_true rfl⟩ dX9_byTurns_62 (fun r9 s10 => ?_)
          refine g_bif_eq (pc := 65) (tgt := 96) hC dX9_byTurns_65 (by decide) ?_ ?_
          · refine g_ldc (pc := 96) hC dX9_byTurns_96 cst_RX9_188 ?_
            exact g_iret (pc := 98) hC dX9_byTurns_98
          · refine g_iload (pc := 68) (q := 3) hC dX9_byTurns_68 rfl ?_
            refine g_iload (pc := 70) (q := 2) hC dX9_byTurns_70 rfl ?_
            refine g_icmp_eq (pc := 72) (tgt := 96) hC dX9_byTurns_72 (by decide) ?_ ?_
            · refine g_ldc (pc := 96) hC dX9_byTurns_96 cst_RX9_188 ?_
              exact g_iret (pc := 98) hC dX9_byTurns_98
            · refine g_iload (pc := 75) (q := 1) hC dX9_byTurns_75 rfl ?_
              refine g_iconst (pc := 77) (v := 1) hC dX9_byTurns_77 (by decide) ?_
              refine g_bipush (pc := 78) (v := 24) hC dX9_byTurns_78 (by decide) ?_
              refine g_callSz (pc := 80) (As := [.int v5, .int 1, .int 24]) (rest := []) hC lk_RX9_102 (tX9_within _ _ s10 v5 1 24) rfl rfl (Nat.le_of_ble_eq_true rfl) ⟨rfl, rfl, Nat.le_of_ble_eq_true rfl, Nat.le_of_ble_eq_true rfl⟩ dX9_byTurns_80 (fun r11 s12 => ?_)
              refine g_bif_eq (pc := 83) (tgt := 96) hC dX9_byTurns_83 (by decide) ?_ ?_
              · refine g_ldc (pc := 96) hC dX9_byTurns_96 cst_RX9_188 ?_
                exact g_iret (pc := 98) hC dX9_byTurns_98
              · refine g_iload (pc := 86) (q := 0) hC dX9_byTurns_86 rfl ?_
                refine g_iconst (pc := 88) (v := 1) hC dX9_byTurns_88 (by decide) ?_
                refine g_iconst (pc := 89) (v := 5) hC dX9_byTurns_89 (by decide) ?_
                refine g_callSz (pc := 90) (As := [.int v6, .int 1, .int 5]) (rest := []) hC lk_RX9_102 (tX9_within _ _ s12 v6 1 5) rfl rfl (Nat.le_of_ble_eq_true rfl) ⟨rfl, rfl, Nat.le_of_ble_eq_true rfl, Nat.le_of_ble_eq_true rfl⟩ dX9_byTurns_90 (fun r13 s14 => ?_)
                refine g_bif_ne (pc := 93) (tgt := 99) hC dX9_byTurns_93 (by decide) ?_ ?_
                · refine g_aload_n (pc := 99) (q := 4) hC dX9_byTurns_99 rfl rfl ?_
                  refine g_get (pc := 100) (v := .ref (G.2.1 14)) hC kX9 rfl 4 (by decide) fl_RX9_36 rfl dX9_byTurns_100 ?_
                  refine g_iload (pc := 103) (q := 3) hC dX9_byTurns_103 rfl ?_
                  refine g_iload (pc := 105) (q := 2) hC dX9_byTurns_105 rfl ?_
                  refine g_iload (pc := 107) (q := 1) hC dX9_byTurns_107 rfl ?_
                  refine g_iload (pc := 109) (q := 0) hC dX9_byTurns_109 rfl ?_
                  refine g_callVv (pc := 111) (As := [.int v3, .int v4, .int v5, .int v6]) (rest := []) hC lk_RX9_272 kX4 rfl (tX4_beginTurns _ _ s14 v3 v4 v5 v6) rfl rfl (Nat.le_of_ble_eq_true rfl) ⟨rfl, rfl, Nat.le_of_ble_eq_true rfl, Nat.le_of_ble_eq_true rfl⟩ dX9_byTurns_111 (fun r15 s16 => ?_)
                  refine g_aload_n (pc := 114) (q := 4) hC dX9_byTurns_114 rfl rfl ?_
                  refine g_get (pc := 115) (v := .ref (G.2.1 8)) hC kX9 rfl 1 (by decide) fl_RX9_19 rfl dX9_byTurns_115 ?_
                  refine g_aload_n (pc := 118) (q := 4) hC dX9_byTurns_118 rfl rfl ?_
                  refine g_get (pc := 119) (v := .ref (G.2.1 8)) hC kX9 rfl 1 (by decide) fl_RX9_19 rfl dX9_byTurns_119 ?_
                  refine g_get (pc := 122) (v := .int (s16.1 8 4)) hC kX5 rfl 4 (by decide) fl_RX9_153 rfl dX9_byTurns_122 ?_
                  refine g_aload_n (pc := 125) (q := 4) hC dX9_byTurns_125 rfl rfl ?_
                  refine g_get (pc := 126) (v := .ref (G.2.1 8)) hC kX9 rfl 1 (by decide) fl_RX9_19 rfl dX9_byTurns_126 ?_
                  refine g_get (pc := 129) (v := .int (s16.1 8 0)) hC kX5 rfl 0 (by decide) fl_RX9_193 rfl dX9_byTurns_129 ?_
                  refine g_callVi (pc := 132) (As := [.int (s16.1 8 4), .int (s16.1 8 0)]) (rest := []) hC lk_RX9_275 kX5 rfl (tX5_atDawn _ _ s16 8 (s16.1 8 4) (s16.1 8 0)) rfl rfl (Nat.le_of_ble_eq_true rfl) ⟨rfl, rfl, Nat.le_of_ble_eq_true rfl, Nat.le_of_ble_eq_true rfl⟩ dX9_byTurns_132 (fun r17 s18 => ?_)
                  refine g_istore (pc := 135) (lv' := fun v19 => [(8, .int v19), (7, .int v6), (6, .int v5), (5, .int v4), (4, .int v3), (0, .ref (G.2.1 0)), (1, .int p0), (2, .int p1), (3, .int p2)]) hC dX9_byTurns_135 (by decide) (fun _ => rfl) (fun v19 => ?_)
                  refine g_aload_n (pc := 137) (q := 5) hC dX9_byTurns_137 rfl rfl ?_
                  refine g_iconst (pc := 138) (v := 0) hC dX9_byTurns_138 (by decide) ?_
                  refine g_iload (pc := 139) (q := 0) hC dX9_byTurns_139 rfl ?_
                  refine g_iconst (pc := 141) (v := 0) hC dX9_byTurns_141 (by decide) ?_
                  refine g_callVi (pc := 142) (As := [.int 0, .int v19, .int 0]) (rest := []) hC lk_RX9_278 kX9 rfl (tX9_afterTurn _ _ s18 0 v19 0) rfl rfl (Nat.le_of_ble_eq_true rfl) ⟨rfl, rfl, Nat.le_of_ble_eq_true rfl, Nat.le_of_ble_eq_true rfl⟩ dX9_byTurns_142 (fun r20 s21 => ?_)
                  refine g_istore (pc := 145) (lv' := fun v22 => [(9, .int v22), (8, .int v19), (7, .int v6), (6, .int v5), (5, .int v4), (4, .int v3), (0, .ref (G.2.1 0)), (1, .int p0), (2, .int p1), (3, .int p2)]) hC dX9_byTurns_145 (by decide) (fun _ => rfl) (fun v22 => ?_)
                  refine g_aload_n (pc := 147) (q := 6) hC dX9_byTurns_147 rfl rfl ?_
                  refine g_iconst (pc := 148) (v := 0) hC dX9_byTurns_148 (by decide) ?_
                  refine g_iload (pc := 149) (q := 1) hC dX9_byTurns_149 rfl ?_
                  refine g_iload (pc := 151) (q := 3) hC dX9_byTurns_151 rfl ?_
                  refine g_callVi (pc := 153) (As := [.int 0, .int v19, .int v5]) (rest := []) hC lk_RX9_278 kX9 rfl (tX9_afterTurn _ _ s21 0 v19 v5) rfl rfl (Nat.le_of_ble_eq_true rfl) ⟨rfl, rfl, Nat.le_of_ble_eq_true rfl, Nat.le_of_ble_eq_true rfl⟩ dX9_byTurns_153 (fun r23 s24 => ?_)
                  refine g_istore (pc := 156) (lv' := fun v25 => [(10, .int v25), (9, .int v22), (8, .int v19), (7, .int v6), (6, .int v5), (5, .int v4), (4, .int v3), (0, .ref (G.2.1 0)), (1, .int p0), (2, .int p1), (3, .int p2)]) hC dX9_byTurns_156 (by decide) (fun _ => rfl) (fun v25 => ?_)
                  refine g_iload_n (pc := 158) (q := 10) hC dX9_byTurns_158 rfl rfl ?_
                  refine g_if_ne (pc := 159) (tgt := 170) hC dX9_byTurns_159 (by decide) ?_ ?_
                  · refine g_iload (pc := 170) (q := 0) hC dX9_byTurns_170 rfl ?_
                    refine g_iload (pc := 172) (q := 1) hC dX9_byTurns_172 rfl ?_
                    refine g_icmp_le (pc := 174) (tgt := 181) hC dX9_byTurns_174 (by decide) ?_ ?_
                    · refine g_iconst (pc := 181) (v := 0) hC dX9_byTurns_181 (by decide) ?_
                      exact g_iret (pc := 182) hC dX9_byTurns_182
                    · refine g_iconst (pc := 177) (v := 1) hC dX9_byTurns_177 (by decide) ?_
                      refine g_goto (pc := 178) (tgt := 182) hC dX9_byTurns_178 (by decide) ?_
                      exact g_iret (pc := 182) hC dX9_byTurns_182
                  · refine g_iload (pc := 162) (q := 1) hC dX9_byTurns_162 rfl ?_
                    refine g_iload (pc := 164) (q := 0) hC dX9_byTurns_164 rfl ?_
                    refine g_max (pc := 166) hC mth_RX9_281 ⟨Nat.le_of_ble_eq_true rfl, Nat.le_of_ble_eq_true rfl⟩ (Nat.le_of_ble_eq_true rfl) dX9_byTurns_166 ?_
                    exact g_iret (pc := 169) hC dX9_byTurns_169
                · refine g_ldc (pc := 96) hC dX9_byTurns_96 cst_RX9_188 ?_
                  exact g_iret (pc := 98) hC dX9_byTurns_98
      · refine g_ldc (pc := 17) hC dX9_byTurns_17 cst_RX9_188 ?_
        exact g_iret (pc := 19) hC dX9_byTurns_19
theorem lk_RX2_49 : gLV RX2 49 RX2 yX2_from cX2_from 8 (some .int) 4 := ⟨(gBig_tab 969 (by decide +kernel) (by decide +kernel)), (gBig_tab 971 (by decide +kernel) (by decide +kernel)), (gBig_sel 39 (by decide +kernel) (by decide +kernel)), (gBig_tab 9 (by decide +kernel) (by decide +kernel)), (gBig_tab 972 (by decide +kernel) (by decide +kernel)), rfl, by decide +kernel, by decide +kernel, by decide +kernel⟩
theorem dX2_own_0 : decode cX2_own 0 = .ok (.aload_n 0, 1) := by decide +kernel
theorem dX2_own_1 : decode cX2_own 1 = .ok (.aload_n 0, 1) := by decide +kernel
theorem dX2_own_2 : decode cX2_own 2 = .ok (.aload_n 0, 1) := by decide +kernel
theorem dX2_own_3 : decode cX2_own 3 = .ok (.getfield 25, 3) := by decide +kernel
theorem dX2_own_6 : decode cX2_own 6 = .ok (.invokevirtual 32, 3) := by decide +kernel
theorem dX2_own_9 : decode cX2_own 9 = .ok (.iload_n 1, 1) := by decide +kernel
theorem dX2_own_10 : decode cX2_own 10 = .ok (.iload_n 2, 1) := by decide +kernel
theorem dX2_own_11 : decode cX2_own 11 = .ok (.iload_n 3, 1) := by decide +kernel
theorem dX2_own_12 : decode cX2_own 12 = .ok (.invokevirtual 49, 3) := by decide +kernel
theorem dX2_own_15 : decode cX2_own 15 = .ok (.ireturn, 1) := by decide +kernel
theorem dX2_above_0 : decode cX2_above 0 = .ok (.iload_n 1, 1) := by decide +kernel
theorem dX2_above_1 : decode cX2_above 1 = .ok (.ifCond .lt 25, 3) := by decide +kernel
theorem dX2_above_4 : decode cX2_above 4 = .ok (.iload_n 1, 1) := by decide +kernel
theorem dX2_above_5 : decode cX2_above 5 = .ok (.bipush 8, 2) := by decide +kernel
theorem dX2_above_7 : decode cX2_above 7 = .ok (.if_icmp .ge 19, 3) := by decide +kernel
theorem dX2_above_10 : decode cX2_above 10 = .ok (.aload_n 0, 1) := by decide +kernel
theorem dX2_above_11 : decode cX2_above 11 = .ok (.getstatic 36, 3) := by decide +kernel
theorem dX2_above_14 : decode cX2_above 14 = .ok (.iload_n 1, 1) := by decide +kernel
theorem dX2_above_15 : decode cX2_above 15 = .ok (.iaload, 1) := by decide +kernel
theorem dX2_above_16 : decode cX2_above 16 = .ok (.iload_n 2, 1) := by decide +kernel
theorem dX2_above_17 : decode cX2_above 17 = .ok (.iload_n 3, 1) := by decide +kernel
theorem dX2_above_18 : decode cX2_above 18 = .ok (.iload 4, 2) := by decide +kernel
theorem dX2_above_20 : decode cX2_above 20 = .ok (.invokevirtual 49, 3) := by decide +kernel
theorem dX2_above_23 : decode cX2_above 23 = .ok (.goto 4, 3) := by decide +kernel
theorem dX2_above_26 : decode cX2_above 26 = .ok (.iconst 0, 1) := by decide +kernel
theorem dX2_above_27 : decode cX2_above 27 = .ok (.ireturn, 1) := by decide +kernel
theorem fl_RX2_53 : Cond.fieldLink RX2 53 "WinterShed$Frosts" "OWN_BODY" "[I" ∈ gBig := (gBig_tab 973 (by decide +kernel) (by decide +kernel))
theorem lk_RX2_56 : gLV RX2 56 RX2 yX2_perform cX2_perform 5 (some .int) 4 := ⟨(gBig_tab 975 (by decide +kernel) (by decide +kernel)), (gBig_tab 977 (by decide +kernel) (by decide +kernel)), (gBig_sel 40 (by decide +kernel) (by decide +kernel)), (gBig_tab 9 (by decide +kernel) (by decide +kernel)), (gBig_tab 978 (by decide +kernel) (by decide +kernel)), rfl, by decide +kernel, by decide +kernel, by decide +kernel⟩
theorem dX2_from_0 : decode cX2_from 0 = .ok (.iload_n 1, 1) := by decide +kernel
theorem dX2_from_1 : decode cX2_from 1 = .ok (.istore 5, 2) := by decide +kernel
theorem dX2_from_3 : decode cX2_from 3 = .ok (.iconst 0, 1) := by decide +kernel
theorem dX2_from_4 : decode cX2_from 4 = .ok (.istore 6, 2) := by decide +kernel
theorem dX2_from_6 : decode cX2_from 6 = .ok (.iload 6, 2) := by decide +kernel
theorem dX2_from_8 : decode cX2_from 8 = .ok (.bipush 8, 2) := by decide +kernel
theorem dX2_from_10 : decode cX2_from 10 = .ok (.if_icmp .ge 64, 3) := by decide +kernel
theorem dX2_from_13 : decode cX2_from 13 = .ok (.iload 5, 2) := by decide +kernel
theorem dX2_from_15 : decode cX2_from 15 = .ok (.ifCond .lt 59, 3) := by decide +kernel
theorem dX2_from_18 : decode cX2_from 18 = .ok (.getstatic 53, 3) := by decide +kernel
theorem dX2_from_21 : decode cX2_from 21 = .ok (.iload 5, 2) := by decide +kernel
theorem dX2_from_23 : decode cX2_from 23 = .ok (.iconst 4, 1) := by decide +kernel
theorem dX2_from_24 : decode cX2_from 24 = .ok (.imul, 1) := by decide +kernel
theorem dX2_from_25 : decode cX2_from 25 = .ok (.iload_n 2, 1) := by decide +kernel
theorem dX2_from_26 : decode cX2_from 26 = .ok (.iadd, 1) := by decide +kernel
theorem dX2_from_27 : decode cX2_from 27 = .ok (.iaload, 1) := by decide +kernel
theorem dX2_from_28 : decode cX2_from 28 = .ok (.istore 7, 2) := by decide +kernel
theorem dX2_from_30 : decode cX2_from 30 = .ok (.iload 7, 2) := by decide +kernel
theorem dX2_from_32 : decode cX2_from 32 = .ok (.ifCond .eq 28, 3) := by decide +kernel
theorem dX2_from_35 : decode cX2_from 35 = .ok (.iload 4, 2) := by decide +kernel
theorem dX2_from_37 : decode cX2_from 37 = .ok (.bipush 40, 2) := by decide +kernel
theorem dX2_from_39 : decode cX2_from 39 = .ok (.if_icmp .ge 19, 3) := by decide +kernel
theorem dX2_from_42 : decode cX2_from 42 = .ok (.aload_n 0, 1) := by decide +kernel
theorem dX2_from_43 : decode cX2_from 43 = .ok (.iload 7, 2) := by decide +kernel
theorem dX2_from_45 : decode cX2_from 45 = .ok (.iload 5, 2) := by decide +kernel
theorem dX2_from_47 : decode cX2_from 47 = .ok (.iload_n 3, 1) := by decide +kernel
theorem dX2_from_48 : decode cX2_from 48 = .ok (.iload 4, 2) := by decide +kernel
theorem dX2_from_50 : decode cX2_from 50 = .ok (.iconst 1, 1) := by decide +kernel
theorem dX2_from_51 : decode cX2_from 51 = .ok (.iadd, 1) := by decide +kernel
theorem dX2_from_52 : decode cX2_from 52 = .ok (.invokevirtual 56, 3) := by decide +kernel
theorem dX2_from_55 : decode cX2_from 55 = .ok (.goto 4, 3) := by decide +kernel
theorem dX2_from_58 : decode cX2_from 58 = .ok (.iconst 0, 1) := by decide +kernel
theorem dX2_from_59 : decode cX2_from 59 = .ok (.ireturn, 1) := by decide +kernel
theorem dX2_from_60 : decode cX2_from 60 = .ok (.getstatic 36, 3) := by decide +kernel
theorem dX2_from_63 : decode cX2_from 63 = .ok (.iload 5, 2) := by decide +kernel
theorem dX2_from_65 : decode cX2_from 65 = .ok (.iaload, 1) := by decide +kernel
theorem dX2_from_66 : decode cX2_from 66 = .ok (.istore 5, 2) := by decide +kernel
theorem dX2_from_68 : decode cX2_from 68 = .ok (.iinc 6 1, 3) := by decide +kernel
theorem dX2_from_71 : decode cX2_from 71 = .ok (.goto (-65), 3) := by decide +kernel
theorem dX2_from_74 : decode cX2_from 74 = .ok (.iconst 0, 1) := by decide +kernel
theorem dX2_from_75 : decode cX2_from 75 = .ok (.ireturn, 1) := by decide +kernel
theorem lk_RX2_45 : gLV RX2 45 RX2 yX2_own cX2_own 4 (some .int) 3 := ⟨(gBig_tab 961 (by decide +kernel) (by decide +kernel)), (gBig_tab 963 (by decide +kernel) (by decide +kernel)), (gBig_sel 38 (by decide +kernel) (by decide +kernel)), (gBig_tab 9 (by decide +kernel) (by decide +kernel)), (gBig_tab 964 (by decide +kernel) (by decide +kernel)), rfl, by decide +kernel, by decide +kernel, by decide +kernel⟩
theorem lk_RX2_63 : gLV RX2 63 RX2 yX2_above cX2_above 5 (some .int) 4 := ⟨(gBig_tab 983 (by decide +kernel) (by decide +kernel)), (gBig_tab 985 (by decide +kernel) (by decide +kernel)), (gBig_sel 42 (by decide +kernel) (by decide +kernel)), (gBig_tab 9 (by decide +kernel) (by decide +kernel)), (gBig_tab 986 (by decide +kernel) (by decide +kernel)), rfl, by decide +kernel, by decide +kernel, by decide +kernel⟩
theorem lk_RX2_59 : gLV RX2 59 RX2 yX2_leaveTrace cX2_leaveTrace 2 (none) 1 := ⟨(gBig_tab 979 (by decide +kernel) (by decide +kernel)), (gBig_tab 981 (by decide +kernel) (by decide +kernel)), (gBig_sel 41 (by decide +kernel) (by decide +kernel)), (gBig_tab 9 (by decide +kernel) (by decide +kernel)), (gBig_tab 982 (by decide +kernel) (by decide +kernel)), rfl, by decide +kernel, by decide +kernel, by decide +kernel⟩
theorem dX2_perform_0 : decode cX2_perform 0 = .ok (.aload_n 0, 1) := by decide +kernel
theorem dX2_perform_1 : decode cX2_perform 1 = .ok (.iload_n 1, 1) := by decide +kernel
theorem dX2_perform_2 : decode cX2_perform 2 = .ok (.invokevirtual 59, 3) := by decide +kernel
theorem dX2_perform_5 : decode cX2_perform 5 = .ok (.iload_n 1, 1) := by decide +kernel
theorem dX2_perform_6 : decode cX2_perform 6 = .ok (.lookupswitch 278 #[(1, 114), (2, 121), (10, 139), (11, 150), (20, 157), (30, 169), (40, 180), (41, 192), (50, 204), (60, 223), (70, 235), (80, 247), (81, 266)], 114) := by decide +kernel
theorem dX2_perform_120 : decode cX2_perform 120 = .ok (.iload_n 3, 1) := by decide +kernel
theorem dX2_perform_121 : decode cX2_perform 121 = .ok (.aload_n 0, 1) := by decide +kernel
theorem dX2_perform_122 : decode cX2_perform 122 = .ok (.getfield 25, 3) := by decide +kernel
theorem dX2_perform_125 : decode cX2_perform 125 = .ok (.iadd, 1) := by decide +kernel
theorem dX2_perform_126 : decode cX2_perform 126 = .ok (.ireturn, 1) := by decide +kernel
theorem dX2_perform_127 : decode cX2_perform 127 = .ok (.aload_n 0, 1) := by decide +kernel
theorem dX2_perform_128 : decode cX2_perform 128 = .ok (.iconst 1, 1) := by decide +kernel
theorem dX2_perform_129 : decode cX2_perform 129 = .ok (.iload_n 3, 1) := by decide +kernel
theorem dX2_perform_130 : decode cX2_perform 130 = .ok (.iload 4, 2) := by decide +kernel
theorem dX2_perform_132 : decode cX2_perform 132 = .ok (.invokevirtual 45, 3) := by decide +kernel
theorem dX2_perform_135 : decode cX2_perform 135 = .ok (.aload_n 0, 1) := by decide +kernel
theorem dX2_perform_136 : decode cX2_perform 136 = .ok (.iconst 2, 1) := by decide +kernel
theorem dX2_perform_137 : decode cX2_perform 137 = .ok (.iconst 1, 1) := by decide +kernel
theorem dX2_perform_138 : decode cX2_perform 138 = .ok (.iload 4, 2) := by decide +kernel
theorem dX2_perform_140 : decode cX2_perform 140 = .ok (.invokevirtual 45, 3) := by decide +kernel
theorem dX2_perform_143 : decode cX2_perform 143 = .ok (.isub, 1) := by decide +kernel
theorem dX2_perform_144 : decode cX2_perform 144 = .ok (.ireturn, 1) := by decide +kernel
theorem dX2_perform_145 : decode cX2_perform 145 = .ok (.aload_n 0, 1) := by decide +kernel
theorem dX2_perform_146 : decode cX2_perform 146 = .ok (.iconst 0, 1) := by decide +kernel
theorem dX2_perform_147 : decode cX2_perform 147 = .ok (.iload_n 3, 1) := by decide +kernel
theorem dX2_perform_148 : decode cX2_perform 148 = .ok (.iload 4, 2) := by decide +kernel
theorem dX2_perform_150 : decode cX2_perform 150 = .ok (.invokevirtual 45, 3) := by decide +kernel
theorem dX2_perform_153 : decode cX2_perform 153 = .ok (.iconst 2, 1) := by decide +kernel
theorem dX2_perform_154 : decode cX2_perform 154 = .ok (.imul, 1) := by decide +kernel
theorem dX2_perform_155 : decode cX2_perform 155 = .ok (.ireturn, 1) := by decide +kernel
theorem dX2_perform_156 : decode cX2_perform 156 = .ok (.iload_n 3, 1) := by decide +kernel
theorem dX2_perform_157 : decode cX2_perform 157 = .ok (.aload_n 0, 1) := by decide +kernel
theorem dX2_perform_158 : decode cX2_perform 158 = .ok (.getfield 25, 3) := by decide +kernel
theorem dX2_perform_161 : decode cX2_perform 161 = .ok (.ixor, 1) := by decide +kernel
theorem dX2_perform_162 : decode cX2_perform 162 = .ok (.ireturn, 1) := by decide +kernel
theorem dX2_perform_163 : decode cX2_perform 163 = .ok (.aload_n 0, 1) := by decide +kernel
theorem dX2_perform_164 : decode cX2_perform 164 = .ok (.iload_n 2, 1) := by decide +kernel
theorem dX2_perform_165 : decode cX2_perform 165 = .ok (.iconst 0, 1) := by decide +kernel
theorem dX2_perform_166 : decode cX2_perform 166 = .ok (.iload_n 3, 1) := by decide +kernel
theorem dX2_perform_167 : decode cX2_perform 167 = .ok (.iload 4, 2) := by decide +kernel
theorem dX2_perform_169 : decode cX2_perform 169 = .ok (.invokevirtual 63, 3) := by decide +kernel
theorem dX2_perform_172 : decode cX2_perform 172 = .ok (.iconst 3, 1) := by decide +kernel
theorem dX2_perform_173 : decode cX2_perform 173 = .ok (.iadd, 1) := by decide +kernel
theorem dX2_perform_174 : decode cX2_perform 174 = .ok (.ireturn, 1) := by decide +kernel
theorem dX2_perform_175 : decode cX2_perform 175 = .ok (.aload_n 0, 1) := by decide +kernel
theorem dX2_perform_176 : decode cX2_perform 176 = .ok (.iload_n 2, 1) := by decide +kernel
theorem dX2_perform_177 : decode cX2_perform 177 = .ok (.iconst 1, 1) := by decide +kernel
theorem dX2_perform_178 : decode cX2_perform 178 = .ok (.iload_n 3, 1) := by decide +kernel
theorem dX2_perform_179 : decode cX2_perform 179 = .ok (.iload 4, 2) := by decide +kernel
theorem dX2_perform_181 : decode cX2_perform 181 = .ok (.invokevirtual 63, 3) := by decide +kernel
theorem dX2_perform_184 : decode cX2_perform 184 = .ok (.ineg, 1) := by decide +kernel
theorem dX2_perform_185 : decode cX2_perform 185 = .ok (.ireturn, 1) := by decide +kernel
theorem dX2_perform_186 : decode cX2_perform 186 = .ok (.aload_n 0, 1) := by decide +kernel
theorem dX2_perform_187 : decode cX2_perform 187 = .ok (.iload_n 2, 1) := by decide +kernel
theorem dX2_perform_188 : decode cX2_perform 188 = .ok (.iconst 2, 1) := by decide +kernel
theorem dX2_perform_189 : decode cX2_perform 189 = .ok (.iload_n 3, 1) := by decide +kernel
theorem dX2_perform_190 : decode cX2_perform 190 = .ok (.iload 4, 2) := by decide +kernel
theorem dX2_perform_192 : decode cX2_perform 192 = .ok (.invokevirtual 63, 3) := by decide +kernel
theorem dX2_perform_195 : decode cX2_perform 195 = .ok (.iconst 3, 1) := by decide +kernel
theorem dX2_perform_196 : decode cX2_perform 196 = .ok (.imul, 1) := by decide +kernel
theorem dX2_perform_197 : decode cX2_perform 197 = .ok (.ireturn, 1) := by decide +kernel
theorem dX2_perform_198 : decode cX2_perform 198 = .ok (.aload_n 0, 1) := by decide +kernel
theorem dX2_perform_199 : decode cX2_perform 199 = .ok (.iload_n 2, 1) := by decide +kernel
theorem dX2_perform_200 : decode cX2_perform 200 = .ok (.iconst 1, 1) := by decide +kernel
theorem dX2_perform_201 : decode cX2_perform 201 = .ok (.iload_n 3, 1) := by decide +kernel
theorem dX2_perform_202 : decode cX2_perform 202 = .ok (.iconst 1, 1) := by decide +kernel
theorem dX2_perform_203 : decode cX2_perform 203 = .ok (.iadd, 1) := by decide +kernel
theorem dX2_perform_204 : decode cX2_perform 204 = .ok (.iload 4, 2) := by decide +kernel
theorem dX2_perform_206 : decode cX2_perform 206 = .ok (.invokevirtual 63, 3) := by decide +kernel
theorem dX2_perform_209 : decode cX2_perform 209 = .ok (.ireturn, 1) := by decide +kernel
theorem dX2_perform_210 : decode cX2_perform 210 = .ok (.aload_n 0, 1) := by decide +kernel
theorem dX2_perform_211 : decode cX2_perform 211 = .ok (.iload_n 2, 1) := by decide +kernel
theorem dX2_perform_212 : decode cX2_perform 212 = .ok (.iconst 2, 1) := by decide +kernel
theorem dX2_perform_213 : decode cX2_perform 213 = .ok (.iload_n 3, 1) := by decide +kernel
theorem dX2_perform_214 : decode cX2_perform 214 = .ok (.iload 4, 2) := by decide +kernel
theorem dX2_perform_216 : decode cX2_perform 216 = .ok (.invokevirtual 63, 3) := by decide +kernel
theorem dX2_perform_219 : decode cX2_perform 219 = .ok (.aload_n 0, 1) := by decide +kernel
theorem dX2_perform_220 : decode cX2_perform 220 = .ok (.iconst 0, 1) := by decide +kernel
theorem dX2_perform_221 : decode cX2_perform 221 = .ok (.iconst 2, 1) := by decide +kernel
theorem dX2_perform_222 : decode cX2_perform 222 = .ok (.iload 4, 2) := by decide +kernel
theorem dX2_perform_224 : decode cX2_perform 224 = .ok (.invokevirtual 45, 3) := by decide +kernel
theorem dX2_perform_227 : decode cX2_perform 227 = .ok (.isub, 1) := by decide +kernel
theorem dX2_perform_228 : decode cX2_perform 228 = .ok (.ireturn, 1) := by decide +kernel
theorem dX2_perform_229 : decode cX2_perform 229 = .ok (.aload_n 0, 1) := by decide +kernel
theorem dX2_perform_230 : decode cX2_perform 230 = .ok (.iload_n 2, 1) := by decide +kernel
theorem dX2_perform_231 : decode cX2_perform 231 = .ok (.iconst 3, 1) := by decide +kernel
theorem dX2_perform_232 : decode cX2_perform 232 = .ok (.iload_n 3, 1) := by decide +kernel
theorem dX2_perform_233 : decode cX2_perform 233 = .ok (.iload 4, 2) := by decide +kernel
theorem dX2_perform_235 : decode cX2_perform 235 = .ok (.invokevirtual 63, 3) := by decide +kernel
theorem dX2_perform_238 : decode cX2_perform 238 = .ok (.iconst 5, 1) := by decide +kernel
theorem dX2_perform_239 : decode cX2_perform 239 = .ok (.ixor, 1) := by decide +kernel
theorem dX2_perform_240 : decode cX2_perform 240 = .ok (.ireturn, 1) := by decide +kernel
theorem dX2_perform_241 : decode cX2_perform 241 = .ok (.aload_n 0, 1) := by decide +kernel
theorem dX2_perform_242 : decode cX2_perform 242 = .ok (.iload_n 2, 1) := by decide +kernel
theorem dX2_perform_243 : decode cX2_perform 243 = .ok (.iconst 0, 1) := by decide +kernel
theorem dX2_perform_244 : decode cX2_perform 244 = .ok (.iload_n 3, 1) := by decide +kernel
theorem dX2_perform_245 : decode cX2_perform 245 = .ok (.iload 4, 2) := by decide +kernel
theorem dX2_perform_247 : decode cX2_perform 247 = .ok (.invokevirtual 63, 3) := by decide +kernel
theorem dX2_perform_250 : decode cX2_perform 250 = .ok (.iconst 2, 1) := by decide +kernel
theorem dX2_perform_251 : decode cX2_perform 251 = .ok (.imul, 1) := by decide +kernel
theorem dX2_perform_252 : decode cX2_perform 252 = .ok (.ireturn, 1) := by decide +kernel
theorem dX2_perform_253 : decode cX2_perform 253 = .ok (.aload_n 0, 1) := by decide +kernel
theorem dX2_perform_254 : decode cX2_perform 254 = .ok (.iload_n 2, 1) := by decide +kernel
theorem dX2_perform_255 : decode cX2_perform 255 = .ok (.iconst 1, 1) := by decide +kernel
theorem dX2_perform_256 : decode cX2_perform 256 = .ok (.iload_n 3, 1) := by decide +kernel
theorem dX2_perform_257 : decode cX2_perform 257 = .ok (.iload 4, 2) := by decide +kernel
theorem dX2_perform_259 : decode cX2_perform 259 = .ok (.invokevirtual 63, 3) := by decide +kernel
theorem dX2_perform_262 : decode cX2_perform 262 = .ok (.aload_n 0, 1) := by decide +kernel
theorem dX2_perform_263 : decode cX2_perform 263 = .ok (.iconst 2, 1) := by decide +kernel
theorem dX2_perform_264 : decode cX2_perform 264 = .ok (.iconst 2, 1) := by decide +kernel
theorem dX2_perform_265 : decode cX2_perform 265 = .ok (.iload 4, 2) := by decide +kernel
theorem dX2_perform_267 : decode cX2_perform 267 = .ok (.invokevirtual 45, 3) := by decide +kernel
theorem dX2_perform_270 : decode cX2_perform 270 = .ok (.iadd, 1) := by decide +kernel
theorem dX2_perform_271 : decode cX2_perform 271 = .ok (.ireturn, 1) := by decide +kernel
theorem dX2_perform_272 : decode cX2_perform 272 = .ok (.aload_n 0, 1) := by decide +kernel
theorem dX2_perform_273 : decode cX2_perform 273 = .ok (.iload_n 2, 1) := by decide +kernel
theorem dX2_perform_274 : decode cX2_perform 274 = .ok (.iconst 3, 1) := by decide +kernel
theorem dX2_perform_275 : decode cX2_perform 275 = .ok (.iload_n 3, 1) := by decide +kernel
theorem dX2_perform_276 : decode cX2_perform 276 = .ok (.iload 4, 2) := by decide +kernel
theorem dX2_perform_278 : decode cX2_perform 278 = .ok (.invokevirtual 63, 3) := by decide +kernel
theorem dX2_perform_281 : decode cX2_perform 281 = .ok (.iconst 1, 1) := by decide +kernel
theorem dX2_perform_282 : decode cX2_perform 282 = .ok (.isub, 1) := by decide +kernel
theorem dX2_perform_283 : decode cX2_perform 283 = .ok (.ireturn, 1) := by decide +kernel
theorem dX2_perform_284 : decode cX2_perform 284 = .ok (.iconst 0, 1) := by decide +kernel
theorem dX2_perform_285 : decode cX2_perform 285 = .ok (.ireturn, 1) := by decide +kernel
abbrev rrX2_own (d : Nat) : Room := { frames := 2 + d, cells := 0, slots := 0, locals := 42 + 27 * d }
abbrev rrX2_above (d : Nat) : Room := { frames := 2 + d, cells := 0, slots := 0, locals := 42 + 27 * d }
abbrev rrX2_from (d : Nat) : Room := { frames := 2 + d, cells := 0, slots := 0, locals := 42 + 27 * d }
abbrev rrX2_perform (d : Nat) : Room := { frames := 2 + d, cells := 0, slots := 0, locals := 42 + 27 * d }
def mrX2_own (rec : ((gS → Int32 → Int32 → Int32 → Option (Int32 × gS)) × (gS → Int32 → Int32 → Int32 → Int32 → Option (Int32 × gS)) × (gS → Int32 → Int32 → Int32 → Int32 → Option (Int32 × gS)) × (gS → Int32 → Int32 → Int32 → Int32 → Option (Int32 × gS)))) (σ : gS) (p0 : Int32) (p1 : Int32) (p2 : Int32) : Option (Int32 × gS) := gBind (mX2_kindOf σ (σ.1 36 4)) (fun r1 s2 => gBind (rec.2.2.1 s2 r1 p0 p1 p2) (fun r3 s4 => some (r3, s4)))
set_option maxHeartbeats 4000000 in
set_option maxRecDepth 100000 in
theorem trX2_own {l : Launch} {G : gE} {d : Nat} {rec : ((gS → Int32 → Int32 → Int32 → Option (Int32 × gS)) × (gS → Int32 → Int32 → Int32 → Int32 → Option (Int32 × gS)) × (gS → Int32 → Int32 → Int32 → Int32 → Option (Int32 × gS)) × (gS → Int32 → Int32 → Int32 → Int32 → Option (Int32 × gS)))} (hrec : (∀ (σ : gS) (p0 : Int32) (p1 : Int32) (p2 : Int32), gM l G yX2_own cX2_own 4 (some .int) (rrX2_own d) iI [.ref (G.2.1 36), .int p0, .int p1, .int p2] σ (rec.1 σ p0 p1 p2)) ∧ (∀ (σ : gS) (p0 : Int32) (p1 : Int32) (p2 : Int32) (p3 : Int32), gM l G yX2_above cX2_above 5 (some .int) (rrX2_above d) iI [.ref (G.2.1 36), .int p0, .int p1, .int p2, .int p3] σ (rec.2.1 σ p0 p1 p2 p3)) ∧ (∀ (σ : gS) (p0 : Int32) (p1 : Int32) (p2 : Int32) (p3 : Int32), gM l G yX2_from cX2_from 8 (some .int) (rrX2_from d) iI [.ref (G.2.1 36), .int p0, .int p1, .int p2, .int p3] σ (rec.2.2.1 σ p0 p1 p2 p3)) ∧ (∀ (σ : gS) (p0 : Int32) (p1 : Int32) (p2 : Int32) (p3 : Int32), gM l G yX2_perform cX2_perform 5 (some .int) (rrX2_perform d) iI [.ref (G.2.1 36), .int p0, .int p1, .int p2, .int p3] σ (rec.2.2.2 σ p0 p1 p2 p3))) : ∀ (σ : gS) (p0 : Int32) (p1 : Int32) (p2 : Int32), gM l G yX2_own cX2_own 4 (some .int) (rrX2_own (d + 1)) iI [.ref (G.2.1 36), .int p0, .int p1, .int p2] σ (mrX2_own rec σ p0 p1 p2) := by
  intro σ p0 p1 p2
  refine gM_of (by decide) (Nat.le_of_ble_eq_true rfl) ?_
  intro p e s m args below meth c hC
  unfold mrX2_own
  show gT p l e (rrX2_own (d + 1)) s m args below meth c G 4 iI σ 0 [(0, .ref (G.2.1 36)), (1, .int p0), (2, .int p1), (3, .int p2)] [] _
  refine g_aload_n (pc := 0) (q := 0) hC dX2_own_0 rfl rfl ?_
  refine g_aload_n (pc := 1) (q := 0) hC dX2_own_1 rfl rfl ?_
  refine g_aload_n (pc := 2) (q := 0) hC dX2_own_2 rfl rfl ?_
  refine g_get (pc := 3) (v := .int (σ.1 36 4)) hC kX2 rfl 4 (by decide) fl_RX2_25 rfl dX2_own_3 ?_
  refine g_callVi (pc := 6) (As := [.int (σ.1 36 4)]) (rest := [.ref (G.2.1 36)]) hC lk_RX2_32 kX2 rfl (tX2_kindOf _ _ σ (σ.1 36 4)) rfl rfl (Nat.le_of_ble_eq_true rfl) ⟨rfl, rfl, by simp only [rrX2_own] <;> omega, by simp only [rrX2_own] <;> omega⟩ dX2_own_6 (fun r1 s2 => ?_)
  refine g_iload_n (pc := 9) (q := 1) hC dX2_own_9 rfl rfl ?_
  refine g_iload_n (pc := 10) (q := 2) hC dX2_own_10 rfl rfl ?_
  refine g_iload_n (pc := 11) (q := 3) hC dX2_own_11 rfl rfl ?_
  refine g_callVi (pc := 12) (As := [.int r1, .int p0, .int p1, .int p2]) (rest := []) hC lk_RX2_49 kX2 rfl (hrec.2.2.1 s2 r1 p0 p1 p2) rfl rfl (Nat.le_of_ble_eq_true rfl) ⟨rfl, rfl, by simp only [rrX2_from, rrX2_own] <;> omega, by simp only [rrX2_from, rrX2_own] <;> omega⟩ dX2_own_12 (fun r3 s4 => ?_)
  exact g_iret (pc := 15) hC dX2_own_15
def mrX2_above (rec : ((gS → Int32 → Int32 → Int32 → Option (Int32 × gS)) × (gS → Int32 → Int32 → Int32 → Int32 → Option (Int32 × gS)) × (gS → Int32 → Int32 → Int32 → Int32 → Option (Int32 × gS)) × (gS → Int32 → Int32 → Int32 → Int32 → Option (Int32 × gS)))) (σ : gS) (p0 : Int32) (p1 : Int32) (p2 : Int32) (p3 : Int32) : Option (Int32 × gS) := if p0 < 0 then (some (0, σ)) else (if 8 ≤ p0 then (some (0, σ)) else (if inbB p0 8 = true then (gBind (rec.2.2.1 σ (gTb 2 (Int32.toNatClampNeg p0)) p1 p2 p3) (fun r1 s2 => some (r1, s2))) else none))
set_option maxHeartbeats 4000000 in
set_option maxRecDepth 100000 in
theorem trX2_above {l : Launch} {G : gE} {d : Nat} {rec : ((gS → Int32 → Int32 → Int32 → Option (Int32 × gS)) × (gS → Int32 → Int32 → Int32 → Int32 → Option (Int32 × gS)) × (gS → Int32 → Int32 → Int32 → Int32 → Option (Int32 × gS)) × (gS → Int32 → Int32 → Int32 → Int32 → Option (Int32 × gS)))} (hrec : (∀ (σ : gS) (p0 : Int32) (p1 : Int32) (p2 : Int32), gM l G yX2_own cX2_own 4 (some .int) (rrX2_own d) iI [.ref (G.2.1 36), .int p0, .int p1, .int p2] σ (rec.1 σ p0 p1 p2)) ∧ (∀ (σ : gS) (p0 : Int32) (p1 : Int32) (p2 : Int32) (p3 : Int32), gM l G yX2_above cX2_above 5 (some .int) (rrX2_above d) iI [.ref (G.2.1 36), .int p0, .int p1, .int p2, .int p3] σ (rec.2.1 σ p0 p1 p2 p3)) ∧ (∀ (σ : gS) (p0 : Int32) (p1 : Int32) (p2 : Int32) (p3 : Int32), gM l G yX2_from cX2_from 8 (some .int) (rrX2_from d) iI [.ref (G.2.1 36), .int p0, .int p1, .int p2, .int p3] σ (rec.2.2.1 σ p0 p1 p2 p3)) ∧ (∀ (σ : gS) (p0 : Int32) (p1 : Int32) (p2 : Int32) (p3 : Int32), gM l G yX2_perform cX2_perform 5 (some .int) (rrX2_perform d) iI [.ref (G.2.1 36), .int p0, .int p1, .int p2, .int p3] σ (rec.2.2.2 σ p0 p1 p2 p3))) : ∀ (σ : gS) (p0 : Int32) (p1 : Int32) (p2 : Int32) (p3 : Int32), gM l G yX2_above cX2_above 5 (some .int) (rrX2_above (d + 1)) iI [.ref (G.2.1 36), .int p0, .int p1, .int p2, .int p3] σ (mrX2_above rec σ p0 p1 p2 p3) := by
  intro σ p0 p1 p2 p3
  refine gM_of (by decide) (Nat.le_of_ble_eq_true rfl) ?_
  intro p e s m args below meth c hC
  unfold mrX2_above
  show gT p l e (rrX2_above (d + 1)) s m args below meth c G 5 iI σ 0 [(0, .ref (G.2.1 36)), (1, .int p0), (2, .int p1), (3, .int p2), (4, .int p3)] [] _
  refine g_iload_n (pc := 0) (q := 1) hC dX2_above_0 rfl rfl ?_
  refine g_if_lt (pc := 1) (tgt := 26) hC dX2_above_1 (by decide) ?_ ?_
  · refine g_iconst (pc := 26) (v := 0) hC dX2_above_26 (by decide) ?_
    exact g_iret (pc := 27) hC dX2_above_27
  · refine g_iload_n (pc := 4) (q := 1) hC dX2_above_4 rfl rfl ?_
    refine g_bipush (pc := 5) (v := 8) hC dX2_above_5 (by decide) ?_
    refine g_icmp_ge (pc := 7) (tgt := 26) hC dX2_above_7 (by decide) ?_ ?_
    · refine g_iconst (pc := 26) (v := 0) hC dX2_above_26 (by decide) ?_
      exact g_iret (pc := 27) hC dX2_above_27
    · refine g_aload_n (pc := 10) (q := 0) hC dX2_above_10 rfl rfl ?_
      refine g_gets (pc := 11) hC hC.2.2.2.2.2.2.2.1.2.2.2.2.1 fl_RX2_36 dX2_above_11 ?_
      refine g_iload_n (pc := 14) (q := 1) hC dX2_above_14 rfl rfl ?_
      refine g_tald (pc := 15) hC 2 8 hC.2.2.2.2.2.2.2.1.2.2.2.2.2.1 dX2_above_15 ?_
      refine g_iload_n (pc := 16) (q := 2) hC dX2_above_16 rfl rfl ?_
      refine g_iload_n (pc := 17) (q := 3) hC dX2_above_17 rfl rfl ?_
      refine g_iload (pc := 18) (q := 4) hC dX2_above_18 rfl ?_
      refine g_callVi (pc := 20) (As := [.int (gTb 2 (Int32.toNatClampNeg p0)), .int p1, .int p2, .int p3]) (rest := []) hC lk_RX2_49 kX2 rfl (hrec.2.2.1 σ (gTb 2 (Int32.toNatClampNeg p0)) p1 p2 p3) rfl rfl (Nat.le_of_ble_eq_true rfl) ⟨rfl, rfl, by simp only [rrX2_from, rrX2_above] <;> omega, by simp only [rrX2_from, rrX2_above] <;> omega⟩ dX2_above_20 (fun r1 s2 => ?_)
      refine g_goto (pc := 23) (tgt := 27) hC dX2_above_23 (by decide) ?_
      exact g_iret (pc := 27) hC dX2_above_27
def mX2_from_b6 (rec : ((gS → Int32 → Int32 → Int32 → Option (Int32 × gS)) × (gS → Int32 → Int32 → Int32 → Int32 → Option (Int32 × gS)) × (gS → Int32 → Int32 → Int32 → Int32 → Option (Int32 × gS)) × (gS → Int32 → Int32 → Int32 → Int32 → Option (Int32 × gS))))   : Nat → gS → Int32 → Int32 → Int32 → Int32 → Int32 → Option (Int32 × gS)
  | 0, _, _, _, _, _, _ => none
  | n + 1, σ, x3, x4, x5, x6, x7 => if 8 ≤ x7 then (some (0, σ)) else (if x6 < 0 then (some (0, σ)) else (if inbB ((x6 * 4) + x3) 32 = true then (gLet (gTb 3 (Int32.toNatClampNeg ((x6 * 4) + x3))) (fun v8 => if v8 = 0 then (if inbB x6 8 = true then (gLet (gTb 2 (Int32.toNatClampNeg x6)) (fun v9 => gLet (x7 + 1) (fun v10 => ((mX2_from_b6 rec n) σ x3 x4 x5 v9 v10)))) else none) else (if 40 ≤ x5 then (some (0, σ)) else (gBind (rec.2.2.2 σ v8 x6 x4 (x5 + 1)) (fun r11 s12 => some (r11, s12)))))) else none))
set_option maxHeartbeats 4000000 in
set_option maxRecDepth 100000 in
theorem wX2_from_b6 {p : Program} {l : Launch} {e : Env} {s : State} {m : MethodId} {args : Array Value} {below : List Frame} {meth : Method} {c : Code} {G : gE} {d : Nat} (hC : gCx p s m args meth c G RX2 cX2_from 8 (some .int)) {rec : ((gS → Int32 → Int32 → Int32 → Option (Int32 × gS)) × (gS → Int32 → Int32 → Int32 → Int32 → Option (Int32 × gS)) × (gS → Int32 → Int32 → Int32 → Int32 → Option (Int32 × gS)) × (gS → Int32 → Int32 → Int32 → Int32 → Option (Int32 × gS)))} (hrec : (∀ (σ : gS) (p0 : Int32) (p1 : Int32) (p2 : Int32), gM l G yX2_own cX2_own 4 (some .int) (rrX2_own d) iI [.ref (G.2.1 36), .int p0, .int p1, .int p2] σ (rec.1 σ p0 p1 p2)) ∧ (∀ (σ : gS) (p0 : Int32) (p1 : Int32) (p2 : Int32) (p3 : Int32), gM l G yX2_above cX2_above 5 (some .int) (rrX2_above d) iI [.ref (G.2.1 36), .int p0, .int p1, .int p2, .int p3] σ (rec.2.1 σ p0 p1 p2 p3)) ∧ (∀ (σ : gS) (p0 : Int32) (p1 : Int32) (p2 : Int32) (p3 : Int32), gM l G yX2_from cX2_from 8 (some .int) (rrX2_from d) iI [.ref (G.2.1 36), .int p0, .int p1, .int p2, .int p3] σ (rec.2.2.1 σ p0 p1 p2 p3)) ∧ (∀ (σ : gS) (p0 : Int32) (p1 : Int32) (p2 : Int32) (p3 : Int32), gM l G yX2_perform cX2_perform 5 (some .int) (rrX2_perform d) iI [.ref (G.2.1 36), .int p0, .int p1, .int p2, .int p3] σ (rec.2.2.2 σ p0 p1 p2 p3)))    (n : Nat) (σ : gS) (x3 : Int32) (x4 : Int32) (x5 : Int32) (x6 : Int32) (x7 : Int32)  : gT p l e (rrX2_from (d + 1)) s m args below meth c G 8 iI σ 6 [(0, .ref (G.2.1 36)), (2, .int x3), (3, .int x4), (4, .int x5), (5, .int x6), (6, .int x7)] [] (mX2_from_b6 rec n σ x3 x4 x5 x6 x7) := by
  induction n generalizing σ x3 x4 x5 x6 x7 with
  | zero => exact gT_none
  | succ n ih =>
    unfold mX2_from_b6
    refine g_iload (pc := 6) (q := 5) hC dX2_from_6 rfl ?_
    refine g_bipush (pc := 8) (v := 8) hC dX2_from_8 (by decide) ?_
    refine g_icmp_ge (pc := 10) (tgt := 74) hC dX2_from_10 (by decide) ?_ ?_
    · refine g_iconst (pc := 74) (v := 0) hC dX2_from_74 (by decide) ?_
      exact g_iret (pc := 75) hC dX2_from_75
    · refine g_iload (pc := 13) (q := 4) hC dX2_from_13 rfl ?_
      refine g_if_lt (pc := 15) (tgt := 74) hC dX2_from_15 (by decide) ?_ ?_
      · refine g_iconst (pc := 74) (v := 0) hC dX2_from_74 (by decide) ?_
        exact g_iret (pc := 75) hC dX2_from_75
      · refine g_gets (pc := 18) hC hC.2.2.2.2.2.2.2.1.2.2.2.2.2.2.1 fl_RX2_53 dX2_from_18 ?_
        refine g_iload (pc := 21) (q := 4) hC dX2_from_21 rfl ?_
        refine g_iconst (pc := 23) (v := 4) hC dX2_from_23 (by decide) ?_
        refine g_imul (pc := 24) hC dX2_from_24 ?_
        refine g_iload_n (pc := 25) (q := 1) hC dX2_from_25 rfl rfl ?_
        refine g_iadd (pc := 26) hC dX2_from_26 ?_
        refine g_tald (pc := 27) hC 3 32 hC.2.2.2.2.2.2.2.1.2.2.2.2.2.2.2.1 dX2_from_27 ?_
        refine g_istore (pc := 28) (lv' := fun v8 => [(7, .int v8), (0, .ref (G.2.1 36)), (2, .int x3), (3, .int x4), (4, .int x5), (5, .int x6), (6, .int x7)]) hC dX2_from_28 (by decide) (fun _ => rfl) (fun v8 => ?_)
        refine g_iload (pc := 30) (q := 0) hC dX2_from_30 rfl ?_
        refine g_if_eq (pc := 32) (tgt := 60) hC dX2_from_32 (by decide) ?_ ?_
        · refine g_gets (pc := 60) hC hC.2.2.2.2.2.2.2.1.2.2.2.2.1 fl_RX2_36 dX2_from_60 ?_
          refine g_iload (pc := 63) (q := 5) hC dX2_from_63 rfl ?_
          refine g_tald (pc := 65) hC 2 8 hC.2.2.2.2.2.2.2.1.2.2.2.2.2.1 dX2_from_65 ?_
          refine g_istore (pc := 66) (lv' := fun v9 => [(5, .int v9), (7, .int v8), (0, .ref (G.2.1 36)), (2, .int x3), (3, .int x4), (4, .int x5), (6, .int x7)]) hC dX2_from_66 (by decide) (fun _ => rfl) (fun v9 => ?_)
          refine g_iinc (pc := 68) (q := 6) (w := 1) (lv' := fun v10 => [(6, .int v10), (5, .int v9), (7, .int v8), (0, .ref (G.2.1 36)), (2, .int x3), (3, .int x4), (4, .int x5)]) hC dX2_from_68 rfl (by decide) (by decide) (fun _ => rfl) (fun v10 => ?_)
          refine g_goto (pc := 71) (tgt := 6) hC dX2_from_71 (by decide) ?_
          exact gT_sub [3, 4, 5, 6, 1, 0] rfl (ih σ x3 x4 x5 v9 v10)
        · refine g_iload (pc := 35) (q := 4) hC dX2_from_35 rfl ?_
          refine g_bipush (pc := 37) (v := 40) hC dX2_from_37 (by decide) ?_
          refine g_icmp_ge (pc := 39) (tgt := 58) hC dX2_from_39 (by decide) ?_ ?_
          · refine g_iconst (pc := 58) (v := 0) hC dX2_from_58 (by decide) ?_
            exact g_iret (pc := 59) hC dX2_from_59
          · refine g_aload_n (pc := 42) (q := 1) hC dX2_from_42 rfl rfl ?_
            refine g_iload (pc := 43) (q := 0) hC dX2_from_43 rfl ?_
            refine g_iload (pc := 45) (q := 5) hC dX2_from_45 rfl ?_
            refine g_iload_n (pc := 47) (q := 3) hC dX2_from_47 rfl rfl ?_
            refine g_iload (pc := 48) (q := 4) hC dX2_from_48 rfl ?_
            refine g_iconst (pc := 50) (v := 1) hC dX2_from_50 (by decide) ?_
            refine g_iadd (pc := 51) hC dX2_from_51 ?_
            refine g_callVi (pc := 52) (As := [.int v8, .int x6, .int x4, .int (x5 + 1)]) (rest := []) hC lk_RX2_56 kX2 rfl (hrec.2.2.2 σ v8 x6 x4 (x5 + 1)) rfl rfl (Nat.le_of_ble_eq_true rfl) ⟨rfl, rfl, by simp only [rrX2_perform, rrX2_from] <;> omega, by simp only [rrX2_perform, rrX2_from] <;> omega⟩ dX2_from_52 (fun r11 s12 => ?_)
            refine g_goto (pc := 55) (tgt := 59) hC dX2_from_55 (by decide) ?_
            exact g_iret (pc := 59) hC dX2_from_59
def mrX2_from (rec : ((gS → Int32 → Int32 → Int32 → Option (Int32 × gS)) × (gS → Int32 → Int32 → Int32 → Int32 → Option (Int32 × gS)) × (gS → Int32 → Int32 → Int32 → Int32 → Option (Int32 × gS)) × (gS → Int32 → Int32 → Int32 → Int32 → Option (Int32 × gS)))) (σ : gS) (p0 : Int32) (p1 : Int32) (p2 : Int32) (p3 : Int32) : Option (Int32 × gS) := gLet p0 (fun v1 => gLet 0 (fun v2 => (mX2_from_b6 rec 1100 σ p1 p2 p3 v1 v2)))
set_option maxHeartbeats 4000000 in
set_option maxRecDepth 100000 in
theorem trX2_from {l : Launch} {G : gE} {d : Nat} {rec : ((gS → Int32 → Int32 → Int32 → Option (Int32 × gS)) × (gS → Int32 → Int32 → Int32 → Int32 → Option (Int32 × gS)) × (gS → Int32 → Int32 → Int32 → Int32 → Option (Int32 × gS)) × (gS → Int32 → Int32 → Int32 → Int32 → Option (Int32 × gS)))} (hrec : (∀ (σ : gS) (p0 : Int32) (p1 : Int32) (p2 : Int32), gM l G yX2_own cX2_own 4 (some .int) (rrX2_own d) iI [.ref (G.2.1 36), .int p0, .int p1, .int p2] σ (rec.1 σ p0 p1 p2)) ∧ (∀ (σ : gS) (p0 : Int32) (p1 : Int32) (p2 : Int32) (p3 : Int32), gM l G yX2_above cX2_above 5 (some .int) (rrX2_above d) iI [.ref (G.2.1 36), .int p0, .int p1, .int p2, .int p3] σ (rec.2.1 σ p0 p1 p2 p3)) ∧ (∀ (σ : gS) (p0 : Int32) (p1 : Int32) (p2 : Int32) (p3 : Int32), gM l G yX2_from cX2_from 8 (some .int) (rrX2_from d) iI [.ref (G.2.1 36), .int p0, .int p1, .int p2, .int p3] σ (rec.2.2.1 σ p0 p1 p2 p3)) ∧ (∀ (σ : gS) (p0 : Int32) (p1 : Int32) (p2 : Int32) (p3 : Int32), gM l G yX2_perform cX2_perform 5 (some .int) (rrX2_perform d) iI [.ref (G.2.1 36), .int p0, .int p1, .int p2, .int p3] σ (rec.2.2.2 σ p0 p1 p2 p3))) : ∀ (σ : gS) (p0 : Int32) (p1 : Int32) (p2 : Int32) (p3 : Int32), gM l G yX2_from cX2_from 8 (some .int) (rrX2_from (d + 1)) iI [.ref (G.2.1 36), .int p0, .int p1, .int p2, .int p3] σ (mrX2_from rec σ p0 p1 p2 p3) := by
  intro σ p0 p1 p2 p3
  refine gM_of (by decide) (Nat.le_of_ble_eq_true rfl) ?_
  intro p e s m args below meth c hC
  unfold mrX2_from
  show gT p l e (rrX2_from (d + 1)) s m args below meth c G 8 iI σ 0 [(0, .ref (G.2.1 36)), (1, .int p0), (2, .int p1), (3, .int p2), (4, .int p3)] [] _
  refine g_iload_n (pc := 0) (q := 1) hC dX2_from_0 rfl rfl ?_
  refine g_istore (pc := 1) (lv' := fun v1 => [(5, .int v1), (0, .ref (G.2.1 36)), (1, .int p0), (2, .int p1), (3, .int p2), (4, .int p3)]) hC dX2_from_1 (by decide) (fun _ => rfl) (fun v1 => ?_)
  refine g_iconst (pc := 3) (v := 0) hC dX2_from_3 (by decide) ?_
  refine g_istore (pc := 4) (lv' := fun v2 => [(6, .int v2), (5, .int v1), (0, .ref (G.2.1 36)), (1, .int p0), (2, .int p1), (3, .int p2), (4, .int p3)]) hC dX2_from_4 (by decide) (fun _ => rfl) (fun v2 => ?_)
  exact gT_sub [2, 4, 5, 6, 1, 0] rfl (wX2_from_b6 hC hrec 1100 σ p1 p2 p3 v1 v2)
def mrX2_perform (rec : ((gS → Int32 → Int32 → Int32 → Option (Int32 × gS)) × (gS → Int32 → Int32 → Int32 → Int32 → Option (Int32 × gS)) × (gS → Int32 → Int32 → Int32 → Int32 → Option (Int32 × gS)) × (gS → Int32 → Int32 → Int32 → Int32 → Option (Int32 × gS)))) (σ : gS) (p0 : Int32) (p1 : Int32) (p2 : Int32) (p3 : Int32) : Option (Int32 × gS) := gBind (mX2_leaveTrace σ p0) (fun r1 s2 => if p0 = 1 then (some ((p2 + (s2.1 36 4)), s2)) else (if p0 = 2 then (gBind (rec.1 s2 1 p2 p3) (fun r3 s4 => gBind (rec.1 s4 2 1 p3) (fun r5 s6 => some ((r3 - r5), s6)))) else (if p0 = 10 then (gBind (rec.1 s2 0 p2 p3) (fun r7 s8 => some ((r7 * 2), s8))) else (if p0 = 11 then (some ((p2 ^^^ (s2.1 36 4)), s2)) else (if p0 = 20 then (gBind (rec.2.1 s2 p1 0 p2 p3) (fun r9 s10 => some ((r9 + 3), s10))) else (if p0 = 30 then (gBind (rec.2.1 s2 p1 1 p2 p3) (fun r11 s12 => some ((-r11), s12))) else (if p0 = 40 then (gBind (rec.2.1 s2 p1 2 p2 p3) (fun r13 s14 => some ((r13 * 3), s14))) else (if p0 = 41 then (gBind (rec.2.1 s2 p1 1 (p2 + 1) p3) (fun r15 s16 => some (r15, s16))) else (if p0 = 50 then (gBind (rec.2.1 s2 p1 2 p2 p3) (fun r17 s18 => gBind (rec.1 s18 0 2 p3) (fun r19 s20 => some ((r17 - r19), s20)))) else (if p0 = 60 then (gBind (rec.2.1 s2 p1 3 p2 p3) (fun r21 s22 => some ((r21 ^^^ 5), s22))) else (if p0 = 70 then (gBind (rec.2.1 s2 p1 0 p2 p3) (fun r23 s24 => some ((r23 * 2), s24))) else (if p0 = 80 then (gBind (rec.2.1 s2 p1 1 p2 p3) (fun r25 s26 => gBind (rec.1 s26 2 2 p3) (fun r27 s28 => some ((r25 + r27), s28)))) else (if p0 = 81 then (gBind (rec.2.1 s2 p1 3 p2 p3) (fun r29 s30 => some ((r29 - 1), s30))) else (some (0, s2)))))))))))))))
set_option maxHeartbeats 4000000 in
set_option maxRecDepth 100000 in
theorem trX2_perform {l : Launch} {G : gE} {d : Nat} {rec : ((gS → Int32 → Int32 → Int32 → Option (Int32 × gS)) × (gS → Int32 → Int32 → Int32 → Int32 → Option (Int32 × gS)) × (gS → Int32 → Int32 → Int32 → Int32 → Option (Int32 × gS)) × (gS → Int32 → Int32 → Int32 → Int32 → Option (Int32 × gS)))} (hrec : (∀ (σ : gS) (p0 : Int32) (p1 : Int32) (p2 : Int32), gM l G yX2_own cX2_own 4 (some .int) (rrX2_own d) iI [.ref (G.2.1 36), .int p0, .int p1, .int p2] σ (rec.1 σ p0 p1 p2)) ∧ (∀ (σ : gS) (p0 : Int32) (p1 : Int32) (p2 : Int32) (p3 : Int32), gM l G yX2_above cX2_above 5 (some .int) (rrX2_above d) iI [.ref (G.2.1 36), .int p0, .int p1, .int p2, .int p3] σ (rec.2.1 σ p0 p1 p2 p3)) ∧ (∀ (σ : gS) (p0 : Int32) (p1 : Int32) (p2 : Int32) (p3 : Int32), gM l G yX2_from cX2_from 8 (some .int) (rrX2_from d) iI [.ref (G.2.1 36), .int p0, .int p1, .int p2, .int p3] σ (rec.2.2.1 σ p0 p1 p2 p3)) ∧ (∀ (σ : gS) (p0 : Int32) (p1 : Int32) (p2 : Int32) (p3 : Int32), gM l G yX2_perform cX2_perform 5 (some .int) (rrX2_perform d) iI [.ref (G.2.1 36), .int p0, .int p1, .int p2, .int p3] σ (rec.2.2.2 σ p0 p1 p2 p3))) : ∀ (σ : gS) (p0 : Int32) (p1 : Int32) (p2 : Int32) (p3 : Int32), gM l G yX2_perform cX2_perform 5 (some .int) (rrX2_perform (d + 1)) iI [.ref (G.2.1 36), .int p0, .int p1, .int p2, .int p3] σ (mrX2_perform rec σ p0 p1 p2 p3) := by
  intro σ p0 p1 p2 p3
  refine gM_of (by decide) (Nat.le_of_ble_eq_true rfl) ?_
  intro p e s m args below meth c hC
  unfold mrX2_perform
  show gT p l e (rrX2_perform (d + 1)) s m args below meth c G 5 iI σ 0 [(0, .ref (G.2.1 36)), (1, .int p0), (2, .int p1), (3, .int p2), (4, .int p3)] [] _
  refine g_aload_n (pc := 0) (q := 0) hC dX2_perform_0 rfl rfl ?_
  refine g_iload_n (pc := 1) (q := 1) hC dX2_perform_1 rfl rfl ?_
  refine g_callVv (pc := 2) (As := [.int p0]) (rest := []) hC lk_RX2_59 kX2 rfl (tX2_leaveTrace _ _ σ p0) rfl rfl (Nat.le_of_ble_eq_true rfl) ⟨rfl, rfl, by simp only [rrX2_perform] <;> omega, by simp only [rrX2_perform] <;> omega⟩ dX2_perform_2 (fun r1 s2 => ?_)
  refine g_iload_n (pc := 5) (q := 1) hC dX2_perform_5 rfl rfl ?_
  refine gT_if (fun c600 => ?_) (fun c600 => ?_)
  · refine g_lookup (tgt := 120) (off := 114) hC dX2_perform_6 (by decide) (by rw [c600]; decide) (by decide) ?_
    refine g_iload_n (pc := 120) (q := 3) hC dX2_perform_120 rfl rfl ?_
    refine g_aload_n (pc := 121) (q := 0) hC dX2_perform_121 rfl rfl ?_
    refine g_get (pc := 122) (v := .int (s2.1 36 4)) hC kX2 rfl 4 (by decide) fl_RX2_25 rfl dX2_perform_122 ?_
    refine g_iadd (pc := 125) hC dX2_perform_125 ?_
    exact g_iret (pc := 126) hC dX2_perform_126
  · refine gT_if (fun c601 => ?_) (fun c601 => ?_)
    · refine g_lookup (tgt := 127) (off := 121) hC dX2_perform_6 (by decide) (by rw [c601]; decide) (by decide) ?_
      refine g_aload_n (pc := 127) (q := 0) hC dX2_perform_127 rfl rfl ?_
      refine g_iconst (pc := 128) (v := 1) hC dX2_perform_128 (by decide) ?_
      refine g_iload_n (pc := 129) (q := 3) hC dX2_perform_129 rfl rfl ?_
      refine g_iload (pc := 130) (q := 4) hC dX2_perform_130 rfl ?_
      refine g_callVi (pc := 132) (As := [.int 1, .int p2, .int p3]) (rest := []) hC lk_RX2_45 kX2 rfl (hrec.1 s2 1 p2 p3) rfl rfl (Nat.le_of_ble_eq_true rfl) ⟨rfl, rfl, by simp only [rrX2_own, rrX2_perform] <;> omega, by simp only [rrX2_own, rrX2_perform] <;> omega⟩ dX2_perform_132 (fun r3 s4 => ?_)
      refine g_aload_n (pc := 135) (q := 0) hC dX2_perform_135 rfl rfl ?_
      refine g_iconst (pc := 136) (v := 2) hC dX2_perform_136 (by decide) ?_
      refine g_iconst (pc := 137) (v := 1) hC dX2_perform_137 (by decide) ?_
      refine g_iload (pc := 138) (q := 4) hC dX2_perform_138 rfl ?_
      refine g_callVi (pc := 140) (As := [.int 2, .int 1, .int p3]) (rest := [.int r3]) hC lk_RX2_45 kX2 rfl (hrec.1 s4 2 1 p3) rfl rfl (Nat.le_of_ble_eq_true rfl) ⟨rfl, rfl, by simp only [rrX2_own, rrX2_perform] <;> omega, by simp only [rrX2_own, rrX2_perform] <;> omega⟩ dX2_perform_140 (fun r5 s6 => ?_)
      refine g_isub (pc := 143) hC dX2_perform_143 ?_
      exact g_iret (pc := 144) hC dX2_perform_144
    · refine gT_if (fun c602 => ?_) (fun c602 => ?_)
      · refine g_lookup (tgt := 145) (off := 139) hC dX2_perform_6 (by decide) (by rw [c602]; decide) (by decide) ?_
        refine g_aload_n (pc := 145) (q := 0) hC dX2_perform_145 rfl rfl ?_
        refine g_iconst (pc := 146) (v := 0) hC dX2_perform_146 (by decide) ?_
        refine g_iload_n (pc := 147) (q := 3) hC dX2_perform_147 rfl rfl ?_
        refine g_iload (pc := 148) (q := 4) hC dX2_perform_148 rfl ?_
        refine g_callVi (pc := 150) (As := [.int 0, .int p2, .int p3]) (rest := []) hC lk_RX2_45 kX2 rfl (hrec.1 s2 0 p2 p3) rfl rfl (Nat.le_of_ble_eq_true rfl) ⟨rfl, rfl, by simp only [rrX2_own, rrX2_perform] <;> omega, by simp only [rrX2_own, rrX2_perform] <;> omega⟩ dX2_perform_150 (fun r7 s8 => ?_)
        refine g_iconst (pc := 153) (v := 2) hC dX2_perform_153 (by decide) ?_
        refine g_imul (pc := 154) hC dX2_perform_154 ?_
        exact g_iret (pc := 155) hC dX2_perform_155
      · refine gT_if (fun c603 => ?_) (fun c603 => ?_)
        · refine g_lookup (tgt := 156) (off := 150) hC dX2_perform_6 (by decide) (by rw [c603]; decide) (by decide) ?_
          refine g_iload_n (pc := 156) (q := 3) hC dX2_perform_156 rfl rfl ?_
          refine g_aload_n (pc := 157) (q := 0) hC dX2_perform_157 rfl rfl ?_
          refine g_get (pc := 158) (v := .int (s2.1 36 4)) hC kX2 rfl 4 (by decide) fl_RX2_25 rfl dX2_perform_158 ?_
          refine g_ixor (pc := 161) hC dX2_perform_161 ?_
          exact g_iret (pc := 162) hC dX2_perform_162
        · refine gT_if (fun c604 => ?_) (fun c604 => ?_)
          · refine g_lookup (tgt := 163) (off := 157) hC dX2_perform_6 (by decide) (by rw [c604]; decide) (by decide) ?_
            refine g_aload_n (pc := 163) (q := 0) hC dX2_perform_163 rfl rfl ?_
            refine g_iload_n (pc := 164) (q := 2) hC dX2_perform_164 rfl rfl ?_
            refine g_iconst (pc := 165) (v := 0) hC dX2_perform_165 (by decide) ?_
            refine g_iload_n (pc := 166) (q := 3) hC dX2_perform_166 rfl rfl ?_
            refine g_iload (pc := 167) (q := 4) hC dX2_perform_167 rfl ?_
            refine g_callVi (pc := 169) (As := [.int p1, .int 0, .int p2, .int p3]) (rest := []) hC lk_RX2_63 kX2 rfl (hrec.2.1 s2 p1 0 p2 p3) rfl rfl (Nat.le_of_ble_eq_true rfl) ⟨rfl, rfl, by simp only [rrX2_above, rrX2_perform] <;> omega, by simp only [rrX2_above, rrX2_perform] <;> omega⟩ dX2_perform_169 (fun r9 s10 => ?_)
            refine g_iconst (pc := 172) (v := 3) hC dX2_perform_172 (by decide) ?_
            refine g_iadd (pc := 173) hC dX2_perform_173 ?_
            exact g_iret (pc := 174) hC dX2_perform_174
          · refine gT_if (fun c605 => ?_) (fun c605 => ?_)
            · refine g_lookup (tgt := 175) (off := 169) hC dX2_perform_6 (by decide) (by rw [c605]; decide) (by decide) ?_
              refine g_aload_n (pc := 175) (q := 0) hC dX2_perform_175 rfl rfl ?_
              refine g_iload_n (pc := 176) (q := 2) hC dX2_perform_176 rfl rfl ?_
              refine g_iconst (pc := 177) (v := 1) hC dX2_perform_177 (by decide) ?_
              refine g_iload_n (pc := 178) (q := 3) hC dX2_perform_178 rfl rfl ?_
              refine g_iload (pc := 179) (q := 4) hC dX2_perform_179 rfl ?_
              refine g_callVi (pc := 181) (As := [.int p1, .int 1, .int p2, .int p3]) (rest := []) hC lk_RX2_63 kX2 rfl (hrec.2.1 s2 p1 1 p2 p3) rfl rfl (Nat.le_of_ble_eq_true rfl) ⟨rfl, rfl, by simp only [rrX2_above, rrX2_perform] <;> omega, by simp only [rrX2_above, rrX2_perform] <;> omega⟩ dX2_perform_181 (fun r11 s12 => ?_)
              refine g_ineg (pc := 184) hC dX2_perform_184 ?_
              exact g_iret (pc := 185) hC dX2_perform_185
            · refine gT_if (fun c606 => ?_) (fun c606 => ?_)
              · refine g_lookup (tgt := 186) (off := 180) hC dX2_perform_6 (by decide) (by rw [c606]; decide) (by decide) ?_
                refine g_aload_n (pc := 186) (q := 0) hC dX2_perform_186 rfl rfl ?_
                refine g_iload_n (pc := 187) (q := 2) hC dX2_perform_187 rfl rfl ?_
                refine g_iconst (pc := 188) (v := 2) hC dX2_perform_188 (by decide) ?_
                refine g_iload_n (pc := 189) (q := 3) hC dX2_perform_189 rfl rfl ?_
                refine g_iload (pc := 190) (q := 4) hC dX2_perform_190 rfl ?_
                refine g_callVi (pc := 192) (As := [.int p1, .int 2, .int p2, .int p3]) (rest := []) hC lk_RX2_63 kX2 rfl (hrec.2.1 s2 p1 2 p2 p3) rfl rfl (Nat.le_of_ble_eq_true rfl) ⟨rfl, rfl, by simp only [rrX2_above, rrX2_perform] <;> omega, by simp only [rrX2_above, rrX2_perform] <;> omega⟩ dX2_perform_192 (fun r13 s14 => ?_)
                refine g_iconst (pc := 195) (v := 3) hC dX2_perform_195 (by decide) ?_
                refine g_imul (pc := 196) hC dX2_perform_196 ?_
                exact g_iret (pc := 197) hC dX2_perform_197
              · refine gT_if (fun c607 => ?_) (fun c607 => ?_)
                · refine g_lookup (tgt := 198) (off := 192) hC dX2_perform_6 (by decide) (by rw [c607]; decide) (by decide) ?_
                  refine g_aload_n (pc := 198) (q := 0) hC dX2_perform_198 rfl rfl ?_
                  refine g_iload_n (pc := 199) (q := 2) hC dX2_perform_199 rfl rfl ?_
                  refine g_iconst (pc := 200) (v := 1) hC dX2_perform_200 (by decide) ?_
                  refine g_iload_n (pc := 201) (q := 3) hC dX2_perform_201 rfl rfl ?_
                  refine g_iconst (pc := 202) (v := 1) hC dX2_perform_202 (by decide) ?_
                  refine g_iadd (pc := 203) hC dX2_perform_203 ?_
                  refine g_iload (pc := 204) (q := 4) hC dX2_perform_204 rfl ?_
                  refine g_callVi (pc := 206) (As := [.int p1, .int 1, .int (p2 + 1), .int p3]) (rest := []) hC lk_RX2_63 kX2 rfl (hrec.2.1 s2 p1 1 (p2 + 1) p3) rfl rfl (Nat.le_of_ble_eq_true rfl) ⟨rfl, rfl, by simp only [rrX2_above, rrX2_perform] <;> omega, by simp only [rrX2_above, rrX2_perform] <;> omega⟩ dX2_perform_206 (fun r15 s16 => ?_)
                  exact g_iret (pc := 209) hC dX2_perform_209
                · refine gT_if (fun c608 => ?_) (fun c608 => ?_)
                  · refine g_lookup (tgt := 210) (off := 204) hC dX2_perform_6 (by decide) (by rw [c608]; decide) (by decide) ?_
                    refine g_aload_n (pc := 210) (q := 0) hC dX2_perform_210 rfl rfl ?_
                    refine g_iload_n (pc := 211) (q := 2) hC dX2_perform_211 rfl rfl ?_
                    refine g_iconst (pc := 212) (v := 2) hC dX2_perform_212 (by decide) ?_
                    refine g_iload_n (pc := 213) (q := 3) hC dX2_perform_213 rfl rfl ?_
                    refine g_iload (pc := 214) (q := 4) hC dX2_perform_214 rfl ?_
                    refine g_callVi (pc := 216) (As := [.int p1, .int 2, .int p2, .int p3]) (rest := []) hC lk_RX2_63 kX2 rfl (hrec.2.1 s2 p1 2 p2 p3) rfl rfl (Nat.le_of_ble_eq_true rfl) ⟨rfl, rfl, by simp only [rrX2_above, rrX2_perform] <;> omega, by simp only [rrX2_above, rrX2_perform] <;> omega⟩ dX2_perform_216 (fun r17 s18 => ?_)
                    refine g_aload_n (pc := 219) (q := 0) hC dX2_perform_219 rfl rfl ?_
                    refine g_iconst (pc := 220) (v := 0) hC dX2_perform_220 (by decide) ?_
                    refine g_iconst (pc := 221) (v := 2) hC dX2_perform_221 (by decide) ?_
                    refine g_iload (pc := 222) (q := 4) hC dX2_perform_222 rfl ?_
                    refine g_callVi (pc := 224) (As := [.int 0, .int 2, .int p3]) (rest := [.int r17]) hC lk_RX2_45 kX2 rfl (hrec.1 s18 0 2 p3) rfl rfl (Nat.le_of_ble_eq_true rfl) ⟨rfl, rfl, by simp only [rrX2_own, rrX2_perform] <;> omega, by simp only [rrX2_own, rrX2_perform] <;> omega⟩ dX2_perform_224 (fun r19 s20 => ?_)
                    refine g_isub (pc := 227) hC dX2_perform_227 ?_
                    exact g_iret (pc := 228) hC dX2_perform_228
                  · refine gT_if (fun c609 => ?_) (fun c609 => ?_)
                    · refine g_lookup (tgt := 229) (off := 223) hC dX2_perform_6 (by decide) (by rw [c609]; decide) (by decide) ?_
                      refine g_aload_n (pc := 229) (q := 0) hC dX2_perform_229 rfl rfl ?_
                      refine g_iload_n (pc := 230) (q := 2) hC dX2_perform_230 rfl rfl ?_
                      refine g_iconst (pc := 231) (v := 3) hC dX2_perform_231 (by decide) ?_
                      refine g_iload_n (pc := 232) (q := 3) hC dX2_perform_232 rfl rfl ?_
                      refine g_iload (pc := 233) (q := 4) hC dX2_perform_233 rfl ?_
                      refine g_callVi (pc := 235) (As := [.int p1, .int 3, .int p2, .int p3]) (rest := []) hC lk_RX2_63 kX2 rfl (hrec.2.1 s2 p1 3 p2 p3) rfl rfl (Nat.le_of_ble_eq_true rfl) ⟨rfl, rfl, by simp only [rrX2_above, rrX2_perform] <;> omega, by simp only [rrX2_above, rrX2_perform] <;> omega⟩ dX2_perform_235 (fun r21 s22 => ?_)
                      refine g_iconst (pc := 238) (v := 5) hC dX2_perform_238 (by decide) ?_
                      refine g_ixor (pc := 239) hC dX2_perform_239 ?_
                      exact g_iret (pc := 240) hC dX2_perform_240
                    · refine gT_if (fun c610 => ?_) (fun c610 => ?_)
                      · refine g_lookup (tgt := 241) (off := 235) hC dX2_perform_6 (by decide) (by rw [c610]; decide) (by decide) ?_
                        refine g_aload_n (pc := 241) (q := 0) hC dX2_perform_241 rfl rfl ?_
                        refine g_iload_n (pc := 242) (q := 2) hC dX2_perform_242 rfl rfl ?_
                        refine g_iconst (pc := 243) (v := 0) hC dX2_perform_243 (by decide) ?_
                        refine g_iload_n (pc := 244) (q := 3) hC dX2_perform_244 rfl rfl ?_
                        refine g_iload (pc := 245) (q := 4) hC dX2_perform_245 rfl ?_
                        refine g_callVi (pc := 247) (As := [.int p1, .int 0, .int p2, .int p3]) (rest := []) hC lk_RX2_63 kX2 rfl (hrec.2.1 s2 p1 0 p2 p3) rfl rfl (Nat.le_of_ble_eq_true rfl) ⟨rfl, rfl, by simp only [rrX2_above, rrX2_perform] <;> omega, by simp only [rrX2_above, rrX2_perform] <;> omega⟩ dX2_perform_247 (fun r23 s24 => ?_)
                        refine g_iconst (pc := 250) (v := 2) hC dX2_perform_250 (by decide) ?_
                        refine g_imul (pc := 251) hC dX2_perform_251 ?_
                        exact g_iret (pc := 252) hC dX2_perform_252
                      · refine gT_if (fun c611 => ?_) (fun c611 => ?_)
                        · refine g_lookup (tgt := 253) (off := 247) hC dX2_perform_6 (by decide) (by rw [c611]; decide) (by decide) ?_
                          refine g_aload_n (pc := 253) (q := 0) hC dX2_perform_253 rfl rfl ?_
                          refine g_iload_n (pc := 254) (q := 2) hC dX2_perform_254 rfl rfl ?_
                          refine g_iconst (pc := 255) (v := 1) hC dX2_perform_255 (by decide) ?_
                          refine g_iload_n (pc := 256) (q := 3) hC dX2_perform_256 rfl rfl ?_
                          refine g_iload (pc := 257) (q := 4) hC dX2_perform_257 rfl ?_
                          refine g_callVi (pc := 259) (As := [.int p1, .int 1, .int p2, .int p3]) (rest := []) hC lk_RX2_63 kX2 rfl (hrec.2.1 s2 p1 1 p2 p3) rfl rfl (Nat.le_of_ble_eq_true rfl) ⟨rfl, rfl, by simp only [rrX2_above, rrX2_perform] <;> omega, by simp only [rrX2_above, rrX2_perform] <;> omega⟩ dX2_perform_259 (fun r25 s26 => ?_)
                          refine g_aload_n (pc := 262) (q := 0) hC dX2_perform_262 rfl rfl ?_
                          refine g_iconst (pc := 263) (v := 2) hC dX2_perform_263 (by decide) ?_
                          refine g_iconst (pc := 264) (v := 2) hC dX2_perform_264 (by decide) ?_
                          refine g_iload (pc := 265) (q := 4) hC dX2_perform_265 rfl ?_
                          refine g_callVi (pc := 267) (As := [.int 2, .int 2, .int p3]) (rest := [.int r25]) hC lk_RX2_45 kX2 rfl (hrec.1 s26 2 2 p3) rfl rfl (Nat.le_of_ble_eq_true rfl) ⟨rfl, rfl, by simp only [rrX2_own, rrX2_perform] <;> omega, by simp only [rrX2_own, rrX2_perform] <;> omega⟩ dX2_perform_267 (fun r27 s28 => ?_)
                          refine g_iadd (pc := 270) hC dX2_perform_270 ?_
                          exact g_iret (pc := 271) hC dX2_perform_271
                        · refine gT_if (fun c612 => ?_) (fun c612 => ?_)
                          · refine g_lookup (tgt := 272) (off := 266) hC dX2_perform_6 (by decide) (by rw [c612]; decide) (by decide) ?_
                            refine g_aload_n (pc := 272) (q := 0) hC dX2_perform_272 rfl rfl ?_
                            refine g_iload_n (pc := 273) (q := 2) hC dX2_perform_273 rfl rfl ?_
                            refine g_iconst (pc := 274) (v := 3) hC dX2_perform_274 (by decide) ?_
                            refine g_iload_n (pc := 275) (q := 3) hC dX2_perform_275 rfl rfl ?_
                            refine g_iload (pc := 276) (q := 4) hC dX2_perform_276 rfl ?_
                            refine g_callVi (pc := 278) (As := [.int p1, .int 3, .int p2, .int p3]) (rest := []) hC lk_RX2_63 kX2 rfl (hrec.2.1 s2 p1 3 p2 p3) rfl rfl (Nat.le_of_ble_eq_true rfl) ⟨rfl, rfl, by simp only [rrX2_above, rrX2_perform] <;> omega, by simp only [rrX2_above, rrX2_perform] <;> omega⟩ dX2_perform_278 (fun r29 s30 => ?_)
                            refine g_iconst (pc := 281) (v := 1) hC dX2_perform_281 (by decide) ?_
                            refine g_isub (pc := 282) hC dX2_perform_282 ?_
                            exact g_iret (pc := 283) hC dX2_perform_283
                          · refine g_lookup (tgt := 284) (off := 278) hC dX2_perform_6 (by decide) ((lv_osw c600 rfl).trans ((lv_osw c601 rfl).trans ((lv_osw c602 rfl).trans ((lv_osw c603 rfl).trans ((lv_osw c604 rfl).trans ((lv_osw c605 rfl).trans ((lv_osw c606 rfl).trans ((lv_osw c607 rfl).trans ((lv_osw c608 rfl).trans ((lv_osw c609 rfl).trans ((lv_osw c610 rfl).trans ((lv_osw c611 rfl).trans ((lv_osw c612 rfl).trans rfl))))))))))))) (by decide) ?_
                            refine g_iconst (pc := 284) (v := 0) hC dX2_perform_284 (by decide) ?_
                            exact g_iret (pc := 285) hC dX2_perform_285
def mgfrost : Nat → ((gS → Int32 → Int32 → Int32 → Option (Int32 × gS)) × (gS → Int32 → Int32 → Int32 → Int32 → Option (Int32 × gS)) × (gS → Int32 → Int32 → Int32 → Int32 → Option (Int32 × gS)) × (gS → Int32 → Int32 → Int32 → Int32 → Option (Int32 × gS)))
  | 0 => (fun _ _ _ _ => none, fun _ _ _ _ _ => none, fun _ _ _ _ _ => none, fun _ _ _ _ _ => none)
  | d + 1 => (mrX2_own (mgfrost d), mrX2_above (mgfrost d), mrX2_from (mgfrost d), mrX2_perform (mgfrost d))
theorem tgfrost (l : Launch) (G : gE) : ∀ d : Nat, (∀ (σ : gS) (p0 : Int32) (p1 : Int32) (p2 : Int32), gM l G yX2_own cX2_own 4 (some .int) (rrX2_own d) iI [.ref (G.2.1 36), .int p0, .int p1, .int p2] σ ((mgfrost d).1 σ p0 p1 p2)) ∧ (∀ (σ : gS) (p0 : Int32) (p1 : Int32) (p2 : Int32) (p3 : Int32), gM l G yX2_above cX2_above 5 (some .int) (rrX2_above d) iI [.ref (G.2.1 36), .int p0, .int p1, .int p2, .int p3] σ ((mgfrost d).2.1 σ p0 p1 p2 p3)) ∧ (∀ (σ : gS) (p0 : Int32) (p1 : Int32) (p2 : Int32) (p3 : Int32), gM l G yX2_from cX2_from 8 (some .int) (rrX2_from d) iI [.ref (G.2.1 36), .int p0, .int p1, .int p2, .int p3] σ ((mgfrost d).2.2.1 σ p0 p1 p2 p3)) ∧ (∀ (σ : gS) (p0 : Int32) (p1 : Int32) (p2 : Int32) (p3 : Int32), gM l G yX2_perform cX2_perform 5 (some .int) (rrX2_perform d) iI [.ref (G.2.1 36), .int p0, .int p1, .int p2, .int p3] σ ((mgfrost d).2.2.2 σ p0 p1 p2 p3)) := by
  intro d
  induction d with
  | zero => exact ⟨fun _ _ _ _ _ _ h => (by cases h), fun _ _ _ _ _ _ _ h => (by cases h), fun _ _ _ _ _ _ _ h => (by cases h), fun _ _ _ _ _ _ _ h => (by cases h)⟩
  | succ d ih => exact ⟨trX2_own ih, trX2_above ih, trX2_from ih, trX2_perform ih⟩
abbrev rX2_own : Room := rrX2_own 130
def mX2_own (σ : gS) (p0 : Int32) (p1 : Int32) (p2 : Int32) : Option (Int32 × gS) := (mgfrost 130).1 σ p0 p1 p2
theorem tX2_own (l : Launch) (G : gE) (σ : gS) (p0 : Int32) (p1 : Int32) (p2 : Int32) : gM l G yX2_own cX2_own 4 (some .int) rX2_own iI [.ref (G.2.1 36), .int p0, .int p1, .int p2] σ (mX2_own σ p0 p1 p2) := (tgfrost l G 130).1 σ p0 p1 p2
abbrev rX2_above : Room := rrX2_above 130
def mX2_above (σ : gS) (p0 : Int32) (p1 : Int32) (p2 : Int32) (p3 : Int32) : Option (Int32 × gS) := (mgfrost 130).2.1 σ p0 p1 p2 p3
theorem tX2_above (l : Launch) (G : gE) (σ : gS) (p0 : Int32) (p1 : Int32) (p2 : Int32) (p3 : Int32) : gM l G yX2_above cX2_above 5 (some .int) rX2_above iI [.ref (G.2.1 36), .int p0, .int p1, .int p2, .int p3] σ (mX2_above σ p0 p1 p2 p3) := (tgfrost l G 130).2.1 σ p0 p1 p2 p3
abbrev rX2_from : Room := rrX2_from 130
def mX2_from (σ : gS) (p0 : Int32) (p1 : Int32) (p2 : Int32) (p3 : Int32) : Option (Int32 × gS) := (mgfrost 130).2.2.1 σ p0 p1 p2 p3
theorem tX2_from (l : Launch) (G : gE) (σ : gS) (p0 : Int32) (p1 : Int32) (p2 : Int32) (p3 : Int32) : gM l G yX2_from cX2_from 8 (some .int) rX2_from iI [.ref (G.2.1 36), .int p0, .int p1, .int p2, .int p3] σ (mX2_from σ p0 p1 p2 p3) := (tgfrost l G 130).2.2.1 σ p0 p1 p2 p3
abbrev rX2_perform : Room := rrX2_perform 130
def mX2_perform (σ : gS) (p0 : Int32) (p1 : Int32) (p2 : Int32) (p3 : Int32) : Option (Int32 × gS) := (mgfrost 130).2.2.2 σ p0 p1 p2 p3
theorem tX2_perform (l : Launch) (G : gE) (σ : gS) (p0 : Int32) (p1 : Int32) (p2 : Int32) (p3 : Int32) : gM l G yX2_perform cX2_perform 5 (some .int) rX2_perform iI [.ref (G.2.1 36), .int p0, .int p1, .int p2, .int p3] σ (mX2_perform σ p0 p1 p2 p3) := (tgfrost l G 130).2.2.2 σ p0 p1 p2 p3
theorem dX2_begin_0 : decode cX2_begin 0 = .ok (.aload_n 0, 1) := by decide +kernel
theorem dX2_begin_1 : decode cX2_begin 1 = .ok (.iconst 0, 1) := by decide +kernel
theorem dX2_begin_2 : decode cX2_begin 2 = .ok (.putfield 22, 3) := by decide +kernel
theorem dX2_begin_5 : decode cX2_begin 5 = .ok (.aload_n 0, 1) := by decide +kernel
theorem dX2_begin_6 : decode cX2_begin 6 = .ok (.iload_n 1, 1) := by decide +kernel
theorem dX2_begin_7 : decode cX2_begin 7 = .ok (.invokevirtual 28, 3) := by decide +kernel
theorem dX2_begin_10 : decode cX2_begin 10 = .ok (.ifCond .eq 12, 3) := by decide +kernel
theorem dX2_begin_13 : decode cX2_begin 13 = .ok (.iload_n 2, 1) := by decide +kernel
theorem dX2_begin_14 : decode cX2_begin 14 = .ok (.ifCond .lt 8, 3) := by decide +kernel
theorem dX2_begin_17 : decode cX2_begin 17 = .ok (.iload_n 2, 1) := by decide +kernel
theorem dX2_begin_18 : decode cX2_begin 18 = .ok (.iconst 4, 1) := by decide +kernel
theorem dX2_begin_19 : decode cX2_begin 19 = .ok (.if_icmp .lt 5, 3) := by decide +kernel
theorem dX2_begin_22 : decode cX2_begin 22 = .ok (.iconst 0, 1) := by decide +kernel
theorem dX2_begin_23 : decode cX2_begin 23 = .ok (.ireturn, 1) := by decide +kernel
theorem dX2_begin_24 : decode cX2_begin 24 = .ok (.aload_n 0, 1) := by decide +kernel
theorem dX2_begin_25 : decode cX2_begin 25 = .ok (.iload_n 1, 1) := by decide +kernel
theorem dX2_begin_26 : decode cX2_begin 26 = .ok (.putfield 25, 3) := by decide +kernel
theorem dX2_begin_29 : decode cX2_begin 29 = .ok (.aload_n 0, 1) := by decide +kernel
theorem dX2_begin_30 : decode cX2_begin 30 = .ok (.iload_n 2, 1) := by decide +kernel
theorem dX2_begin_31 : decode cX2_begin 31 = .ok (.iload_n 3, 1) := by decide +kernel
theorem dX2_begin_32 : decode cX2_begin 32 = .ok (.iconst 0, 1) := by decide +kernel
theorem dX2_begin_33 : decode cX2_begin 33 = .ok (.invokevirtual 45, 3) := by decide +kernel
theorem dX2_begin_36 : decode cX2_begin 36 = .ok (.ireturn, 1) := by decide +kernel
abbrev rX2_begin : Room := { frames := 133, cells := 0, slots := 0, locals := 3575 }
def mX2_begin (σ : gS) (p0 : Int32) (p1 : Int32) (p2 : Int32) : Option (Int32 × gS) := gLet (gUI σ 36 3 0) (fun s1 => gBind (mX2_hasBody s1 p0) (fun r2 s3 => if r2 = true then (if p1 < 0 then (some (0, s3)) else (if p1 < 4 then (gLet (gUI s3 36 4 p0) (fun s4 => gBind (mX2_own s4 p1 p2 0) (fun r5 s6 => some (r5, s6)))) else (some (0, s3)))) else (some (0, s3))))
set_option maxHeartbeats 4000000 in
set_option maxRecDepth 100000 in
theorem tX2_begin (l : Launch) (G : gE) (σ : gS) (p0 : Int32) (p1 : Int32) (p2 : Int32) : gM l G yX2_begin cX2_begin 4 (some .int) rX2_begin iI [.ref (G.2.1 36), .int p0, .int p1, .int p2] σ (mX2_begin σ p0 p1 p2) := by
  refine gM_of (by decide) (Nat.le_of_ble_eq_true rfl) ?_
  intro p e s m args below meth c hC
  unfold mX2_begin
  show gT p l e rX2_begin s m args below meth c G 4 iI σ 0 [(0, .ref (G.2.1 36)), (1, .int p0), (2, .int p1), (3, .int p2)] [] _
  refine g_aload_n (pc := 0) (q := 0) hC dX2_begin_0 rfl rfl ?_
  refine g_iconst (pc := 1) (v := 0) hC dX2_begin_1 (by decide) ?_
  refine g_puti (pc := 2) (fty := .int) hC kX2 rfl 3 (by decide) fl_RX2_22 rfl rfl rfl rfl (fun _ _ => Nat.le_of_ble_eq_true rfl) (fun _ _ => rfl) dX2_begin_2 (fun s1 => ?_)
  refine g_aload_n (pc := 5) (q := 0) hC dX2_begin_5 rfl rfl ?_
  refine g_iload_n (pc := 6) (q := 1) hC dX2_begin_6 rfl rfl ?_
  refine g_callVz (pc := 7) (As := [.int p0]) (rest := []) hC lk_RX2_28 kX2 rfl (tX2_hasBody _ _ s1 p0) rfl rfl (Nat.le_of_ble_eq_true rfl) ⟨rfl, rfl, Nat.le_of_ble_eq_true rfl, Nat.le_of_ble_eq_true rfl⟩ dX2_begin_7 (fun r2 s3 => ?_)
  refine g_bif_eq (pc := 10) (tgt := 22) hC dX2_begin_10 (by decide) ?_ ?_
  · refine g_iconst (pc := 22) (v := 0) hC dX2_begin_22 (by decide) ?_
    exact g_iret (pc := 23) hC dX2_begin_23
  · refine g_iload_n (pc := 13) (q := 2) hC dX2_begin_13 rfl rfl ?_
    refine g_if_lt (pc := 14) (tgt := 22) hC dX2_begin_14 (by decide) ?_ ?_
    · refine g_iconst (pc := 22) (v := 0) hC dX2_begin_22 (by decide) ?_
      exact g_iret (pc := 23) hC dX2_begin_23
    · refine g_iload_n (pc := 17) (q := 2) hC dX2_begin_17 rfl rfl ?_
      refine g_iconst (pc := 18) (v := 4) hC dX2_begin_18 (by decide) ?_
      refine g_icmp_lt (pc := 19) (tgt := 24) hC dX2_begin_19 (by decide) ?_ ?_
      · refine g_aload_n (pc := 24) (q := 0) hC dX2_begin_24 rfl rfl ?_
        refine g_iload_n (pc := 25) (q := 1) hC dX2_begin_25 rfl rfl ?_
        refine g_puti (pc := 26) (fty := .int) hC kX2 rfl 4 (by decide) fl_RX2_25 rfl rfl rfl rfl (fun _ _ => Nat.le_of_ble_eq_true rfl) (fun _ _ => rfl) dX2_begin_26 (fun s4 => ?_)
        refine g_aload_n (pc := 29) (q := 0) hC dX2_begin_29 rfl rfl ?_
        refine g_iload_n (pc := 30) (q := 2) hC dX2_begin_30 rfl rfl ?_
        refine g_iload_n (pc := 31) (q := 3) hC dX2_begin_31 rfl rfl ?_
        refine g_iconst (pc := 32) (v := 0) hC dX2_begin_32 (by decide) ?_
        refine g_callVi (pc := 33) (As := [.int p1, .int p2, .int 0]) (rest := []) hC lk_RX2_45 kX2 rfl (tX2_own _ _ s4 p1 p2 0) rfl rfl (Nat.le_of_ble_eq_true rfl) ⟨rfl, rfl, Nat.le_of_ble_eq_true rfl, Nat.le_of_ble_eq_true rfl⟩ dX2_begin_33 (fun r5 s6 => ?_)
        exact g_iret (pc := 36) hC dX2_begin_36
      · refine g_iconst (pc := 22) (v := 0) hC dX2_begin_22 (by decide) ?_
        exact g_iret (pc := 23) hC dX2_begin_23
theorem lk_RX9_360 : gLV RX9 360 RX2 yX2_begin cX2_begin 4 (some .int) 3 := ⟨(gBig_tab 953 (by decide +kernel) (by decide +kernel)), (gBig_tab 954 (by decide +kernel) (by decide +kernel)), (gBig_tab 955 (by decide +kernel) (by decide +kernel)), (gBig_tab 9 (by decide +kernel) (by decide +kernel)), (gBig_tab 956 (by decide +kernel) (by decide +kernel)), rfl, by decide +kernel, by decide +kernel, by decide +kernel⟩
theorem dX9_act_0 : decode cX9_act 0 = .ok (.aload_n 0, 1) := by decide +kernel
theorem dX9_act_1 : decode cX9_act 1 = .ok (.getfield 85, 3) := by decide +kernel
theorem dX9_act_4 : decode cX9_act 4 = .ok (.iload_n 1, 1) := by decide +kernel
theorem dX9_act_5 : decode cX9_act 5 = .ok (.iload_n 2, 1) := by decide +kernel
theorem dX9_act_6 : decode cX9_act 6 = .ok (.iload_n 3, 1) := by decide +kernel
theorem dX9_act_7 : decode cX9_act 7 = .ok (.invokevirtual 360, 3) := by decide +kernel
theorem dX9_act_10 : decode cX9_act 10 = .ok (.ireturn, 1) := by decide +kernel
abbrev rX9_act : Room := { frames := 134, cells := 0, slots := 0, locals := 3598 }
def mX9_act (σ : gS) (p0 : Int32) (p1 : Int32) (p2 : Int32) : Option (Int32 × gS) := gBind (mX2_begin σ p0 p1 p2) (fun r1 s2 => some (r1, s2))
set_option maxHeartbeats 4000000 in
set_option maxRecDepth 100000 in
theorem tX9_act (l : Launch) (G : gE) (σ : gS) (p0 : Int32) (p1 : Int32) (p2 : Int32) : gM l G yX9_act cX9_act 4 (some .int) rX9_act iI [.ref (G.2.1 0), .int p0, .int p1, .int p2] σ (mX9_act σ p0 p1 p2) := by
  refine gM_of (by decide) (Nat.le_of_ble_eq_true rfl) ?_
  intro p e s m args below meth c hC
  unfold mX9_act
  show gT p l e rX9_act s m args below meth c G 4 iI σ 0 [(0, .ref (G.2.1 0)), (1, .int p0), (2, .int p1), (3, .int p2)] [] _
  refine g_aload_n (pc := 0) (q := 0) hC dX9_act_0 rfl rfl ?_
  refine g_get (pc := 1) (v := .ref (G.2.1 36)) hC kX9 rfl 14 (by decide) fl_RX9_85 rfl dX9_act_1 ?_
  refine g_iload_n (pc := 4) (q := 1) hC dX9_act_4 rfl rfl ?_
  refine g_iload_n (pc := 5) (q := 2) hC dX9_act_5 rfl rfl ?_
  refine g_iload_n (pc := 6) (q := 3) hC dX9_act_6 rfl rfl ?_
  refine g_callVi (pc := 7) (As := [.int p0, .int p1, .int p2]) (rest := []) hC lk_RX9_360 kX2 rfl (tX2_begin _ _ σ p0 p1 p2) rfl rfl (Nat.le_of_ble_eq_true rfl) ⟨rfl, rfl, Nat.le_of_ble_eq_true rfl, Nat.le_of_ble_eq_true rfl⟩ dX9_act_7 (fun r1 s2 => ?_)
  exact g_iret (pc := 10) hC dX9_act_10
