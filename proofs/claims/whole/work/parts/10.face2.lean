theorem lk_RX9_269 : gLV RX9 269 RX9 yX9_givesFirstOn cX9_givesFirstOn 4 (some .boolean) 1 := ⟨(gBig_tab 863 (by decide +kernel) (by decide +kernel)), (gBig_tab 865 (by decide +kernel) (by decide +kernel)), (gBig_sel 35 (by decide +kernel) (by decide +kernel)), (gBig_tab 1 (by decide +kernel) (by decide +kernel)), (gBig_tab 866 (by decide +kernel) (by decide +kernel)), rfl, by decide +kernel, by decide +kernel, by decide +kernel⟩
theorem dX9_bore_0 : decode cX9_bore 0 = .ok (.iload_n 1, 1) := by decide +kernel
theorem dX9_bore_1 : decode cX9_bore 1 = .ok (.aload_n 0, 1) := by decide +kernel
theorem dX9_bore_2 : decode cX9_bore 2 = .ok (.getfield 19, 3) := by decide +kernel
theorem dX9_bore_5 : decode cX9_bore 5 = .ok (.getfield 153, 3) := by decide +kernel
theorem dX9_bore_8 : decode cX9_bore 8 = .ok (.bipush 30, 2) := by decide +kernel
theorem dX9_bore_10 : decode cX9_bore 10 = .ok (.invokestatic 102, 3) := by decide +kernel
theorem dX9_bore_13 : decode cX9_bore 13 = .ok (.ifCond .eq 12, 3) := by decide +kernel
theorem dX9_bore_16 : decode cX9_bore 16 = .ok (.iload_n 2, 1) := by decide +kernel
theorem dX9_bore_17 : decode cX9_bore 17 = .ok (.iconst 0, 1) := by decide +kernel
theorem dX9_bore_18 : decode cX9_bore 18 = .ok (.iconst 1, 1) := by decide +kernel
theorem dX9_bore_19 : decode cX9_bore 19 = .ok (.invokestatic 102, 3) := by decide +kernel
theorem dX9_bore_22 : decode cX9_bore 22 = .ok (.ifCond .ne 5, 3) := by decide +kernel
theorem dX9_bore_25 : decode cX9_bore 25 = .ok (.iconst (-1), 1) := by decide +kernel
theorem dX9_bore_26 : decode cX9_bore 26 = .ok (.ireturn, 1) := by decide +kernel
theorem dX9_bore_27 : decode cX9_bore 27 = .ok (.aload_n 0, 1) := by decide +kernel
theorem dX9_bore_28 : decode cX9_bore 28 = .ok (.getfield 23, 3) := by decide +kernel
theorem dX9_bore_31 : decode cX9_bore 31 = .ok (.aload_n 0, 1) := by decide +kernel
theorem dX9_bore_32 : decode cX9_bore 32 = .ok (.getfield 19, 3) := by decide +kernel
theorem dX9_bore_35 : decode cX9_bore 35 = .ok (.invokevirtual 262, 3) := by decide +kernel
theorem dX9_bore_38 : decode cX9_bore 38 = .ok (.iconst 0, 1) := by decide +kernel
theorem dX9_bore_39 : decode cX9_bore 39 = .ok (.istore_n 3, 1) := by decide +kernel
theorem dX9_bore_40 : decode cX9_bore 40 = .ok (.iconst 1, 1) := by decide +kernel
theorem dX9_bore_41 : decode cX9_bore 41 = .ok (.istore 4, 2) := by decide +kernel
theorem dX9_bore_43 : decode cX9_bore 43 = .ok (.iload 4, 2) := by decide +kernel
theorem dX9_bore_45 : decode cX9_bore 45 = .ok (.sipush 999, 3) := by decide +kernel
theorem dX9_bore_48 : decode cX9_bore 48 = .ok (.if_icmp .gt 37, 3) := by decide +kernel
theorem dX9_bore_51 : decode cX9_bore 51 = .ok (.aload_n 0, 1) := by decide +kernel
theorem dX9_bore_52 : decode cX9_bore 52 = .ok (.getfield 23, 3) := by decide +kernel
theorem dX9_bore_55 : decode cX9_bore 55 = .ok (.iload 4, 2) := by decide +kernel
theorem dX9_bore_57 : decode cX9_bore 57 = .ok (.putfield 266, 3) := by decide +kernel
theorem dX9_bore_60 : decode cX9_bore 60 = .ok (.aload_n 0, 1) := by decide +kernel
theorem dX9_bore_61 : decode cX9_bore 61 = .ok (.iload_n 1, 1) := by decide +kernel
theorem dX9_bore_62 : decode cX9_bore 62 = .ok (.invokevirtual 269, 3) := by decide +kernel
theorem dX9_bore_65 : decode cX9_bore 65 = .ok (.ifCond .eq 14, 3) := by decide +kernel
theorem dX9_bore_68 : decode cX9_bore 68 = .ok (.iload_n 2, 1) := by decide +kernel
theorem dX9_bore_69 : decode cX9_bore 69 = .ok (.iconst 1, 1) := by decide +kernel
theorem dX9_bore_70 : decode cX9_bore 70 = .ok (.if_icmp .ne 6, 3) := by decide +kernel
theorem dX9_bore_73 : decode cX9_bore 73 = .ok (.iload 4, 2) := by decide +kernel
theorem dX9_bore_75 : decode cX9_bore 75 = .ok (.ireturn, 1) := by decide +kernel
theorem dX9_bore_76 : decode cX9_bore 76 = .ok (.iinc 3 1, 3) := by decide +kernel
theorem dX9_bore_79 : decode cX9_bore 79 = .ok (.iinc 4 1, 3) := by decide +kernel
theorem dX9_bore_82 : decode cX9_bore 82 = .ok (.goto (-39), 3) := by decide +kernel
theorem dX9_bore_85 : decode cX9_bore 85 = .ok (.iload_n 2, 1) := by decide +kernel
theorem dX9_bore_86 : decode cX9_bore 86 = .ok (.ifCond .ne 7, 3) := by decide +kernel
theorem dX9_bore_89 : decode cX9_bore 89 = .ok (.iload_n 3, 1) := by decide +kernel
theorem dX9_bore_90 : decode cX9_bore 90 = .ok (.goto 5, 3) := by decide +kernel
theorem dX9_bore_93 : decode cX9_bore 93 = .ok (.bipush (-2), 2) := by decide +kernel
theorem dX9_bore_95 : decode cX9_bore 95 = .ok (.ireturn, 1) := by decide +kernel
abbrev rX9_bore : Room := { frames := 5, cells := 0, slots := 0, locals := 119 }
def mX9_bore_b79   (k43 : gS → Int32 → Int32 → Int32 → Int32 → Option (Int32 × gS)) (σ : gS) (x16 : Int32) (x17 : Int32) (x18 : Int32) (x19 : Int32) : Option (Int32 × gS) := gLet (x19 + 1) (fun v20 => (k43 σ x16 x17 x18 v20))
set_option maxHeartbeats 4000000 in
set_option maxRecDepth 100000 in
theorem wX9_bore_b79 {p : Program} {l : Launch} {e : Env} {s : State} {m : MethodId} {args : Array Value} {below : List Frame} {meth : Method} {c : Code} {G : gE} (hC : gCx p s m args meth c G RX9 cX9_bore 5 (some .int))    {k43 : gS → Int32 → Int32 → Int32 → Int32 → Option (Int32 × gS)} (hk43 : ∀ (σ : gS) (x9 : Int32) (x10 : Int32) (x11 : Int32) (x12 : Int32), gT p l e rX9_bore s m args below meth c G 5 iI σ 43 [(0, .ref (G.2.1 0)), (1, .int x9), (2, .int x10), (3, .int x11), (4, .int x12)] [] (k43 σ x9 x10 x11 x12)) (σ : gS) (x16 : Int32) (x17 : Int32) (x18 : Int32) (x19 : Int32)  : gT p l e rX9_bore s m args below meth c G 5 iI σ 79 [(0, .ref (G.2.1 0)), (1, .int x16), (2, .int x17), (3, .int x18), (4, .int x19)] [] (mX9_bore_b79 k43 σ x16 x17 x18 x19) := by
  unfold mX9_bore_b79
  refine g_iinc (pc := 79) (q := 4) (w := 1) (lv' := fun v20 => [(4, .int v20), (0, .ref (G.2.1 0)), (1, .int x16), (2, .int x17), (3, .int x18)]) hC dX9_bore_79 rfl (by decide) (by decide) (fun _ => rfl) (fun v20 => ?_)
  refine g_goto (pc := 82) (tgt := 43) hC dX9_bore_82 (by decide) ?_
  exact gT_sub [1, 2, 3, 4, 0] rfl (hk43 σ x16 x17 x18 v20)
def mX9_bore_b43    : Nat → gS → Int32 → Int32 → Int32 → Int32 → Option (Int32 × gS)
  | 0, _, _, _, _, _ => none
  | n + 1, σ, x9, x10, x11, x12 => if 999 < x12 then (if x10 = 0 then (some (x11, σ)) else (some ((-2), σ))) else (gLet (gUI σ 9 1 x12) (fun s13 => gBind (mX9_givesFirstOn s13 x9) (fun r14 s15 => if r14 = true then (if x10 = 1 then (some (x12, s15)) else (gLet (x11 + 1) (fun v21 => (mX9_bore_b79 (mX9_bore_b43  n) s15 x9 x10 v21 x12)))) else ((mX9_bore_b79 (mX9_bore_b43  n) s15 x9 x10 x11 x12)))))
set_option maxHeartbeats 4000000 in
set_option maxRecDepth 100000 in
theorem wX9_bore_b43 {p : Program} {l : Launch} {e : Env} {s : State} {m : MethodId} {args : Array Value} {below : List Frame} {meth : Method} {c : Code} {G : gE} (hC : gCx p s m args meth c G RX9 cX9_bore 5 (some .int))     (n : Nat) (σ : gS) (x9 : Int32) (x10 : Int32) (x11 : Int32) (x12 : Int32)  : gT p l e rX9_bore s m args below meth c G 5 iI σ 43 [(0, .ref (G.2.1 0)), (1, .int x9), (2, .int x10), (3, .int x11), (4, .int x12)] [] (mX9_bore_b43  n σ x9 x10 x11 x12) := by
  induction n generalizing σ x9 x10 x11 x12 with
  | zero => exact gT_none
  | succ n ih =>
    unfold mX9_bore_b43
    refine g_iload (pc := 43) (q := 4) hC dX9_bore_43 rfl ?_
    refine g_sipush (pc := 45) (v := 999) hC dX9_bore_45 (by decide) ?_
    refine g_icmp_gt (pc := 48) (tgt := 85) hC dX9_bore_48 (by decide) ?_ ?_
    · refine g_iload_n (pc := 85) (q := 2) hC dX9_bore_85 rfl rfl ?_
      refine g_if_ne (pc := 86) (tgt := 93) hC dX9_bore_86 (by decide) ?_ ?_
      · refine g_bipush (pc := 93) (v := (-2)) hC dX9_bore_93 (by decide) ?_
        exact g_iret (pc := 95) hC dX9_bore_95
      · refine g_iload_n (pc := 89) (q := 3) hC dX9_bore_89 rfl rfl ?_
        refine g_goto (pc := 90) (tgt := 95) hC dX9_bore_90 (by decide) ?_
        exact g_iret (pc := 95) hC dX9_bore_95
    · refine g_aload_n (pc := 51) (q := 0) hC dX9_bore_51 rfl rfl ?_
      refine g_get (pc := 52) (v := .ref (G.2.1 9)) hC kX9 rfl 2 (by decide) fl_RX9_23 rfl dX9_bore_52 ?_
      refine g_iload (pc := 55) (q := 4) hC dX9_bore_55 rfl ?_
      refine g_puti (pc := 57) (fty := .int) hC kX5 rfl 1 (by decide) fl_RX9_266 rfl rfl rfl rfl (fun _ _ => Nat.le_of_ble_eq_true rfl) (fun _ _ => rfl) dX9_bore_57 (fun s13 => ?_)
      refine g_aload_n (pc := 60) (q := 0) hC dX9_bore_60 rfl rfl ?_
      refine g_iload_n (pc := 61) (q := 1) hC dX9_bore_61 rfl rfl ?_
      refine g_callVz (pc := 62) (As := [.int x9]) (rest := []) hC lk_RX9_269 kX9 rfl (tX9_givesFirstOn _ _ s13 x9) rfl rfl (Nat.le_of_ble_eq_true rfl) ⟨rfl, rfl, Nat.le_of_ble_eq_true rfl, Nat.le_of_ble_eq_true rfl⟩ dX9_bore_62 (fun r14 s15 => ?_)
      refine g_bif_eq (pc := 65) (tgt := 79) hC dX9_bore_65 (by decide) ?_ ?_
      · exact gT_sub [0, 1, 2, 3, 4] rfl (wX9_bore_b79 hC ih s15 x9 x10 x11 x12)
      · refine g_iload_n (pc := 68) (q := 2) hC dX9_bore_68 rfl rfl ?_
        refine g_iconst (pc := 69) (v := 1) hC dX9_bore_69 (by decide) ?_
        refine g_icmp_ne (pc := 70) (tgt := 76) hC dX9_bore_70 (by decide) ?_ ?_
        · refine g_iinc (pc := 76) (q := 3) (w := 1) (lv' := fun v21 => [(3, .int v21), (0, .ref (G.2.1 0)), (1, .int x9), (2, .int x10), (4, .int x12)]) hC dX9_bore_76 rfl (by decide) (by decide) (fun _ => rfl) (fun v21 => ?_)
          exact gT_sub [1, 2, 3, 0, 4] rfl (wX9_bore_b79 hC ih s15 x9 x10 v21 x12)
        · refine g_iload (pc := 73) (q := 4) hC dX9_bore_73 rfl ?_
          exact g_iret (pc := 75) hC dX9_bore_75
def mX9_bore (σ : gS) (p0 : Int32) (p1 : Int32) : Option (Int32 × gS) := gBind (mX9_within σ p0 (σ.1 8 4) 30) (fun r1 s2 => if r1 = true then (gBind (mX9_within s2 p1 0 1) (fun r3 s4 => if r3 = true then (gBind (mX5_takeFrom s4 9 8) (fun r5 s6 => gLet 0 (fun v7 => gLet 1 (fun v8 => (mX9_bore_b43  1100 s6 p0 p1 v7 v8))))) else (some ((-1), s4)))) else (some ((-1), s2)))
set_option maxHeartbeats 4000000 in
set_option maxRecDepth 100000 in
theorem tX9_bore (l : Launch) (G : gE) (σ : gS) (p0 : Int32) (p1 : Int32) : gM l G yX9_bore cX9_bore 5 (some .int) rX9_bore iI [.ref (G.2.1 0), .int p0, .int p1] σ (mX9_bore σ p0 p1) := by
  refine gM_of (by decide) (Nat.le_of_ble_eq_true rfl) ?_
  intro p e s m args below meth c hC
  unfold mX9_bore
  show gT p l e rX9_bore s m args below meth c G 5 iI σ 0 [(0, .ref (G.2.1 0)), (1, .int p0), (2, .int p1)] [] _
  refine g_iload_n (pc := 0) (q := 1) hC dX9_bore_0 rfl rfl ?_
  refine g_aload_n (pc := 1) (q := 0) hC dX9_bore_1 rfl rfl ?_
  refine g_get (pc := 2) (v := .ref (G.2.1 8)) hC kX9 rfl 1 (by decide) fl_RX9_19 rfl dX9_bore_2 ?_
  refine g_get (pc := 5) (v := .int (σ.1 8 4)) hC kX5 rfl 4 (by decide) fl_RX9_153 rfl dX9_bore_5 ?_
  refine g_bipush (pc := 8) (v := 30) hC dX9_bore_8 (by decide) ?_
  refine g_callSz (pc := 10) (As := [.int p0, .int (σ.1 8 4), .int 30]) (rest := []) hC lk_RX9_102 (tX9_within _ _ σ p0 (σ.1 8 4) 30) rfl rfl (Nat.le_of_ble_eq_true rfl) ⟨rfl, rfl, Nat.le_of_ble_eq_true rfl, Nat.le_of_ble_eq_true rfl⟩ dX9_bore_10 (fun r1 s2 => ?_)
  refine g_bif_eq (pc := 13) (tgt := 25) hC dX9_bore_13 (by decide) ?_ ?_
  · refine g_iconst (pc := 25) (v := (-1)) hC dX9_bore_25 (by decide) ?_
    exact g_iret (pc := 26) hC dX9_bore_26
  · refine g_iload_n (pc := 16) (q := 2) hC dX9_bore_16 rfl rfl ?_
    refine g_iconst (pc := 17) (v := 0) hC dX9_bore_17 (by decide) ?_
    refine g_iconst (pc := 18) (v := 1) hC dX9_bore_18 (by decide) ?_
    refine g_callSz (pc := 19) (As := [.int p1, .int 0, .int 1]) (rest := []) hC lk_RX9_102 (tX9_within _ _ s2 p1 0 1) rfl rfl (Nat.le_of_ble_eq_true rfl) ⟨rfl, rfl, Nat.le_of_ble_eq_true rfl, Nat.le_of_ble_eq_true rfl⟩ dX9_bore_19 (fun r3 s4 => ?_)
    refine g_bif_ne (pc := 22) (tgt := 27) hC dX9_bore_22 (by decide) ?_ ?_
    · refine g_aload_n (pc := 27) (q := 0) hC dX9_bore_27 rfl rfl ?_
      refine g_get (pc := 28) (v := .ref (G.2.1 9)) hC kX9 rfl 2 (by decide) fl_RX9_23 rfl dX9_bore_28 ?_
      refine g_aload_n (pc := 31) (q := 0) hC dX9_bore_31 rfl rfl ?_
      refine g_get (pc := 32) (v := .ref (G.2.1 8)) hC kX9 rfl 1 (by decide) fl_RX9_19 rfl dX9_bore_32 ?_
      refine g_callVv (pc := 35) (As := [.ref (G.2.1 8)]) (rest := []) hC lk_RX9_262 kX5 rfl (tX5_takeFrom _ _ s4 9 8) rfl rfl (Nat.le_of_ble_eq_true rfl) ⟨rfl, rfl, Nat.le_of_ble_eq_true rfl, Nat.le_of_ble_eq_true rfl⟩ dX9_bore_35 (fun r5 s6 => ?_)
      refine g_iconst (pc := 38) (v := 0) hC dX9_bore_38 (by decide) ?_
      refine g_istore_n (pc := 39) (lv' := fun v7 => [(3, .int v7), (0, .ref (G.2.1 0)), (1, .int p0), (2, .int p1)]) hC dX9_bore_39 rfl (by decide) (fun _ => rfl) (fun v7 => ?_)
      refine g_iconst (pc := 40) (v := 1) hC dX9_bore_40 (by decide) ?_
      refine g_istore (pc := 41) (lv' := fun v8 => [(4, .int v8), (3, .int v7), (0, .ref (G.2.1 0)), (1, .int p0), (2, .int p1)]) hC dX9_bore_41 (by decide) (fun _ => rfl) (fun v8 => ?_)
      exact gT_sub [2, 3, 4, 1, 0] rfl (wX9_bore_b43 hC  1100 s6 p0 p1 v7 v8)
    · refine g_iconst (pc := 25) (v := (-1)) hC dX9_bore_25 (by decide) ?_
      exact g_iret (pc := 26) hC dX9_bore_26
theorem cst_RX9_188 : Cond.constant RX9 188 (-2000000000) ∈ gBig := (gBig_tab 721 (by decide +kernel) (by decide +kernel))
theorem lk_RX9_297 : gLV RX9 297 RX9 yX9_drawSummer cX9_drawSummer 6 (none) 1 := ⟨(gBig_tab 888 (by decide +kernel) (by decide +kernel)), (gBig_tab 890 (by decide +kernel) (by decide +kernel)), (gBig_sel 37 (by decide +kernel) (by decide +kernel)), (gBig_tab 1 (by decide +kernel) (by decide +kernel)), (gBig_tab 891 (by decide +kernel) (by decide +kernel)), rfl, by decide +kernel, by decide +kernel, by decide +kernel⟩
theorem lk_RX9_290 : gLV RX9 290 RX7 yX7_beginDraws cX7_beginDraws 3 (none) 2 := ⟨(gBig_tab 884 (by decide +kernel) (by decide +kernel)), (gBig_tab 885 (by decide +kernel) (by decide +kernel)), (gBig_tab 886 (by decide +kernel) (by decide +kernel)), (gBig_tab 4 (by decide +kernel) (by decide +kernel)), (gBig_tab 887 (by decide +kernel) (by decide +kernel)), rfl, by decide +kernel, by decide +kernel, by decide +kernel⟩
theorem dX9_drawn_0 : decode cX9_drawn 0 = .ok (.iload_n 3, 1) := by decide +kernel
theorem dX9_drawn_1 : decode cX9_drawn 1 = .ok (.sipush 10000, 3) := by decide +kernel
theorem dX9_drawn_4 : decode cX9_drawn 4 = .ok (.idiv, 1) := by decide +kernel
theorem dX9_drawn_5 : decode cX9_drawn 5 = .ok (.istore 5, 2) := by decide +kernel
theorem dX9_drawn_7 : decode cX9_drawn 7 = .ok (.iload_n 3, 1) := by decide +kernel
theorem dX9_drawn_8 : decode cX9_drawn 8 = .ok (.bipush 100, 2) := by decide +kernel
theorem dX9_drawn_10 : decode cX9_drawn 10 = .ok (.idiv, 1) := by decide +kernel
theorem dX9_drawn_11 : decode cX9_drawn 11 = .ok (.bipush 100, 2) := by decide +kernel
theorem dX9_drawn_13 : decode cX9_drawn 13 = .ok (.irem, 1) := by decide +kernel
theorem dX9_drawn_14 : decode cX9_drawn 14 = .ok (.istore 6, 2) := by decide +kernel
theorem dX9_drawn_16 : decode cX9_drawn 16 = .ok (.iload_n 3, 1) := by decide +kernel
theorem dX9_drawn_17 : decode cX9_drawn 17 = .ok (.bipush 100, 2) := by decide +kernel
theorem dX9_drawn_19 : decode cX9_drawn 19 = .ok (.irem, 1) := by decide +kernel
theorem dX9_drawn_20 : decode cX9_drawn 20 = .ok (.istore 7, 2) := by decide +kernel
theorem dX9_drawn_22 : decode cX9_drawn 22 = .ok (.iload_n 3, 1) := by decide +kernel
theorem dX9_drawn_23 : decode cX9_drawn 23 = .ok (.ifCond .lt 56, 3) := by decide +kernel
theorem dX9_drawn_26 : decode cX9_drawn 26 = .ok (.iload 5, 2) := by decide +kernel
theorem dX9_drawn_28 : decode cX9_drawn 28 = .ok (.iconst 1, 1) := by decide +kernel
theorem dX9_drawn_29 : decode cX9_drawn 29 = .ok (.bipush 30, 2) := by decide +kernel
theorem dX9_drawn_31 : decode cX9_drawn 31 = .ok (.invokestatic 102, 3) := by decide +kernel
theorem dX9_drawn_34 : decode cX9_drawn 34 = .ok (.ifCond .eq 45, 3) := by decide +kernel
theorem dX9_drawn_37 : decode cX9_drawn 37 = .ok (.iload 6, 2) := by decide +kernel
theorem dX9_drawn_39 : decode cX9_drawn 39 = .ok (.iconst 1, 1) := by decide +kernel
theorem dX9_drawn_40 : decode cX9_drawn 40 = .ok (.bipush 30, 2) := by decide +kernel
theorem dX9_drawn_42 : decode cX9_drawn 42 = .ok (.invokestatic 102, 3) := by decide +kernel
theorem dX9_drawn_45 : decode cX9_drawn 45 = .ok (.ifCond .eq 34, 3) := by decide +kernel
theorem dX9_drawn_48 : decode cX9_drawn 48 = .ok (.iload 7, 2) := by decide +kernel
theorem dX9_drawn_50 : decode cX9_drawn 50 = .ok (.iconst 0, 1) := by decide +kernel
theorem dX9_drawn_51 : decode cX9_drawn 51 = .ok (.bipush 12, 2) := by decide +kernel
theorem dX9_drawn_53 : decode cX9_drawn 53 = .ok (.invokestatic 102, 3) := by decide +kernel
theorem dX9_drawn_56 : decode cX9_drawn 56 = .ok (.ifCond .eq 23, 3) := by decide +kernel
theorem dX9_drawn_59 : decode cX9_drawn 59 = .ok (.iload 4, 2) := by decide +kernel
theorem dX9_drawn_61 : decode cX9_drawn 61 = .ok (.iconst 0, 1) := by decide +kernel
theorem dX9_drawn_62 : decode cX9_drawn 62 = .ok (.iconst 1, 1) := by decide +kernel
theorem dX9_drawn_63 : decode cX9_drawn 63 = .ok (.invokestatic 102, 3) := by decide +kernel
theorem dX9_drawn_66 : decode cX9_drawn 66 = .ok (.ifCond .eq 13, 3) := by decide +kernel
theorem dX9_drawn_69 : decode cX9_drawn 69 = .ok (.aload_n 0, 1) := by decide +kernel
theorem dX9_drawn_70 : decode cX9_drawn 70 = .ok (.iload_n 1, 1) := by decide +kernel
theorem dX9_drawn_71 : decode cX9_drawn 71 = .ok (.iconst 0, 1) := by decide +kernel
theorem dX9_drawn_72 : decode cX9_drawn 72 = .ok (.invokevirtual 248, 3) := by decide +kernel
theorem dX9_drawn_75 : decode cX9_drawn 75 = .ok (.iconst 1, 1) := by decide +kernel
theorem dX9_drawn_76 : decode cX9_drawn 76 = .ok (.if_icmp .eq 6, 3) := by decide +kernel
theorem dX9_drawn_79 : decode cX9_drawn 79 = .ok (.ldc 188, 2) := by decide +kernel
theorem dX9_drawn_81 : decode cX9_drawn 81 = .ok (.ireturn, 1) := by decide +kernel
theorem dX9_drawn_82 : decode cX9_drawn 82 = .ok (.aload_n 0, 1) := by decide +kernel
theorem dX9_drawn_83 : decode cX9_drawn 83 = .ok (.getfield 29, 3) := by decide +kernel
theorem dX9_drawn_86 : decode cX9_drawn 86 = .ok (.aload_n 0, 1) := by decide +kernel
theorem dX9_drawn_87 : decode cX9_drawn 87 = .ok (.getfield 91, 3) := by decide +kernel
theorem dX9_drawn_90 : decode cX9_drawn 90 = .ok (.iload_n 1, 1) := by decide +kernel
theorem dX9_drawn_91 : decode cX9_drawn 91 = .ok (.aaload, 1) := by decide +kernel
theorem dX9_drawn_92 : decode cX9_drawn 92 = .ok (.aload_n 0, 1) := by decide +kernel
theorem dX9_drawn_93 : decode cX9_drawn 93 = .ok (.getfield 19, 3) := by decide +kernel
theorem dX9_drawn_96 : decode cX9_drawn 96 = .ok (.getfield 153, 3) := by decide +kernel
theorem dX9_drawn_99 : decode cX9_drawn 99 = .ok (.invokevirtual 286, 3) := by decide +kernel
theorem dX9_drawn_102 : decode cX9_drawn 102 = .ok (.aload_n 0, 1) := by decide +kernel
theorem dX9_drawn_103 : decode cX9_drawn 103 = .ok (.getfield 29, 3) := by decide +kernel
theorem dX9_drawn_106 : decode cX9_drawn 106 = .ok (.iload_n 2, 1) := by decide +kernel
theorem dX9_drawn_107 : decode cX9_drawn 107 = .ok (.iload 7, 2) := by decide +kernel
theorem dX9_drawn_109 : decode cX9_drawn 109 = .ok (.invokevirtual 290, 3) := by decide +kernel
theorem dX9_drawn_112 : decode cX9_drawn 112 = .ok (.bipush 29, 2) := by decide +kernel
theorem dX9_drawn_114 : decode cX9_drawn 114 = .ok (.aload_n 0, 1) := by decide +kernel
theorem dX9_drawn_115 : decode cX9_drawn 115 = .ok (.getfield 19, 3) := by decide +kernel
theorem dX9_drawn_118 : decode cX9_drawn 118 = .ok (.getfield 153, 3) := by decide +kernel
theorem dX9_drawn_121 : decode cX9_drawn 121 = .ok (.iload 6, 2) := by decide +kernel
theorem dX9_drawn_123 : decode cX9_drawn 123 = .ok (.iadd, 1) := by decide +kernel
theorem dX9_drawn_124 : decode cX9_drawn 124 = .ok (.iconst 1, 1) := by decide +kernel
theorem dX9_drawn_125 : decode cX9_drawn 125 = .ok (.isub, 1) := by decide +kernel
theorem dX9_drawn_126 : decode cX9_drawn 126 = .ok (.invokestatic 294, 3) := by decide +kernel
theorem dX9_drawn_129 : decode cX9_drawn 129 = .ok (.istore 8, 2) := by decide +kernel
theorem dX9_drawn_131 : decode cX9_drawn 131 = .ok (.iconst 0, 1) := by decide +kernel
theorem dX9_drawn_132 : decode cX9_drawn 132 = .ok (.istore 9, 2) := by decide +kernel
theorem dX9_drawn_134 : decode cX9_drawn 134 = .ok (.iload 9, 2) := by decide +kernel
theorem dX9_drawn_136 : decode cX9_drawn 136 = .ok (.iload 5, 2) := by decide +kernel
theorem dX9_drawn_138 : decode cX9_drawn 138 = .ok (.if_icmp .ge 15, 3) := by decide +kernel
theorem dX9_drawn_141 : decode cX9_drawn 141 = .ok (.aload_n 0, 1) := by decide +kernel
theorem dX9_drawn_142 : decode cX9_drawn 142 = .ok (.iload 8, 2) := by decide +kernel
theorem dX9_drawn_144 : decode cX9_drawn 144 = .ok (.invokevirtual 297, 3) := by decide +kernel
theorem dX9_drawn_147 : decode cX9_drawn 147 = .ok (.iinc 9 1, 3) := by decide +kernel
theorem dX9_drawn_150 : decode cX9_drawn 150 = .ok (.goto (-16), 3) := by decide +kernel
theorem dX9_drawn_153 : decode cX9_drawn 153 = .ok (.iload 4, 2) := by decide +kernel
theorem dX9_drawn_155 : decode cX9_drawn 155 = .ok (.ifCond .ne 13, 3) := by decide +kernel
theorem dX9_drawn_158 : decode cX9_drawn 158 = .ok (.aload_n 0, 1) := by decide +kernel
theorem dX9_drawn_159 : decode cX9_drawn 159 = .ok (.getfield 29, 3) := by decide +kernel
theorem dX9_drawn_162 : decode cX9_drawn 162 = .ok (.getfield 300, 3) := by decide +kernel
theorem dX9_drawn_165 : decode cX9_drawn 165 = .ok (.goto 10, 3) := by decide +kernel
theorem dX9_drawn_168 : decode cX9_drawn 168 = .ok (.aload_n 0, 1) := by decide +kernel
theorem dX9_drawn_169 : decode cX9_drawn 169 = .ok (.getfield 29, 3) := by decide +kernel
theorem dX9_drawn_172 : decode cX9_drawn 172 = .ok (.getfield 303, 3) := by decide +kernel
theorem dX9_drawn_175 : decode cX9_drawn 175 = .ok (.ireturn, 1) := by decide +kernel
abbrev rX9_drawn : Room := { frames := 5, cells := 0, slots := 0, locals := 121 }
def mX9_drawn_b134    : Nat → gS → Int32 → Int32 → Int32 → Int32 → Option (Int32 × gS)
  | 0, _, _, _, _, _ => none
  | n + 1, σ, x21, x22, x23, x24 => if x22 ≤ x24 then (if x21 = 0 then (some ((σ.1 10 4), σ)) else (some ((σ.1 10 5), σ))) else (gBind (mX9_drawSummer σ x23) (fun r25 s26 => gLet (x24 + 1) (fun v27 => ((mX9_drawn_b134  n) s26 x21 x22 x23 v27))))
set_option maxHeartbeats 4000000 in
set_option maxRecDepth 100000 in
theorem wX9_drawn_b134 {p : Program} {l : Launch} {e : Env} {s : State} {m : MethodId} {args : Array Value} {below : List Frame} {meth : Method} {c : Code} {G : gE} (hC : gCx p s m args meth c G RX9 cX9_drawn 10 (some .int))     (n : Nat) (σ : gS) (x21 : Int32) (x22 : Int32) (x23 : Int32) (x24 : Int32)  : gT p l e rX9_drawn s m args below meth c G 10 iI σ 134 [(0, .ref (G.2.1 0)), (4, .int x21), (5, .int x22), (8, .int x23), (9, .int x24)] [] (mX9_drawn_b134  n σ x21 x22 x23 x24) := by
  induction n generalizing σ x21 x22 x23 x24 with
  | zero => exact gT_none
  | succ n ih =>
    unfold mX9_drawn_b134
    refine g_iload (pc := 134) (q := 4) hC dX9_drawn_134 rfl ?_
    refine g_iload (pc := 136) (q := 2) hC dX9_drawn_136 rfl ?_
    refine g_icmp_ge (pc := 138) (tgt := 153) hC dX9_drawn_138 (by decide) ?_ ?_
    · refine g_iload (pc := 153) (q := 1) hC dX9_drawn_153 rfl ?_
      refine g_if_ne (pc := 155) (tgt := 168) hC dX9_drawn_155 (by decide) ?_ ?_
      · refine g_aload_n (pc := 168) (q := 0) hC dX9_drawn_168 rfl rfl ?_
        refine g_get (pc := 169) (v := .ref (G.2.1 10)) hC kX9 rfl 3 (by decide) fl_RX9_29 rfl dX9_drawn_169 ?_
        refine g_get (pc := 172) (v := .int (σ.1 10 5)) hC kX7 rfl 5 (by decide) fl_RX9_303 rfl dX9_drawn_172 ?_
        exact g_iret (pc := 175) hC dX9_drawn_175
      · refine g_aload_n (pc := 158) (q := 0) hC dX9_drawn_158 rfl rfl ?_
        refine g_get (pc := 159) (v := .ref (G.2.1 10)) hC kX9 rfl 3 (by decide) fl_RX9_29 rfl dX9_drawn_159 ?_
        refine g_get (pc := 162) (v := .int (σ.1 10 4)) hC kX7 rfl 4 (by decide) fl_RX9_300 rfl dX9_drawn_162 ?_
        refine g_goto (pc := 165) (tgt := 175) hC dX9_drawn_165 (by decide) ?_
        exact g_iret (pc := 175) hC dX9_drawn_175
    · refine g_aload_n (pc := 141) (q := 0) hC dX9_drawn_141 rfl rfl ?_
      refine g_iload (pc := 142) (q := 3) hC dX9_drawn_142 rfl ?_
      refine g_callVv (pc := 144) (As := [.int x23]) (rest := []) hC lk_RX9_297 kX9 rfl (tX9_drawSummer _ _ σ x23) rfl rfl (Nat.le_of_ble_eq_true rfl) ⟨rfl, rfl, Nat.le_of_ble_eq_true rfl, Nat.le_of_ble_eq_true rfl⟩ dX9_drawn_144 (fun r25 s26 => ?_)
      refine g_iinc (pc := 147) (q := 4) (w := 1) (lv' := fun v27 => [(9, .int v27), (0, .ref (G.2.1 0)), (4, .int x21), (5, .int x22), (8, .int x23)]) hC dX9_drawn_147 rfl (by decide) (by decide) (fun _ => rfl) (fun v27 => ?_)
      refine g_goto (pc := 150) (tgt := 134) hC dX9_drawn_150 (by decide) ?_
      exact gT_sub [1, 2, 3, 4, 0] rfl (ih s26 x21 x22 x23 v27)
def mX9_drawn (σ : gS) (p0 : Int32) (p1 : Int32) (p2 : Int32) (p3 : Int32) : Option (Int32 × gS) := gLet (p2 / 10000) (fun v1 => gLet (gRem (p2 / 100) 100) (fun v2 => gLet (gRem p2 100) (fun v3 => if p2 < 0 then (some ((-2000000000), σ)) else (gBind (mX9_within σ v1 1 30) (fun r4 s5 => if r4 = true then (gBind (mX9_within s5 v2 1 30) (fun r6 s7 => if r6 = true then (gBind (mX9_within s7 v3 0 12) (fun r8 s9 => if r8 = true then (gBind (mX9_within s9 p3 0 1) (fun r10 s11 => if r10 = true then (gBind (mX9_refuseRow s11 p0 0) (fun r12 s13 => if r12 = 1 then (if inbB p0 6 = true then (if gk (40 + 2 * Int32.toNatClampNeg p0) = 6 then (gBind (mX7_askRow s13 (40 + 2 * Int32.toNatClampNeg p0) (s13.1 8 4)) (fun r15 s16 => gBind (mX7_beginDraws s16 p1 v3) (fun r17 s18 => gLet (gMin 29 (((s18.1 8 4) + v2) - 1)) (fun v19 => gLet 0 (fun v20 => (mX9_drawn_b134  1100 s18 p3 v1 v19 v20)))))) else none) else none) else (some ((-2000000000), s13)))) else (some ((-2000000000), s11)))) else (some ((-2000000000), s9)))) else (some ((-2000000000), s7)))) else (some ((-2000000000), s5)))))))
set_option maxHeartbeats 4000000 in
set_option maxRecDepth 100000 in
theorem tX9_drawn (l : Launch) (G : gE) (σ : gS) (p0 : Int32) (p1 : Int32) (p2 : Int32) (p3 : Int32) : gM l G yX9_drawn cX9_drawn 10 (some .int) rX9_drawn iI [.ref (G.2.1 0), .int p0, .int p1, .int p2, .int p3] σ (mX9_drawn σ p0 p1 p2 p3) := by
  refine gM_of (by decide) (Nat.le_of_ble_eq_true rfl) ?_
  intro p e s m args below meth c hC
  unfold mX9_drawn
  show gT p l e rX9_drawn s m args below meth c G 10 iI σ 0 [(0, .ref (G.2.1 0)), (1, .int p0), (2, .int p1), (3, .int p2), (4, .int p3)] [] _
  refine g_iload_n (pc := 0) (q := 3) hC dX9_drawn_0 rfl rfl ?_
  refine g_sipush (pc := 1) (v := 10000) hC dX9_drawn_1 (by decide) ?_
  refine g_idivL (pc := 4) hC dX9_drawn_4 (by decide) ?_
  refine g_istore (pc := 5) (lv' := fun v1 => [(5, .int v1), (0, .ref (G.2.1 0)), (1, .int p0), (2, .int p1), (3, .int p2), (4, .int p3)]) hC dX9_drawn_5 (by decide) (fun _ => rfl) (fun v1 => ?_)
  refine g_iload_n (pc := 7) (q := 4) hC dX9_drawn_7 rfl rfl ?_
  refine g_bipush (pc := 8) (v := 100) hC dX9_drawn_8 (by decide) ?_
  refine g_idivL (pc := 10) hC dX9_drawn_10 (by decide) ?_
  refine g_bipush (pc := 11) (v := 100) hC dX9_drawn_11 (by decide) ?_
  refine g_iremL (pc := 13) hC dX9_drawn_13 (by decide) ?_
  refine g_istore (pc := 14) (lv' := fun v2 => [(6, .int v2), (5, .int v1), (0, .ref (G.2.1 0)), (1, .int p0), (2, .int p1), (3, .int p2), (4, .int p3)]) hC dX9_drawn_14 (by decide) (fun _ => rfl) (fun v2 => ?_)
  refine g_iload_n (pc := 16) (q := 5) hC dX9_drawn_16 rfl rfl ?_
  refine g_bipush (pc := 17) (v := 100) hC dX9_drawn_17 (by decide) ?_
  refine g_iremL (pc := 19) hC dX9_drawn_19 (by decide) ?_
  refine g_istore (pc := 20) (lv' := fun v3 => [(7, .int v3), (6, .int v2), (5, .int v1), (0, .ref (G.2.1 0)), (1, .int p0), (2, .int p1), (3, .int p2), (4, .int p3)]) hC dX9_drawn_20 (by decide) (fun _ => rfl) (fun v3 => ?_)
  refine g_iload_n (pc := 22) (q := 6) hC dX9_drawn_22 rfl rfl ?_
  refine g_if_lt (pc := 23) (tgt := 79) hC dX9_drawn_23 (by decide) ?_ ?_
  · refine g_ldc (pc := 79) hC dX9_drawn_79 cst_RX9_188 ?_
    exact g_iret (pc := 81) hC dX9_drawn_81
  · refine g_iload (pc := 26) (q := 2) hC dX9_drawn_26 rfl ?_
    refine g_iconst (pc := 28) (v := 1) hC dX9_drawn_28 (by decide) ?_
    refine g_bipush (pc := 29) (v := 30) hC dX9_drawn_29 (by decide) ?_
    refine g_callSz (pc := 31) (As := [.int v1, .int 1, .int 30]) (rest := []) hC lk_RX9_102 (tX9_within _ _ σ v1 1 30) rfl rfl (Nat.le_of_ble_eq_true rfl) ⟨rfl, rfl, Nat.le_of_ble_eq_true rfl, Nat.le_of_ble_eq_true rfl⟩ dX9_drawn_31 (fun r4 s5 => ?_)
    refine g_bif_eq (pc := 34) (tgt := 79) hC dX9_drawn_34 (by decide) ?_ ?_
    · refine g_ldc (pc := 79) hC dX9_drawn_79 cst_RX9_188 ?_
      exact g_iret (pc := 81) hC dX9_drawn_81
    · refine g_iload (pc := 37) (q := 1) hC dX9_drawn_37 rfl ?_
      refine g_iconst (pc := 39) (v := 1) hC dX9_drawn_39 (by decide) ?_
      refine g_bipush (pc := 40) (v := 30) hC dX9_drawn_40 (by decide) ?_
      refine g_callSz (pc := 42) (As := [.int v2, .int 1, .int 30]) (rest := []) hC lk_RX9_102 (tX9_within _ _ s5 v2 1 30) rfl rfl (Nat.le_of_ble_eq_true rfl) ⟨rfl, rfl, Nat.le_of_ble_eq_true rfl, Nat.le_of_ble_eq_true rfl⟩ dX9_drawn_42 (fun r6 s7 => ?_)
      refine g_bif_eq (pc := 45) (tgt := 79) hC dX9_drawn_45 (by decide) ?_ ?_
      · refine g_ldc (pc := 79) hC dX9_drawn_79 cst_RX9_188 ?_
        exact g_iret (pc := 81) hC dX9_drawn_81
      · refine g_iload (pc := 48) (q := 0) hC dX9_drawn_48 rfl ?_
        refine g_iconst (pc := 50) (v := 0) hC dX9_drawn_50 (by decide) ?_
        refine g_bipush (pc := 51) (v := 12) hC dX9_drawn_51 (by decide) ?_
        refine g_callSz (pc := 53) (As := [.int v3, .int 0, .int 12]) (rest := []) hC lk_RX9_102 (tX9_within _ _ s7 v3 0 12) rfl rfl (Nat.le_of_ble_eq_true rfl) ⟨rfl, rfl, Nat.le_of_ble_eq_true rfl, Nat.le_of_ble_eq_true rfl⟩ dX9_drawn_53 (fun r8 s9 => ?_)
        refine g_bif_eq (pc := 56) (tgt := 79) hC dX9_drawn_56 (by decide) ?_ ?_
        · refine g_ldc (pc := 79) hC dX9_drawn_79 cst_RX9_188 ?_
          exact g_iret (pc := 81) hC dX9_drawn_81
        · refine g_iload (pc := 59) (q := 7) hC dX9_drawn_59 rfl ?_
          refine g_iconst (pc := 61) (v := 0) hC dX9_drawn_61 (by decide) ?_
          refine g_iconst (pc := 62) (v := 1) hC dX9_drawn_62 (by decide) ?_
          refine g_callSz (pc := 63) (As := [.int p3, .int 0, .int 1]) (rest := []) hC lk_RX9_102 (tX9_within _ _ s9 p3 0 1) rfl rfl (Nat.le_of_ble_eq_true rfl) ⟨rfl, rfl, Nat.le_of_ble_eq_true rfl, Nat.le_of_ble_eq_true rfl⟩ dX9_drawn_63 (fun r10 s11 => ?_)
          refine g_bif_eq (pc := 66) (tgt := 79) hC dX9_drawn_66 (by decide) ?_ ?_
          · refine g_ldc (pc := 79) hC dX9_drawn_79 cst_RX9_188 ?_
            exact g_iret (pc := 81) hC dX9_drawn_81
          · refine g_aload_n (pc := 69) (q := 3) hC dX9_drawn_69 rfl rfl ?_
            refine g_iload_n (pc := 70) (q := 4) hC dX9_drawn_70 rfl rfl ?_
            refine g_iconst (pc := 71) (v := 0) hC dX9_drawn_71 (by decide) ?_
            refine g_callVi (pc := 72) (As := [.int p0, .int 0]) (rest := []) hC lk_RX9_248 kX9 rfl (tX9_refuseRow _ _ s11 p0 0) rfl rfl (Nat.le_of_ble_eq_true rfl) ⟨rfl, rfl, Nat.le_of_ble_eq_true rfl, Nat.le_of_ble_eq_true rfl⟩ dX9_drawn_72 (fun r12 s13 => ?_)
            refine g_iconst (pc := 75) (v := 1) hC dX9_drawn_75 (by decide) ?_
            refine g_icmp_eq (pc := 76) (tgt := 82) hC dX9_drawn_76 (by decide) ?_ ?_
            · refine g_aload_n (pc := 82) (q := 3) hC dX9_drawn_82 rfl rfl ?_
              refine g_get (pc := 83) (v := .ref (G.2.1 10)) hC kX9 rfl 3 (by decide) fl_RX9_29 rfl dX9_drawn_83 ?_
              refine g_aload_n (pc := 86) (q := 3) hC dX9_drawn_86 rfl rfl ?_
              refine g_get (pc := 87) (v := .ref (G.2.1 39)) hC kX9 rfl 15 (by decide) fl_RX9_91 rfl dX9_drawn_87 ?_
              refine g_iload_n (pc := 90) (q := 4) hC dX9_drawn_90 rfl rfl ?_
              refine g_aald (pc := 91) hC rfl dX9_drawn_91 ?_
              refine gT_if (fun hg14 => ?_) (fun _ => gT_none)
              refine g_aload_n (pc := 92) (q := 3) hC dX9_drawn_92 rfl rfl ?_
              refine g_get (pc := 93) (v := .ref (G.2.1 8)) hC kX9 rfl 1 (by decide) fl_RX9_19 rfl dX9_drawn_93 ?_
              refine g_get (pc := 96) (v := .int (s13.1 8 4)) hC kX5 rfl 4 (by decide) fl_RX9_153 rfl dX9_drawn_96 ?_
              refine g_callVv (pc := 99) (As := [.ref (G.2.1 (40 + 2 * Int32.toNatClampNeg p0)), .int (s13.1 8 4)]) (rest := []) hC lk_RX9_286 kX7 rfl (tX7_askRow _ _ s13 (40 + 2 * Int32.toNatClampNeg p0) (s13.1 8 4)) rfl rfl (Nat.le_of_ble_eq_true rfl) ⟨rfl, rfl, Nat.le_of_ble_eq_true rfl, Nat.le_of_ble_eq_true rfl⟩ dX9_drawn_99 (fun r15 s16 => ?_)
              refine g_aload_n (pc := 102) (q := 3) hC dX9_drawn_102 rfl rfl ?_
              refine g_get (pc := 103) (v := .ref (G.2.1 10)) hC kX9 rfl 3 (by decide) fl_RX9_29 rfl dX9_drawn_103 ?_
              refine g_iload_n (pc := 106) (q := 5) hC dX9_drawn_106 rfl rfl ?_
              refine g_iload (pc := 107) (q := 0) hC dX9_drawn_107 rfl ?_
              refine g_callVv (pc := 109) (As := [.int p1, .int v3]) (rest := []) hC lk_RX9_290 kX7 rfl (tX7_beginDraws _ _ s16 p1 v3) rfl rfl (Nat.le_of_ble_eq_true rfl) ⟨rfl, rfl, Nat.le_of_ble_eq_true rfl, Nat.le_of_ble_eq_true rfl⟩ dX9_drawn_109 (fun r17 s18 => ?_)
              refine g_bipush (pc := 112) (v := 29) hC dX9_drawn_112 (by decide) ?_
              refine g_aload_n (pc := 114) (q := 3) hC dX9_drawn_114 rfl rfl ?_
              refine g_get (pc := 115) (v := .ref (G.2.1 8)) hC kX9 rfl 1 (by decide) fl_RX9_19 rfl dX9_drawn_115 ?_
              refine g_get (pc := 118) (v := .int (s18.1 8 4)) hC kX5 rfl 4 (by decide) fl_RX9_153 rfl dX9_drawn_118 ?_
              refine g_iload (pc := 121) (q := 1) hC dX9_drawn_121 rfl ?_
              refine g_iadd (pc := 123) hC dX9_drawn_123 ?_
              refine g_iconst (pc := 124) (v := 1) hC dX9_drawn_124 (by decide) ?_
              refine g_isub (pc := 125) hC dX9_drawn_125 ?_
              refine g_min (pc := 126) hC mth_RX9_294 ⟨Nat.le_of_ble_eq_true rfl, Nat.le_of_ble_eq_true rfl⟩ (Nat.le_of_ble_eq_true rfl) dX9_drawn_126 ?_
              refine g_istore (pc := 129) (lv' := fun v19 => [(8, .int v19), (7, .int v3), (6, .int v2), (5, .int v1), (0, .ref (G.2.1 0)), (1, .int p0), (2, .int p1), (3, .int p2), (4, .int p3)]) hC dX9_drawn_129 (by decide) (fun _ => rfl) (fun v19 => ?_)
              refine g_iconst (pc := 131) (v := 0) hC dX9_drawn_131 (by decide) ?_
              refine g_istore (pc := 132) (lv' := fun v20 => [(9, .int v20), (8, .int v19), (7, .int v3), (6, .int v2), (5, .int v1), (0, .ref (G.2.1 0)), (1, .int p0), (2, .int p1), (3, .int p2), (4, .int p3)]) hC dX9_drawn_132 (by decide) (fun _ => rfl) (fun v20 => ?_)
              exact gT_sub [5, 9, 4, 1, 0] rfl (wX9_drawn_b134 hC  1100 s18 p3 v1 v19 v20)
            · refine g_ldc (pc := 79) hC dX9_drawn_79 cst_RX9_188 ?_
              exact g_iret (pc := 81) hC dX9_drawn_81
theorem fl_RX9_312 : Cond.fieldLink RX9 312 "WinterShed$Book" "days" "I" ∈ gBig := (gBig_tab 220 (by decide +kernel) (by decide +kernel))
theorem fl_RX9_315 : Cond.fieldLink RX9 315 "WinterShed$Book" "hours" "I" ∈ gBig := (gBig_tab 222 (by decide +kernel) (by decide +kernel))
theorem fl_RX9_317 : Cond.fieldLink RX9 317 "WinterShed$Book" "gain" "I" ∈ gBig := (gBig_tab 224 (by decide +kernel) (by decide +kernel))
theorem fl_RX9_322 : Cond.fieldLink RX9 322 "WinterShed$Book" "harm" "I" ∈ gBig := (gBig_tab 226 (by decide +kernel) (by decide +kernel))
theorem fl_RX9_309 : Cond.fieldLink RX9 309 "WinterShed$Book" "gave" "I" ∈ gBig := (gBig_tab 228 (by decide +kernel) (by decide +kernel))
theorem dX9_pass_0 : decode cX9_pass 0 = .ok (.iload_n 1, 1) := by decide +kernel
theorem dX9_pass_1 : decode cX9_pass 1 = .ok (.iconst 0, 1) := by decide +kernel
theorem dX9_pass_2 : decode cX9_pass 2 = .ok (.bipush 24, 2) := by decide +kernel
theorem dX9_pass_4 : decode cX9_pass 4 = .ok (.invokestatic 102, 3) := by decide +kernel
theorem dX9_pass_7 : decode cX9_pass 7 = .ok (.ifCond .ne 5, 3) := by decide +kernel
theorem dX9_pass_10 : decode cX9_pass 10 = .ok (.iconst (-1), 1) := by decide +kernel
theorem dX9_pass_11 : decode cX9_pass 11 = .ok (.ireturn, 1) := by decide +kernel
theorem dX9_pass_12 : decode cX9_pass 12 = .ok (.aload_n 0, 1) := by decide +kernel
theorem dX9_pass_13 : decode cX9_pass 13 = .ok (.getfield 19, 3) := by decide +kernel
theorem dX9_pass_16 : decode cX9_pass 16 = .ok (.getfield 153, 3) := by decide +kernel
theorem dX9_pass_19 : decode cX9_pass 19 = .ok (.bipush 29, 2) := by decide +kernel
theorem dX9_pass_21 : decode cX9_pass 21 = .ok (.if_icmp .lt 6, 3) := by decide +kernel
theorem dX9_pass_24 : decode cX9_pass 24 = .ok (.bipush (-5), 2) := by decide +kernel
theorem dX9_pass_26 : decode cX9_pass 26 = .ok (.ireturn, 1) := by decide +kernel
theorem dX9_pass_27 : decode cX9_pass 27 = .ok (.aload_n 0, 1) := by decide +kernel
theorem dX9_pass_28 : decode cX9_pass 28 = .ok (.getfield 19, 3) := by decide +kernel
theorem dX9_pass_31 : decode cX9_pass 31 = .ok (.aload_n 0, 1) := by decide +kernel
theorem dX9_pass_32 : decode cX9_pass 32 = .ok (.getfield 19, 3) := by decide +kernel
theorem dX9_pass_35 : decode cX9_pass 35 = .ok (.getfield 153, 3) := by decide +kernel
theorem dX9_pass_38 : decode cX9_pass 38 = .ok (.aload_n 0, 1) := by decide +kernel
theorem dX9_pass_39 : decode cX9_pass 39 = .ok (.getfield 19, 3) := by decide +kernel
theorem dX9_pass_42 : decode cX9_pass 42 = .ok (.getfield 193, 3) := by decide +kernel
theorem dX9_pass_45 : decode cX9_pass 45 = .ok (.invokevirtual 275, 3) := by decide +kernel
theorem dX9_pass_48 : decode cX9_pass 48 = .ok (.istore_n 2, 1) := by decide +kernel
theorem dX9_pass_49 : decode cX9_pass 49 = .ok (.iload_n 1, 1) := by decide +kernel
theorem dX9_pass_50 : decode cX9_pass 50 = .ok (.iload_n 2, 1) := by decide +kernel
theorem dX9_pass_51 : decode cX9_pass 51 = .ok (.if_icmp .le 6, 3) := by decide +kernel
theorem dX9_pass_54 : decode cX9_pass 54 = .ok (.bipush (-2), 2) := by decide +kernel
theorem dX9_pass_56 : decode cX9_pass 56 = .ok (.ireturn, 1) := by decide +kernel
theorem dX9_pass_57 : decode cX9_pass 57 = .ok (.aload_n 0, 1) := by decide +kernel
theorem dX9_pass_58 : decode cX9_pass 58 = .ok (.getfield 19, 3) := by decide +kernel
theorem dX9_pass_61 : decode cX9_pass 61 = .ok (.aload_n 0, 1) := by decide +kernel
theorem dX9_pass_62 : decode cX9_pass 62 = .ok (.getfield 19, 3) := by decide +kernel
theorem dX9_pass_65 : decode cX9_pass 65 = .ok (.getfield 153, 3) := by decide +kernel
theorem dX9_pass_68 : decode cX9_pass 68 = .ok (.aload_n 0, 1) := by decide +kernel
theorem dX9_pass_69 : decode cX9_pass 69 = .ok (.getfield 19, 3) := by decide +kernel
theorem dX9_pass_72 : decode cX9_pass 72 = .ok (.getfield 193, 3) := by decide +kernel
theorem dX9_pass_75 : decode cX9_pass 75 = .ok (.invokevirtual 306, 3) := by decide +kernel
theorem dX9_pass_78 : decode cX9_pass 78 = .ok (.ifCond .eq 16, 3) := by decide +kernel
theorem dX9_pass_81 : decode cX9_pass 81 = .ok (.aload_n 0, 1) := by decide +kernel
theorem dX9_pass_82 : decode cX9_pass 82 = .ok (.getfield 61, 3) := by decide +kernel
theorem dX9_pass_85 : decode cX9_pass 85 = .ok (.dup, 1) := by decide +kernel
theorem dX9_pass_86 : decode cX9_pass 86 = .ok (.getfield 309, 3) := by decide +kernel
theorem dX9_pass_89 : decode cX9_pass 89 = .ok (.iconst 1, 1) := by decide +kernel
theorem dX9_pass_90 : decode cX9_pass 90 = .ok (.iadd, 1) := by decide +kernel
theorem dX9_pass_91 : decode cX9_pass 91 = .ok (.putfield 309, 3) := by decide +kernel
theorem dX9_pass_94 : decode cX9_pass 94 = .ok (.aload_n 0, 1) := by decide +kernel
theorem dX9_pass_95 : decode cX9_pass 95 = .ok (.getfield 61, 3) := by decide +kernel
theorem dX9_pass_98 : decode cX9_pass 98 = .ok (.dup, 1) := by decide +kernel
theorem dX9_pass_99 : decode cX9_pass 99 = .ok (.getfield 312, 3) := by decide +kernel
theorem dX9_pass_102 : decode cX9_pass 102 = .ok (.iconst 1, 1) := by decide +kernel
theorem dX9_pass_103 : decode cX9_pass 103 = .ok (.iadd, 1) := by decide +kernel
theorem dX9_pass_104 : decode cX9_pass 104 = .ok (.putfield 312, 3) := by decide +kernel
theorem dX9_pass_107 : decode cX9_pass 107 = .ok (.aload_n 0, 1) := by decide +kernel
theorem dX9_pass_108 : decode cX9_pass 108 = .ok (.getfield 61, 3) := by decide +kernel
theorem dX9_pass_111 : decode cX9_pass 111 = .ok (.dup, 1) := by decide +kernel
theorem dX9_pass_112 : decode cX9_pass 112 = .ok (.getfield 315, 3) := by decide +kernel
theorem dX9_pass_115 : decode cX9_pass 115 = .ok (.iload_n 1, 1) := by decide +kernel
theorem dX9_pass_116 : decode cX9_pass 116 = .ok (.iadd, 1) := by decide +kernel
theorem dX9_pass_117 : decode cX9_pass 117 = .ok (.putfield 315, 3) := by decide +kernel
theorem dX9_pass_120 : decode cX9_pass 120 = .ok (.aload_n 0, 1) := by decide +kernel
theorem dX9_pass_121 : decode cX9_pass 121 = .ok (.getfield 61, 3) := by decide +kernel
theorem dX9_pass_124 : decode cX9_pass 124 = .ok (.dup, 1) := by decide +kernel
theorem dX9_pass_125 : decode cX9_pass 125 = .ok (.getfield 317, 3) := by decide +kernel
theorem dX9_pass_128 : decode cX9_pass 128 = .ok (.aload_n 0, 1) := by decide +kernel
theorem dX9_pass_129 : decode cX9_pass 129 = .ok (.getfield 10, 3) := by decide +kernel
theorem dX9_pass_132 : decode cX9_pass 132 = .ok (.aload_n 0, 1) := by decide +kernel
theorem dX9_pass_133 : decode cX9_pass 133 = .ok (.getfield 19, 3) := by decide +kernel
theorem dX9_pass_136 : decode cX9_pass 136 = .ok (.getfield 153, 3) := by decide +kernel
theorem dX9_pass_139 : decode cX9_pass 139 = .ok (.iload_n 1, 1) := by decide +kernel
theorem dX9_pass_140 : decode cX9_pass 140 = .ok (.invokevirtual 320, 3) := by decide +kernel
theorem dX9_pass_143 : decode cX9_pass 143 = .ok (.iadd, 1) := by decide +kernel
theorem dX9_pass_144 : decode cX9_pass 144 = .ok (.putfield 317, 3) := by decide +kernel
theorem dX9_pass_147 : decode cX9_pass 147 = .ok (.aload_n 0, 1) := by decide +kernel
theorem dX9_pass_148 : decode cX9_pass 148 = .ok (.getfield 61, 3) := by decide +kernel
theorem dX9_pass_151 : decode cX9_pass 151 = .ok (.dup, 1) := by decide +kernel
theorem dX9_pass_152 : decode cX9_pass 152 = .ok (.getfield 322, 3) := by decide +kernel
theorem dX9_pass_155 : decode cX9_pass 155 = .ok (.aload_n 0, 1) := by decide +kernel
theorem dX9_pass_156 : decode cX9_pass 156 = .ok (.getfield 10, 3) := by decide +kernel
theorem dX9_pass_159 : decode cX9_pass 159 = .ok (.aload_n 0, 1) := by decide +kernel
theorem dX9_pass_160 : decode cX9_pass 160 = .ok (.getfield 19, 3) := by decide +kernel
theorem dX9_pass_163 : decode cX9_pass 163 = .ok (.getfield 153, 3) := by decide +kernel
theorem dX9_pass_166 : decode cX9_pass 166 = .ok (.iload_n 1, 1) := by decide +kernel
theorem dX9_pass_167 : decode cX9_pass 167 = .ok (.invokevirtual 323, 3) := by decide +kernel
theorem dX9_pass_170 : decode cX9_pass 170 = .ok (.iadd, 1) := by decide +kernel
theorem dX9_pass_171 : decode cX9_pass 171 = .ok (.putfield 322, 3) := by decide +kernel
theorem dX9_pass_174 : decode cX9_pass 174 = .ok (.aload_n 0, 1) := by decide +kernel
theorem dX9_pass_175 : decode cX9_pass 175 = .ok (.getfield 19, 3) := by decide +kernel
theorem dX9_pass_178 : decode cX9_pass 178 = .ok (.aload_n 0, 1) := by decide +kernel
theorem dX9_pass_179 : decode cX9_pass 179 = .ok (.getfield 51, 3) := by decide +kernel
theorem dX9_pass_182 : decode cX9_pass 182 = .ok (.aload_n 0, 1) := by decide +kernel
theorem dX9_pass_183 : decode cX9_pass 183 = .ok (.getfield 19, 3) := by decide +kernel
theorem dX9_pass_186 : decode cX9_pass 186 = .ok (.aload_n 0, 1) := by decide +kernel
theorem dX9_pass_187 : decode cX9_pass 187 = .ok (.getfield 19, 3) := by decide +kernel
theorem dX9_pass_190 : decode cX9_pass 190 = .ok (.getfield 153, 3) := by decide +kernel
theorem dX9_pass_193 : decode cX9_pass 193 = .ok (.iload_n 2, 1) := by decide +kernel
theorem dX9_pass_194 : decode cX9_pass 194 = .ok (.iload_n 1, 1) := by decide +kernel
theorem dX9_pass_195 : decode cX9_pass 195 = .ok (.isub, 1) := by decide +kernel
theorem dX9_pass_196 : decode cX9_pass 196 = .ok (.iload_n 1, 1) := by decide +kernel
theorem dX9_pass_197 : decode cX9_pass 197 = .ok (.invokevirtual 326, 3) := by decide +kernel
theorem dX9_pass_200 : decode cX9_pass 200 = .ok (.putfield 193, 3) := by decide +kernel
theorem dX9_pass_203 : decode cX9_pass 203 = .ok (.aload_n 0, 1) := by decide +kernel
theorem dX9_pass_204 : decode cX9_pass 204 = .ok (.getfield 19, 3) := by decide +kernel
theorem dX9_pass_207 : decode cX9_pass 207 = .ok (.dup, 1) := by decide +kernel
theorem dX9_pass_208 : decode cX9_pass 208 = .ok (.getfield 153, 3) := by decide +kernel
theorem dX9_pass_211 : decode cX9_pass 211 = .ok (.iconst 1, 1) := by decide +kernel
theorem dX9_pass_212 : decode cX9_pass 212 = .ok (.iadd, 1) := by decide +kernel
theorem dX9_pass_213 : decode cX9_pass 213 = .ok (.putfield 153, 3) := by decide +kernel
theorem dX9_pass_216 : decode cX9_pass 216 = .ok (.aload_n 0, 1) := by decide +kernel
theorem dX9_pass_217 : decode cX9_pass 217 = .ok (.getfield 19, 3) := by decide +kernel
theorem dX9_pass_220 : decode cX9_pass 220 = .ok (.getfield 193, 3) := by decide +kernel
theorem dX9_pass_223 : decode cX9_pass 223 = .ok (.ireturn, 1) := by decide +kernel
abbrev rX9_pass : Room := { frames := 4, cells := 0, slots := 0, locals := 96 }
def mX9_pass_b94    (σ : gS) (x8 : Int32) (x9 : Int32) : Option (Int32 × gS) := gLet (gUI σ 28 0 ((σ.1 28 0) + 1)) (fun s10 => gLet (gUI s10 28 1 ((s10.1 28 1) + x8)) (fun s11 => gBind (mX8_gain s11 (s11.1 8 4) x8) (fun r12 s13 => gLet (gUI s13 28 2 ((s11.1 28 2) + r12)) (fun s14 => gBind (mX8_harmOfAll s14 (s14.1 8 4) x8) (fun r15 s16 => gLet (gUI s16 28 3 ((s14.1 28 3) + r15)) (fun s17 => gOpt (s17.2.2 0 7) (none) (fun k18 => if gk k18 = 3 then (gBind (mX3_overnight s17 k18 8 (s17.1 8 4) (x9 - x8) x8) (fun r19 s20 => gLet (gUI s20 8 0 r19) (fun s21 => gLet (gUI s21 8 4 ((s21.1 8 4) + 1)) (fun s22 => some ((s22.1 8 0), s22))))) else none)))))))
set_option maxHeartbeats 4000000 in
set_option maxRecDepth 100000 in
theorem wX9_pass_b94 {p : Program} {l : Launch} {e : Env} {s : State} {m : MethodId} {args : Array Value} {below : List Frame} {meth : Method} {c : Code} {G : gE} (hC : gCx p s m args meth c G RX9 cX9_pass 3 (some .int))     (σ : gS) (x8 : Int32) (x9 : Int32)  : gT p l e rX9_pass s m args below meth c G 3 iI σ 94 [(0, .ref (G.2.1 0)), (1, .int x8), (2, .int x9)] [] (mX9_pass_b94  σ x8 x9) := by
  unfold mX9_pass_b94
  refine g_aload_n (pc := 94) (q := 0) hC dX9_pass_94 rfl rfl ?_
  refine g_get (pc := 95) (v := .ref (G.2.1 28)) hC kX9 rfl 9 (by decide) fl_RX9_61 rfl dX9_pass_95 ?_
  refine g_dup (pc := 98) hC dX9_pass_98 rfl ?_
  refine g_get (pc := 99) (v := .int (σ.1 28 0)) hC kX0 rfl 0 (by decide) fl_RX9_312 rfl dX9_pass_99 ?_
  refine g_iconst (pc := 102) (v := 1) hC dX9_pass_102 (by decide) ?_
  refine g_iadd (pc := 103) hC dX9_pass_103 ?_
  refine g_puti (pc := 104) (fty := .int) hC kX0 rfl 0 (by decide) fl_RX9_312 rfl rfl rfl rfl (fun _ _ => Nat.le_of_ble_eq_true rfl) (fun _ _ => rfl) dX9_pass_104 (fun s10 => ?_)
  refine g_aload_n (pc := 107) (q := 0) hC dX9_pass_107 rfl rfl ?_
  refine g_get (pc := 108) (v := .ref (G.2.1 28)) hC kX9 rfl 9 (by decide) fl_RX9_61 rfl dX9_pass_108 ?_
  refine g_dup (pc := 111) hC dX9_pass_111 rfl ?_
  refine g_get (pc := 112) (v := .int (s10.1 28 1)) hC kX0 rfl 1 (by decide) fl_RX9_315 rfl dX9_pass_112 ?_
  refine g_iload_n (pc := 115) (q := 1) hC dX9_pass_115 rfl rfl ?_
  refine g_iadd (pc := 116) hC dX9_pass_116 ?_
  refine g_puti (pc := 117) (fty := .int) hC kX0 rfl 1 (by decide) fl_RX9_315 rfl rfl rfl rfl (fun _ _ => Nat.le_of_ble_eq_true rfl) (fun _ _ => rfl) dX9_pass_117 (fun s11 => ?_)
  refine g_aload_n (pc := 120) (q := 0) hC dX9_pass_120 rfl rfl ?_
  refine g_get (pc := 121) (v := .ref (G.2.1 28)) hC kX9 rfl 9 (by decide) fl_RX9_61 rfl dX9_pass_121 ?_
  refine g_dup (pc := 124) hC dX9_pass_124 rfl ?_
  refine g_get (pc := 125) (v := .int (s11.1 28 2)) hC kX0 rfl 2 (by decide) fl_RX9_317 rfl dX9_pass_125 ?_
  refine g_aload_n (pc := 128) (q := 0) hC dX9_pass_128 rfl rfl ?_
  refine g_get (pc := 129) (v := .ref (G.2.1 1)) hC kX9 rfl 0 (by decide) fl_RX9_10 rfl dX9_pass_129 ?_
  refine g_aload_n (pc := 132) (q := 0) hC dX9_pass_132 rfl rfl ?_
  refine g_get (pc := 133) (v := .ref (G.2.1 8)) hC kX9 rfl 1 (by decide) fl_RX9_19 rfl dX9_pass_133 ?_
  refine g_get (pc := 136) (v := .int (s11.1 8 4)) hC kX5 rfl 4 (by decide) fl_RX9_153 rfl dX9_pass_136 ?_
  refine g_iload_n (pc := 139) (q := 1) hC dX9_pass_139 rfl rfl ?_
  refine g_callVi (pc := 140) (As := [.int (s11.1 8 4), .int x8]) (rest := [.int (s11.1 28 2), .ref (G.2.1 28)]) hC lk_RX9_320 kX8 rfl (tX8_gain _ _ s11 (s11.1 8 4) x8) rfl rfl (Nat.le_of_ble_eq_true rfl) ⟨rfl, rfl, Nat.le_of_ble_eq_true rfl, Nat.le_of_ble_eq_true rfl⟩ dX9_pass_140 (fun r12 s13 => ?_)
  refine g_iadd (pc := 143) hC dX9_pass_143 ?_
  refine g_puti (pc := 144) (fty := .int) hC kX0 rfl 2 (by decide) fl_RX9_317 rfl rfl rfl rfl (fun _ _ => Nat.le_of_ble_eq_true rfl) (fun _ _ => rfl) dX9_pass_144 (fun s14 => ?_)
  refine g_aload_n (pc := 147) (q := 0) hC dX9_pass_147 rfl rfl ?_
  refine g_get (pc := 148) (v := .ref (G.2.1 28)) hC kX9 rfl 9 (by decide) fl_RX9_61 rfl dX9_pass_148 ?_
  refine g_dup (pc := 151) hC dX9_pass_151 rfl ?_
  refine g_get (pc := 152) (v := .int (s14.1 28 3)) hC kX0 rfl 3 (by decide) fl_RX9_322 rfl dX9_pass_152 ?_
  refine g_aload_n (pc := 155) (q := 0) hC dX9_pass_155 rfl rfl ?_
  refine g_get (pc := 156) (v := .ref (G.2.1 1)) hC kX9 rfl 0 (by decide) fl_RX9_10 rfl dX9_pass_156 ?_
  refine g_aload_n (pc := 159) (q := 0) hC dX9_pass_159 rfl rfl ?_
  refine g_get (pc := 160) (v := .ref (G.2.1 8)) hC kX9 rfl 1 (by decide) fl_RX9_19 rfl dX9_pass_160 ?_
  refine g_get (pc := 163) (v := .int (s14.1 8 4)) hC kX5 rfl 4 (by decide) fl_RX9_153 rfl dX9_pass_163 ?_
  refine g_iload_n (pc := 166) (q := 1) hC dX9_pass_166 rfl rfl ?_
  refine g_callVi (pc := 167) (As := [.int (s14.1 8 4), .int x8]) (rest := [.int (s14.1 28 3), .ref (G.2.1 28)]) hC lk_RX9_323 kX8 rfl (tX8_harmOfAll _ _ s14 (s14.1 8 4) x8) rfl rfl (Nat.le_of_ble_eq_true rfl) ⟨rfl, rfl, Nat.le_of_ble_eq_true rfl, Nat.le_of_ble_eq_true rfl⟩ dX9_pass_167 (fun r15 s16 => ?_)
  refine g_iadd (pc := 170) hC dX9_pass_170 ?_
  refine g_puti (pc := 171) (fty := .int) hC kX0 rfl 3 (by decide) fl_RX9_322 rfl rfl rfl rfl (fun _ _ => Nat.le_of_ble_eq_true rfl) (fun _ _ => rfl) dX9_pass_171 (fun s17 => ?_)
  refine g_aload_n (pc := 174) (q := 0) hC dX9_pass_174 rfl rfl ?_
  refine g_get (pc := 175) (v := .ref (G.2.1 8)) hC kX9 rfl 1 (by decide) fl_RX9_19 rfl dX9_pass_175 ?_
  refine g_aload_n (pc := 178) (q := 0) hC dX9_pass_178 rfl rfl ?_
  refine g_get (pc := 179) (v := va_rf ((s17.2.2 0 7).map G.2.1)) hC kX9 rfl 7 (by decide) fl_RX9_51 rfl dX9_pass_179 ?_
  refine gT_opt ?_ (fun k18 => ?_)
  · exact gT_none
  · refine gT_if (fun hk18 => ?_) (fun _ => gT_none)
    refine g_aload_n (pc := 182) (q := 0) hC dX9_pass_182 rfl rfl ?_
    refine g_get (pc := 183) (v := .ref (G.2.1 8)) hC kX9 rfl 1 (by decide) fl_RX9_19 rfl dX9_pass_183 ?_
    refine g_aload_n (pc := 186) (q := 0) hC dX9_pass_186 rfl rfl ?_
    refine g_get (pc := 187) (v := .ref (G.2.1 8)) hC kX9 rfl 1 (by decide) fl_RX9_19 rfl dX9_pass_187 ?_
    refine g_get (pc := 190) (v := .int (s17.1 8 4)) hC kX5 rfl 4 (by decide) fl_RX9_153 rfl dX9_pass_190 ?_
    refine g_iload_n (pc := 193) (q := 2) hC dX9_pass_193 rfl rfl ?_
    refine g_iload_n (pc := 194) (q := 1) hC dX9_pass_194 rfl rfl ?_
    refine g_isub (pc := 195) hC dX9_pass_195 ?_
    refine g_iload_n (pc := 196) (q := 1) hC dX9_pass_196 rfl rfl ?_
    refine g_callVi (pc := 197) (As := [.ref (G.2.1 8), .int (s17.1 8 4), .int (x9 - x8), .int x8]) (rest := [.ref (G.2.1 8)]) hC lk_RX9_326 kX3 hk18 (tX3_overnight _ _ s17 k18 8 (s17.1 8 4) (x9 - x8) x8) rfl rfl (Nat.le_of_ble_eq_true rfl) ⟨rfl, rfl, Nat.le_of_ble_eq_true rfl, Nat.le_of_ble_eq_true rfl⟩ dX9_pass_197 (fun r19 s20 => ?_)
    refine g_puti (pc := 200) (fty := .int) hC kX5 rfl 0 (by decide) fl_RX9_193 rfl rfl rfl rfl (fun _ _ => Nat.le_of_ble_eq_true rfl) (fun _ _ => rfl) dX9_pass_200 (fun s21 => ?_)
    refine g_aload_n (pc := 203) (q := 0) hC dX9_pass_203 rfl rfl ?_
    refine g_get (pc := 204) (v := .ref (G.2.1 8)) hC kX9 rfl 1 (by decide) fl_RX9_19 rfl dX9_pass_204 ?_
    refine g_dup (pc := 207) hC dX9_pass_207 rfl ?_
    refine g_get (pc := 208) (v := .int (s21.1 8 4)) hC kX5 rfl 4 (by decide) fl_RX9_153 rfl dX9_pass_208 ?_
    refine g_iconst (pc := 211) (v := 1) hC dX9_pass_211 (by decide) ?_
    refine g_iadd (pc := 212) hC dX9_pass_212 ?_
    refine g_puti (pc := 213) (fty := .int) hC kX5 rfl 4 (by decide) fl_RX9_153 rfl rfl rfl rfl (fun _ _ => Nat.le_of_ble_eq_true rfl) (fun _ _ => rfl) dX9_pass_213 (fun s22 => ?_)
    refine g_aload_n (pc := 216) (q := 0) hC dX9_pass_216 rfl rfl ?_
    refine g_get (pc := 217) (v := .ref (G.2.1 8)) hC kX9 rfl 1 (by decide) fl_RX9_19 rfl dX9_pass_217 ?_
    refine g_get (pc := 220) (v := .int (s22.1 8 0)) hC kX5 rfl 0 (by decide) fl_RX9_193 rfl dX9_pass_220 ?_
    exact g_iret (pc := 223) hC dX9_pass_223
def mX9_pass (σ : gS) (p0 : Int32) : Option (Int32 × gS) := gBind (mX9_within σ p0 0 24) (fun r1 s2 => if r1 = true then (if (s2.1 8 4) < 29 then (gBind (mX5_atDawn s2 8 (s2.1 8 4) (s2.1 8 0)) (fun r3 s4 => gLet r3 (fun v5 => if p0 ≤ v5 then (gBind (mX5_givesAt s4 8 (s4.1 8 4) (s4.1 8 0)) (fun r6 s7 => if r6 = true then (gLet (gUI s7 28 4 ((s7.1 28 4) + 1)) (fun s23 => (mX9_pass_b94  s23 p0 v5))) else ((mX9_pass_b94  s7 p0 v5)))) else (some ((-2), s4))))) else (some ((-5), s2))) else (some ((-1), s2)))
set_option maxHeartbeats 4000000 in
set_option maxRecDepth 100000 in
theorem tX9_pass (l : Launch) (G : gE) (σ : gS) (p0 : Int32) : gM l G yX9_pass cX9_pass 3 (some .int) rX9_pass iI [.ref (G.2.1 0), .int p0] σ (mX9_pass σ p0) := by
  refine gM_of (by decide) (Nat.le_of_ble_eq_true rfl) ?_
  intro p e s m args below meth c hC
  unfold mX9_pass
  show gT p l e rX9_pass s m args below meth c G 3 iI σ 0 [(0, .ref (G.2.1 0)), (1, .int p0)] [] _
  refine g_iload_n (pc := 0) (q := 1) hC dX9_pass_0 rfl rfl ?_
  refine g_iconst (pc := 1) (v := 0) hC dX9_pass_1 (by decide) ?_
  refine g_bipush (pc := 2) (v := 24) hC dX9_pass_2 (by decide) ?_
  refine g_callSz (pc := 4) (As := [.int p0, .int 0, .int 24]) (rest := []) hC lk_RX9_102 (tX9_within _ _ σ p0 0 24) rfl rfl (Nat.le_of_ble_eq_true rfl) ⟨rfl, rfl, Nat.le_of_ble_eq_true rfl, Nat.le_of_ble_eq_true rfl⟩ dX9_pass_4 (fun r1 s2 => ?_)
  refine g_bif_ne (pc := 7) (tgt := 12) hC dX9_pass_7 (by decide) ?_ ?_
  · refine g_aload_n (pc := 12) (q := 0) hC dX9_pass_12 rfl rfl ?_
    refine g_get (pc := 13) (v := .ref (G.2.1 8)) hC kX9 rfl 1 (by decide) fl_RX9_19 rfl dX9_pass_13 ?_
    refine g_get (pc := 16) (v := .int (s2.1 8 4)) hC kX5 rfl 4 (by decide) fl_RX9_153 rfl dX9_pass_16 ?_
    refine g_bipush (pc := 19) (v := 29) hC dX9_pass_19 (by decide) ?_
    refine g_icmp_lt (pc := 21) (tgt := 27) hC dX9_pass_21 (by decide) ?_ ?_
    · refine g_aload_n (pc := 27) (q := 0) hC dX9_pass_27 rfl rfl ?_
      refine g_get (pc := 28) (v := .ref (G.2.1 8)) hC kX9 rfl 1 (by decide) fl_RX9_19 rfl dX9_pass_28 ?_
      refine g_aload_n (pc := 31) (q := 0) hC dX9_pass_31 rfl rfl ?_
      refine g_get (pc := 32) (v := .ref (G.2.1 8)) hC kX9 rfl 1 (by decide) fl_RX9_19 rfl dX9_pass_32 ?_
      refine g_get (pc := 35) (v := .int (s2.1 8 4)) hC kX5 rfl 4 (by decide) fl_RX9_153 rfl dX9_pass_35 ?_
      refine g_aload_n (pc := 38) (q := 0) hC dX9_pass_38 rfl rfl ?_
      refine g_get (pc := 39) (v := .ref (G.2.1 8)) hC kX9 rfl 1 (by decide) fl_RX9_19 rfl dX9_pass_39 ?_
      refine g_get (pc := 42) (v := .int (s2.1 8 0)) hC kX5 rfl 0 (by decide) fl_RX9_193 rfl dX9_pass_42 ?_
      refine g_callVi (pc := 45) (As := [.int (s2.1 8 4), .int (s2.1 8 0)]) (rest := []) hC lk_RX9_275 kX5 rfl (tX5_atDawn _ _ s2 8 (s2.1 8 4) (s2.1 8 0)) rfl rfl (Nat.le_of_ble_eq_true rfl) ⟨rfl, rfl, Nat.le_of_ble_eq_true rfl, Nat.le_of_ble_eq_true rfl⟩ dX9_pass_45 (fun r3 s4 => ?_)
      refine g_istore_n (pc := 48) (lv' := fun v5 => [(2, .int v5), (0, .ref (G.2.1 0)), (1, .int p0)]) hC dX9_pass_48 rfl (by decide) (fun _ => rfl) (fun v5 => ?_)
      refine g_iload_n (pc := 49) (q := 2) hC dX9_pass_49 rfl rfl ?_
      refine g_iload_n (pc := 50) (q := 0) hC dX9_pass_50 rfl rfl ?_
      refine g_icmp_le (pc := 51) (tgt := 57) hC dX9_pass_51 (by decide) ?_ ?_
      · refine g_aload_n (pc := 57) (q := 1) hC dX9_pass_57 rfl rfl ?_
        refine g_get (pc := 58) (v := .ref (G.2.1 8)) hC kX9 rfl 1 (by decide) fl_RX9_19 rfl dX9_pass_58 ?_
        refine g_aload_n (pc := 61) (q := 1) hC dX9_pass_61 rfl rfl ?_
        refine g_get (pc := 62) (v := .ref (G.2.1 8)) hC kX9 rfl 1 (by decide) fl_RX9_19 rfl dX9_pass_62 ?_
        refine g_get (pc := 65) (v := .int (s4.1 8 4)) hC kX5 rfl 4 (by decide) fl_RX9_153 rfl dX9_pass_65 ?_
        refine g_aload_n (pc := 68) (q := 1) hC dX9_pass_68 rfl rfl ?_
        refine g_get (pc := 69) (v := .ref (G.2.1 8)) hC kX9 rfl 1 (by decide) fl_RX9_19 rfl dX9_pass_69 ?_
        refine g_get (pc := 72) (v := .int (s4.1 8 0)) hC kX5 rfl 0 (by decide) fl_RX9_193 rfl dX9_pass_72 ?_
        refine g_callVz (pc := 75) (As := [.int (s4.1 8 4), .int (s4.1 8 0)]) (rest := []) hC lk_RX9_306 kX5 rfl (tX5_givesAt _ _ s4 8 (s4.1 8 4) (s4.1 8 0)) rfl rfl (Nat.le_of_ble_eq_true rfl) ⟨rfl, rfl, Nat.le_of_ble_eq_true rfl, Nat.le_of_ble_eq_true rfl⟩ dX9_pass_75 (fun r6 s7 => ?_)
        refine g_bif_eq (pc := 78) (tgt := 94) hC dX9_pass_78 (by decide) ?_ ?_
        · exact gT_sub [1, 2, 0] rfl (wX9_pass_b94 hC  s7 p0 v5)
        · refine g_aload_n (pc := 81) (q := 1) hC dX9_pass_81 rfl rfl ?_
          refine g_get (pc := 82) (v := .ref (G.2.1 28)) hC kX9 rfl 9 (by decide) fl_RX9_61 rfl dX9_pass_82 ?_
          refine g_dup (pc := 85) hC dX9_pass_85 rfl ?_
          refine g_get (pc := 86) (v := .int (s7.1 28 4)) hC kX0 rfl 4 (by decide) fl_RX9_309 rfl dX9_pass_86 ?_
          refine g_iconst (pc := 89) (v := 1) hC dX9_pass_89 (by decide) ?_
          refine g_iadd (pc := 90) hC dX9_pass_90 ?_
          refine g_puti (pc := 91) (fty := .int) hC kX0 rfl 4 (by decide) fl_RX9_309 rfl rfl rfl rfl (fun _ _ => Nat.le_of_ble_eq_true rfl) (fun _ _ => rfl) dX9_pass_91 (fun s23 => ?_)
          exact gT_sub [1, 2, 0] rfl (wX9_pass_b94 hC  s23 p0 v5)
      · refine g_bipush (pc := 54) (v := (-2)) hC dX9_pass_54 (by decide) ?_
        exact g_iret (pc := 56) hC dX9_pass_56
    · refine g_bipush (pc := 24) (v := (-5)) hC dX9_pass_24 (by decide) ?_
      exact g_iret (pc := 26) hC dX9_pass_26
  · refine g_iconst (pc := 10) (v := (-1)) hC dX9_pass_10 (by decide) ?_
    exact g_iret (pc := 11) hC dX9_pass_11
theorem dX9_bring_0 : decode cX9_bring 0 = .ok (.iload_n 1, 1) := by decide +kernel
theorem dX9_bring_1 : decode cX9_bring 1 = .ok (.iconst 1, 1) := by decide +kernel
theorem dX9_bring_2 : decode cX9_bring 2 = .ok (.bipush 99, 2) := by decide +kernel
theorem dX9_bring_4 : decode cX9_bring 4 = .ok (.invokestatic 102, 3) := by decide +kernel
theorem dX9_bring_7 : decode cX9_bring 7 = .ok (.ifCond .ne 5, 3) := by decide +kernel
theorem dX9_bring_10 : decode cX9_bring 10 = .ok (.iconst (-1), 1) := by decide +kernel
theorem dX9_bring_11 : decode cX9_bring 11 = .ok (.ireturn, 1) := by decide +kernel
theorem dX9_bring_12 : decode cX9_bring 12 = .ok (.aload_n 0, 1) := by decide +kernel
theorem dX9_bring_13 : decode cX9_bring 13 = .ok (.getfield 19, 3) := by decide +kernel
theorem dX9_bring_16 : decode cX9_bring 16 = .ok (.aload_n 0, 1) := by decide +kernel
theorem dX9_bring_17 : decode cX9_bring 17 = .ok (.getfield 19, 3) := by decide +kernel
theorem dX9_bring_20 : decode cX9_bring 20 = .ok (.getfield 193, 3) := by decide +kernel
theorem dX9_bring_23 : decode cX9_bring 23 = .ok (.iload_n 1, 1) := by decide +kernel
theorem dX9_bring_24 : decode cX9_bring 24 = .ok (.iadd, 1) := by decide +kernel
theorem dX9_bring_25 : decode cX9_bring 25 = .ok (.sipush 999, 3) := by decide +kernel
theorem dX9_bring_28 : decode cX9_bring 28 = .ok (.invokestatic 294, 3) := by decide +kernel
theorem dX9_bring_31 : decode cX9_bring 31 = .ok (.putfield 193, 3) := by decide +kernel
theorem dX9_bring_34 : decode cX9_bring 34 = .ok (.aload_n 0, 1) := by decide +kernel
theorem dX9_bring_35 : decode cX9_bring 35 = .ok (.getfield 19, 3) := by decide +kernel
theorem dX9_bring_38 : decode cX9_bring 38 = .ok (.getfield 193, 3) := by decide +kernel
theorem dX9_bring_41 : decode cX9_bring 41 = .ok (.ireturn, 1) := by decide +kernel
abbrev rX9_bring : Room := { frames := 1, cells := 0, slots := 0, locals := 22 }
def mX9_bring (σ : gS) (p0 : Int32) : Option (Int32 × gS) := gBind (mX9_within σ p0 1 99) (fun r1 s2 => if r1 = true then (gLet (gUI s2 8 0 (gMin ((s2.1 8 0) + p0) 999)) (fun s3 => some ((s3.1 8 0), s3))) else (some ((-1), s2)))
set_option maxHeartbeats 4000000 in
set_option maxRecDepth 100000 in
theorem tX9_bring (l : Launch) (G : gE) (σ : gS) (p0 : Int32) : gM l G yX9_bring cX9_bring 2 (some .int) rX9_bring iI [.ref (G.2.1 0), .int p0] σ (mX9_bring σ p0) := by
  refine gM_of (by decide) (Nat.le_of_ble_eq_true rfl) ?_
  intro p e s m args below meth c hC
  unfold mX9_bring
  show gT p l e rX9_bring s m args below meth c G 2 iI σ 0 [(0, .ref (G.2.1 0)), (1, .int p0)] [] _
  refine g_iload_n (pc := 0) (q := 1) hC dX9_bring_0 rfl rfl ?_
  refine g_iconst (pc := 1) (v := 1) hC dX9_bring_1 (by decide) ?_
  refine g_bipush (pc := 2) (v := 99) hC dX9_bring_2 (by decide) ?_
  refine g_callSz (pc := 4) (As := [.int p0, .int 1, .int 99]) (rest := []) hC lk_RX9_102 (tX9_within _ _ σ p0 1 99) rfl rfl (Nat.le_of_ble_eq_true rfl) ⟨rfl, rfl, Nat.le_of_ble_eq_true rfl, Nat.le_of_ble_eq_true rfl⟩ dX9_bring_4 (fun r1 s2 => ?_)
  refine g_bif_ne (pc := 7) (tgt := 12) hC dX9_bring_7 (by decide) ?_ ?_
  · refine g_aload_n (pc := 12) (q := 0) hC dX9_bring_12 rfl rfl ?_
    refine g_get (pc := 13) (v := .ref (G.2.1 8)) hC kX9 rfl 1 (by decide) fl_RX9_19 rfl dX9_bring_13 ?_
    refine g_aload_n (pc := 16) (q := 0) hC dX9_bring_16 rfl rfl ?_
    refine g_get (pc := 17) (v := .ref (G.2.1 8)) hC kX9 rfl 1 (by decide) fl_RX9_19 rfl dX9_bring_17 ?_
    refine g_get (pc := 20) (v := .int (s2.1 8 0)) hC kX5 rfl 0 (by decide) fl_RX9_193 rfl dX9_bring_20 ?_
    refine g_iload_n (pc := 23) (q := 1) hC dX9_bring_23 rfl rfl ?_
    refine g_iadd (pc := 24) hC dX9_bring_24 ?_
    refine g_sipush (pc := 25) (v := 999) hC dX9_bring_25 (by decide) ?_
    refine g_min (pc := 28) hC mth_RX9_294 ⟨Nat.le_of_ble_eq_true rfl, Nat.le_of_ble_eq_true rfl⟩ (Nat.le_of_ble_eq_true rfl) dX9_bring_28 ?_
    refine g_puti (pc := 31) (fty := .int) hC kX5 rfl 0 (by decide) fl_RX9_193 rfl rfl rfl rfl (fun _ _ => Nat.le_of_ble_eq_true rfl) (fun _ _ => rfl) dX9_bring_31 (fun s3 => ?_)
    refine g_aload_n (pc := 34) (q := 0) hC dX9_bring_34 rfl rfl ?_
    refine g_get (pc := 35) (v := .ref (G.2.1 8)) hC kX9 rfl 1 (by decide) fl_RX9_19 rfl dX9_bring_35 ?_
    refine g_get (pc := 38) (v := .int (s3.1 8 0)) hC kX5 rfl 0 (by decide) fl_RX9_193 rfl dX9_bring_38 ?_
    exact g_iret (pc := 41) hC dX9_bring_41
  · refine g_iconst (pc := 10) (v := (-1)) hC dX9_bring_10 (by decide) ?_
    exact g_iret (pc := 11) hC dX9_bring_11
theorem dX9_boards_0 : decode cX9_boards 0 = .ok (.aload_n 0, 1) := by decide +kernel
theorem dX9_boards_1 : decode cX9_boards 1 = .ok (.getfield 19, 3) := by decide +kernel
theorem dX9_boards_4 : decode cX9_boards 4 = .ok (.aload_n 0, 1) := by decide +kernel
theorem dX9_boards_5 : decode cX9_boards 5 = .ok (.getfield 19, 3) := by decide +kernel
theorem dX9_boards_8 : decode cX9_boards 8 = .ok (.getfield 266, 3) := by decide +kernel
theorem dX9_boards_11 : decode cX9_boards 11 = .ok (.bipush 10, 2) := by decide +kernel
theorem dX9_boards_13 : decode cX9_boards 13 = .ok (.iadd, 1) := by decide +kernel
theorem dX9_boards_14 : decode cX9_boards 14 = .ok (.sipush 999, 3) := by decide +kernel
theorem dX9_boards_17 : decode cX9_boards 17 = .ok (.invokestatic 294, 3) := by decide +kernel
theorem dX9_boards_20 : decode cX9_boards 20 = .ok (.putfield 266, 3) := by decide +kernel
theorem dX9_boards_23 : decode cX9_boards 23 = .ok (.aload_n 0, 1) := by decide +kernel
theorem dX9_boards_24 : decode cX9_boards 24 = .ok (.getfield 19, 3) := by decide +kernel
theorem dX9_boards_27 : decode cX9_boards 27 = .ok (.getfield 266, 3) := by decide +kernel
theorem dX9_boards_30 : decode cX9_boards 30 = .ok (.ireturn, 1) := by decide +kernel
abbrev rX9_boards : Room := { frames := 1, cells := 0, slots := 0, locals := 21 }
def mX9_boards (σ : gS)  : Option (Int32 × gS) := gLet (gUI σ 8 1 (gMin ((σ.1 8 1) + 10) 999)) (fun s1 => some ((s1.1 8 1), s1))
set_option maxHeartbeats 4000000 in
set_option maxRecDepth 100000 in
theorem tX9_boards (l : Launch) (G : gE) (σ : gS)  : gM l G yX9_boards cX9_boards 1 (some .int) rX9_boards iI [.ref (G.2.1 0)] σ (mX9_boards σ ) := by
  refine gM_of (by decide) (Nat.le_of_ble_eq_true rfl) ?_
  intro p e s m args below meth c hC
  unfold mX9_boards
  show gT p l e rX9_boards s m args below meth c G 1 iI σ 0 [(0, .ref (G.2.1 0))] [] _
  refine g_aload_n (pc := 0) (q := 0) hC dX9_boards_0 rfl rfl ?_
  refine g_get (pc := 1) (v := .ref (G.2.1 8)) hC kX9 rfl 1 (by decide) fl_RX9_19 rfl dX9_boards_1 ?_
  refine g_aload_n (pc := 4) (q := 0) hC dX9_boards_4 rfl rfl ?_
  refine g_get (pc := 5) (v := .ref (G.2.1 8)) hC kX9 rfl 1 (by decide) fl_RX9_19 rfl dX9_boards_5 ?_
  refine g_get (pc := 8) (v := .int (σ.1 8 1)) hC kX5 rfl 1 (by decide) fl_RX9_266 rfl dX9_boards_8 ?_
  refine g_bipush (pc := 11) (v := 10) hC dX9_boards_11 (by decide) ?_
  refine g_iadd (pc := 13) hC dX9_boards_13 ?_
  refine g_sipush (pc := 14) (v := 999) hC dX9_boards_14 (by decide) ?_
  refine g_min (pc := 17) hC mth_RX9_294 ⟨Nat.le_of_ble_eq_true rfl, Nat.le_of_ble_eq_true rfl⟩ (Nat.le_of_ble_eq_true rfl) dX9_boards_17 ?_
  refine g_puti (pc := 20) (fty := .int) hC kX5 rfl 1 (by decide) fl_RX9_266 rfl rfl rfl rfl (fun _ _ => Nat.le_of_ble_eq_true rfl) (fun _ _ => rfl) dX9_boards_20 (fun s1 => ?_)
  refine g_aload_n (pc := 23) (q := 0) hC dX9_boards_23 rfl rfl ?_
  refine g_get (pc := 24) (v := .ref (G.2.1 8)) hC kX9 rfl 1 (by decide) fl_RX9_19 rfl dX9_boards_24 ?_
  refine g_get (pc := 27) (v := .int (s1.1 8 1)) hC kX5 rfl 1 (by decide) fl_RX9_266 rfl dX9_boards_27 ?_
  exact g_iret (pc := 30) hC dX9_boards_30
theorem dX9_led_0 : decode cX9_led 0 = .ok (.iload_n 1, 1) := by decide +kernel
theorem dX9_led_1 : decode cX9_led 1 = .ok (.tableswitch 75 0 4 #[35, 43, 51, 59, 67], 35) := by decide +kernel
theorem dX9_led_36 : decode cX9_led 36 = .ok (.aload_n 0, 1) := by decide +kernel
theorem dX9_led_37 : decode cX9_led 37 = .ok (.getfield 61, 3) := by decide +kernel
theorem dX9_led_40 : decode cX9_led 40 = .ok (.getfield 312, 3) := by decide +kernel
theorem dX9_led_43 : decode cX9_led 43 = .ok (.ireturn, 1) := by decide +kernel
theorem dX9_led_44 : decode cX9_led 44 = .ok (.aload_n 0, 1) := by decide +kernel
theorem dX9_led_45 : decode cX9_led 45 = .ok (.getfield 61, 3) := by decide +kernel
theorem dX9_led_48 : decode cX9_led 48 = .ok (.getfield 315, 3) := by decide +kernel
theorem dX9_led_51 : decode cX9_led 51 = .ok (.ireturn, 1) := by decide +kernel
theorem dX9_led_52 : decode cX9_led 52 = .ok (.aload_n 0, 1) := by decide +kernel
theorem dX9_led_53 : decode cX9_led 53 = .ok (.getfield 61, 3) := by decide +kernel
theorem dX9_led_56 : decode cX9_led 56 = .ok (.getfield 317, 3) := by decide +kernel
theorem dX9_led_59 : decode cX9_led 59 = .ok (.ireturn, 1) := by decide +kernel
theorem dX9_led_60 : decode cX9_led 60 = .ok (.aload_n 0, 1) := by decide +kernel
theorem dX9_led_61 : decode cX9_led 61 = .ok (.getfield 61, 3) := by decide +kernel
theorem dX9_led_64 : decode cX9_led 64 = .ok (.getfield 322, 3) := by decide +kernel
theorem dX9_led_67 : decode cX9_led 67 = .ok (.ireturn, 1) := by decide +kernel
theorem dX9_led_68 : decode cX9_led 68 = .ok (.aload_n 0, 1) := by decide +kernel
theorem dX9_led_69 : decode cX9_led 69 = .ok (.getfield 61, 3) := by decide +kernel
theorem dX9_led_72 : decode cX9_led 72 = .ok (.getfield 309, 3) := by decide +kernel
theorem dX9_led_75 : decode cX9_led 75 = .ok (.ireturn, 1) := by decide +kernel
theorem dX9_led_76 : decode cX9_led 76 = .ok (.iconst (-1), 1) := by decide +kernel
theorem dX9_led_77 : decode cX9_led 77 = .ok (.ireturn, 1) := by decide +kernel
abbrev rX9_led : Room := { frames := 0, cells := 0, slots := 0, locals := 0 }
def mX9_led (σ : gS) (p0 : Int32) : Option (Int32 × gS) := if p0 = 0 then (some ((σ.1 28 0), σ)) else (if p0 = 1 then (some ((σ.1 28 1), σ)) else (if p0 = 2 then (some ((σ.1 28 2), σ)) else (if p0 = 3 then (some ((σ.1 28 3), σ)) else (if p0 = 4 then (some ((σ.1 28 4), σ)) else (some ((-1), σ))))))
set_option maxHeartbeats 4000000 in
set_option maxRecDepth 100000 in
theorem tX9_led (l : Launch) (G : gE) (σ : gS) (p0 : Int32) : gM l G yX9_led cX9_led 2 (some .int) rX9_led iI [.ref (G.2.1 0), .int p0] σ (mX9_led σ p0) := by
  refine gM_of (by decide) (Nat.le_of_ble_eq_true rfl) ?_
  intro p e s m args below meth c hC
  unfold mX9_led
  show gT p l e rX9_led s m args below meth c G 2 iI σ 0 [(0, .ref (G.2.1 0)), (1, .int p0)] [] _
  refine g_iload_n (pc := 0) (q := 1) hC dX9_led_0 rfl rfl ?_
  refine gT_if (fun c100 => ?_) (fun c100 => ?_)
  · refine g_tabIn (tgt := 36) (off := 35) hC dX9_led_1 c100 (by decide) (by decide) (by decide) (by decide) ?_
    refine g_aload_n (pc := 36) (q := 0) hC dX9_led_36 rfl rfl ?_
    refine g_get (pc := 37) (v := .ref (G.2.1 28)) hC kX9 rfl 9 (by decide) fl_RX9_61 rfl dX9_led_37 ?_
    refine g_get (pc := 40) (v := .int (σ.1 28 0)) hC kX0 rfl 0 (by decide) fl_RX9_312 rfl dX9_led_40 ?_
    exact g_iret (pc := 43) hC dX9_led_43
  · refine gT_if (fun c101 => ?_) (fun c101 => ?_)
    · refine g_tabIn (tgt := 44) (off := 43) hC dX9_led_1 c101 (by decide) (by decide) (by decide) (by decide) ?_
      refine g_aload_n (pc := 44) (q := 0) hC dX9_led_44 rfl rfl ?_
      refine g_get (pc := 45) (v := .ref (G.2.1 28)) hC kX9 rfl 9 (by decide) fl_RX9_61 rfl dX9_led_45 ?_
      refine g_get (pc := 48) (v := .int (σ.1 28 1)) hC kX0 rfl 1 (by decide) fl_RX9_315 rfl dX9_led_48 ?_
      exact g_iret (pc := 51) hC dX9_led_51
    · refine gT_if (fun c102 => ?_) (fun c102 => ?_)
      · refine g_tabIn (tgt := 52) (off := 51) hC dX9_led_1 c102 (by decide) (by decide) (by decide) (by decide) ?_
        refine g_aload_n (pc := 52) (q := 0) hC dX9_led_52 rfl rfl ?_
        refine g_get (pc := 53) (v := .ref (G.2.1 28)) hC kX9 rfl 9 (by decide) fl_RX9_61 rfl dX9_led_53 ?_
        refine g_get (pc := 56) (v := .int (σ.1 28 2)) hC kX0 rfl 2 (by decide) fl_RX9_317 rfl dX9_led_56 ?_
        exact g_iret (pc := 59) hC dX9_led_59
      · refine gT_if (fun c103 => ?_) (fun c103 => ?_)
        · refine g_tabIn (tgt := 60) (off := 59) hC dX9_led_1 c103 (by decide) (by decide) (by decide) (by decide) ?_
          refine g_aload_n (pc := 60) (q := 0) hC dX9_led_60 rfl rfl ?_
          refine g_get (pc := 61) (v := .ref (G.2.1 28)) hC kX9 rfl 9 (by decide) fl_RX9_61 rfl dX9_led_61 ?_
          refine g_get (pc := 64) (v := .int (σ.1 28 3)) hC kX0 rfl 3 (by decide) fl_RX9_322 rfl dX9_led_64 ?_
          exact g_iret (pc := 67) hC dX9_led_67
        · refine gT_if (fun c104 => ?_) (fun c104 => ?_)
          · refine g_tabIn (tgt := 68) (off := 67) hC dX9_led_1 c104 (by decide) (by decide) (by decide) (by decide) ?_
            refine g_aload_n (pc := 68) (q := 0) hC dX9_led_68 rfl rfl ?_
            refine g_get (pc := 69) (v := .ref (G.2.1 28)) hC kX9 rfl 9 (by decide) fl_RX9_61 rfl dX9_led_69 ?_
            refine g_get (pc := 72) (v := .int (σ.1 28 4)) hC kX0 rfl 4 (by decide) fl_RX9_309 rfl dX9_led_72 ?_
            exact g_iret (pc := 75) hC dX9_led_75
          · refine g_tabOut (tgt := 76) hC dX9_led_1 (by have q0 := gne c100 (n := 0) rfl; have q1 := gne c101 (n := 1) rfl; have q2 := gne c102 (n := 2) rfl; have q3 := gne c103 (n := 3) rfl; have q4 := gne c104 (n := 4) rfl; omega) (by decide) ?_
            refine g_iconst (pc := 76) (v := (-1)) hC dX9_led_76 (by decide) ?_
            exact g_iret (pc := 77) hC dX9_led_77
theorem lk_RX9_330 : gLV RX9 330 RX0 yX0_takeFrom cX0_takeFrom 2 (none) 1 := ⟨(gBig_tab 917 (by decide +kernel) (by decide +kernel)), (gBig_tab 918 (by decide +kernel) (by decide +kernel)), (gBig_tab 919 (by decide +kernel) (by decide +kernel)), (gBig_tab 7 (by decide +kernel) (by decide +kernel)), (gBig_tab 920 (by decide +kernel) (by decide +kernel)), rfl, by decide +kernel, by decide +kernel, by decide +kernel⟩
theorem dX9_image_0 : decode cX9_image 0 = .ok (.aload_n 0, 1) := by decide +kernel
theorem dX9_image_1 : decode cX9_image 1 = .ok (.getfield 68, 3) := by decide +kernel
theorem dX9_image_4 : decode cX9_image 4 = .ok (.aload_n 0, 1) := by decide +kernel
theorem dX9_image_5 : decode cX9_image 5 = .ok (.getfield 19, 3) := by decide +kernel
theorem dX9_image_8 : decode cX9_image 8 = .ok (.invokevirtual 262, 3) := by decide +kernel
theorem dX9_image_11 : decode cX9_image 11 = .ok (.aload_n 0, 1) := by decide +kernel
theorem dX9_image_12 : decode cX9_image 12 = .ok (.getfield 65, 3) := by decide +kernel
theorem dX9_image_15 : decode cX9_image 15 = .ok (.aload_n 0, 1) := by decide +kernel
theorem dX9_image_16 : decode cX9_image 16 = .ok (.getfield 61, 3) := by decide +kernel
theorem dX9_image_19 : decode cX9_image 19 = .ok (.invokevirtual 330, 3) := by decide +kernel
theorem dX9_image_22 : decode cX9_image 22 = .ok (.aload_n 0, 1) := by decide +kernel
theorem dX9_image_23 : decode cX9_image 23 = .ok (.iconst 1, 1) := by decide +kernel
theorem dX9_image_24 : decode cX9_image 24 = .ok (.putfield 71, 3) := by decide +kernel
theorem dX9_image_27 : decode cX9_image 27 = .ok (.aload_n 0, 1) := by decide +kernel
theorem dX9_image_28 : decode cX9_image 28 = .ok (.getfield 19, 3) := by decide +kernel
theorem dX9_image_31 : decode cX9_image 31 = .ok (.getfield 153, 3) := by decide +kernel
theorem dX9_image_34 : decode cX9_image 34 = .ok (.ireturn, 1) := by decide +kernel
abbrev rX9_image : Room := { frames := 1, cells := 0, slots := 0, locals := 21 }
def mX9_image (σ : gS)  : Option (Int32 × gS) := gBind (mX5_takeFrom σ 30 8) (fun r1 s2 => gBind (mX0_takeFrom s2 29 28) (fun r3 s4 => gLet (gUI s4 0 12 1) (fun s5 => some ((s5.1 8 4), s5))))
set_option maxHeartbeats 4000000 in
set_option maxRecDepth 100000 in
theorem tX9_image (l : Launch) (G : gE) (σ : gS)  : gM l G yX9_image cX9_image 1 (some .int) rX9_image iI [.ref (G.2.1 0)] σ (mX9_image σ ) := by
  refine gM_of (by decide) (Nat.le_of_ble_eq_true rfl) ?_
  intro p e s m args below meth c hC
  unfold mX9_image
  show gT p l e rX9_image s m args below meth c G 1 iI σ 0 [(0, .ref (G.2.1 0))] [] _
  refine g_aload_n (pc := 0) (q := 0) hC dX9_image_0 rfl rfl ?_
  refine g_get (pc := 1) (v := .ref (G.2.1 30)) hC kX9 rfl 11 (by decide) fl_RX9_68 rfl dX9_image_1 ?_
  refine g_aload_n (pc := 4) (q := 0) hC dX9_image_4 rfl rfl ?_
  refine g_get (pc := 5) (v := .ref (G.2.1 8)) hC kX9 rfl 1 (by decide) fl_RX9_19 rfl dX9_image_5 ?_
  refine g_callVv (pc := 8) (As := [.ref (G.2.1 8)]) (rest := []) hC lk_RX9_262 kX5 rfl (tX5_takeFrom _ _ σ 30 8) rfl rfl (Nat.le_of_ble_eq_true rfl) ⟨rfl, rfl, Nat.le_of_ble_eq_true rfl, Nat.le_of_ble_eq_true rfl⟩ dX9_image_8 (fun r1 s2 => ?_)
  refine g_aload_n (pc := 11) (q := 0) hC dX9_image_11 rfl rfl ?_
  refine g_get (pc := 12) (v := .ref (G.2.1 29)) hC kX9 rfl 10 (by decide) fl_RX9_65 rfl dX9_image_12 ?_
  refine g_aload_n (pc := 15) (q := 0) hC dX9_image_15 rfl rfl ?_
  refine g_get (pc := 16) (v := .ref (G.2.1 28)) hC kX9 rfl 9 (by decide) fl_RX9_61 rfl dX9_image_16 ?_
  refine g_callVv (pc := 19) (As := [.ref (G.2.1 28)]) (rest := []) hC lk_RX9_330 kX0 rfl (tX0_takeFrom _ _ s2 29 28) rfl rfl (Nat.le_of_ble_eq_true rfl) ⟨rfl, rfl, Nat.le_of_ble_eq_true rfl, Nat.le_of_ble_eq_true rfl⟩ dX9_image_19 (fun r3 s4 => ?_)
  refine g_aload_n (pc := 22) (q := 0) hC dX9_image_22 rfl rfl ?_
  refine g_iconst (pc := 23) (v := 1) hC dX9_image_23 (by decide) ?_
  refine g_puti (pc := 24) (fty := .boolean) hC kX9 rfl 12 (by decide) fl_RX9_71 rfl rfl (by decide) rfl (fun _ _ => Nat.le_of_ble_eq_true rfl) (fun _ _ => rfl) dX9_image_24 (fun s5 => ?_)
  refine g_aload_n (pc := 27) (q := 0) hC dX9_image_27 rfl rfl ?_
  refine g_get (pc := 28) (v := .ref (G.2.1 8)) hC kX9 rfl 1 (by decide) fl_RX9_19 rfl dX9_image_28 ?_
  refine g_get (pc := 31) (v := .int (s5.1 8 4)) hC kX5 rfl 4 (by decide) fl_RX9_153 rfl dX9_image_31 ?_
  exact g_iret (pc := 34) hC dX9_image_34
theorem dX9_back_0 : decode cX9_back 0 = .ok (.aload_n 0, 1) := by decide +kernel
theorem dX9_back_1 : decode cX9_back 1 = .ok (.getfield 71, 3) := by decide +kernel
theorem dX9_back_4 : decode cX9_back 4 = .ok (.ifCond .ne 6, 3) := by decide +kernel
theorem dX9_back_7 : decode cX9_back 7 = .ok (.bipush (-5), 2) := by decide +kernel
theorem dX9_back_9 : decode cX9_back 9 = .ok (.ireturn, 1) := by decide +kernel
theorem dX9_back_10 : decode cX9_back 10 = .ok (.aload_n 0, 1) := by decide +kernel
theorem dX9_back_11 : decode cX9_back 11 = .ok (.getfield 19, 3) := by decide +kernel
theorem dX9_back_14 : decode cX9_back 14 = .ok (.aload_n 0, 1) := by decide +kernel
theorem dX9_back_15 : decode cX9_back 15 = .ok (.getfield 68, 3) := by decide +kernel
theorem dX9_back_18 : decode cX9_back 18 = .ok (.getfield 193, 3) := by decide +kernel
theorem dX9_back_21 : decode cX9_back 21 = .ok (.putfield 193, 3) := by decide +kernel
theorem dX9_back_24 : decode cX9_back 24 = .ok (.aload_n 0, 1) := by decide +kernel
theorem dX9_back_25 : decode cX9_back 25 = .ok (.getfield 19, 3) := by decide +kernel
theorem dX9_back_28 : decode cX9_back 28 = .ok (.aload_n 0, 1) := by decide +kernel
theorem dX9_back_29 : decode cX9_back 29 = .ok (.getfield 68, 3) := by decide +kernel
theorem dX9_back_32 : decode cX9_back 32 = .ok (.getfield 266, 3) := by decide +kernel
theorem dX9_back_35 : decode cX9_back 35 = .ok (.putfield 266, 3) := by decide +kernel
theorem dX9_back_38 : decode cX9_back 38 = .ok (.aload_n 0, 1) := by decide +kernel
theorem dX9_back_39 : decode cX9_back 39 = .ok (.getfield 19, 3) := by decide +kernel
theorem dX9_back_42 : decode cX9_back 42 = .ok (.aload_n 0, 1) := by decide +kernel
theorem dX9_back_43 : decode cX9_back 43 = .ok (.getfield 68, 3) := by decide +kernel
theorem dX9_back_46 : decode cX9_back 46 = .ok (.getfield 153, 3) := by decide +kernel
theorem dX9_back_49 : decode cX9_back 49 = .ok (.putfield 153, 3) := by decide +kernel
theorem dX9_back_52 : decode cX9_back 52 = .ok (.aload_n 0, 1) := by decide +kernel
theorem dX9_back_53 : decode cX9_back 53 = .ok (.getfield 61, 3) := by decide +kernel
theorem dX9_back_56 : decode cX9_back 56 = .ok (.aload_n 0, 1) := by decide +kernel
theorem dX9_back_57 : decode cX9_back 57 = .ok (.getfield 65, 3) := by decide +kernel
theorem dX9_back_60 : decode cX9_back 60 = .ok (.invokevirtual 330, 3) := by decide +kernel
theorem dX9_back_63 : decode cX9_back 63 = .ok (.aload_n 0, 1) := by decide +kernel
theorem dX9_back_64 : decode cX9_back 64 = .ok (.getfield 19, 3) := by decide +kernel
theorem dX9_back_67 : decode cX9_back 67 = .ok (.getfield 153, 3) := by decide +kernel
theorem dX9_back_70 : decode cX9_back 70 = .ok (.ireturn, 1) := by decide +kernel
abbrev rX9_back : Room := { frames := 1, cells := 0, slots := 0, locals := 21 }
def mX9_back (σ : gS)  : Option (Int32 × gS) := if (σ.1 0 12) = 0 then (some ((-5), σ)) else (gLet (gUI σ 8 0 (σ.1 30 0)) (fun s1 => gLet (gUI s1 8 1 (s1.1 30 1)) (fun s2 => gLet (gUI s2 8 4 (s2.1 30 4)) (fun s3 => gBind (mX0_takeFrom s3 28 29) (fun r4 s5 => some ((s5.1 8 4), s5))))))
set_option maxHeartbeats 4000000 in
set_option maxRecDepth 100000 in
theorem tX9_back (l : Launch) (G : gE) (σ : gS)  : gM l G yX9_back cX9_back 1 (some .int) rX9_back iI [.ref (G.2.1 0)] σ (mX9_back σ ) := by
  refine gM_of (by decide) (Nat.le_of_ble_eq_true rfl) ?_
  intro p e s m args below meth c hC
  unfold mX9_back
  show gT p l e rX9_back s m args below meth c G 1 iI σ 0 [(0, .ref (G.2.1 0))] [] _
  refine g_aload_n (pc := 0) (q := 0) hC dX9_back_0 rfl rfl ?_
  refine g_get (pc := 1) (v := .int (σ.1 0 12)) hC kX9 rfl 12 (by decide) fl_RX9_71 rfl dX9_back_1 ?_
  refine g_if_ne (pc := 4) (tgt := 10) hC dX9_back_4 (by decide) ?_ ?_
  · refine g_aload_n (pc := 10) (q := 0) hC dX9_back_10 rfl rfl ?_
    refine g_get (pc := 11) (v := .ref (G.2.1 8)) hC kX9 rfl 1 (by decide) fl_RX9_19 rfl dX9_back_11 ?_
    refine g_aload_n (pc := 14) (q := 0) hC dX9_back_14 rfl rfl ?_
    refine g_get (pc := 15) (v := .ref (G.2.1 30)) hC kX9 rfl 11 (by decide) fl_RX9_68 rfl dX9_back_15 ?_
    refine g_get (pc := 18) (v := .int (σ.1 30 0)) hC kX5 rfl 0 (by decide) fl_RX9_193 rfl dX9_back_18 ?_
    refine g_puti (pc := 21) (fty := .int) hC kX5 rfl 0 (by decide) fl_RX9_193 rfl rfl rfl rfl (fun _ _ => Nat.le_of_ble_eq_true rfl) (fun _ _ => rfl) dX9_back_21 (fun s1 => ?_)
    refine g_aload_n (pc := 24) (q := 0) hC dX9_back_24 rfl rfl ?_
    refine g_get (pc := 25) (v := .ref (G.2.1 8)) hC kX9 rfl 1 (by decide) fl_RX9_19 rfl dX9_back_25 ?_
    refine g_aload_n (pc := 28) (q := 0) hC dX9_back_28 rfl rfl ?_
    refine g_get (pc := 29) (v := .ref (G.2.1 30)) hC kX9 rfl 11 (by decide) fl_RX9_68 rfl dX9_back_29 ?_
    refine g_get (pc := 32) (v := .int (s1.1 30 1)) hC kX5 rfl 1 (by decide) fl_RX9_266 rfl dX9_back_32 ?_
    refine g_puti (pc := 35) (fty := .int) hC kX5 rfl 1 (by decide) fl_RX9_266 rfl rfl rfl rfl (fun _ _ => Nat.le_of_ble_eq_true rfl) (fun _ _ => rfl) dX9_back_35 (fun s2 => ?_)
    refine g_aload_n (pc := 38) (q := 0) hC dX9_back_38 rfl rfl ?_
    refine g_get (pc := 39) (v := .ref (G.2.1 8)) hC kX9 rfl 1 (by decide) fl_RX9_19 rfl dX9_back_39 ?_
    refine g_aload_n (pc := 42) (q := 0) hC dX9_back_42 rfl rfl ?_
    refine g_get (pc := 43) (v := .ref (G.2.1 30)) hC kX9 rfl 11 (by decide) fl_RX9_68 rfl dX9_back_43 ?_
    refine g_get (pc := 46) (v := .int (s2.1 30 4)) hC kX5 rfl 4 (by decide) fl_RX9_153 rfl dX9_back_46 ?_
    refine g_puti (pc := 49) (fty := .int) hC kX5 rfl 4 (by decide) fl_RX9_153 rfl rfl rfl rfl (fun _ _ => Nat.le_of_ble_eq_true rfl) (fun _ _ => rfl) dX9_back_49 (fun s3 => ?_)
    refine g_aload_n (pc := 52) (q := 0) hC dX9_back_52 rfl rfl ?_
    refine g_get (pc := 53) (v := .ref (G.2.1 28)) hC kX9 rfl 9 (by decide) fl_RX9_61 rfl dX9_back_53 ?_
    refine g_aload_n (pc := 56) (q := 0) hC dX9_back_56 rfl rfl ?_
    refine g_get (pc := 57) (v := .ref (G.2.1 29)) hC kX9 rfl 10 (by decide) fl_RX9_65 rfl dX9_back_57 ?_
    refine g_callVv (pc := 60) (As := [.ref (G.2.1 29)]) (rest := []) hC lk_RX9_330 kX0 rfl (tX0_takeFrom _ _ s3 28 29) rfl rfl (Nat.le_of_ble_eq_true rfl) ⟨rfl, rfl, Nat.le_of_ble_eq_true rfl, Nat.le_of_ble_eq_true rfl⟩ dX9_back_60 (fun r4 s5 => ?_)
    refine g_aload_n (pc := 63) (q := 0) hC dX9_back_63 rfl rfl ?_
    refine g_get (pc := 64) (v := .ref (G.2.1 8)) hC kX9 rfl 1 (by decide) fl_RX9_19 rfl dX9_back_64 ?_
    refine g_get (pc := 67) (v := .int (s5.1 8 4)) hC kX5 rfl 4 (by decide) fl_RX9_153 rfl dX9_back_67 ?_
    exact g_iret (pc := 70) hC dX9_back_70
  · refine g_bipush (pc := 7) (v := (-5)) hC dX9_back_7 (by decide) ?_
    exact g_iret (pc := 9) hC dX9_back_9
theorem fl_RX9_336 : Cond.fieldLink RX9 336 "WinterShed$Changes" "numbers" "[I" ∈ gBig := (gBig_tab 247 (by decide +kernel) (by decide +kernel))
theorem fl_RX9_339 : Cond.fieldLink RX9 339 "WinterShed$Changes" "whats" "[I" ∈ gBig := (gBig_tab 249 (by decide +kernel) (by decide +kernel))
theorem fl_RX9_342 : Cond.fieldLink RX9 342 "WinterShed$Changes" "before" "[I" ∈ gBig := (gBig_tab 251 (by decide +kernel) (by decide +kernel))
theorem fl_RX9_345 : Cond.fieldLink RX9 345 "WinterShed$Changes" "done" "I" ∈ gBig := (gBig_tab 255 (by decide +kernel) (by decide +kernel))
theorem lk_RX9_333 : gLV RX9 333 RX1 yX1_stepBack cX1_stepBack 1 (some .int) 0 := ⟨(gBig_tab 929 (by decide +kernel) (by decide +kernel)), (gBig_tab 930 (by decide +kernel) (by decide +kernel)), (gBig_tab 931 (by decide +kernel) (by decide +kernel)), (gBig_tab 8 (by decide +kernel) (by decide +kernel)), (gBig_tab 932 (by decide +kernel) (by decide +kernel)), rfl, by decide +kernel, by decide +kernel, by decide +kernel⟩
theorem dX9_undo_0 : decode cX9_undo 0 = .ok (.aload_n 0, 1) := by decide +kernel
theorem dX9_undo_1 : decode cX9_undo 1 = .ok (.getfield 78, 3) := by decide +kernel
theorem dX9_undo_4 : decode cX9_undo 4 = .ok (.invokevirtual 333, 3) := by decide +kernel
theorem dX9_undo_7 : decode cX9_undo 7 = .ok (.istore_n 1, 1) := by decide +kernel
theorem dX9_undo_8 : decode cX9_undo 8 = .ok (.iload_n 1, 1) := by decide +kernel
theorem dX9_undo_9 : decode cX9_undo 9 = .ok (.ifCond .ge 6, 3) := by decide +kernel
theorem dX9_undo_12 : decode cX9_undo 12 = .ok (.bipush (-5), 2) := by decide +kernel
theorem dX9_undo_14 : decode cX9_undo 14 = .ok (.ireturn, 1) := by decide +kernel
theorem dX9_undo_15 : decode cX9_undo 15 = .ok (.aload_n 0, 1) := by decide +kernel
theorem dX9_undo_16 : decode cX9_undo 16 = .ok (.aload_n 0, 1) := by decide +kernel
theorem dX9_undo_17 : decode cX9_undo 17 = .ok (.getfield 78, 3) := by decide +kernel
theorem dX9_undo_20 : decode cX9_undo 20 = .ok (.getfield 336, 3) := by decide +kernel
theorem dX9_undo_23 : decode cX9_undo 23 = .ok (.iload_n 1, 1) := by decide +kernel
theorem dX9_undo_24 : decode cX9_undo 24 = .ok (.iaload, 1) := by decide +kernel
theorem dX9_undo_25 : decode cX9_undo 25 = .ok (.aload_n 0, 1) := by decide +kernel
theorem dX9_undo_26 : decode cX9_undo 26 = .ok (.getfield 78, 3) := by decide +kernel
theorem dX9_undo_29 : decode cX9_undo 29 = .ok (.getfield 339, 3) := by decide +kernel
theorem dX9_undo_32 : decode cX9_undo 32 = .ok (.iload_n 1, 1) := by decide +kernel
theorem dX9_undo_33 : decode cX9_undo 33 = .ok (.iaload, 1) := by decide +kernel
theorem dX9_undo_34 : decode cX9_undo 34 = .ok (.aload_n 0, 1) := by decide +kernel
theorem dX9_undo_35 : decode cX9_undo 35 = .ok (.getfield 78, 3) := by decide +kernel
theorem dX9_undo_38 : decode cX9_undo 38 = .ok (.getfield 342, 3) := by decide +kernel
theorem dX9_undo_41 : decode cX9_undo 41 = .ok (.iload_n 1, 1) := by decide +kernel
theorem dX9_undo_42 : decode cX9_undo 42 = .ok (.iaload, 1) := by decide +kernel
theorem dX9_undo_43 : decode cX9_undo 43 = .ok (.invokevirtual 141, 3) := by decide +kernel
theorem dX9_undo_46 : decode cX9_undo 46 = .ok (.aload_n 0, 1) := by decide +kernel
theorem dX9_undo_47 : decode cX9_undo 47 = .ok (.getfield 78, 3) := by decide +kernel
theorem dX9_undo_50 : decode cX9_undo 50 = .ok (.getfield 345, 3) := by decide +kernel
theorem dX9_undo_53 : decode cX9_undo 53 = .ok (.ireturn, 1) := by decide +kernel
abbrev rX9_undo : Room := { frames := 1, cells := 0, slots := 0, locals := 23 }
def mX9_undo (σ : gS)  : Option (Int32 × gS) := gBind (mX1_stepBack σ ) (fun r1 s2 => gLet r1 (fun v3 => if 0 ≤ v3 then (if inbB v3 40 = true then (if inbB v3 40 = true then (if inbB v3 40 = true then (gBind (mX9_setValue s2 (s2.1 32 (Int32.toNatClampNeg v3)) (s2.1 33 (Int32.toNatClampNeg v3)) (s2.1 34 (Int32.toNatClampNeg v3))) (fun r4 s5 => some ((s5.1 31 4), s5))) else none) else none) else none) else (some ((-5), s2))))
set_option maxHeartbeats 4000000 in
set_option maxRecDepth 100000 in
theorem tX9_undo (l : Launch) (G : gE) (σ : gS)  : gM l G yX9_undo cX9_undo 2 (some .int) rX9_undo iI [.ref (G.2.1 0)] σ (mX9_undo σ ) := by
  refine gM_of (by decide) (Nat.le_of_ble_eq_true rfl) ?_
  intro p e s m args below meth c hC
  unfold mX9_undo
  show gT p l e rX9_undo s m args below meth c G 2 iI σ 0 [(0, .ref (G.2.1 0))] [] _
  refine g_aload_n (pc := 0) (q := 0) hC dX9_undo_0 rfl rfl ?_
  refine g_get (pc := 1) (v := .ref (G.2.1 31)) hC kX9 rfl 13 (by decide) fl_RX9_78 rfl dX9_undo_1 ?_
  refine g_callVi (pc := 4) (As := []) (rest := []) hC lk_RX9_333 kX1 rfl (tX1_stepBack _ _ σ ) rfl rfl (Nat.le_of_ble_eq_true rfl) ⟨rfl, rfl, Nat.le_of_ble_eq_true rfl, Nat.le_of_ble_eq_true rfl⟩ dX9_undo_4 (fun r1 s2 => ?_)
  refine g_istore_n (pc := 7) (lv' := fun v3 => [(1, .int v3), (0, .ref (G.2.1 0))]) hC dX9_undo_7 rfl (by decide) (fun _ => rfl) (fun v3 => ?_)
  refine g_iload_n (pc := 8) (q := 0) hC dX9_undo_8 rfl rfl ?_
  refine g_if_ge (pc := 9) (tgt := 15) hC dX9_undo_9 (by decide) ?_ ?_
  · refine g_aload_n (pc := 15) (q := 1) hC dX9_undo_15 rfl rfl ?_
    refine g_aload_n (pc := 16) (q := 1) hC dX9_undo_16 rfl rfl ?_
    refine g_get (pc := 17) (v := .ref (G.2.1 31)) hC kX9 rfl 13 (by decide) fl_RX9_78 rfl dX9_undo_17 ?_
    refine g_get (pc := 20) (v := .ref (G.2.1 32)) hC kX1 rfl 0 (by decide) fl_RX9_336 rfl dX9_undo_20 ?_
    refine g_iload_n (pc := 23) (q := 0) hC dX9_undo_23 rfl rfl ?_
    refine g_iald (pc := 24) hC 40 rfl (by decide) dX9_undo_24 ?_
    refine g_aload_n (pc := 25) (q := 1) hC dX9_undo_25 rfl rfl ?_
    refine g_get (pc := 26) (v := .ref (G.2.1 31)) hC kX9 rfl 13 (by decide) fl_RX9_78 rfl dX9_undo_26 ?_
    refine g_get (pc := 29) (v := .ref (G.2.1 33)) hC kX1 rfl 1 (by decide) fl_RX9_339 rfl dX9_undo_29 ?_
    refine g_iload_n (pc := 32) (q := 0) hC dX9_undo_32 rfl rfl ?_
    refine g_iald (pc := 33) hC 40 rfl (by decide) dX9_undo_33 ?_
    refine g_aload_n (pc := 34) (q := 1) hC dX9_undo_34 rfl rfl ?_
    refine g_get (pc := 35) (v := .ref (G.2.1 31)) hC kX9 rfl 13 (by decide) fl_RX9_78 rfl dX9_undo_35 ?_
    refine g_get (pc := 38) (v := .ref (G.2.1 34)) hC kX1 rfl 2 (by decide) fl_RX9_342 rfl dX9_undo_38 ?_
    refine g_iload_n (pc := 41) (q := 0) hC dX9_undo_41 rfl rfl ?_
    refine g_iald (pc := 42) hC 40 rfl (by decide) dX9_undo_42 ?_
    refine g_callVv (pc := 43) (As := [.int (s2.1 32 (Int32.toNatClampNeg v3)), .int (s2.1 33 (Int32.toNatClampNeg v3)), .int (s2.1 34 (Int32.toNatClampNeg v3))]) (rest := []) hC lk_RX9_141 kX9 rfl (tX9_setValue _ _ s2 (s2.1 32 (Int32.toNatClampNeg v3)) (s2.1 33 (Int32.toNatClampNeg v3)) (s2.1 34 (Int32.toNatClampNeg v3))) rfl rfl (Nat.le_of_ble_eq_true rfl) ⟨rfl, rfl, Nat.le_of_ble_eq_true rfl, Nat.le_of_ble_eq_true rfl⟩ dX9_undo_43 (fun r4 s5 => ?_)
    refine g_aload_n (pc := 46) (q := 1) hC dX9_undo_46 rfl rfl ?_
    refine g_get (pc := 47) (v := .ref (G.2.1 31)) hC kX9 rfl 13 (by decide) fl_RX9_78 rfl dX9_undo_47 ?_
    refine g_get (pc := 50) (v := .int (s5.1 31 4)) hC kX1 rfl 4 (by decide) fl_RX9_345 rfl dX9_undo_50 ?_
    exact g_iret (pc := 53) hC dX9_undo_53
  · refine g_bipush (pc := 12) (v := (-5)) hC dX9_undo_12 (by decide) ?_
    exact g_iret (pc := 14) hC dX9_undo_14
theorem fl_RX9_351 : Cond.fieldLink RX9 351 "WinterShed$Changes" "after" "[I" ∈ gBig := (gBig_tab 253 (by decide +kernel) (by decide +kernel))
theorem fl_RX9_354 : Cond.fieldLink RX9 354 "WinterShed$Changes" "undone" "I" ∈ gBig := (gBig_tab 257 (by decide +kernel) (by decide +kernel))
theorem lk_RX9_348 : gLV RX9 348 RX1 yX1_stepOn cX1_stepOn 1 (some .int) 0 := ⟨(gBig_tab 937 (by decide +kernel) (by decide +kernel)), (gBig_tab 938 (by decide +kernel) (by decide +kernel)), (gBig_tab 939 (by decide +kernel) (by decide +kernel)), (gBig_tab 8 (by decide +kernel) (by decide +kernel)), (gBig_tab 940 (by decide +kernel) (by decide +kernel)), rfl, by decide +kernel, by decide +kernel, by decide +kernel⟩
theorem dX9_redo_0 : decode cX9_redo 0 = .ok (.aload_n 0, 1) := by decide +kernel
theorem dX9_redo_1 : decode cX9_redo 1 = .ok (.getfield 78, 3) := by decide +kernel
theorem dX9_redo_4 : decode cX9_redo 4 = .ok (.invokevirtual 348, 3) := by decide +kernel
theorem dX9_redo_7 : decode cX9_redo 7 = .ok (.istore_n 1, 1) := by decide +kernel
theorem dX9_redo_8 : decode cX9_redo 8 = .ok (.iload_n 1, 1) := by decide +kernel
theorem dX9_redo_9 : decode cX9_redo 9 = .ok (.ifCond .ge 6, 3) := by decide +kernel
theorem dX9_redo_12 : decode cX9_redo 12 = .ok (.bipush (-5), 2) := by decide +kernel
theorem dX9_redo_14 : decode cX9_redo 14 = .ok (.ireturn, 1) := by decide +kernel
theorem dX9_redo_15 : decode cX9_redo 15 = .ok (.aload_n 0, 1) := by decide +kernel
theorem dX9_redo_16 : decode cX9_redo 16 = .ok (.aload_n 0, 1) := by decide +kernel
theorem dX9_redo_17 : decode cX9_redo 17 = .ok (.getfield 78, 3) := by decide +kernel
theorem dX9_redo_20 : decode cX9_redo 20 = .ok (.getfield 336, 3) := by decide +kernel
theorem dX9_redo_23 : decode cX9_redo 23 = .ok (.iload_n 1, 1) := by decide +kernel
theorem dX9_redo_24 : decode cX9_redo 24 = .ok (.iaload, 1) := by decide +kernel
theorem dX9_redo_25 : decode cX9_redo 25 = .ok (.aload_n 0, 1) := by decide +kernel
theorem dX9_redo_26 : decode cX9_redo 26 = .ok (.getfield 78, 3) := by decide +kernel
theorem dX9_redo_29 : decode cX9_redo 29 = .ok (.getfield 339, 3) := by decide +kernel
theorem dX9_redo_32 : decode cX9_redo 32 = .ok (.iload_n 1, 1) := by decide +kernel
theorem dX9_redo_33 : decode cX9_redo 33 = .ok (.iaload, 1) := by decide +kernel
theorem dX9_redo_34 : decode cX9_redo 34 = .ok (.aload_n 0, 1) := by decide +kernel
theorem dX9_redo_35 : decode cX9_redo 35 = .ok (.getfield 78, 3) := by decide +kernel
theorem dX9_redo_38 : decode cX9_redo 38 = .ok (.getfield 351, 3) := by decide +kernel
theorem dX9_redo_41 : decode cX9_redo 41 = .ok (.iload_n 1, 1) := by decide +kernel
theorem dX9_redo_42 : decode cX9_redo 42 = .ok (.iaload, 1) := by decide +kernel
theorem dX9_redo_43 : decode cX9_redo 43 = .ok (.invokevirtual 141, 3) := by decide +kernel
theorem dX9_redo_46 : decode cX9_redo 46 = .ok (.aload_n 0, 1) := by decide +kernel
theorem dX9_redo_47 : decode cX9_redo 47 = .ok (.getfield 78, 3) := by decide +kernel
theorem dX9_redo_50 : decode cX9_redo 50 = .ok (.getfield 354, 3) := by decide +kernel
theorem dX9_redo_53 : decode cX9_redo 53 = .ok (.ireturn, 1) := by decide +kernel
abbrev rX9_redo : Room := { frames := 1, cells := 0, slots := 0, locals := 23 }
def mX9_redo (σ : gS)  : Option (Int32 × gS) := gBind (mX1_stepOn σ ) (fun r1 s2 => gLet r1 (fun v3 => if 0 ≤ v3 then (if inbB v3 40 = true then (if inbB v3 40 = true then (if inbB v3 40 = true then (gBind (mX9_setValue s2 (s2.1 32 (Int32.toNatClampNeg v3)) (s2.1 33 (Int32.toNatClampNeg v3)) (s2.1 35 (Int32.toNatClampNeg v3))) (fun r4 s5 => some ((s5.1 31 5), s5))) else none) else none) else none) else (some ((-5), s2))))
set_option maxHeartbeats 4000000 in
set_option maxRecDepth 100000 in
theorem tX9_redo (l : Launch) (G : gE) (σ : gS)  : gM l G yX9_redo cX9_redo 2 (some .int) rX9_redo iI [.ref (G.2.1 0)] σ (mX9_redo σ ) := by
  refine gM_of (by decide) (Nat.le_of_ble_eq_true rfl) ?_
  intro p e s m args below meth c hC
  unfold mX9_redo
  show gT p l e rX9_redo s m args below meth c G 2 iI σ 0 [(0, .ref (G.2.1 0))] [] _
  refine g_aload_n (pc := 0) (q := 0) hC dX9_redo_0 rfl rfl ?_
  refine g_get (pc := 1) (v := .ref (G.2.1 31)) hC kX9 rfl 13 (by decide) fl_RX9_78 rfl dX9_redo_1 ?_
  refine g_callVi (pc := 4) (As := []) (rest := []) hC lk_RX9_348 kX1 rfl (tX1_stepOn _ _ σ ) rfl rfl (Nat.le_of_ble_eq_true rfl) ⟨rfl, rfl, Nat.le_of_ble_eq_true rfl, Nat.le_of_ble_eq_true rfl⟩ dX9_redo_4 (fun r1 s2 => ?_)
  refine g_istore_n (pc := 7) (lv' := fun v3 => [(1, .int v3), (0, .ref (G.2.1 0))]) hC dX9_redo_7 rfl (by decide) (fun _ => rfl) (fun v3 => ?_)
  refine g_iload_n (pc := 8) (q := 0) hC dX9_redo_8 rfl rfl ?_
  refine g_if_ge (pc := 9) (tgt := 15) hC dX9_redo_9 (by decide) ?_ ?_
  · refine g_aload_n (pc := 15) (q := 1) hC dX9_redo_15 rfl rfl ?_
    refine g_aload_n (pc := 16) (q := 1) hC dX9_redo_16 rfl rfl ?_
    refine g_get (pc := 17) (v := .ref (G.2.1 31)) hC kX9 rfl 13 (by decide) fl_RX9_78 rfl dX9_redo_17 ?_
    refine g_get (pc := 20) (v := .ref (G.2.1 32)) hC kX1 rfl 0 (by decide) fl_RX9_336 rfl dX9_redo_20 ?_
    refine g_iload_n (pc := 23) (q := 0) hC dX9_redo_23 rfl rfl ?_
    refine g_iald (pc := 24) hC 40 rfl (by decide) dX9_redo_24 ?_
    refine g_aload_n (pc := 25) (q := 1) hC dX9_redo_25 rfl rfl ?_
    refine g_get (pc := 26) (v := .ref (G.2.1 31)) hC kX9 rfl 13 (by decide) fl_RX9_78 rfl dX9_redo_26 ?_
    refine g_get (pc := 29) (v := .ref (G.2.1 33)) hC kX1 rfl 1 (by decide) fl_RX9_339 rfl dX9_redo_29 ?_
    refine g_iload_n (pc := 32) (q := 0) hC dX9_redo_32 rfl rfl ?_
    refine g_iald (pc := 33) hC 40 rfl (by decide) dX9_redo_33 ?_
    refine g_aload_n (pc := 34) (q := 1) hC dX9_redo_34 rfl rfl ?_
    refine g_get (pc := 35) (v := .ref (G.2.1 31)) hC kX9 rfl 13 (by decide) fl_RX9_78 rfl dX9_redo_35 ?_
    refine g_get (pc := 38) (v := .ref (G.2.1 35)) hC kX1 rfl 3 (by decide) fl_RX9_351 rfl dX9_redo_38 ?_
    refine g_iload_n (pc := 41) (q := 0) hC dX9_redo_41 rfl rfl ?_
    refine g_iald (pc := 42) hC 40 rfl (by decide) dX9_redo_42 ?_
    refine g_callVv (pc := 43) (As := [.int (s2.1 32 (Int32.toNatClampNeg v3)), .int (s2.1 33 (Int32.toNatClampNeg v3)), .int (s2.1 35 (Int32.toNatClampNeg v3))]) (rest := []) hC lk_RX9_141 kX9 rfl (tX9_setValue _ _ s2 (s2.1 32 (Int32.toNatClampNeg v3)) (s2.1 33 (Int32.toNatClampNeg v3)) (s2.1 35 (Int32.toNatClampNeg v3))) rfl rfl (Nat.le_of_ble_eq_true rfl) ⟨rfl, rfl, Nat.le_of_ble_eq_true rfl, Nat.le_of_ble_eq_true rfl⟩ dX9_redo_43 (fun r4 s5 => ?_)
    refine g_aload_n (pc := 46) (q := 1) hC dX9_redo_46 rfl rfl ?_
    refine g_get (pc := 47) (v := .ref (G.2.1 31)) hC kX9 rfl 13 (by decide) fl_RX9_78 rfl dX9_redo_47 ?_
    refine g_get (pc := 50) (v := .int (s5.1 31 5)) hC kX1 rfl 5 (by decide) fl_RX9_354 rfl dX9_redo_50 ?_
    exact g_iret (pc := 53) hC dX9_redo_53
  · refine g_bipush (pc := 12) (v := (-5)) hC dX9_redo_12 (by decide) ?_
    exact g_iret (pc := 14) hC dX9_redo_14
theorem lk_RX9_357 : gLV RX9 357 RX2 yX2_addBody cX2_addBody 2 (some .int) 1 := ⟨(gBig_tab 945 (by decide +kernel) (by decide +kernel)), (gBig_tab 946 (by decide +kernel) (by decide +kernel)), (gBig_tab 947 (by decide +kernel) (by decide +kernel)), (gBig_tab 9 (by decide +kernel) (by decide +kernel)), (gBig_tab 948 (by decide +kernel) (by decide +kernel)), rfl, by decide +kernel, by decide +kernel, by decide +kernel⟩
theorem dX9_body_0 : decode cX9_body 0 = .ok (.iload_n 1, 1) := by decide +kernel
theorem dX9_body_1 : decode cX9_body 1 = .ok (.iconst 0, 1) := by decide +kernel
theorem dX9_body_2 : decode cX9_body 2 = .ok (.bipush 7, 2) := by decide +kernel
theorem dX9_body_4 : decode cX9_body 4 = .ok (.invokestatic 102, 3) := by decide +kernel
theorem dX9_body_7 : decode cX9_body 7 = .ok (.ifCond .ne 5, 3) := by decide +kernel
theorem dX9_body_10 : decode cX9_body 10 = .ok (.iconst (-1), 1) := by decide +kernel
theorem dX9_body_11 : decode cX9_body 11 = .ok (.ireturn, 1) := by decide +kernel
theorem dX9_body_12 : decode cX9_body 12 = .ok (.aload_n 0, 1) := by decide +kernel
theorem dX9_body_13 : decode cX9_body 13 = .ok (.getfield 85, 3) := by decide +kernel
theorem dX9_body_16 : decode cX9_body 16 = .ok (.iload_n 1, 1) := by decide +kernel
theorem dX9_body_17 : decode cX9_body 17 = .ok (.invokevirtual 357, 3) := by decide +kernel
theorem dX9_body_20 : decode cX9_body 20 = .ok (.ireturn, 1) := by decide +kernel
abbrev rX9_body : Room := { frames := 1, cells := 0, slots := 0, locals := 22 }
def mX9_body (σ : gS) (p0 : Int32) : Option (Int32 × gS) := gBind (mX9_within σ p0 0 7) (fun r1 s2 => if r1 = true then (gBind (mX2_addBody s2 p0) (fun r3 s4 => some (r3, s4))) else (some ((-1), s2)))
set_option maxHeartbeats 4000000 in
set_option maxRecDepth 100000 in
theorem tX9_body (l : Launch) (G : gE) (σ : gS) (p0 : Int32) : gM l G yX9_body cX9_body 2 (some .int) rX9_body iI [.ref (G.2.1 0), .int p0] σ (mX9_body σ p0) := by
  refine gM_of (by decide) (Nat.le_of_ble_eq_true rfl) ?_
  intro p e s m args below meth c hC
  unfold mX9_body
  show gT p l e rX9_body s m args below meth c G 2 iI σ 0 [(0, .ref (G.2.1 0)), (1, .int p0)] [] _
  refine g_iload_n (pc := 0) (q := 1) hC dX9_body_0 rfl rfl ?_
  refine g_iconst (pc := 1) (v := 0) hC dX9_body_1 (by decide) ?_
  refine g_bipush (pc := 2) (v := 7) hC dX9_body_2 (by decide) ?_
  refine g_callSz (pc := 4) (As := [.int p0, .int 0, .int 7]) (rest := []) hC lk_RX9_102 (tX9_within _ _ σ p0 0 7) rfl rfl (Nat.le_of_ble_eq_true rfl) ⟨rfl, rfl, Nat.le_of_ble_eq_true rfl, Nat.le_of_ble_eq_true rfl⟩ dX9_body_4 (fun r1 s2 => ?_)
  refine g_bif_ne (pc := 7) (tgt := 12) hC dX9_body_7 (by decide) ?_ ?_
  · refine g_aload_n (pc := 12) (q := 0) hC dX9_body_12 rfl rfl ?_
    refine g_get (pc := 13) (v := .ref (G.2.1 36)) hC kX9 rfl 14 (by decide) fl_RX9_85 rfl dX9_body_13 ?_
    refine g_iload_n (pc := 16) (q := 1) hC dX9_body_16 rfl rfl ?_
    refine g_callVi (pc := 17) (As := [.int p0]) (rest := []) hC lk_RX9_357 kX2 rfl (tX2_addBody _ _ s2 p0) rfl rfl (Nat.le_of_ble_eq_true rfl) ⟨rfl, rfl, Nat.le_of_ble_eq_true rfl, Nat.le_of_ble_eq_true rfl⟩ dX9_body_17 (fun r3 s4 => ?_)
    exact g_iret (pc := 20) hC dX9_body_20
  · refine g_iconst (pc := 10) (v := (-1)) hC dX9_body_10 (by decide) ?_
    exact g_iret (pc := 11) hC dX9_body_11
theorem fl_RX9_365 : Cond.fieldLink RX9 365 "WinterShed$Frosts" "trace" "[I" ∈ gBig := (gBig_tab 281 (by decide +kernel) (by decide +kernel))
theorem lk_RX9_362 : gLV RX9 362 RX2 yX2_kept cX2_kept 1 (some .int) 0 := ⟨(gBig_tab 993 (by decide +kernel) (by decide +kernel)), (gBig_tab 994 (by decide +kernel) (by decide +kernel)), (gBig_tab 995 (by decide +kernel) (by decide +kernel)), (gBig_tab 9 (by decide +kernel) (by decide +kernel)), (gBig_tab 996 (by decide +kernel) (by decide +kernel)), rfl, by decide +kernel, by decide +kernel, by decide +kernel⟩
theorem dX9_trace_0 : decode cX9_trace 0 = .ok (.iload_n 1, 1) := by decide +kernel
theorem dX9_trace_1 : decode cX9_trace 1 = .ok (.ifCond .lt 26, 3) := by decide +kernel
theorem dX9_trace_4 : decode cX9_trace 4 = .ok (.iload_n 1, 1) := by decide +kernel
theorem dX9_trace_5 : decode cX9_trace 5 = .ok (.aload_n 0, 1) := by decide +kernel
theorem dX9_trace_6 : decode cX9_trace 6 = .ok (.getfield 85, 3) := by decide +kernel
theorem dX9_trace_9 : decode cX9_trace 9 = .ok (.invokevirtual 362, 3) := by decide +kernel
theorem dX9_trace_12 : decode cX9_trace 12 = .ok (.if_icmp .ge 15, 3) := by decide +kernel
theorem dX9_trace_15 : decode cX9_trace 15 = .ok (.aload_n 0, 1) := by decide +kernel
theorem dX9_trace_16 : decode cX9_trace 16 = .ok (.getfield 85, 3) := by decide +kernel
theorem dX9_trace_19 : decode cX9_trace 19 = .ok (.getfield 365, 3) := by decide +kernel
theorem dX9_trace_22 : decode cX9_trace 22 = .ok (.iload_n 1, 1) := by decide +kernel
theorem dX9_trace_23 : decode cX9_trace 23 = .ok (.iaload, 1) := by decide +kernel
theorem dX9_trace_24 : decode cX9_trace 24 = .ok (.goto 4, 3) := by decide +kernel
theorem dX9_trace_27 : decode cX9_trace 27 = .ok (.iconst (-1), 1) := by decide +kernel
theorem dX9_trace_28 : decode cX9_trace 28 = .ok (.ireturn, 1) := by decide +kernel
abbrev rX9_trace : Room := { frames := 2, cells := 0, slots := 0, locals := 41 }
def mX9_trace (σ : gS) (p0 : Int32) : Option (Int32 × gS) := if p0 < 0 then (some ((-1), σ)) else (gBind (mX2_kept σ ) (fun r1 s2 => if r1 ≤ p0 then (some ((-1), s2)) else (if inbB p0 24 = true then (some ((s2.1 38 (Int32.toNatClampNeg p0)), s2)) else none)))
set_option maxHeartbeats 4000000 in
set_option maxRecDepth 100000 in
theorem tX9_trace (l : Launch) (G : gE) (σ : gS) (p0 : Int32) : gM l G yX9_trace cX9_trace 2 (some .int) rX9_trace iI [.ref (G.2.1 0), .int p0] σ (mX9_trace σ p0) := by
  refine gM_of (by decide) (Nat.le_of_ble_eq_true rfl) ?_
  intro p e s m args below meth c hC
  unfold mX9_trace
  show gT p l e rX9_trace s m args below meth c G 2 iI σ 0 [(0, .ref (G.2.1 0)), (1, .int p0)] [] _
  refine g_iload_n (pc := 0) (q := 1) hC dX9_trace_0 rfl rfl ?_
  refine g_if_lt (pc := 1) (tgt := 27) hC dX9_trace_1 (by decide) ?_ ?_
  · refine g_iconst (pc := 27) (v := (-1)) hC dX9_trace_27 (by decide) ?_
    exact g_iret (pc := 28) hC dX9_trace_28
  · refine g_iload_n (pc := 4) (q := 1) hC dX9_trace_4 rfl rfl ?_
    refine g_aload_n (pc := 5) (q := 0) hC dX9_trace_5 rfl rfl ?_
    refine g_get (pc := 6) (v := .ref (G.2.1 36)) hC kX9 rfl 14 (by decide) fl_RX9_85 rfl dX9_trace_6 ?_
    refine g_callVi (pc := 9) (As := []) (rest := [.int p0]) hC lk_RX9_362 kX2 rfl (tX2_kept _ _ σ ) rfl rfl (Nat.le_of_ble_eq_true rfl) ⟨rfl, rfl, Nat.le_of_ble_eq_true rfl, Nat.le_of_ble_eq_true rfl⟩ dX9_trace_9 (fun r1 s2 => ?_)
    refine g_icmp_ge (pc := 12) (tgt := 27) hC dX9_trace_12 (by decide) ?_ ?_
    · refine g_iconst (pc := 27) (v := (-1)) hC dX9_trace_27 (by decide) ?_
      exact g_iret (pc := 28) hC dX9_trace_28
    · refine g_aload_n (pc := 15) (q := 0) hC dX9_trace_15 rfl rfl ?_
      refine g_get (pc := 16) (v := .ref (G.2.1 36)) hC kX9 rfl 14 (by decide) fl_RX9_85 rfl dX9_trace_16 ?_
      refine g_get (pc := 19) (v := .ref (G.2.1 38)) hC kX2 rfl 2 (by decide) fl_RX9_365 rfl dX9_trace_19 ?_
      refine g_iload_n (pc := 22) (q := 1) hC dX9_trace_22 rfl rfl ?_
      refine g_iald (pc := 23) hC 24 rfl (by decide) dX9_trace_23 ?_
      refine g_goto (pc := 24) (tgt := 28) hC dX9_trace_24 (by decide) ?_
      exact g_iret (pc := 28) hC dX9_trace_28
theorem fl_RX9_371 : Cond.fieldLink RX9 371 "WinterShed$Shelf" "frost" "I" ∈ gBig := (gBig_tab 306 (by decide +kernel) (by decide +kernel))
theorem lk_RX9_368 : gLV RX9 368 RX2 yX2_hasBody cX2_hasBody 2 (some .boolean) 1 := ⟨(gBig_tab 1002 (by decide +kernel) (by decide +kernel)), (gBig_tab 958 (by decide +kernel) (by decide +kernel)), (gBig_tab 959 (by decide +kernel) (by decide +kernel)), (gBig_tab 9 (by decide +kernel) (by decide +kernel)), (gBig_tab 960 (by decide +kernel) (by decide +kernel)), rfl, by decide +kernel, by decide +kernel, by decide +kernel⟩
theorem dX9_keep_0 : decode cX9_keep 0 = .ok (.aload_n 0, 1) := by decide +kernel
theorem dX9_keep_1 : decode cX9_keep 1 = .ok (.iload_n 1, 1) := by decide +kernel
theorem dX9_keep_2 : decode cX9_keep 2 = .ok (.invokevirtual 118, 3) := by decide +kernel
theorem dX9_keep_5 : decode cX9_keep 5 = .ok (.astore_n 3, 1) := by decide +kernel
theorem dX9_keep_6 : decode cX9_keep 6 = .ok (.aload_n 3, 1) := by decide +kernel
theorem dX9_keep_7 : decode cX9_keep 7 = .ok (.ifnull 19, 3) := by decide +kernel
theorem dX9_keep_10 : decode cX9_keep 10 = .ok (.iload_n 2, 1) := by decide +kernel
theorem dX9_keep_11 : decode cX9_keep 11 = .ok (.iconst (-1), 1) := by decide +kernel
theorem dX9_keep_12 : decode cX9_keep 12 = .ok (.if_icmp .eq 16, 3) := by decide +kernel
theorem dX9_keep_15 : decode cX9_keep 15 = .ok (.aload_n 0, 1) := by decide +kernel
theorem dX9_keep_16 : decode cX9_keep 16 = .ok (.getfield 85, 3) := by decide +kernel
theorem dX9_keep_19 : decode cX9_keep 19 = .ok (.iload_n 2, 1) := by decide +kernel
theorem dX9_keep_20 : decode cX9_keep 20 = .ok (.invokevirtual 368, 3) := by decide +kernel
theorem dX9_keep_23 : decode cX9_keep 23 = .ok (.ifCond .ne 5, 3) := by decide +kernel
theorem dX9_keep_26 : decode cX9_keep 26 = .ok (.iconst (-1), 1) := by decide +kernel
theorem dX9_keep_27 : decode cX9_keep 27 = .ok (.ireturn, 1) := by decide +kernel
theorem dX9_keep_28 : decode cX9_keep 28 = .ok (.aload_n 3, 1) := by decide +kernel
theorem dX9_keep_29 : decode cX9_keep 29 = .ok (.iload_n 2, 1) := by decide +kernel
theorem dX9_keep_30 : decode cX9_keep 30 = .ok (.iconst (-1), 1) := by decide +kernel
theorem dX9_keep_31 : decode cX9_keep 31 = .ok (.if_icmp .ne 7, 3) := by decide +kernel
theorem dX9_keep_34 : decode cX9_keep 34 = .ok (.iconst 0, 1) := by decide +kernel
theorem dX9_keep_35 : decode cX9_keep 35 = .ok (.goto 4, 3) := by decide +kernel
theorem dX9_keep_38 : decode cX9_keep 38 = .ok (.iconst 1, 1) := by decide +kernel
theorem dX9_keep_39 : decode cX9_keep 39 = .ok (.putfield 122, 3) := by decide +kernel
theorem dX9_keep_42 : decode cX9_keep 42 = .ok (.aload_n 3, 1) := by decide +kernel
theorem dX9_keep_43 : decode cX9_keep 43 = .ok (.iload_n 2, 1) := by decide +kernel
theorem dX9_keep_44 : decode cX9_keep 44 = .ok (.putfield 371, 3) := by decide +kernel
theorem dX9_keep_47 : decode cX9_keep 47 = .ok (.iconst 1, 1) := by decide +kernel
theorem dX9_keep_48 : decode cX9_keep 48 = .ok (.ireturn, 1) := by decide +kernel
abbrev rX9_keep : Room := { frames := 2, cells := 0, slots := 0, locals := 43 }
def mX9_keep_b39    (σ : gS) (x6 : Int32) (k7 : Nat) (x8 : Int32) (k9 : Nat) : Option (Int32 × gS) := gLet (gUI σ k9 0 x8) (fun s10 => gLet (gUI s10 k7 1 x6) (fun s11 => some (1, s11)))
set_option maxHeartbeats 4000000 in
set_option maxRecDepth 100000 in
theorem wX9_keep_b39 {p : Program} {l : Launch} {e : Env} {s : State} {m : MethodId} {args : Array Value} {below : List Frame} {meth : Method} {c : Code} {G : gE} (hC : gCx p s m args meth c G RX9 cX9_keep 4 (some .int))     (σ : gS) (x6 : Int32) (k7 : Nat) (x8 : Int32) (k9 : Nat) (hk7 : gk k7 = 6) (hk9 : gk k9 = 6) : gT p l e rX9_keep s m args below meth c G 4 iI σ 39 [(2, .int x6), (3, .ref (G.2.1 k7))] [.int x8, .ref (G.2.1 k9)] (mX9_keep_b39  σ x6 k7 x8 k9) := by
  unfold mX9_keep_b39
  refine g_puti (pc := 39) (fty := .int) hC kX6 hk9 0 (by decide) fl_RX9_122 rfl rfl rfl rfl (fun _ _ => Nat.le_of_ble_eq_true rfl) (fun _ _ => rfl) dX9_keep_39 (fun s10 => ?_)
  refine g_aload_n (pc := 42) (q := 1) hC dX9_keep_42 rfl rfl ?_
  refine g_iload_n (pc := 43) (q := 0) hC dX9_keep_43 rfl rfl ?_
  refine g_puti (pc := 44) (fty := .int) hC kX6 hk7 1 (by decide) fl_RX9_371 rfl rfl rfl rfl (fun _ _ => Nat.le_of_ble_eq_true rfl) (fun _ _ => rfl) dX9_keep_44 (fun s11 => ?_)
  refine g_iconst (pc := 47) (v := 1) hC dX9_keep_47 (by decide) ?_
  exact g_iret (pc := 48) hC dX9_keep_48
def mX9_keep_b28    (σ : gS) (x4 : Int32) (k5 : Nat) : Option (Int32 × gS) := if x4 = (-1) then ((mX9_keep_b39  σ x4 k5 0 k5)) else ((mX9_keep_b39  σ x4 k5 1 k5))
set_option maxHeartbeats 4000000 in
set_option maxRecDepth 100000 in
theorem wX9_keep_b28 {p : Program} {l : Launch} {e : Env} {s : State} {m : MethodId} {args : Array Value} {below : List Frame} {meth : Method} {c : Code} {G : gE} (hC : gCx p s m args meth c G RX9 cX9_keep 4 (some .int))     (σ : gS) (x4 : Int32) (k5 : Nat) (hk5 : gk k5 = 6) : gT p l e rX9_keep s m args below meth c G 4 iI σ 28 [(2, .int x4), (3, .ref (G.2.1 k5))] [] (mX9_keep_b28  σ x4 k5) := by
  unfold mX9_keep_b28
  refine g_aload_n (pc := 28) (q := 1) hC dX9_keep_28 rfl rfl ?_
  refine g_iload_n (pc := 29) (q := 0) hC dX9_keep_29 rfl rfl ?_
  refine g_iconst (pc := 30) (v := (-1)) hC dX9_keep_30 (by decide) ?_
  refine g_icmp_ne (pc := 31) (tgt := 38) hC dX9_keep_31 (by decide) ?_ ?_
  · refine g_iconst (pc := 38) (v := 1) hC dX9_keep_38 (by decide) ?_
    exact gT_sub [0, 1] rfl (wX9_keep_b39 hC  σ x4 k5 1 k5 hk5 hk5)
  · refine g_iconst (pc := 34) (v := 0) hC dX9_keep_34 (by decide) ?_
    refine g_goto (pc := 35) (tgt := 39) hC dX9_keep_35 (by decide) ?_
    exact gT_sub [0, 1] rfl (wX9_keep_b39 hC  σ x4 k5 0 k5 hk5 hk5)
def mX9_keep (σ : gS) (p0 : Int32) (p1 : Int32) : Option (Int32 × gS) := gBind (mX9_shelfAt σ p0) (fun r1 s2 => gOpt r1 (some ((-1), s2)) (fun k3 => if gk k3 = 6 then (if p1 = (-1) then ((mX9_keep_b28  s2 p1 k3)) else (gBind (mX2_hasBody s2 p1) (fun r12 s13 => if r12 = true then ((mX9_keep_b28  s13 p1 k3)) else (some ((-1), s13))))) else none))
set_option maxHeartbeats 4000000 in
set_option maxRecDepth 100000 in
theorem tX9_keep (l : Launch) (G : gE) (σ : gS) (p0 : Int32) (p1 : Int32) : gM l G yX9_keep cX9_keep 4 (some .int) rX9_keep iI [.ref (G.2.1 0), .int p0, .int p1] σ (mX9_keep σ p0 p1) := by
  refine gM_of (by decide) (Nat.le_of_ble_eq_true rfl) ?_
  intro p e s m args below meth c hC
  unfold mX9_keep
  show gT p l e rX9_keep s m args below meth c G 4 iI σ 0 [(0, .ref (G.2.1 0)), (1, .int p0), (2, .int p1)] [] _
  refine g_aload_n (pc := 0) (q := 0) hC dX9_keep_0 rfl rfl ?_
  refine g_iload_n (pc := 1) (q := 1) hC dX9_keep_1 rfl rfl ?_
  refine g_callVq (pc := 2) (As := [.int p0]) (rest := []) hC lk_RX9_118 kX9 rfl (tX9_shelfAt _ _ σ p0) rfl rfl (Nat.le_of_ble_eq_true rfl) ⟨rfl, rfl, Nat.le_of_ble_eq_true rfl, Nat.le_of_ble_eq_true rfl⟩ dX9_keep_2 (fun r1 s2 => ?_)
  refine gT_opt ?_ (fun k3 => ?_)
  · refine g_astore_nN (pc := 5) (lv' := [(3, .null), (0, .ref (G.2.1 0)), (1, .int p0), (2, .int p1)]) hC dX9_keep_5 rfl (by decide) rfl ?_
    refine g_aload_nN (pc := 6) (q := 0) hC dX9_keep_6 rfl rfl ?_
    refine g_ifnullN (pc := 7) (tgt := 26) hC dX9_keep_7 (by decide) ?_
    refine g_iconst (pc := 26) (v := (-1)) hC dX9_keep_26 (by decide) ?_
    exact g_iret (pc := 27) hC dX9_keep_27
  · refine gT_if (fun hk3 => ?_) (fun _ => gT_none)
    refine g_astore_n (pc := 5) (lv' := [(3, .ref (G.2.1 k3)), (0, .ref (G.2.1 0)), (1, .int p0), (2, .int p1)]) hC dX9_keep_5 rfl (by decide) rfl ?_
    refine g_aload_n (pc := 6) (q := 0) hC dX9_keep_6 rfl rfl ?_
    refine g_ifnullR (pc := 7) hC dX9_keep_7 ?_
    refine g_iload_n (pc := 10) (q := 3) hC dX9_keep_10 rfl rfl ?_
    refine g_iconst (pc := 11) (v := (-1)) hC dX9_keep_11 (by decide) ?_
    refine g_icmp_eq (pc := 12) (tgt := 28) hC dX9_keep_12 (by decide) ?_ ?_
    · exact gT_sub [3, 0] rfl (wX9_keep_b28 hC  s2 p1 k3 hk3)
    · refine g_aload_n (pc := 15) (q := 1) hC dX9_keep_15 rfl rfl ?_
      refine g_get (pc := 16) (v := .ref (G.2.1 36)) hC kX9 rfl 14 (by decide) fl_RX9_85 rfl dX9_keep_16 ?_
      refine g_iload_n (pc := 19) (q := 3) hC dX9_keep_19 rfl rfl ?_
      refine g_callVz (pc := 20) (As := [.int p1]) (rest := []) hC lk_RX9_368 kX2 rfl (tX2_hasBody _ _ s2 p1) rfl rfl (Nat.le_of_ble_eq_true rfl) ⟨rfl, rfl, Nat.le_of_ble_eq_true rfl, Nat.le_of_ble_eq_true rfl⟩ dX9_keep_20 (fun r12 s13 => ?_)
      refine g_bif_ne (pc := 23) (tgt := 28) hC dX9_keep_23 (by decide) ?_ ?_
      · exact gT_sub [3, 0] rfl (wX9_keep_b28 hC  s13 p1 k3 hk3)
      · refine g_iconst (pc := 26) (v := (-1)) hC dX9_keep_26 (by decide) ?_
        exact g_iret (pc := 27) hC dX9_keep_27
theorem lk_RX9_374 : gLV RX9 374 RX6 yX6_becomeRow cX6_becomeRow 3 (none) 2 := ⟨(gBig_tab 1007 (by decide +kernel) (by decide +kernel)), (gBig_tab 1008 (by decide +kernel) (by decide +kernel)), (gBig_tab 1009 (by decide +kernel) (by decide +kernel)), (gBig_tab 10 (by decide +kernel) (by decide +kernel)), (gBig_tab 1010 (by decide +kernel) (by decide +kernel)), rfl, by decide +kernel, by decide +kernel, by decide +kernel⟩
theorem dX9_row_0 : decode cX9_row 0 = .ok (.aload_n 0, 1) := by decide +kernel
theorem dX9_row_1 : decode cX9_row 1 = .ok (.iload_n 1, 1) := by decide +kernel
theorem dX9_row_2 : decode cX9_row 2 = .ok (.invokevirtual 118, 3) := by decide +kernel
theorem dX9_row_5 : decode cX9_row 5 = .ok (.astore 4, 2) := by decide +kernel
theorem dX9_row_7 : decode cX9_row 7 = .ok (.aload 4, 2) := by decide +kernel
theorem dX9_row_9 : decode cX9_row 9 = .ok (.ifnull 18, 3) := by decide +kernel
theorem dX9_row_12 : decode cX9_row 12 = .ok (.iload_n 2, 1) := by decide +kernel
theorem dX9_row_13 : decode cX9_row 13 = .ok (.iconst 0, 1) := by decide +kernel
theorem dX9_row_14 : decode cX9_row 14 = .ok (.iconst 4, 1) := by decide +kernel
theorem dX9_row_15 : decode cX9_row 15 = .ok (.invokestatic 102, 3) := by decide +kernel
theorem dX9_row_18 : decode cX9_row 18 = .ok (.ifCond .eq 9, 3) := by decide +kernel
theorem dX9_row_21 : decode cX9_row 21 = .ok (.iload_n 3, 1) := by decide +kernel
theorem dX9_row_22 : decode cX9_row 22 = .ok (.bipush 60, 2) := by decide +kernel
theorem dX9_row_24 : decode cX9_row 24 = .ok (.if_icmp .le 5, 3) := by decide +kernel
theorem dX9_row_27 : decode cX9_row 27 = .ok (.iconst (-1), 1) := by decide +kernel
theorem dX9_row_28 : decode cX9_row 28 = .ok (.ireturn, 1) := by decide +kernel
theorem dX9_row_29 : decode cX9_row 29 = .ok (.iload_n 3, 1) := by decide +kernel
theorem dX9_row_30 : decode cX9_row 30 = .ok (.ifCond .ge 6, 3) := by decide +kernel
theorem dX9_row_33 : decode cX9_row 33 = .ok (.bipush (-14), 2) := by decide +kernel
theorem dX9_row_35 : decode cX9_row 35 = .ok (.ireturn, 1) := by decide +kernel
theorem dX9_row_36 : decode cX9_row 36 = .ok (.aload 4, 2) := by decide +kernel
theorem dX9_row_38 : decode cX9_row 38 = .ok (.iload_n 2, 1) := by decide +kernel
theorem dX9_row_39 : decode cX9_row 39 = .ok (.iload_n 3, 1) := by decide +kernel
theorem dX9_row_40 : decode cX9_row 40 = .ok (.invokevirtual 374, 3) := by decide +kernel
theorem dX9_row_43 : decode cX9_row 43 = .ok (.iconst 1, 1) := by decide +kernel
theorem dX9_row_44 : decode cX9_row 44 = .ok (.ireturn, 1) := by decide +kernel
abbrev rX9_row : Room := { frames := 2, cells := 0, slots := 0, locals := 46 }
def mX9_row (σ : gS) (p0 : Int32) (p1 : Int32) (p2 : Int32) : Option (Int32 × gS) := gBind (mX9_shelfAt σ p0) (fun r1 s2 => gOpt r1 (some ((-1), s2)) (fun k3 => if gk k3 = 6 then (gBind (mX9_within s2 p1 0 4) (fun r4 s5 => if r4 = true then (if p2 ≤ 60 then (if 0 ≤ p2 then (gBind (mX6_becomeRow s5 k3 p1 p2) (fun r6 s7 => some (1, s7))) else (some ((-14), s5))) else (some ((-1), s5))) else (some ((-1), s5)))) else none))
set_option maxHeartbeats 4000000 in
set_option maxRecDepth 100000 in
theorem tX9_row (l : Launch) (G : gE) (σ : gS) (p0 : Int32) (p1 : Int32) (p2 : Int32) : gM l G yX9_row cX9_row 5 (some .int) rX9_row iI [.ref (G.2.1 0), .int p0, .int p1, .int p2] σ (mX9_row σ p0 p1 p2) := by
  refine gM_of (by decide) (Nat.le_of_ble_eq_true rfl) ?_
  intro p e s m args below meth c hC
  unfold mX9_row
  show gT p l e rX9_row s m args below meth c G 5 iI σ 0 [(0, .ref (G.2.1 0)), (1, .int p0), (2, .int p1), (3, .int p2)] [] _
  refine g_aload_n (pc := 0) (q := 0) hC dX9_row_0 rfl rfl ?_
  refine g_iload_n (pc := 1) (q := 1) hC dX9_row_1 rfl rfl ?_
  refine g_callVq (pc := 2) (As := [.int p0]) (rest := []) hC lk_RX9_118 kX9 rfl (tX9_shelfAt _ _ σ p0) rfl rfl (Nat.le_of_ble_eq_true rfl) ⟨rfl, rfl, Nat.le_of_ble_eq_true rfl, Nat.le_of_ble_eq_true rfl⟩ dX9_row_2 (fun r1 s2 => ?_)
  refine gT_opt ?_ (fun k3 => ?_)
  · refine g_astoreN (pc := 5) (lv' := [(4, .null), (0, .ref (G.2.1 0)), (1, .int p0), (2, .int p1), (3, .int p2)]) hC dX9_row_5 (by decide) rfl ?_
    refine g_aloadN (pc := 7) (q := 0) hC dX9_row_7 rfl ?_
    refine g_ifnullN (pc := 9) (tgt := 27) hC dX9_row_9 (by decide) ?_
    refine g_iconst (pc := 27) (v := (-1)) hC dX9_row_27 (by decide) ?_
    exact g_iret (pc := 28) hC dX9_row_28
  · refine gT_if (fun hk3 => ?_) (fun _ => gT_none)
    refine g_astore (pc := 5) (lv' := [(4, .ref (G.2.1 k3)), (0, .ref (G.2.1 0)), (1, .int p0), (2, .int p1), (3, .int p2)]) hC dX9_row_5 (by decide) rfl ?_
    refine g_aload (pc := 7) (q := 0) hC dX9_row_7 rfl ?_
    refine g_ifnullR (pc := 9) hC dX9_row_9 ?_
    refine g_iload_n (pc := 12) (q := 3) hC dX9_row_12 rfl rfl ?_
    refine g_iconst (pc := 13) (v := 0) hC dX9_row_13 (by decide) ?_
    refine g_iconst (pc := 14) (v := 4) hC dX9_row_14 (by decide) ?_
    refine g_callSz (pc := 15) (As := [.int p1, .int 0, .int 4]) (rest := []) hC lk_RX9_102 (tX9_within _ _ s2 p1 0 4) rfl rfl (Nat.le_of_ble_eq_true rfl) ⟨rfl, rfl, Nat.le_of_ble_eq_true rfl, Nat.le_of_ble_eq_true rfl⟩ dX9_row_15 (fun r4 s5 => ?_)
    refine g_bif_eq (pc := 18) (tgt := 27) hC dX9_row_18 (by decide) ?_ ?_
    · refine g_iconst (pc := 27) (v := (-1)) hC dX9_row_27 (by decide) ?_
      exact g_iret (pc := 28) hC dX9_row_28
    · refine g_iload_n (pc := 21) (q := 4) hC dX9_row_21 rfl rfl ?_
      refine g_bipush (pc := 22) (v := 60) hC dX9_row_22 (by decide) ?_
      refine g_icmp_le (pc := 24) (tgt := 29) hC dX9_row_24 (by decide) ?_ ?_
      · refine g_iload_n (pc := 29) (q := 4) hC dX9_row_29 rfl rfl ?_
        refine g_if_ge (pc := 30) (tgt := 36) hC dX9_row_30 (by decide) ?_ ?_
        · refine g_aload (pc := 36) (q := 0) hC dX9_row_36 rfl ?_
          refine g_iload_n (pc := 38) (q := 3) hC dX9_row_38 rfl rfl ?_
          refine g_iload_n (pc := 39) (q := 4) hC dX9_row_39 rfl rfl ?_
          refine g_callVv (pc := 40) (As := [.int p1, .int p2]) (rest := []) hC lk_RX9_374 kX6 hk3 (tX6_becomeRow _ _ s5 k3 p1 p2) rfl rfl (Nat.le_of_ble_eq_true rfl) ⟨rfl, rfl, Nat.le_of_ble_eq_true rfl, Nat.le_of_ble_eq_true rfl⟩ dX9_row_40 (fun r6 s7 => ?_)
          refine g_iconst (pc := 43) (v := 1) hC dX9_row_43 (by decide) ?_
          exact g_iret (pc := 44) hC dX9_row_44
        · refine g_bipush (pc := 33) (v := (-14)) hC dX9_row_33 (by decide) ?_
          exact g_iret (pc := 35) hC dX9_row_35
      · refine g_iconst (pc := 27) (v := (-1)) hC dX9_row_27 (by decide) ?_
        exact g_iret (pc := 28) hC dX9_row_28
theorem fl_RX9_384 : Cond.fieldLink RX9 384 "WinterShed$Shelf" "sort" "I" ∈ gBig := (gBig_tab 308 (by decide +kernel) (by decide +kernel))
theorem lk_RX9_387 : gLS RX9 387 yX9_lowestBits cX9_lowestBits 3 (some .long) 2 := ⟨(gBig_tab 1022 (by decide +kernel) (by decide +kernel)), (gBig_tab 1023 (by decide +kernel) (by decide +kernel)), (gBig_tab 1 (by decide +kernel) (by decide +kernel)), (gBig_tab 1024 (by decide +kernel) (by decide +kernel)), by decide +kernel, by decide +kernel, by decide +kernel⟩
theorem lk_RX9_377 : gLV RX9 377 RX9 yX9_refusePlace cX9_refusePlace 4 (some .int) 2 := ⟨(gBig_tab 1018 (by decide +kernel) (by decide +kernel)), (gBig_tab 1020 (by decide +kernel) (by decide +kernel)), (gBig_sel 43 (by decide +kernel) (by decide +kernel)), (gBig_tab 1 (by decide +kernel) (by decide +kernel)), (gBig_tab 1021 (by decide +kernel) (by decide +kernel)), rfl, by decide +kernel, by decide +kernel, by decide +kernel⟩
theorem dX9_put_0 : decode cX9_put 0 = .ok (.aload_n 0, 1) := by decide +kernel
theorem dX9_put_1 : decode cX9_put 1 = .ok (.iload_n 1, 1) := by decide +kernel
theorem dX9_put_2 : decode cX9_put 2 = .ok (.iload_n 2, 1) := by decide +kernel
theorem dX9_put_3 : decode cX9_put 3 = .ok (.invokevirtual 377, 3) := by decide +kernel
theorem dX9_put_6 : decode cX9_put 6 = .ok (.istore 5, 2) := by decide +kernel
theorem dX9_put_8 : decode cX9_put 8 = .ok (.iload 5, 2) := by decide +kernel
theorem dX9_put_10 : decode cX9_put 10 = .ok (.iconst 1, 1) := by decide +kernel
theorem dX9_put_11 : decode cX9_put 11 = .ok (.if_icmp .ne 27, 3) := by decide +kernel
theorem dX9_put_14 : decode cX9_put 14 = .ok (.aload_n 0, 1) := by decide +kernel
theorem dX9_put_15 : decode cX9_put 15 = .ok (.getfield 91, 3) := by decide +kernel
theorem dX9_put_18 : decode cX9_put 18 = .ok (.iload_n 1, 1) := by decide +kernel
theorem dX9_put_19 : decode cX9_put 19 = .ok (.aaload, 1) := by decide +kernel
theorem dX9_put_20 : decode cX9_put 20 = .ok (.getfield 380, 3) := by decide +kernel
theorem dX9_put_23 : decode cX9_put 23 = .ok (.iload_n 2, 1) := by decide +kernel
theorem dX9_put_24 : decode cX9_put 24 = .ok (.aload_n 0, 1) := by decide +kernel
theorem dX9_put_25 : decode cX9_put 25 = .ok (.getfield 91, 3) := by decide +kernel
theorem dX9_put_28 : decode cX9_put 28 = .ok (.iload_n 1, 1) := by decide +kernel
theorem dX9_put_29 : decode cX9_put 29 = .ok (.aaload, 1) := by decide +kernel
theorem dX9_put_30 : decode cX9_put 30 = .ok (.getfield 384, 3) := by decide +kernel
theorem dX9_put_33 : decode cX9_put 33 = .ok (.lload_n 3, 1) := by decide +kernel
theorem dX9_put_34 : decode cX9_put 34 = .ok (.invokestatic 387, 3) := by decide +kernel
theorem dX9_put_37 : decode cX9_put 37 = .ok (.lastore, 1) := by decide +kernel
theorem dX9_put_38 : decode cX9_put 38 = .ok (.iload 5, 2) := by decide +kernel
theorem dX9_put_40 : decode cX9_put 40 = .ok (.ireturn, 1) := by decide +kernel
abbrev rX9_put : Room := { frames := 3, cells := 0, slots := 0, locals := 66 }
def mX9_put (σ : gS) (p0 : Int32) (p1 : Int32) (p2 : Int64) : Option (Int32 × gS) := gBind (mX9_refusePlace σ p0 p1) (fun r1 s2 => gLet r1 (fun v3 => if v3 = 1 then (if inbB p0 6 = true then (if gk (40 + 2 * Int32.toNatClampNeg p0) = 6 then (if inbB p0 6 = true then (if gk (40 + 2 * Int32.toNatClampNeg p0) = 6 then (gBind (mX9_lowestBits s2 (s2.1 (40 + 2 * Int32.toNatClampNeg p0) 2) p2) (fun r6 s7 => if inbB p1 60 = true then gLet (gUJ s7 ((40 + 2 * Int32.toNatClampNeg p0) + 1) (Int32.toNatClampNeg p1) r6) (fun s8 => some (v3, s8)) else none)) else none) else none) else none) else none) else (some (v3, s2))))
set_option maxHeartbeats 4000000 in
set_option maxRecDepth 100000 in
theorem tX9_put (l : Launch) (G : gE) (σ : gS) (p0 : Int32) (p1 : Int32) (p2 : Int64) : gM l G yX9_put cX9_put 6 (some .int) rX9_put iI [.ref (G.2.1 0), .int p0, .int p1, .long p2] σ (mX9_put σ p0 p1 p2) := by
  refine gM_of (by decide) (Nat.le_of_ble_eq_true rfl) ?_
  intro p e s m args below meth c hC
  unfold mX9_put
  show gT p l e rX9_put s m args below meth c G 6 iI σ 0 [(0, .ref (G.2.1 0)), (1, .int p0), (2, .int p1), (3, .long p2)] [] _
  refine g_aload_n (pc := 0) (q := 0) hC dX9_put_0 rfl rfl ?_
  refine g_iload_n (pc := 1) (q := 1) hC dX9_put_1 rfl rfl ?_
  refine g_iload_n (pc := 2) (q := 2) hC dX9_put_2 rfl rfl ?_
  refine g_callVi (pc := 3) (As := [.int p0, .int p1]) (rest := []) hC lk_RX9_377 kX9 rfl (tX9_refusePlace _ _ σ p0 p1) rfl rfl (Nat.le_of_ble_eq_true rfl) ⟨rfl, rfl, Nat.le_of_ble_eq_true rfl, Nat.le_of_ble_eq_true rfl⟩ dX9_put_3 (fun r1 s2 => ?_)
  refine g_istore (pc := 6) (lv' := fun v3 => [(5, .int v3), (0, .ref (G.2.1 0)), (1, .int p0), (2, .int p1), (3, .long p2)]) hC dX9_put_6 (by decide) (fun _ => rfl) (fun v3 => ?_)
  refine g_iload (pc := 8) (q := 0) hC dX9_put_8 rfl ?_
  refine g_iconst (pc := 10) (v := 1) hC dX9_put_10 (by decide) ?_
  refine g_icmp_ne (pc := 11) (tgt := 38) hC dX9_put_11 (by decide) ?_ ?_
  · refine g_iload (pc := 38) (q := 0) hC dX9_put_38 rfl ?_
    exact g_iret (pc := 40) hC dX9_put_40
  · refine g_aload_n (pc := 14) (q := 1) hC dX9_put_14 rfl rfl ?_
    refine g_get (pc := 15) (v := .ref (G.2.1 39)) hC kX9 rfl 15 (by decide) fl_RX9_91 rfl dX9_put_15 ?_
    refine g_iload_n (pc := 18) (q := 2) hC dX9_put_18 rfl rfl ?_
    refine g_aald (pc := 19) hC rfl dX9_put_19 ?_
    refine gT_if (fun hg4 => ?_) (fun _ => gT_none)
    refine g_get (pc := 20) (v := .ref (G.2.1 ((40 + 2 * Int32.toNatClampNeg p0) + 1))) hC kX6 hg4 4 (by decide) fl_RX9_380 rfl dX9_put_20 ?_
    refine g_iload_n (pc := 23) (q := 3) hC dX9_put_23 rfl rfl ?_
    refine g_aload_n (pc := 24) (q := 1) hC dX9_put_24 rfl rfl ?_
    refine g_get (pc := 25) (v := .ref (G.2.1 39)) hC kX9 rfl 15 (by decide) fl_RX9_91 rfl dX9_put_25 ?_
    refine g_iload_n (pc := 28) (q := 2) hC dX9_put_28 rfl rfl ?_
    refine g_aald (pc := 29) hC rfl dX9_put_29 ?_
    refine gT_if (fun hg5 => ?_) (fun _ => gT_none)
    refine g_get (pc := 30) (v := .int (s2.1 (40 + 2 * Int32.toNatClampNeg p0) 2)) hC kX6 hg5 2 (by decide) fl_RX9_384 rfl dX9_put_30 ?_
    refine g_lload_n (pc := 33) (q := 4) hC dX9_put_33 rfl rfl ?_
    refine g_callSl (pc := 34) (As := [.int (s2.1 (40 + 2 * Int32.toNatClampNeg p0) 2), .long p2]) (rest := [.int p1, .ref (G.2.1 ((40 + 2 * Int32.toNatClampNeg p0) + 1))]) hC lk_RX9_387 (tX9_lowestBits _ _ s2 (s2.1 (40 + 2 * Int32.toNatClampNeg p0) 2) p2) rfl rfl (Nat.le_of_ble_eq_true rfl) ⟨rfl, rfl, Nat.le_of_ble_eq_true rfl, Nat.le_of_ble_eq_true rfl⟩ dX9_put_34 (fun r6 s7 => ?_)
    refine g_last (pc := 37) hC 60 (ck_6_1 hg4) dX9_put_37 (fun s8 => ?_)
    refine g_iload (pc := 38) (q := 0) hC dX9_put_38 rfl ?_
    exact g_iret (pc := 40) hC dX9_put_40
theorem dX9_element_0 : decode cX9_element 0 = .ok (.aload_n 0, 1) := by decide +kernel
theorem dX9_element_1 : decode cX9_element 1 = .ok (.iload_n 1, 1) := by decide +kernel
theorem dX9_element_2 : decode cX9_element 2 = .ok (.iload_n 2, 1) := by decide +kernel
theorem dX9_element_3 : decode cX9_element 3 = .ok (.invokevirtual 377, 3) := by decide +kernel
theorem dX9_element_6 : decode cX9_element 6 = .ok (.iconst 1, 1) := by decide +kernel
theorem dX9_element_7 : decode cX9_element 7 = .ok (.if_icmp .ne 17, 3) := by decide +kernel
theorem dX9_element_10 : decode cX9_element 10 = .ok (.aload_n 0, 1) := by decide +kernel
theorem dX9_element_11 : decode cX9_element 11 = .ok (.getfield 91, 3) := by decide +kernel
theorem dX9_element_14 : decode cX9_element 14 = .ok (.iload_n 1, 1) := by decide +kernel
theorem dX9_element_15 : decode cX9_element 15 = .ok (.aaload, 1) := by decide +kernel
theorem dX9_element_16 : decode cX9_element 16 = .ok (.getfield 380, 3) := by decide +kernel
theorem dX9_element_19 : decode cX9_element 19 = .ok (.iload_n 2, 1) := by decide +kernel
theorem dX9_element_20 : decode cX9_element 20 = .ok (.laload, 1) := by decide +kernel
theorem dX9_element_21 : decode cX9_element 21 = .ok (.goto 6, 3) := by decide +kernel
theorem dX9_element_24 : decode cX9_element 24 = .ok (.ldc2_w 226, 3) := by decide +kernel
theorem dX9_element_27 : decode cX9_element 27 = .ok (.lreturn, 1) := by decide +kernel
abbrev rX9_element : Room := { frames := 3, cells := 0, slots := 0, locals := 66 }
def mX9_element (σ : gS) (p0 : Int32) (p1 : Int32) : Option (Int64 × gS) := gBind (mX9_refusePlace σ p0 p1) (fun r1 s2 => if r1 = 1 then (if inbB p0 6 = true then (if gk (40 + 2 * Int32.toNatClampNeg p0) = 6 then (if inbB p1 60 = true then (some ((s2.2.1 ((40 + 2 * Int32.toNatClampNeg p0) + 1) (Int32.toNatClampNeg p1)), s2)) else none) else none) else none) else (some ((-9223372036854775808), s2)))
set_option maxHeartbeats 4000000 in
set_option maxRecDepth 100000 in
theorem tX9_element (l : Launch) (G : gE) (σ : gS) (p0 : Int32) (p1 : Int32) : gM l G yX9_element cX9_element 3 (some .long) rX9_element iJ [.ref (G.2.1 0), .int p0, .int p1] σ (mX9_element σ p0 p1) := by
  refine gM_of (by decide) (Nat.le_of_ble_eq_true rfl) ?_
  intro p e s m args below meth c hC
  unfold mX9_element
  show gT p l e rX9_element s m args below meth c G 3 iJ σ 0 [(0, .ref (G.2.1 0)), (1, .int p0), (2, .int p1)] [] _
  refine g_aload_n (pc := 0) (q := 0) hC dX9_element_0 rfl rfl ?_
  refine g_iload_n (pc := 1) (q := 1) hC dX9_element_1 rfl rfl ?_
  refine g_iload_n (pc := 2) (q := 2) hC dX9_element_2 rfl rfl ?_
  refine g_callVi (pc := 3) (As := [.int p0, .int p1]) (rest := []) hC lk_RX9_377 kX9 rfl (tX9_refusePlace _ _ σ p0 p1) rfl rfl (Nat.le_of_ble_eq_true rfl) ⟨rfl, rfl, Nat.le_of_ble_eq_true rfl, Nat.le_of_ble_eq_true rfl⟩ dX9_element_3 (fun r1 s2 => ?_)
  refine g_iconst (pc := 6) (v := 1) hC dX9_element_6 (by decide) ?_
  refine g_icmp_ne (pc := 7) (tgt := 24) hC dX9_element_7 (by decide) ?_ ?_
  · refine g_ldc2 (pc := 24) hC dX9_element_24 cst_RX9_226 ?_
    exact g_lret (pc := 27) hC dX9_element_27
  · refine g_aload_n (pc := 10) (q := 0) hC dX9_element_10 rfl rfl ?_
    refine g_get (pc := 11) (v := .ref (G.2.1 39)) hC kX9 rfl 15 (by decide) fl_RX9_91 rfl dX9_element_11 ?_
    refine g_iload_n (pc := 14) (q := 1) hC dX9_element_14 rfl rfl ?_
    refine g_aald (pc := 15) hC rfl dX9_element_15 ?_
    refine gT_if (fun hg3 => ?_) (fun _ => gT_none)
    refine g_get (pc := 16) (v := .ref (G.2.1 ((40 + 2 * Int32.toNatClampNeg p0) + 1))) hC kX6 hg3 4 (by decide) fl_RX9_380 rfl dX9_element_16 ?_
    refine g_iload_n (pc := 19) (q := 2) hC dX9_element_19 rfl rfl ?_
    refine g_lald (pc := 20) hC 60 (ck_6_1 hg3) dX9_element_20 ?_
    refine g_goto (pc := 21) (tgt := 27) hC dX9_element_21 (by decide) ?_
    exact g_lret (pc := 27) hC dX9_element_27
theorem cpy_RX9_394 : gCy RX9 394 := ⟨(gBig_tab 1033 (by decide +kernel) (by decide +kernel)), (gBig_tab 461 (by decide +kernel) (by decide +kernel)), (gBig_tab 460 (by decide +kernel) (by decide +kernel)), (gBig_tab 12 (by decide +kernel) (by decide +kernel))⟩
theorem dX9_shift_0 : decode cX9_shift 0 = .ok (.aload_n 0, 1) := by decide +kernel
theorem dX9_shift_1 : decode cX9_shift 1 = .ok (.iload_n 1, 1) := by decide +kernel
theorem dX9_shift_2 : decode cX9_shift 2 = .ok (.invokevirtual 118, 3) := by decide +kernel
theorem dX9_shift_5 : decode cX9_shift 5 = .ok (.astore 6, 2) := by decide +kernel
theorem dX9_shift_7 : decode cX9_shift 7 = .ok (.aload_n 0, 1) := by decide +kernel
theorem dX9_shift_8 : decode cX9_shift 8 = .ok (.iload_n 3, 1) := by decide +kernel
theorem dX9_shift_9 : decode cX9_shift 9 = .ok (.invokevirtual 118, 3) := by decide +kernel
theorem dX9_shift_12 : decode cX9_shift 12 = .ok (.astore 7, 2) := by decide +kernel
theorem dX9_shift_14 : decode cX9_shift 14 = .ok (.aload 6, 2) := by decide +kernel
theorem dX9_shift_16 : decode cX9_shift 16 = .ok (.ifnull 8, 3) := by decide +kernel
theorem dX9_shift_19 : decode cX9_shift 19 = .ok (.aload 7, 2) := by decide +kernel
theorem dX9_shift_21 : decode cX9_shift 21 = .ok (.ifnonnull 5, 3) := by decide +kernel
theorem dX9_shift_24 : decode cX9_shift 24 = .ok (.iconst (-1), 1) := by decide +kernel
theorem dX9_shift_25 : decode cX9_shift 25 = .ok (.ireturn, 1) := by decide +kernel
theorem dX9_shift_26 : decode cX9_shift 26 = .ok (.aload 6, 2) := by decide +kernel
theorem dX9_shift_28 : decode cX9_shift 28 = .ok (.getfield 122, 3) := by decide +kernel
theorem dX9_shift_31 : decode cX9_shift 31 = .ok (.ifCond .eq 11, 3) := by decide +kernel
theorem dX9_shift_34 : decode cX9_shift 34 = .ok (.aload 7, 2) := by decide +kernel
theorem dX9_shift_36 : decode cX9_shift 36 = .ok (.getfield 122, 3) := by decide +kernel
theorem dX9_shift_39 : decode cX9_shift 39 = .ok (.ifCond .ne 6, 3) := by decide +kernel
theorem dX9_shift_42 : decode cX9_shift 42 = .ok (.bipush (-11), 2) := by decide +kernel
theorem dX9_shift_44 : decode cX9_shift 44 = .ok (.ireturn, 1) := by decide +kernel
theorem dX9_shift_45 : decode cX9_shift 45 = .ok (.aload 6, 2) := by decide +kernel
theorem dX9_shift_47 : decode cX9_shift 47 = .ok (.getfield 122, 3) := by decide +kernel
theorem dX9_shift_50 : decode cX9_shift 50 = .ok (.iconst 2, 1) := by decide +kernel
theorem dX9_shift_51 : decode cX9_shift 51 = .ok (.if_icmp .ne 16, 3) := by decide +kernel
theorem dX9_shift_54 : decode cX9_shift 54 = .ok (.aload 7, 2) := by decide +kernel
theorem dX9_shift_56 : decode cX9_shift 56 = .ok (.aload 6, 2) := by decide +kernel
theorem dX9_shift_58 : decode cX9_shift 58 = .ok (.getfield 384, 3) := by decide +kernel
theorem dX9_shift_61 : decode cX9_shift 61 = .ok (.invokevirtual 125, 3) := by decide +kernel
theorem dX9_shift_64 : decode cX9_shift 64 = .ok (.ifCond .ne 6, 3) := by decide +kernel
theorem dX9_shift_67 : decode cX9_shift 67 = .ok (.bipush (-12), 2) := by decide +kernel
theorem dX9_shift_69 : decode cX9_shift 69 = .ok (.ireturn, 1) := by decide +kernel
theorem dX9_shift_70 : decode cX9_shift 70 = .ok (.aload 6, 2) := by decide +kernel
theorem dX9_shift_72 : decode cX9_shift 72 = .ok (.iload_n 2, 1) := by decide +kernel
theorem dX9_shift_73 : decode cX9_shift 73 = .ok (.iload 5, 2) := by decide +kernel
theorem dX9_shift_75 : decode cX9_shift 75 = .ok (.invokevirtual 391, 3) := by decide +kernel
theorem dX9_shift_78 : decode cX9_shift 78 = .ok (.ifCond .eq 15, 3) := by decide +kernel
theorem dX9_shift_81 : decode cX9_shift 81 = .ok (.aload 7, 2) := by decide +kernel
theorem dX9_shift_83 : decode cX9_shift 83 = .ok (.iload 4, 2) := by decide +kernel
theorem dX9_shift_85 : decode cX9_shift 85 = .ok (.iload 5, 2) := by decide +kernel
theorem dX9_shift_87 : decode cX9_shift 87 = .ok (.invokevirtual 391, 3) := by decide +kernel
theorem dX9_shift_90 : decode cX9_shift 90 = .ok (.ifCond .ne 6, 3) := by decide +kernel
theorem dX9_shift_93 : decode cX9_shift 93 = .ok (.bipush (-13), 2) := by decide +kernel
theorem dX9_shift_95 : decode cX9_shift 95 = .ok (.ireturn, 1) := by decide +kernel
theorem dX9_shift_96 : decode cX9_shift 96 = .ok (.aload 6, 2) := by decide +kernel
theorem dX9_shift_98 : decode cX9_shift 98 = .ok (.getfield 380, 3) := by decide +kernel
theorem dX9_shift_101 : decode cX9_shift 101 = .ok (.iload_n 2, 1) := by decide +kernel
theorem dX9_shift_102 : decode cX9_shift 102 = .ok (.aload 7, 2) := by decide +kernel
theorem dX9_shift_104 : decode cX9_shift 104 = .ok (.getfield 380, 3) := by decide +kernel
theorem dX9_shift_107 : decode cX9_shift 107 = .ok (.iload 4, 2) := by decide +kernel
theorem dX9_shift_109 : decode cX9_shift 109 = .ok (.iload 5, 2) := by decide +kernel
theorem dX9_shift_111 : decode cX9_shift 111 = .ok (.invokestatic 394, 3) := by decide +kernel
theorem dX9_shift_114 : decode cX9_shift 114 = .ok (.iload 5, 2) := by decide +kernel
theorem dX9_shift_116 : decode cX9_shift 116 = .ok (.ireturn, 1) := by decide +kernel
abbrev rX9_shift : Room := { frames := 2, cells := 0, slots := 0, locals := 64 }
def mX9_shift (σ : gS) (p0 : Int32) (p1 : Int32) (p2 : Int32) (p3 : Int32) (p4 : Int32) : Option (Int32 × gS) := gBind (mX9_shelfAt σ p0) (fun r1 s2 => gOpt r1 (gBind (mX9_shelfAt s2 p2) (fun r4 s5 => gOpt r4 (some ((-1), s5)) (fun k6 => if gk k6 = 6 then (some ((-1), s5)) else none))) (fun k3 => if gk k3 = 6 then (gBind (mX9_shelfAt s2 p2) (fun r7 s8 => gOpt r7 (some ((-1), s8)) (fun k9 => if gk k9 = 6 then (if (s8.1 k3 0) = 0 then (some ((-11), s8)) else (if (s8.1 k9 0) = 0 then (some ((-11), s8)) else (if (s8.1 k3 0) = 2 then (gBind (mX6_isRowOf s8 k9 (s8.1 k3 2)) (fun r10 s11 => if r10 = true then (gBind (mX6_hasPlaces s11 k3 p1 p4) (fun r12 s13 => if r12 = true then (gBind (mX6_hasPlaces s13 k9 p3 p4) (fun r14 s15 => if r14 = true then (if gCpB p1 p3 p4 60 60 = true then gLet (gUB s15 (k9 + 1) (va_cpy (s15.2.1 (k3 + 1)) (s15.2.1 (k9 + 1)) (Int32.toNatClampNeg p1) (Int32.toNatClampNeg p3) (Int32.toNatClampNeg p4))) (fun s16 => some (p4, s16)) else none) else (some ((-13), s15)))) else (some ((-13), s13)))) else (some ((-12), s11)))) else (some ((-12), s8))))) else none))) else none))
set_option maxHeartbeats 4000000 in
set_option maxRecDepth 100000 in
theorem tX9_shift (l : Launch) (G : gE) (σ : gS) (p0 : Int32) (p1 : Int32) (p2 : Int32) (p3 : Int32) (p4 : Int32) : gM l G yX9_shift cX9_shift 8 (some .int) rX9_shift iI [.ref (G.2.1 0), .int p0, .int p1, .int p2, .int p3, .int p4] σ (mX9_shift σ p0 p1 p2 p3 p4) := by
  refine gM_of (by decide) (Nat.le_of_ble_eq_true rfl) ?_
  intro p e s m args below meth c hC
  unfold mX9_shift
  show gT p l e rX9_shift s m args below meth c G 8 iI σ 0 [(0, .ref (G.2.1 0)), (1, .int p0), (2, .int p1), (3, .int p2), (4, .int p3), (5, .int p4)] [] _
  refine g_aload_n (pc := 0) (q := 0) hC dX9_shift_0 rfl rfl ?_
  refine g_iload_n (pc := 1) (q := 1) hC dX9_shift_1 rfl rfl ?_
  refine g_callVq (pc := 2) (As := [.int p0]) (rest := []) hC lk_RX9_118 kX9 rfl (tX9_shelfAt _ _ σ p0) rfl rfl (Nat.le_of_ble_eq_true rfl) ⟨rfl, rfl, Nat.le_of_ble_eq_true rfl, Nat.le_of_ble_eq_true rfl⟩ dX9_shift_2 (fun r1 s2 => ?_)
  refine gT_opt ?_ (fun k3 => ?_)
  · refine g_astoreN (pc := 5) (lv' := [(6, .null), (0, .ref (G.2.1 0)), (1, .int p0), (2, .int p1), (3, .int p2), (4, .int p3), (5, .int p4)]) hC dX9_shift_5 (by decide) rfl ?_
    refine g_aload_n (pc := 7) (q := 1) hC dX9_shift_7 rfl rfl ?_
    refine g_iload_n (pc := 8) (q := 4) hC dX9_shift_8 rfl rfl ?_
    refine g_callVq (pc := 9) (As := [.int p2]) (rest := []) hC lk_RX9_118 kX9 rfl (tX9_shelfAt _ _ s2 p2) rfl rfl (Nat.le_of_ble_eq_true rfl) ⟨rfl, rfl, Nat.le_of_ble_eq_true rfl, Nat.le_of_ble_eq_true rfl⟩ dX9_shift_9 (fun r4 s5 => ?_)
    refine gT_opt ?_ (fun k6 => ?_)
    · refine g_astoreN (pc := 12) (lv' := [(7, .null), (6, .null), (0, .ref (G.2.1 0)), (1, .int p0), (2, .int p1), (3, .int p2), (4, .int p3), (5, .int p4)]) hC dX9_shift_12 (by decide) rfl ?_
      refine g_aloadN (pc := 14) (q := 1) hC dX9_shift_14 rfl ?_
      refine g_ifnullN (pc := 16) (tgt := 24) hC dX9_shift_16 (by decide) ?_
      refine g_iconst (pc := 24) (v := (-1)) hC dX9_shift_24 (by decide) ?_
      exact g_iret (pc := 25) hC dX9_shift_25
    · refine gT_if (fun hk6 => ?_) (fun _ => gT_none)
      refine g_astore (pc := 12) (lv' := [(7, .ref (G.2.1 k6)), (6, .null), (0, .ref (G.2.1 0)), (1, .int p0), (2, .int p1), (3, .int p2), (4, .int p3), (5, .int p4)]) hC dX9_shift_12 (by decide) rfl ?_
      refine g_aloadN (pc := 14) (q := 1) hC dX9_shift_14 rfl ?_
      refine g_ifnullN (pc := 16) (tgt := 24) hC dX9_shift_16 (by decide) ?_
      refine g_iconst (pc := 24) (v := (-1)) hC dX9_shift_24 (by decide) ?_
      exact g_iret (pc := 25) hC dX9_shift_25
  · refine gT_if (fun hk3 => ?_) (fun _ => gT_none)
    refine g_astore (pc := 5) (lv' := [(6, .ref (G.2.1 k3)), (0, .ref (G.2.1 0)), (1, .int p0), (2, .int p1), (3, .int p2), (4, .int p3), (5, .int p4)]) hC dX9_shift_5 (by decide) rfl ?_
    refine g_aload_n (pc := 7) (q := 1) hC dX9_shift_7 rfl rfl ?_
    refine g_iload_n (pc := 8) (q := 4) hC dX9_shift_8 rfl rfl ?_
    refine g_callVq (pc := 9) (As := [.int p2]) (rest := []) hC lk_RX9_118 kX9 rfl (tX9_shelfAt _ _ s2 p2) rfl rfl (Nat.le_of_ble_eq_true rfl) ⟨rfl, rfl, Nat.le_of_ble_eq_true rfl, Nat.le_of_ble_eq_true rfl⟩ dX9_shift_9 (fun r7 s8 => ?_)
    refine gT_opt ?_ (fun k9 => ?_)
    · refine g_astoreN (pc := 12) (lv' := [(7, .null), (6, .ref (G.2.1 k3)), (0, .ref (G.2.1 0)), (1, .int p0), (2, .int p1), (3, .int p2), (4, .int p3), (5, .int p4)]) hC dX9_shift_12 (by decide) rfl ?_
      refine g_aload (pc := 14) (q := 1) hC dX9_shift_14 rfl ?_
      refine g_ifnullR (pc := 16) hC dX9_shift_16 ?_
      refine g_aloadN (pc := 19) (q := 0) hC dX9_shift_19 rfl ?_
      refine g_ifnonnullN (pc := 21) hC dX9_shift_21 ?_
      refine g_iconst (pc := 24) (v := (-1)) hC dX9_shift_24 (by decide) ?_
      exact g_iret (pc := 25) hC dX9_shift_25
    · refine gT_if (fun hk9 => ?_) (fun _ => gT_none)
      refine g_astore (pc := 12) (lv' := [(7, .ref (G.2.1 k9)), (6, .ref (G.2.1 k3)), (0, .ref (G.2.1 0)), (1, .int p0), (2, .int p1), (3, .int p2), (4, .int p3), (5, .int p4)]) hC dX9_shift_12 (by decide) rfl ?_
      refine g_aload (pc := 14) (q := 1) hC dX9_shift_14 rfl ?_
      refine g_ifnullR (pc := 16) hC dX9_shift_16 ?_
      refine g_aload (pc := 19) (q := 0) hC dX9_shift_19 rfl ?_
      refine g_ifnonnullR (pc := 21) (tgt := 26) hC dX9_shift_21 (by decide) ?_
      refine g_aload (pc := 26) (q := 1) hC dX9_shift_26 rfl ?_
      refine g_get (pc := 28) (v := .int (s8.1 k3 0)) hC kX6 hk3 0 (by decide) fl_RX9_122 rfl dX9_shift_28 ?_
      refine g_if_eq (pc := 31) (tgt := 42) hC dX9_shift_31 (by decide) ?_ ?_
      · refine g_bipush (pc := 42) (v := (-11)) hC dX9_shift_42 (by decide) ?_
        exact g_iret (pc := 44) hC dX9_shift_44
      · refine g_aload (pc := 34) (q := 0) hC dX9_shift_34 rfl ?_
        refine g_get (pc := 36) (v := .int (s8.1 k9 0)) hC kX6 hk9 0 (by decide) fl_RX9_122 rfl dX9_shift_36 ?_
        refine g_if_ne (pc := 39) (tgt := 45) hC dX9_shift_39 (by decide) ?_ ?_
        · refine g_aload (pc := 45) (q := 1) hC dX9_shift_45 rfl ?_
          refine g_get (pc := 47) (v := .int (s8.1 k3 0)) hC kX6 hk3 0 (by decide) fl_RX9_122 rfl dX9_shift_47 ?_
          refine g_iconst (pc := 50) (v := 2) hC dX9_shift_50 (by decide) ?_
          refine g_icmp_ne (pc := 51) (tgt := 67) hC dX9_shift_51 (by decide) ?_ ?_
          · refine g_bipush (pc := 67) (v := (-12)) hC dX9_shift_67 (by decide) ?_
            exact g_iret (pc := 69) hC dX9_shift_69
          · refine g_aload (pc := 54) (q := 0) hC dX9_shift_54 rfl ?_
            refine g_aload (pc := 56) (q := 1) hC dX9_shift_56 rfl ?_
            refine g_get (pc := 58) (v := .int (s8.1 k3 2)) hC kX6 hk3 2 (by decide) fl_RX9_384 rfl dX9_shift_58 ?_
            refine g_callVz (pc := 61) (As := [.int (s8.1 k3 2)]) (rest := []) hC lk_RX9_125 kX6 hk9 (tX6_isRowOf _ _ s8 k9 (s8.1 k3 2)) rfl rfl (Nat.le_of_ble_eq_true rfl) ⟨rfl, rfl, Nat.le_of_ble_eq_true rfl, Nat.le_of_ble_eq_true rfl⟩ dX9_shift_61 (fun r10 s11 => ?_)
            refine g_bif_ne (pc := 64) (tgt := 70) hC dX9_shift_64 (by decide) ?_ ?_
            · refine g_aload (pc := 70) (q := 1) hC dX9_shift_70 rfl ?_
              refine g_iload_n (pc := 72) (q := 4) hC dX9_shift_72 rfl rfl ?_
              refine g_iload (pc := 73) (q := 7) hC dX9_shift_73 rfl ?_
              refine g_callVz (pc := 75) (As := [.int p1, .int p4]) (rest := []) hC lk_RX9_391 kX6 hk3 (tX6_hasPlaces _ _ s11 k3 p1 p4) rfl rfl (Nat.le_of_ble_eq_true rfl) ⟨rfl, rfl, Nat.le_of_ble_eq_true rfl, Nat.le_of_ble_eq_true rfl⟩ dX9_shift_75 (fun r12 s13 => ?_)
              refine g_bif_eq (pc := 78) (tgt := 93) hC dX9_shift_78 (by decide) ?_ ?_
              · refine g_bipush (pc := 93) (v := (-13)) hC dX9_shift_93 (by decide) ?_
                exact g_iret (pc := 95) hC dX9_shift_95
              · refine g_aload (pc := 81) (q := 0) hC dX9_shift_81 rfl ?_
                refine g_iload (pc := 83) (q := 6) hC dX9_shift_83 rfl ?_
                refine g_iload (pc := 85) (q := 7) hC dX9_shift_85 rfl ?_
                refine g_callVz (pc := 87) (As := [.int p3, .int p4]) (rest := []) hC lk_RX9_391 kX6 hk9 (tX6_hasPlaces _ _ s13 k9 p3 p4) rfl rfl (Nat.le_of_ble_eq_true rfl) ⟨rfl, rfl, Nat.le_of_ble_eq_true rfl, Nat.le_of_ble_eq_true rfl⟩ dX9_shift_87 (fun r14 s15 => ?_)
                refine g_bif_ne (pc := 90) (tgt := 96) hC dX9_shift_90 (by decide) ?_ ?_
                · refine g_aload (pc := 96) (q := 1) hC dX9_shift_96 rfl ?_
                  refine g_get (pc := 98) (v := .ref (G.2.1 (k3 + 1))) hC kX6 hk3 4 (by decide) fl_RX9_380 rfl dX9_shift_98 ?_
                  refine g_iload_n (pc := 101) (q := 4) hC dX9_shift_101 rfl rfl ?_
                  refine g_aload (pc := 102) (q := 0) hC dX9_shift_102 rfl ?_
                  refine g_get (pc := 104) (v := .ref (G.2.1 (k9 + 1))) hC kX6 hk9 4 (by decide) fl_RX9_380 rfl dX9_shift_104 ?_
                  refine g_iload (pc := 107) (q := 6) hC dX9_shift_107 rfl ?_
                  refine g_iload (pc := 109) (q := 7) hC dX9_shift_109 rfl ?_
                  refine g_copyl (pc := 111) hC 60 60 cpy_RX9_394 (ck_6_1 hk3) (ck_6_1 hk9) ⟨Nat.le_of_ble_eq_true rfl, by decide⟩ (Nat.le_of_ble_eq_true rfl) dX9_shift_111 (fun s16 => ?_)
                  refine g_iload (pc := 114) (q := 7) hC dX9_shift_114 rfl ?_
                  exact g_iret (pc := 116) hC dX9_shift_116
                · refine g_bipush (pc := 93) (v := (-13)) hC dX9_shift_93 (by decide) ?_
                  exact g_iret (pc := 95) hC dX9_shift_95
            · refine g_bipush (pc := 67) (v := (-12)) hC dX9_shift_67 (by decide) ?_
              exact g_iret (pc := 69) hC dX9_shift_69
        · refine g_bipush (pc := 42) (v := (-11)) hC dX9_shift_42 (by decide) ?_
          exact g_iret (pc := 44) hC dX9_shift_44
theorem lk_RX9_403 : gLV RX9 403 RX2 yX2_kindOf cX2_kindOf 2 (some .int) 1 := ⟨(gBig_tab 1042 (by decide +kernel) (by decide +kernel)), (gBig_tab 966 (by decide +kernel) (by decide +kernel)), (gBig_tab 967 (by decide +kernel) (by decide +kernel)), (gBig_tab 9 (by decide +kernel) (by decide +kernel)), (gBig_tab 968 (by decide +kernel) (by decide +kernel)), rfl, by decide +kernel, by decide +kernel, by decide +kernel⟩
theorem lk_RX9_400 : gLV RX9 400 RX2 yX2_isUnder cX2_isUnder 5 (some .boolean) 2 := ⟨(gBig_tab 1038 (by decide +kernel) (by decide +kernel)), (gBig_tab 1039 (by decide +kernel) (by decide +kernel)), (gBig_tab 1040 (by decide +kernel) (by decide +kernel)), (gBig_tab 9 (by decide +kernel) (by decide +kernel)), (gBig_tab 1041 (by decide +kernel) (by decide +kernel)), rfl, by decide +kernel, by decide +kernel, by decide +kernel⟩
theorem dX9_taken_0 : decode cX9_taken 0 = .ok (.aload_n 0, 1) := by decide +kernel
theorem dX9_taken_1 : decode cX9_taken 1 = .ok (.iload_n 1, 1) := by decide +kernel
theorem dX9_taken_2 : decode cX9_taken 2 = .ok (.invokevirtual 118, 3) := by decide +kernel
theorem dX9_taken_5 : decode cX9_taken 5 = .ok (.astore_n 3, 1) := by decide +kernel
theorem dX9_taken_6 : decode cX9_taken 6 = .ok (.aload_n 3, 1) := by decide +kernel
theorem dX9_taken_7 : decode cX9_taken 7 = .ok (.ifnull 13, 3) := by decide +kernel
theorem dX9_taken_10 : decode cX9_taken 10 = .ok (.iload_n 2, 1) := by decide +kernel
theorem dX9_taken_11 : decode cX9_taken 11 = .ok (.iconst 0, 1) := by decide +kernel
theorem dX9_taken_12 : decode cX9_taken 12 = .ok (.bipush 7, 2) := by decide +kernel
theorem dX9_taken_14 : decode cX9_taken 14 = .ok (.invokestatic 102, 3) := by decide +kernel
theorem dX9_taken_17 : decode cX9_taken 17 = .ok (.ifCond .ne 5, 3) := by decide +kernel
theorem dX9_taken_20 : decode cX9_taken 20 = .ok (.iconst (-1), 1) := by decide +kernel
theorem dX9_taken_21 : decode cX9_taken 21 = .ok (.ireturn, 1) := by decide +kernel
theorem dX9_taken_22 : decode cX9_taken 22 = .ok (.aload_n 3, 1) := by decide +kernel
theorem dX9_taken_23 : decode cX9_taken 23 = .ok (.getfield 122, 3) := by decide +kernel
theorem dX9_taken_26 : decode cX9_taken 26 = .ok (.ifCond .ne 6, 3) := by decide +kernel
theorem dX9_taken_29 : decode cX9_taken 29 = .ok (.bipush (-11), 2) := by decide +kernel
theorem dX9_taken_31 : decode cX9_taken 31 = .ok (.ireturn, 1) := by decide +kernel
theorem dX9_taken_32 : decode cX9_taken 32 = .ok (.aload_n 3, 1) := by decide +kernel
theorem dX9_taken_33 : decode cX9_taken 33 = .ok (.getfield 122, 3) := by decide +kernel
theorem dX9_taken_36 : decode cX9_taken 36 = .ok (.iconst 1, 1) := by decide +kernel
theorem dX9_taken_37 : decode cX9_taken 37 = .ok (.if_icmp .ne 18, 3) := by decide +kernel
theorem dX9_taken_40 : decode cX9_taken 40 = .ok (.aload_n 0, 1) := by decide +kernel
theorem dX9_taken_41 : decode cX9_taken 41 = .ok (.getfield 85, 3) := by decide +kernel
theorem dX9_taken_44 : decode cX9_taken 44 = .ok (.aload_n 3, 1) := by decide +kernel
theorem dX9_taken_45 : decode cX9_taken 45 = .ok (.getfield 371, 3) := by decide +kernel
theorem dX9_taken_48 : decode cX9_taken 48 = .ok (.iload_n 2, 1) := by decide +kernel
theorem dX9_taken_49 : decode cX9_taken 49 = .ok (.invokevirtual 400, 3) := by decide +kernel
theorem dX9_taken_52 : decode cX9_taken 52 = .ok (.ifCond .ne 6, 3) := by decide +kernel
theorem dX9_taken_55 : decode cX9_taken 55 = .ok (.bipush (-12), 2) := by decide +kernel
theorem dX9_taken_57 : decode cX9_taken 57 = .ok (.ireturn, 1) := by decide +kernel
theorem dX9_taken_58 : decode cX9_taken 58 = .ok (.aload_n 0, 1) := by decide +kernel
theorem dX9_taken_59 : decode cX9_taken 59 = .ok (.getfield 85, 3) := by decide +kernel
theorem dX9_taken_62 : decode cX9_taken 62 = .ok (.aload_n 3, 1) := by decide +kernel
theorem dX9_taken_63 : decode cX9_taken 63 = .ok (.getfield 371, 3) := by decide +kernel
theorem dX9_taken_66 : decode cX9_taken 66 = .ok (.invokevirtual 403, 3) := by decide +kernel
theorem dX9_taken_69 : decode cX9_taken 69 = .ok (.ireturn, 1) := by decide +kernel
abbrev rX9_taken : Room := { frames := 3, cells := 0, slots := 0, locals := 66 }
def mX9_taken (σ : gS) (p0 : Int32) (p1 : Int32) : Option (Int32 × gS) := gBind (mX9_shelfAt σ p0) (fun r1 s2 => gOpt r1 (some ((-1), s2)) (fun k3 => if gk k3 = 6 then (gBind (mX9_within s2 p1 0 7) (fun r4 s5 => if r4 = true then (if (s5.1 k3 0) = 0 then (some ((-11), s5)) else (if (s5.1 k3 0) = 1 then (gBind (mX2_isUnder s5 (s5.1 k3 1) p1) (fun r6 s7 => if r6 = true then (gBind (mX2_kindOf s7 (s7.1 k3 1)) (fun r8 s9 => some (r8, s9))) else (some ((-12), s7)))) else (some ((-12), s5)))) else (some ((-1), s5)))) else none))
set_option maxHeartbeats 4000000 in
set_option maxRecDepth 100000 in
theorem tX9_taken (l : Launch) (G : gE) (σ : gS) (p0 : Int32) (p1 : Int32) : gM l G yX9_taken cX9_taken 4 (some .int) rX9_taken iI [.ref (G.2.1 0), .int p0, .int p1] σ (mX9_taken σ p0 p1) := by
  refine gM_of (by decide) (Nat.le_of_ble_eq_true rfl) ?_
  intro p e s m args below meth c hC
  unfold mX9_taken
  show gT p l e rX9_taken s m args below meth c G 4 iI σ 0 [(0, .ref (G.2.1 0)), (1, .int p0), (2, .int p1)] [] _
  refine g_aload_n (pc := 0) (q := 0) hC dX9_taken_0 rfl rfl ?_
  refine g_iload_n (pc := 1) (q := 1) hC dX9_taken_1 rfl rfl ?_
  refine g_callVq (pc := 2) (As := [.int p0]) (rest := []) hC lk_RX9_118 kX9 rfl (tX9_shelfAt _ _ σ p0) rfl rfl (Nat.le_of_ble_eq_true rfl) ⟨rfl, rfl, Nat.le_of_ble_eq_true rfl, Nat.le_of_ble_eq_true rfl⟩ dX9_taken_2 (fun r1 s2 => ?_)
  refine gT_opt ?_ (fun k3 => ?_)
  · refine g_astore_nN (pc := 5) (lv' := [(3, .null), (0, .ref (G.2.1 0)), (1, .int p0), (2, .int p1)]) hC dX9_taken_5 rfl (by decide) rfl ?_
    refine g_aload_nN (pc := 6) (q := 0) hC dX9_taken_6 rfl rfl ?_
    refine g_ifnullN (pc := 7) (tgt := 20) hC dX9_taken_7 (by decide) ?_
    refine g_iconst (pc := 20) (v := (-1)) hC dX9_taken_20 (by decide) ?_
    exact g_iret (pc := 21) hC dX9_taken_21
  · refine gT_if (fun hk3 => ?_) (fun _ => gT_none)
    refine g_astore_n (pc := 5) (lv' := [(3, .ref (G.2.1 k3)), (0, .ref (G.2.1 0)), (1, .int p0), (2, .int p1)]) hC dX9_taken_5 rfl (by decide) rfl ?_
    refine g_aload_n (pc := 6) (q := 0) hC dX9_taken_6 rfl rfl ?_
    refine g_ifnullR (pc := 7) hC dX9_taken_7 ?_
    refine g_iload_n (pc := 10) (q := 3) hC dX9_taken_10 rfl rfl ?_
    refine g_iconst (pc := 11) (v := 0) hC dX9_taken_11 (by decide) ?_
    refine g_bipush (pc := 12) (v := 7) hC dX9_taken_12 (by decide) ?_
    refine g_callSz (pc := 14) (As := [.int p1, .int 0, .int 7]) (rest := []) hC lk_RX9_102 (tX9_within _ _ s2 p1 0 7) rfl rfl (Nat.le_of_ble_eq_true rfl) ⟨rfl, rfl, Nat.le_of_ble_eq_true rfl, Nat.le_of_ble_eq_true rfl⟩ dX9_taken_14 (fun r4 s5 => ?_)
    refine g_bif_ne (pc := 17) (tgt := 22) hC dX9_taken_17 (by decide) ?_ ?_
    · refine g_aload_n (pc := 22) (q := 0) hC dX9_taken_22 rfl rfl ?_
      refine g_get (pc := 23) (v := .int (s5.1 k3 0)) hC kX6 hk3 0 (by decide) fl_RX9_122 rfl dX9_taken_23 ?_
      refine g_if_ne (pc := 26) (tgt := 32) hC dX9_taken_26 (by decide) ?_ ?_
      · refine g_aload_n (pc := 32) (q := 0) hC dX9_taken_32 rfl rfl ?_
        refine g_get (pc := 33) (v := .int (s5.1 k3 0)) hC kX6 hk3 0 (by decide) fl_RX9_122 rfl dX9_taken_33 ?_
        refine g_iconst (pc := 36) (v := 1) hC dX9_taken_36 (by decide) ?_
        refine g_icmp_ne (pc := 37) (tgt := 55) hC dX9_taken_37 (by decide) ?_ ?_
        · refine g_bipush (pc := 55) (v := (-12)) hC dX9_taken_55 (by decide) ?_
          exact g_iret (pc := 57) hC dX9_taken_57
        · refine g_aload_n (pc := 40) (q := 1) hC dX9_taken_40 rfl rfl ?_
          refine g_get (pc := 41) (v := .ref (G.2.1 36)) hC kX9 rfl 14 (by decide) fl_RX9_85 rfl dX9_taken_41 ?_
          refine g_aload_n (pc := 44) (q := 0) hC dX9_taken_44 rfl rfl ?_
          refine g_get (pc := 45) (v := .int (s5.1 k3 1)) hC kX6 hk3 1 (by decide) fl_RX9_371 rfl dX9_taken_45 ?_
          refine g_iload_n (pc := 48) (q := 3) hC dX9_taken_48 rfl rfl ?_
          refine g_callVz (pc := 49) (As := [.int (s5.1 k3 1), .int p1]) (rest := []) hC lk_RX9_400 kX2 rfl (tX2_isUnder _ _ s5 (s5.1 k3 1) p1) rfl rfl (Nat.le_of_ble_eq_true rfl) ⟨rfl, rfl, Nat.le_of_ble_eq_true rfl, Nat.le_of_ble_eq_true rfl⟩ dX9_taken_49 (fun r6 s7 => ?_)
          refine g_bif_ne (pc := 52) (tgt := 58) hC dX9_taken_52 (by decide) ?_ ?_
          · refine g_aload_n (pc := 58) (q := 1) hC dX9_taken_58 rfl rfl ?_
            refine g_get (pc := 59) (v := .ref (G.2.1 36)) hC kX9 rfl 14 (by decide) fl_RX9_85 rfl dX9_taken_59 ?_
            refine g_aload_n (pc := 62) (q := 0) hC dX9_taken_62 rfl rfl ?_
            refine g_get (pc := 63) (v := .int (s7.1 k3 1)) hC kX6 hk3 1 (by decide) fl_RX9_371 rfl dX9_taken_63 ?_
            refine g_callVi (pc := 66) (As := [.int (s7.1 k3 1)]) (rest := []) hC lk_RX9_403 kX2 rfl (tX2_kindOf _ _ s7 (s7.1 k3 1)) rfl rfl (Nat.le_of_ble_eq_true rfl) ⟨rfl, rfl, Nat.le_of_ble_eq_true rfl, Nat.le_of_ble_eq_true rfl⟩ dX9_taken_66 (fun r8 s9 => ?_)
            exact g_iret (pc := 69) hC dX9_taken_69
          · refine g_bipush (pc := 55) (v := (-12)) hC dX9_taken_55 (by decide) ?_
            exact g_iret (pc := 57) hC dX9_taken_57
      · refine g_bipush (pc := 29) (v := (-11)) hC dX9_taken_29 (by decide) ?_
        exact g_iret (pc := 31) hC dX9_taken_31
    · refine g_iconst (pc := 20) (v := (-1)) hC dX9_taken_20 (by decide) ?_
      exact g_iret (pc := 21) hC dX9_taken_21
theorem fl_RX9_409 : Cond.fieldLink RX9 409 "WinterShed$Frosts" "bodies" "I" ∈ gBig := (gBig_tab 278 (by decide +kernel) (by decide +kernel))
theorem fl_RX9_412 : Cond.fieldLink RX9 412 "WinterShed$Frosts" "ran" "I" ∈ gBig := (gBig_tab 283 (by decide +kernel) (by decide +kernel))
theorem dX9_count_0 : decode cX9_count 0 = .ok (.iload_n 1, 1) := by decide +kernel
theorem dX9_count_1 : decode cX9_count 1 = .ok (.tableswitch 84 0 5 #[39, 47, 55, 60, 68, 76], 39) := by decide +kernel
theorem dX9_count_40 : decode cX9_count 40 = .ok (.aload_n 0, 1) := by decide +kernel
theorem dX9_count_41 : decode cX9_count 41 = .ok (.getfield 10, 3) := by decide +kernel
theorem dX9_count_44 : decode cX9_count 44 = .ok (.getfield 228, 3) := by decide +kernel
theorem dX9_count_47 : decode cX9_count 47 = .ok (.ireturn, 1) := by decide +kernel
theorem dX9_count_48 : decode cX9_count 48 = .ok (.aload_n 0, 1) := by decide +kernel
theorem dX9_count_49 : decode cX9_count 49 = .ok (.getfield 10, 3) := by decide +kernel
theorem dX9_count_52 : decode cX9_count 52 = .ok (.getfield 406, 3) := by decide +kernel
theorem dX9_count_55 : decode cX9_count 55 = .ok (.ireturn, 1) := by decide +kernel
theorem dX9_count_56 : decode cX9_count 56 = .ok (.aload_n 0, 1) := by decide +kernel
theorem dX9_count_57 : decode cX9_count 57 = .ok (.getfield 44, 3) := by decide +kernel
theorem dX9_count_60 : decode cX9_count 60 = .ok (.ireturn, 1) := by decide +kernel
theorem dX9_count_61 : decode cX9_count 61 = .ok (.aload_n 0, 1) := by decide +kernel
theorem dX9_count_62 : decode cX9_count 62 = .ok (.getfield 78, 3) := by decide +kernel
theorem dX9_count_65 : decode cX9_count 65 = .ok (.getfield 345, 3) := by decide +kernel
theorem dX9_count_68 : decode cX9_count 68 = .ok (.ireturn, 1) := by decide +kernel
theorem dX9_count_69 : decode cX9_count 69 = .ok (.aload_n 0, 1) := by decide +kernel
theorem dX9_count_70 : decode cX9_count 70 = .ok (.getfield 85, 3) := by decide +kernel
theorem dX9_count_73 : decode cX9_count 73 = .ok (.getfield 409, 3) := by decide +kernel
theorem dX9_count_76 : decode cX9_count 76 = .ok (.ireturn, 1) := by decide +kernel
theorem dX9_count_77 : decode cX9_count 77 = .ok (.aload_n 0, 1) := by decide +kernel
theorem dX9_count_78 : decode cX9_count 78 = .ok (.getfield 85, 3) := by decide +kernel
theorem dX9_count_81 : decode cX9_count 81 = .ok (.getfield 412, 3) := by decide +kernel
theorem dX9_count_84 : decode cX9_count 84 = .ok (.ireturn, 1) := by decide +kernel
theorem dX9_count_85 : decode cX9_count 85 = .ok (.iconst (-1), 1) := by decide +kernel
theorem dX9_count_86 : decode cX9_count 86 = .ok (.ireturn, 1) := by decide +kernel
abbrev rX9_count : Room := { frames := 0, cells := 0, slots := 0, locals := 0 }
def mX9_count (σ : gS) (p0 : Int32) : Option (Int32 × gS) := if p0 = 0 then (some ((σ.1 1 0), σ)) else (if p0 = 1 then (some ((σ.1 1 3), σ)) else (if p0 = 2 then (some ((σ.1 0 6), σ)) else (if p0 = 3 then (some ((σ.1 31 4), σ)) else (if p0 = 4 then (some ((σ.1 36 0), σ)) else (if p0 = 5 then (some ((σ.1 36 3), σ)) else (some ((-1), σ)))))))
set_option maxHeartbeats 4000000 in
set_option maxRecDepth 100000 in
theorem tX9_count (l : Launch) (G : gE) (σ : gS) (p0 : Int32) : gM l G yX9_count cX9_count 2 (some .int) rX9_count iI [.ref (G.2.1 0), .int p0] σ (mX9_count σ p0) := by
  refine gM_of (by decide) (Nat.le_of_ble_eq_true rfl) ?_
  intro p e s m args below meth c hC
  unfold mX9_count
  show gT p l e rX9_count s m args below meth c G 2 iI σ 0 [(0, .ref (G.2.1 0)), (1, .int p0)] [] _
  refine g_iload_n (pc := 0) (q := 1) hC dX9_count_0 rfl rfl ?_
  refine gT_if (fun c100 => ?_) (fun c100 => ?_)
  · refine g_tabIn (tgt := 40) (off := 39) hC dX9_count_1 c100 (by decide) (by decide) (by decide) (by decide) ?_
    refine g_aload_n (pc := 40) (q := 0) hC dX9_count_40 rfl rfl ?_
    refine g_get (pc := 41) (v := .ref (G.2.1 1)) hC kX9 rfl 0 (by decide) fl_RX9_10 rfl dX9_count_41 ?_
    refine g_get (pc := 44) (v := .int (σ.1 1 0)) hC kX8 rfl 0 (by decide) fl_RX9_228 rfl dX9_count_44 ?_
    exact g_iret (pc := 47) hC dX9_count_47
  · refine gT_if (fun c101 => ?_) (fun c101 => ?_)
    · refine g_tabIn (tgt := 48) (off := 47) hC dX9_count_1 c101 (by decide) (by decide) (by decide) (by decide) ?_
      refine g_aload_n (pc := 48) (q := 0) hC dX9_count_48 rfl rfl ?_
      refine g_get (pc := 49) (v := .ref (G.2.1 1)) hC kX9 rfl 0 (by decide) fl_RX9_10 rfl dX9_count_49 ?_
      refine g_get (pc := 52) (v := .int (σ.1 1 3)) hC kX8 rfl 3 (by decide) fl_RX9_406 rfl dX9_count_52 ?_
      exact g_iret (pc := 55) hC dX9_count_55
    · refine gT_if (fun c102 => ?_) (fun c102 => ?_)
      · refine g_tabIn (tgt := 56) (off := 55) hC dX9_count_1 c102 (by decide) (by decide) (by decide) (by decide) ?_
        refine g_aload_n (pc := 56) (q := 0) hC dX9_count_56 rfl rfl ?_
        refine g_get (pc := 57) (v := .int (σ.1 0 6)) hC kX9 rfl 6 (by decide) fl_RX9_44 rfl dX9_count_57 ?_
        exact g_iret (pc := 60) hC dX9_count_60
      · refine gT_if (fun c103 => ?_) (fun c103 => ?_)
        · refine g_tabIn (tgt := 61) (off := 60) hC dX9_count_1 c103 (by decide) (by decide) (by decide) (by decide) ?_
          refine g_aload_n (pc := 61) (q := 0) hC dX9_count_61 rfl rfl ?_
          refine g_get (pc := 62) (v := .ref (G.2.1 31)) hC kX9 rfl 13 (by decide) fl_RX9_78 rfl dX9_count_62 ?_
          refine g_get (pc := 65) (v := .int (σ.1 31 4)) hC kX1 rfl 4 (by decide) fl_RX9_345 rfl dX9_count_65 ?_
          exact g_iret (pc := 68) hC dX9_count_68
        · refine gT_if (fun c104 => ?_) (fun c104 => ?_)
          · refine g_tabIn (tgt := 69) (off := 68) hC dX9_count_1 c104 (by decide) (by decide) (by decide) (by decide) ?_
            refine g_aload_n (pc := 69) (q := 0) hC dX9_count_69 rfl rfl ?_
            refine g_get (pc := 70) (v := .ref (G.2.1 36)) hC kX9 rfl 14 (by decide) fl_RX9_85 rfl dX9_count_70 ?_
            refine g_get (pc := 73) (v := .int (σ.1 36 0)) hC kX2 rfl 0 (by decide) fl_RX9_409 rfl dX9_count_73 ?_
            exact g_iret (pc := 76) hC dX9_count_76
          · refine gT_if (fun c105 => ?_) (fun c105 => ?_)
            · refine g_tabIn (tgt := 77) (off := 76) hC dX9_count_1 c105 (by decide) (by decide) (by decide) (by decide) ?_
              refine g_aload_n (pc := 77) (q := 0) hC dX9_count_77 rfl rfl ?_
              refine g_get (pc := 78) (v := .ref (G.2.1 36)) hC kX9 rfl 14 (by decide) fl_RX9_85 rfl dX9_count_78 ?_
              refine g_get (pc := 81) (v := .int (σ.1 36 3)) hC kX2 rfl 3 (by decide) fl_RX9_412 rfl dX9_count_81 ?_
              exact g_iret (pc := 84) hC dX9_count_84
            · refine g_tabOut (tgt := 85) hC dX9_count_1 (by have q0 := gne c100 (n := 0) rfl; have q1 := gne c101 (n := 1) rfl; have q2 := gne c102 (n := 2) rfl; have q3 := gne c103 (n := 3) rfl; have q4 := gne c104 (n := 4) rfl; have q5 := gne c105 (n := 5) rfl; omega) (by decide) ?_
              refine g_iconst (pc := 85) (v := (-1)) hC dX9_count_85 (by decide) ?_
              exact g_iret (pc := 86) hC dX9_count_86
