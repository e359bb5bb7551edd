theorem fl_RX9_96 : Cond.fieldLink RX9 96 "WinterShed" "LEAST_VALUE" "[I" ∈ gBig := (gBig_tab 380 (by decide +kernel) (by decide +kernel))
theorem fl_RX9_99 : Cond.fieldLink RX9 99 "WinterShed" "MOST_VALUE" "[I" ∈ gBig := (gBig_tab 382 (by decide +kernel) (by decide +kernel))
theorem lk_RX9_106 : gLV RX9 106 RX8 yX8_addFarm cX8_addFarm 2 (some .int) 1 := ⟨(gBig_tab 387 (by decide +kernel) (by decide +kernel)), (gBig_tab 388 (by decide +kernel) (by decide +kernel)), (gBig_tab 389 (by decide +kernel) (by decide +kernel)), (gBig_tab 2 (by decide +kernel) (by decide +kernel)), (gBig_tab 390 (by decide +kernel) (by decide +kernel)), rfl, by decide +kernel, by decide +kernel, by decide +kernel⟩
theorem dX9_farm_0 : decode cX9_farm 0 = .ok (.iload_n 1, 1) := by decide +kernel
theorem dX9_farm_1 : decode cX9_farm 1 = .ok (.getstatic 96, 3) := by decide +kernel
theorem dX9_farm_4 : decode cX9_farm 4 = .ok (.iconst 0, 1) := by decide +kernel
theorem dX9_farm_5 : decode cX9_farm 5 = .ok (.iaload, 1) := by decide +kernel
theorem dX9_farm_6 : decode cX9_farm 6 = .ok (.getstatic 99, 3) := by decide +kernel
theorem dX9_farm_9 : decode cX9_farm 9 = .ok (.iconst 0, 1) := by decide +kernel
theorem dX9_farm_10 : decode cX9_farm 10 = .ok (.iaload, 1) := by decide +kernel
theorem dX9_farm_11 : decode cX9_farm 11 = .ok (.invokestatic 102, 3) := by decide +kernel
theorem dX9_farm_14 : decode cX9_farm 14 = .ok (.ifCond .ne 5, 3) := by decide +kernel
theorem dX9_farm_17 : decode cX9_farm 17 = .ok (.iconst (-1), 1) := by decide +kernel
theorem dX9_farm_18 : decode cX9_farm 18 = .ok (.ireturn, 1) := by decide +kernel
theorem dX9_farm_19 : decode cX9_farm 19 = .ok (.aload_n 0, 1) := by decide +kernel
theorem dX9_farm_20 : decode cX9_farm 20 = .ok (.getfield 10, 3) := by decide +kernel
theorem dX9_farm_23 : decode cX9_farm 23 = .ok (.iload_n 1, 1) := by decide +kernel
theorem dX9_farm_24 : decode cX9_farm 24 = .ok (.invokevirtual 106, 3) := by decide +kernel
theorem dX9_farm_27 : decode cX9_farm 27 = .ok (.ireturn, 1) := by decide +kernel
abbrev rX9_farm : Room := { frames := 1, cells := 0, slots := 0, locals := 22 }
def mX9_farm (σ : gS) (p0 : Int32) : Option (Int32 × gS) := if inbB 0 10 = true then (if inbB 0 10 = true then (gBind (mX9_within σ p0 (gTb 0 (Int32.toNatClampNeg 0)) (gTb 1 (Int32.toNatClampNeg 0))) (fun r1 s2 => if r1 = true then (gBind (mX8_addFarm s2 p0) (fun r3 s4 => some (r3, s4))) else (some ((-1), s2)))) else none) else none
set_option maxHeartbeats 4000000 in
set_option maxRecDepth 100000 in
theorem tX9_farm (l : Launch) (G : gE) (σ : gS) (p0 : Int32) : gM l G yX9_farm cX9_farm 2 (some .int) rX9_farm iI [.ref (G.2.1 0), .int p0] σ (mX9_farm σ p0) := by
  refine gM_of (by decide) (Nat.le_of_ble_eq_true rfl) ?_
  intro p e s m args below meth c hC
  unfold mX9_farm
  show gT p l e rX9_farm s m args below meth c G 2 iI σ 0 [(0, .ref (G.2.1 0)), (1, .int p0)] [] _
  refine g_iload_n (pc := 0) (q := 1) hC dX9_farm_0 rfl rfl ?_
  refine g_gets (pc := 1) hC hC.2.2.2.2.2.2.2.1.1 fl_RX9_96 dX9_farm_1 ?_
  refine g_iconst (pc := 4) (v := 0) hC dX9_farm_4 (by decide) ?_
  refine g_tald (pc := 5) hC 0 10 hC.2.2.2.2.2.2.2.1.2.1 dX9_farm_5 ?_
  refine g_gets (pc := 6) hC hC.2.2.2.2.2.2.2.1.2.2.1 fl_RX9_99 dX9_farm_6 ?_
  refine g_iconst (pc := 9) (v := 0) hC dX9_farm_9 (by decide) ?_
  refine g_tald (pc := 10) hC 1 10 hC.2.2.2.2.2.2.2.1.2.2.2.1 dX9_farm_10 ?_
  refine g_callSz (pc := 11) (As := [.int p0, .int (gTb 0 (Int32.toNatClampNeg 0)), .int (gTb 1 (Int32.toNatClampNeg 0))]) (rest := []) hC lk_RX9_102 (tX9_within _ _ σ p0 (gTb 0 (Int32.toNatClampNeg 0)) (gTb 1 (Int32.toNatClampNeg 0))) rfl rfl (Nat.le_of_ble_eq_true rfl) ⟨rfl, rfl, Nat.le_of_ble_eq_true rfl, Nat.le_of_ble_eq_true rfl⟩ dX9_farm_11 (fun r1 s2 => ?_)
  refine g_bif_ne (pc := 14) (tgt := 19) hC dX9_farm_14 (by decide) ?_ ?_
  · refine g_aload_n (pc := 19) (q := 0) hC dX9_farm_19 rfl rfl ?_
    refine g_get (pc := 20) (v := .ref (G.2.1 1)) hC kX9 rfl 0 (by decide) fl_RX9_10 rfl dX9_farm_20 ?_
    refine g_iload_n (pc := 23) (q := 1) hC dX9_farm_23 rfl rfl ?_
    refine g_callVi (pc := 24) (As := [.int p0]) (rest := []) hC lk_RX9_106 kX8 rfl (tX8_addFarm _ _ s2 p0) rfl rfl (Nat.le_of_ble_eq_true rfl) ⟨rfl, rfl, Nat.le_of_ble_eq_true rfl, Nat.le_of_ble_eq_true rfl⟩ dX9_farm_24 (fun r3 s4 => ?_)
    exact g_iret (pc := 27) hC dX9_farm_27
  · refine g_iconst (pc := 17) (v := (-1)) hC dX9_farm_17 (by decide) ?_
    exact g_iret (pc := 18) hC dX9_farm_18
theorem dX9_want_0 : decode cX9_want 0 = .ok (.iload_n 2, 1) := by decide +kernel
theorem dX9_want_1 : decode cX9_want 1 = .ok (.ifCond .lt 24, 3) := by decide +kernel
theorem dX9_want_4 : decode cX9_want 4 = .ok (.aload_n 0, 1) := by decide +kernel
theorem dX9_want_5 : decode cX9_want 5 = .ok (.getfield 10, 3) := by decide +kernel
theorem dX9_want_8 : decode cX9_want 8 = .ok (.iload_n 1, 1) := by decide +kernel
theorem dX9_want_9 : decode cX9_want 9 = .ok (.iload_n 2, 1) := by decide +kernel
theorem dX9_want_10 : decode cX9_want 10 = .ok (.bipush 100, 2) := by decide +kernel
theorem dX9_want_12 : decode cX9_want 12 = .ok (.idiv, 1) := by decide +kernel
theorem dX9_want_13 : decode cX9_want 13 = .ok (.iload_n 2, 1) := by decide +kernel
theorem dX9_want_14 : decode cX9_want 14 = .ok (.bipush 100, 2) := by decide +kernel
theorem dX9_want_16 : decode cX9_want 16 = .ok (.irem, 1) := by decide +kernel
theorem dX9_want_17 : decode cX9_want 17 = .ok (.bipush 10, 2) := by decide +kernel
theorem dX9_want_19 : decode cX9_want 19 = .ok (.invokevirtual 110, 3) := by decide +kernel
theorem dX9_want_22 : decode cX9_want 22 = .ok (.ifCond .ne 5, 3) := by decide +kernel
theorem dX9_want_25 : decode cX9_want 25 = .ok (.iconst (-1), 1) := by decide +kernel
theorem dX9_want_26 : decode cX9_want 26 = .ok (.ireturn, 1) := by decide +kernel
theorem dX9_want_27 : decode cX9_want 27 = .ok (.aload_n 0, 1) := by decide +kernel
theorem dX9_want_28 : decode cX9_want 28 = .ok (.getfield 10, 3) := by decide +kernel
theorem dX9_want_31 : decode cX9_want 31 = .ok (.iload_n 1, 1) := by decide +kernel
theorem dX9_want_32 : decode cX9_want 32 = .ok (.iload_n 2, 1) := by decide +kernel
theorem dX9_want_33 : decode cX9_want 33 = .ok (.bipush 100, 2) := by decide +kernel
theorem dX9_want_35 : decode cX9_want 35 = .ok (.idiv, 1) := by decide +kernel
theorem dX9_want_36 : decode cX9_want 36 = .ok (.iload_n 2, 1) := by decide +kernel
theorem dX9_want_37 : decode cX9_want 37 = .ok (.bipush 100, 2) := by decide +kernel
theorem dX9_want_39 : decode cX9_want 39 = .ok (.irem, 1) := by decide +kernel
theorem dX9_want_40 : decode cX9_want 40 = .ok (.bipush 10, 2) := by decide +kernel
theorem dX9_want_42 : decode cX9_want 42 = .ok (.invokevirtual 114, 3) := by decide +kernel
theorem dX9_want_45 : decode cX9_want 45 = .ok (.ireturn, 1) := by decide +kernel
abbrev rX9_want : Room := { frames := 2, cells := 0, slots := 0, locals := 46 }
def mX9_want (σ : gS) (p0 : Int32) (p1 : Int32) : Option (Int32 × gS) := if p1 < 0 then (some ((-1), σ)) else (gBind (mX8_mayWant σ p0 (p1 / 100) (gRem p1 100) 10) (fun r1 s2 => if r1 = true then (gBind (mX8_addWant s2 p0 (p1 / 100) (gRem p1 100) 10) (fun r3 s4 => some (r3, s4))) else (some ((-1), s2))))
set_option maxHeartbeats 4000000 in
set_option maxRecDepth 100000 in
theorem tX9_want (l : Launch) (G : gE) (σ : gS) (p0 : Int32) (p1 : Int32) : gM l G yX9_want cX9_want 3 (some .int) rX9_want iI [.ref (G.2.1 0), .int p0, .int p1] σ (mX9_want σ p0 p1) := by
  refine gM_of (by decide) (Nat.le_of_ble_eq_true rfl) ?_
  intro p e s m args below meth c hC
  unfold mX9_want
  show gT p l e rX9_want s m args below meth c G 3 iI σ 0 [(0, .ref (G.2.1 0)), (1, .int p0), (2, .int p1)] [] _
  refine g_iload_n (pc := 0) (q := 2) hC dX9_want_0 rfl rfl ?_
  refine g_if_lt (pc := 1) (tgt := 25) hC dX9_want_1 (by decide) ?_ ?_
  · refine g_iconst (pc := 25) (v := (-1)) hC dX9_want_25 (by decide) ?_
    exact g_iret (pc := 26) hC dX9_want_26
  · refine g_aload_n (pc := 4) (q := 0) hC dX9_want_4 rfl rfl ?_
    refine g_get (pc := 5) (v := .ref (G.2.1 1)) hC kX9 rfl 0 (by decide) fl_RX9_10 rfl dX9_want_5 ?_
    refine g_iload_n (pc := 8) (q := 1) hC dX9_want_8 rfl rfl ?_
    refine g_iload_n (pc := 9) (q := 2) hC dX9_want_9 rfl rfl ?_
    refine g_bipush (pc := 10) (v := 100) hC dX9_want_10 (by decide) ?_
    refine g_idivL (pc := 12) hC dX9_want_12 (by decide) ?_
    refine g_iload_n (pc := 13) (q := 2) hC dX9_want_13 rfl rfl ?_
    refine g_bipush (pc := 14) (v := 100) hC dX9_want_14 (by decide) ?_
    refine g_iremL (pc := 16) hC dX9_want_16 (by decide) ?_
    refine g_bipush (pc := 17) (v := 10) hC dX9_want_17 (by decide) ?_
    refine g_callVz (pc := 19) (As := [.int p0, .int (p1 / 100), .int (gRem p1 100), .int 10]) (rest := []) hC lk_RX9_110 kX8 rfl (tX8_mayWant _ _ σ p0 (p1 / 100) (gRem p1 100) 10) rfl rfl (Nat.le_of_ble_eq_true rfl) ⟨rfl, rfl, Nat.le_of_ble_eq_true rfl, Nat.le_of_ble_eq_true rfl⟩ dX9_want_19 (fun r1 s2 => ?_)
    refine g_bif_ne (pc := 22) (tgt := 27) hC dX9_want_22 (by decide) ?_ ?_
    · refine g_aload_n (pc := 27) (q := 0) hC dX9_want_27 rfl rfl ?_
      refine g_get (pc := 28) (v := .ref (G.2.1 1)) hC kX9 rfl 0 (by decide) fl_RX9_10 rfl dX9_want_28 ?_
      refine g_iload_n (pc := 31) (q := 1) hC dX9_want_31 rfl rfl ?_
      refine g_iload_n (pc := 32) (q := 2) hC dX9_want_32 rfl rfl ?_
      refine g_bipush (pc := 33) (v := 100) hC dX9_want_33 (by decide) ?_
      refine g_idivL (pc := 35) hC dX9_want_35 (by decide) ?_
      refine g_iload_n (pc := 36) (q := 2) hC dX9_want_36 rfl rfl ?_
      refine g_bipush (pc := 37) (v := 100) hC dX9_want_37 (by decide) ?_
      refine g_iremL (pc := 39) hC dX9_want_39 (by decide) ?_
      refine g_bipush (pc := 40) (v := 10) hC dX9_want_40 (by decide) ?_
      refine g_callVi (pc := 42) (As := [.int p0, .int (p1 / 100), .int (gRem p1 100), .int 10]) (rest := []) hC lk_RX9_114 kX8 rfl (tX8_addWant _ _ s2 p0 (p1 / 100) (gRem p1 100) 10) rfl rfl (Nat.le_of_ble_eq_true rfl) ⟨rfl, rfl, Nat.le_of_ble_eq_true rfl, Nat.le_of_ble_eq_true rfl⟩ dX9_want_42 (fun r3 s4 => ?_)
      exact g_iret (pc := 45) hC dX9_want_45
    · refine g_iconst (pc := 25) (v := (-1)) hC dX9_want_25 (by decide) ?_
      exact g_iret (pc := 26) hC dX9_want_26
theorem lk_RX9_129 : gLV RX9 129 RX9 yX9_wantsFromRow cX9_wantsFromRow 11 (some .int) 3 := ⟨(gBig_tab 422 (by decide +kernel) (by decide +kernel)), (gBig_tab 424 (by decide +kernel) (by decide +kernel)), (gBig_sel 1 (by decide +kernel) (by decide +kernel)), (gBig_tab 1 (by decide +kernel) (by decide +kernel)), (gBig_tab 425 (by decide +kernel) (by decide +kernel)), rfl, by decide +kernel, by decide +kernel, by decide +kernel⟩
theorem dX9_wants_0 : decode cX9_wants 0 = .ok (.aload_n 0, 1) := by decide +kernel
theorem dX9_wants_1 : decode cX9_wants 1 = .ok (.iload_n 1, 1) := by decide +kernel
theorem dX9_wants_2 : decode cX9_wants 2 = .ok (.invokevirtual 118, 3) := by decide +kernel
theorem dX9_wants_5 : decode cX9_wants 5 = .ok (.astore 4, 2) := by decide +kernel
theorem dX9_wants_7 : decode cX9_wants 7 = .ok (.aload 4, 2) := by decide +kernel
theorem dX9_wants_9 : decode cX9_wants 9 = .ok (.ifnull 13, 3) := by decide +kernel
theorem dX9_wants_12 : decode cX9_wants 12 = .ok (.iload_n 3, 1) := by decide +kernel
theorem dX9_wants_13 : decode cX9_wants 13 = .ok (.iconst 1, 1) := by decide +kernel
theorem dX9_wants_14 : decode cX9_wants 14 = .ok (.bipush 12, 2) := by decide +kernel
theorem dX9_wants_16 : decode cX9_wants 16 = .ok (.invokestatic 102, 3) := by decide +kernel
theorem dX9_wants_19 : decode cX9_wants 19 = .ok (.ifCond .ne 5, 3) := by decide +kernel
theorem dX9_wants_22 : decode cX9_wants 22 = .ok (.iconst (-1), 1) := by decide +kernel
theorem dX9_wants_23 : decode cX9_wants 23 = .ok (.ireturn, 1) := by decide +kernel
theorem dX9_wants_24 : decode cX9_wants 24 = .ok (.aload 4, 2) := by decide +kernel
theorem dX9_wants_26 : decode cX9_wants 26 = .ok (.getfield 122, 3) := by decide +kernel
theorem dX9_wants_29 : decode cX9_wants 29 = .ok (.ifCond .ne 5, 3) := by decide +kernel
theorem dX9_wants_32 : decode cX9_wants 32 = .ok (.iconst 0, 1) := by decide +kernel
theorem dX9_wants_33 : decode cX9_wants 33 = .ok (.ireturn, 1) := by decide +kernel
theorem dX9_wants_34 : decode cX9_wants 34 = .ok (.aload 4, 2) := by decide +kernel
theorem dX9_wants_36 : decode cX9_wants 36 = .ok (.iconst 0, 1) := by decide +kernel
theorem dX9_wants_37 : decode cX9_wants 37 = .ok (.invokevirtual 125, 3) := by decide +kernel
theorem dX9_wants_40 : decode cX9_wants 40 = .ok (.ifCond .eq 14, 3) := by decide +kernel
theorem dX9_wants_43 : decode cX9_wants 43 = .ok (.aload_n 0, 1) := by decide +kernel
theorem dX9_wants_44 : decode cX9_wants 44 = .ok (.aload 4, 2) := by decide +kernel
theorem dX9_wants_46 : decode cX9_wants 46 = .ok (.iload_n 2, 1) := by decide +kernel
theorem dX9_wants_47 : decode cX9_wants 47 = .ok (.iload_n 3, 1) := by decide +kernel
theorem dX9_wants_48 : decode cX9_wants 48 = .ok (.invokevirtual 129, 3) := by decide +kernel
theorem dX9_wants_51 : decode cX9_wants 51 = .ok (.goto 5, 3) := by decide +kernel
theorem dX9_wants_54 : decode cX9_wants 54 = .ok (.bipush (-12), 2) := by decide +kernel
theorem dX9_wants_56 : decode cX9_wants 56 = .ok (.ireturn, 1) := by decide +kernel
abbrev rX9_wants : Room := { frames := 3, cells := 0, slots := 0, locals := 76 }
def mX9_wants (σ : gS) (p0 : Int32) (p1 : Int32) (p2 : Int32) : Option (Int32 × gS) := gBind (mX9_shelfAt σ p0) (fun r1 s2 => gOpt r1 (some ((-1), s2)) (fun k3 => if gk k3 = 6 then (gBind (mX9_within s2 p2 1 12) (fun r4 s5 => if r4 = true then (if (s5.1 k3 0) = 0 then (some (0, s5)) else (gBind (mX6_isRowOf s5 k3 0) (fun r6 s7 => if r6 = true then (gBind (mX9_wantsFromRow s7 k3 p1 p2) (fun r8 s9 => some (r8, s9))) else (some ((-12), s7))))) else (some ((-1), s5)))) else none))
set_option maxHeartbeats 4000000 in
set_option maxRecDepth 100000 in
theorem tX9_wants (l : Launch) (G : gE) (σ : gS) (p0 : Int32) (p1 : Int32) (p2 : Int32) : gM l G yX9_wants cX9_wants 5 (some .int) rX9_wants iI [.ref (G.2.1 0), .int p0, .int p1, .int p2] σ (mX9_wants σ p0 p1 p2) := by
  refine gM_of (by decide) (Nat.le_of_ble_eq_true rfl) ?_
  intro p e s m args below meth c hC
  unfold mX9_wants
  show gT p l e rX9_wants s m args below meth c G 5 iI σ 0 [(0, .ref (G.2.1 0)), (1, .int p0), (2, .int p1), (3, .int p2)] [] _
  refine g_aload_n (pc := 0) (q := 0) hC dX9_wants_0 rfl rfl ?_
  refine g_iload_n (pc := 1) (q := 1) hC dX9_wants_1 rfl rfl ?_
  refine g_callVq (pc := 2) (As := [.int p0]) (rest := []) hC lk_RX9_118 kX9 rfl (tX9_shelfAt _ _ σ p0) rfl rfl (Nat.le_of_ble_eq_true rfl) ⟨rfl, rfl, Nat.le_of_ble_eq_true rfl, Nat.le_of_ble_eq_true rfl⟩ dX9_wants_2 (fun r1 s2 => ?_)
  refine gT_opt ?_ (fun k3 => ?_)
  · refine g_astoreN (pc := 5) (lv' := [(4, .null), (0, .ref (G.2.1 0)), (1, .int p0), (2, .int p1), (3, .int p2)]) hC dX9_wants_5 (by decide) rfl ?_
    refine g_aloadN (pc := 7) (q := 0) hC dX9_wants_7 rfl ?_
    refine g_ifnullN (pc := 9) (tgt := 22) hC dX9_wants_9 (by decide) ?_
    refine g_iconst (pc := 22) (v := (-1)) hC dX9_wants_22 (by decide) ?_
    exact g_iret (pc := 23) hC dX9_wants_23
  · refine gT_if (fun hk3 => ?_) (fun _ => gT_none)
    refine g_astore (pc := 5) (lv' := [(4, .ref (G.2.1 k3)), (0, .ref (G.2.1 0)), (1, .int p0), (2, .int p1), (3, .int p2)]) hC dX9_wants_5 (by decide) rfl ?_
    refine g_aload (pc := 7) (q := 0) hC dX9_wants_7 rfl ?_
    refine g_ifnullR (pc := 9) hC dX9_wants_9 ?_
    refine g_iload_n (pc := 12) (q := 4) hC dX9_wants_12 rfl rfl ?_
    refine g_iconst (pc := 13) (v := 1) hC dX9_wants_13 (by decide) ?_
    refine g_bipush (pc := 14) (v := 12) hC dX9_wants_14 (by decide) ?_
    refine g_callSz (pc := 16) (As := [.int p2, .int 1, .int 12]) (rest := []) hC lk_RX9_102 (tX9_within _ _ s2 p2 1 12) rfl rfl (Nat.le_of_ble_eq_true rfl) ⟨rfl, rfl, Nat.le_of_ble_eq_true rfl, Nat.le_of_ble_eq_true rfl⟩ dX9_wants_16 (fun r4 s5 => ?_)
    refine g_bif_ne (pc := 19) (tgt := 24) hC dX9_wants_19 (by decide) ?_ ?_
    · refine g_aload (pc := 24) (q := 0) hC dX9_wants_24 rfl ?_
      refine g_get (pc := 26) (v := .int (s5.1 k3 0)) hC kX6 hk3 0 (by decide) fl_RX9_122 rfl dX9_wants_26 ?_
      refine g_if_ne (pc := 29) (tgt := 34) hC dX9_wants_29 (by decide) ?_ ?_
      · refine g_aload (pc := 34) (q := 0) hC dX9_wants_34 rfl ?_
        refine g_iconst (pc := 36) (v := 0) hC dX9_wants_36 (by decide) ?_
        refine g_callVz (pc := 37) (As := [.int 0]) (rest := []) hC lk_RX9_125 kX6 hk3 (tX6_isRowOf _ _ s5 k3 0) rfl rfl (Nat.le_of_ble_eq_true rfl) ⟨rfl, rfl, Nat.le_of_ble_eq_true rfl, Nat.le_of_ble_eq_true rfl⟩ dX9_wants_37 (fun r6 s7 => ?_)
        refine g_bif_eq (pc := 40) (tgt := 54) hC dX9_wants_40 (by decide) ?_ ?_
        · refine g_bipush (pc := 54) (v := (-12)) hC dX9_wants_54 (by decide) ?_
          exact g_iret (pc := 56) hC dX9_wants_56
        · refine g_aload_n (pc := 43) (q := 1) hC dX9_wants_43 rfl rfl ?_
          refine g_aload (pc := 44) (q := 0) hC dX9_wants_44 rfl ?_
          refine g_iload_n (pc := 46) (q := 3) hC dX9_wants_46 rfl rfl ?_
          refine g_iload_n (pc := 47) (q := 4) hC dX9_wants_47 rfl rfl ?_
          refine g_callVi (pc := 48) (As := [.ref (G.2.1 k3), .int p1, .int p2]) (rest := []) hC lk_RX9_129 kX9 rfl (tX9_wantsFromRow _ _ s7 k3 p1 p2) rfl rfl (Nat.le_of_ble_eq_true rfl) ⟨rfl, rfl, Nat.le_of_ble_eq_true rfl, Nat.le_of_ble_eq_true rfl⟩ dX9_wants_48 (fun r8 s9 => ?_)
          refine g_goto (pc := 51) (tgt := 56) hC dX9_wants_51 (by decide) ?_
          exact g_iret (pc := 56) hC dX9_wants_56
      · refine g_iconst (pc := 32) (v := 0) hC dX9_wants_32 (by decide) ?_
        exact g_iret (pc := 33) hC dX9_wants_33
    · refine g_iconst (pc := 22) (v := (-1)) hC dX9_wants_22 (by decide) ?_
      exact g_iret (pc := 23) hC dX9_wants_23
theorem lk_RX9_145 : gLV RX9 145 RX1 yX1_remember cX1_remember 5 (none) 4 := ⟨(gBig_tab 451 (by decide +kernel) (by decide +kernel)), (gBig_tab 452 (by decide +kernel) (by decide +kernel)), (gBig_tab 453 (by decide +kernel) (by decide +kernel)), (gBig_tab 8 (by decide +kernel) (by decide +kernel)), (gBig_tab 454 (by decide +kernel) (by decide +kernel)), rfl, by decide +kernel, by decide +kernel, by decide +kernel⟩
theorem lk_RX9_141 : gLV RX9 141 RX9 yX9_setValue cX9_setValue 4 (none) 3 := ⟨(gBig_tab 447 (by decide +kernel) (by decide +kernel)), (gBig_tab 449 (by decide +kernel) (by decide +kernel)), (gBig_sel 4 (by decide +kernel) (by decide +kernel)), (gBig_tab 1 (by decide +kernel) (by decide +kernel)), (gBig_tab 450 (by decide +kernel) (by decide +kernel)), rfl, by decide +kernel, by decide +kernel, by decide +kernel⟩
theorem lk_RX9_137 : gLV RX9 137 RX9 yX9_valueOf cX9_valueOf 3 (some .int) 2 := ⟨(gBig_tab 443 (by decide +kernel) (by decide +kernel)), (gBig_tab 445 (by decide +kernel) (by decide +kernel)), (gBig_sel 3 (by decide +kernel) (by decide +kernel)), (gBig_tab 1 (by decide +kernel) (by decide +kernel)), (gBig_tab 446 (by decide +kernel) (by decide +kernel)), rfl, by decide +kernel, by decide +kernel, by decide +kernel⟩
theorem lk_RX9_133 : gLV RX9 133 RX9 yX9_isNumber cX9_isNumber 3 (some .boolean) 2 := ⟨(gBig_tab 434 (by decide +kernel) (by decide +kernel)), (gBig_tab 436 (by decide +kernel) (by decide +kernel)), (gBig_sel 2 (by decide +kernel) (by decide +kernel)), (gBig_tab 1 (by decide +kernel) (by decide +kernel)), (gBig_tab 437 (by decide +kernel) (by decide +kernel)), rfl, by decide +kernel, by decide +kernel, by decide +kernel⟩
theorem dX9_mend_0 : decode cX9_mend 0 = .ok (.aload_n 0, 1) := by decide +kernel
theorem dX9_mend_1 : decode cX9_mend 1 = .ok (.iload_n 1, 1) := by decide +kernel
theorem dX9_mend_2 : decode cX9_mend 2 = .ok (.iload_n 2, 1) := by decide +kernel
theorem dX9_mend_3 : decode cX9_mend 3 = .ok (.invokevirtual 133, 3) := by decide +kernel
theorem dX9_mend_6 : decode cX9_mend 6 = .ok (.ifCond .eq 26, 3) := by decide +kernel
theorem dX9_mend_9 : decode cX9_mend 9 = .ok (.iload_n 2, 1) := by decide +kernel
theorem dX9_mend_10 : decode cX9_mend 10 = .ok (.bipush 10, 2) := by decide +kernel
theorem dX9_mend_12 : decode cX9_mend 12 = .ok (.if_icmp .eq 20, 3) := by decide +kernel
theorem dX9_mend_15 : decode cX9_mend 15 = .ok (.iload_n 3, 1) := by decide +kernel
theorem dX9_mend_16 : decode cX9_mend 16 = .ok (.getstatic 96, 3) := by decide +kernel
theorem dX9_mend_19 : decode cX9_mend 19 = .ok (.iload_n 2, 1) := by decide +kernel
theorem dX9_mend_20 : decode cX9_mend 20 = .ok (.iaload, 1) := by decide +kernel
theorem dX9_mend_21 : decode cX9_mend 21 = .ok (.getstatic 99, 3) := by decide +kernel
theorem dX9_mend_24 : decode cX9_mend 24 = .ok (.iload_n 2, 1) := by decide +kernel
theorem dX9_mend_25 : decode cX9_mend 25 = .ok (.iaload, 1) := by decide +kernel
theorem dX9_mend_26 : decode cX9_mend 26 = .ok (.invokestatic 102, 3) := by decide +kernel
theorem dX9_mend_29 : decode cX9_mend 29 = .ok (.ifCond .ne 5, 3) := by decide +kernel
theorem dX9_mend_32 : decode cX9_mend 32 = .ok (.iconst (-1), 1) := by decide +kernel
theorem dX9_mend_33 : decode cX9_mend 33 = .ok (.ireturn, 1) := by decide +kernel
theorem dX9_mend_34 : decode cX9_mend 34 = .ok (.aload_n 0, 1) := by decide +kernel
theorem dX9_mend_35 : decode cX9_mend 35 = .ok (.iload_n 1, 1) := by decide +kernel
theorem dX9_mend_36 : decode cX9_mend 36 = .ok (.iload_n 2, 1) := by decide +kernel
theorem dX9_mend_37 : decode cX9_mend 37 = .ok (.invokevirtual 137, 3) := by decide +kernel
theorem dX9_mend_40 : decode cX9_mend 40 = .ok (.istore 4, 2) := by decide +kernel
theorem dX9_mend_42 : decode cX9_mend 42 = .ok (.iload 4, 2) := by decide +kernel
theorem dX9_mend_44 : decode cX9_mend 44 = .ok (.iload_n 3, 1) := by decide +kernel
theorem dX9_mend_45 : decode cX9_mend 45 = .ok (.if_icmp .eq 22, 3) := by decide +kernel
theorem dX9_mend_48 : decode cX9_mend 48 = .ok (.aload_n 0, 1) := by decide +kernel
theorem dX9_mend_49 : decode cX9_mend 49 = .ok (.iload_n 1, 1) := by decide +kernel
theorem dX9_mend_50 : decode cX9_mend 50 = .ok (.iload_n 2, 1) := by decide +kernel
theorem dX9_mend_51 : decode cX9_mend 51 = .ok (.iload_n 3, 1) := by decide +kernel
theorem dX9_mend_52 : decode cX9_mend 52 = .ok (.invokevirtual 141, 3) := by decide +kernel
theorem dX9_mend_55 : decode cX9_mend 55 = .ok (.aload_n 0, 1) := by decide +kernel
theorem dX9_mend_56 : decode cX9_mend 56 = .ok (.getfield 78, 3) := by decide +kernel
theorem dX9_mend_59 : decode cX9_mend 59 = .ok (.iload_n 1, 1) := by decide +kernel
theorem dX9_mend_60 : decode cX9_mend 60 = .ok (.iload_n 2, 1) := by decide +kernel
theorem dX9_mend_61 : decode cX9_mend 61 = .ok (.iload 4, 2) := by decide +kernel
theorem dX9_mend_63 : decode cX9_mend 63 = .ok (.iload_n 3, 1) := by decide +kernel
theorem dX9_mend_64 : decode cX9_mend 64 = .ok (.invokevirtual 145, 3) := by decide +kernel
theorem dX9_mend_67 : decode cX9_mend 67 = .ok (.iload 4, 2) := by decide +kernel
theorem dX9_mend_69 : decode cX9_mend 69 = .ok (.ireturn, 1) := by decide +kernel
abbrev rX9_mend : Room := { frames := 3, cells := 0, slots := 0, locals := 108 }
def mX9_mend (σ : gS) (p0 : Int32) (p1 : Int32) (p2 : Int32) : Option (Int32 × gS) := gBind (mX9_isNumber σ p0 p1) (fun r1 s2 => if r1 = true then (if p1 = 10 then (some ((-1), s2)) else (if inbB p1 10 = true then (if inbB p1 10 = true then (gBind (mX9_within s2 p2 (gTb 0 (Int32.toNatClampNeg p1)) (gTb 1 (Int32.toNatClampNeg p1))) (fun r3 s4 => if r3 = true then (gBind (mX9_valueOf s4 p0 p1) (fun r5 s6 => gLet r5 (fun v7 => if v7 = p2 then (some (v7, s6)) else (gBind (mX9_setValue s6 p0 p1 p2) (fun r8 s9 => gBind (mX1_remember s9 p0 p1 v7 p2) (fun r10 s11 => some (v7, s11))))))) else (some ((-1), s4)))) else none) else none)) else (some ((-1), s2)))
set_option maxHeartbeats 4000000 in
set_option maxRecDepth 100000 in
theorem tX9_mend (l : Launch) (G : gE) (σ : gS) (p0 : Int32) (p1 : Int32) (p2 : Int32) : gM l G yX9_mend cX9_mend 5 (some .int) rX9_mend iI [.ref (G.2.1 0), .int p0, .int p1, .int p2] σ (mX9_mend σ p0 p1 p2) := by
  refine gM_of (by decide) (Nat.le_of_ble_eq_true rfl) ?_
  intro p e s m args below meth c hC
  unfold mX9_mend
  show gT p l e rX9_mend s m args below meth c G 5 iI σ 0 [(0, .ref (G.2.1 0)), (1, .int p0), (2, .int p1), (3, .int p2)] [] _
  refine g_aload_n (pc := 0) (q := 0) hC dX9_mend_0 rfl rfl ?_
  refine g_iload_n (pc := 1) (q := 1) hC dX9_mend_1 rfl rfl ?_
  refine g_iload_n (pc := 2) (q := 2) hC dX9_mend_2 rfl rfl ?_
  refine g_callVz (pc := 3) (As := [.int p0, .int p1]) (rest := []) hC lk_RX9_133 kX9 rfl (tX9_isNumber _ _ σ p0 p1) rfl rfl (Nat.le_of_ble_eq_true rfl) ⟨rfl, rfl, Nat.le_of_ble_eq_true rfl, Nat.le_of_ble_eq_true rfl⟩ dX9_mend_3 (fun r1 s2 => ?_)
  refine g_bif_eq (pc := 6) (tgt := 32) hC dX9_mend_6 (by decide) ?_ ?_
  · refine g_iconst (pc := 32) (v := (-1)) hC dX9_mend_32 (by decide) ?_
    exact g_iret (pc := 33) hC dX9_mend_33
  · refine g_iload_n (pc := 9) (q := 2) hC dX9_mend_9 rfl rfl ?_
    refine g_bipush (pc := 10) (v := 10) hC dX9_mend_10 (by decide) ?_
    refine g_icmp_eq (pc := 12) (tgt := 32) hC dX9_mend_12 (by decide) ?_ ?_
    · refine g_iconst (pc := 32) (v := (-1)) hC dX9_mend_32 (by decide) ?_
      exact g_iret (pc := 33) hC dX9_mend_33
    · refine g_iload_n (pc := 15) (q := 3) hC dX9_mend_15 rfl rfl ?_
      refine g_gets (pc := 16) hC hC.2.2.2.2.2.2.2.1.1 fl_RX9_96 dX9_mend_16 ?_
      refine g_iload_n (pc := 19) (q := 2) hC dX9_mend_19 rfl rfl ?_
      refine g_tald (pc := 20) hC 0 10 hC.2.2.2.2.2.2.2.1.2.1 dX9_mend_20 ?_
      refine g_gets (pc := 21) hC hC.2.2.2.2.2.2.2.1.2.2.1 fl_RX9_99 dX9_mend_21 ?_
      refine g_iload_n (pc := 24) (q := 2) hC dX9_mend_24 rfl rfl ?_
      refine g_tald (pc := 25) hC 1 10 hC.2.2.2.2.2.2.2.1.2.2.2.1 dX9_mend_25 ?_
      refine g_callSz (pc := 26) (As := [.int p2, .int (gTb 0 (Int32.toNatClampNeg p1)), .int (gTb 1 (Int32.toNatClampNeg p1))]) (rest := []) hC lk_RX9_102 (tX9_within _ _ s2 p2 (gTb 0 (Int32.toNatClampNeg p1)) (gTb 1 (Int32.toNatClampNeg p1))) rfl rfl (Nat.le_of_ble_eq_true rfl) ⟨rfl, rfl, Nat.le_of_ble_eq_true rfl, Nat.le_of_ble_eq_true rfl⟩ dX9_mend_26 (fun r3 s4 => ?_)
      refine g_bif_ne (pc := 29) (tgt := 34) hC dX9_mend_29 (by decide) ?_ ?_
      · refine g_aload_n (pc := 34) (q := 0) hC dX9_mend_34 rfl rfl ?_
        refine g_iload_n (pc := 35) (q := 1) hC dX9_mend_35 rfl rfl ?_
        refine g_iload_n (pc := 36) (q := 2) hC dX9_mend_36 rfl rfl ?_
        refine g_callVi (pc := 37) (As := [.int p0, .int p1]) (rest := []) hC lk_RX9_137 kX9 rfl (tX9_valueOf _ _ s4 p0 p1) rfl rfl (Nat.le_of_ble_eq_true rfl) ⟨rfl, rfl, Nat.le_of_ble_eq_true rfl, Nat.le_of_ble_eq_true rfl⟩ dX9_mend_37 (fun r5 s6 => ?_)
        refine g_istore (pc := 40) (lv' := fun v7 => [(4, .int v7), (0, .ref (G.2.1 0)), (1, .int p0), (2, .int p1), (3, .int p2)]) hC dX9_mend_40 (by decide) (fun _ => rfl) (fun v7 => ?_)
        refine g_iload (pc := 42) (q := 0) hC dX9_mend_42 rfl ?_
        refine g_iload_n (pc := 44) (q := 4) hC dX9_mend_44 rfl rfl ?_
        refine g_icmp_eq (pc := 45) (tgt := 67) hC dX9_mend_45 (by decide) ?_ ?_
        · refine g_iload (pc := 67) (q := 0) hC dX9_mend_67 rfl ?_
          exact g_iret (pc := 69) hC dX9_mend_69
        · refine g_aload_n (pc := 48) (q := 1) hC dX9_mend_48 rfl rfl ?_
          refine g_iload_n (pc := 49) (q := 2) hC dX9_mend_49 rfl rfl ?_
          refine g_iload_n (pc := 50) (q := 3) hC dX9_mend_50 rfl rfl ?_
          refine g_iload_n (pc := 51) (q := 4) hC dX9_mend_51 rfl rfl ?_
          refine g_callVv (pc := 52) (As := [.int p0, .int p1, .int p2]) (rest := []) hC lk_RX9_141 kX9 rfl (tX9_setValue _ _ s6 p0 p1 p2) rfl rfl (Nat.le_of_ble_eq_true rfl) ⟨rfl, rfl, Nat.le_of_ble_eq_true rfl, Nat.le_of_ble_eq_true rfl⟩ dX9_mend_52 (fun r8 s9 => ?_)
          refine g_aload_n (pc := 55) (q := 1) hC dX9_mend_55 rfl rfl ?_
          refine g_get (pc := 56) (v := .ref (G.2.1 31)) hC kX9 rfl 13 (by decide) fl_RX9_78 rfl dX9_mend_56 ?_
          refine g_iload_n (pc := 59) (q := 2) hC dX9_mend_59 rfl rfl ?_
          refine g_iload_n (pc := 60) (q := 3) hC dX9_mend_60 rfl rfl ?_
          refine g_iload (pc := 61) (q := 0) hC dX9_mend_61 rfl ?_
          refine g_iload_n (pc := 63) (q := 4) hC dX9_mend_63 rfl rfl ?_
          refine g_callVv (pc := 64) (As := [.int p0, .int p1, .int v7, .int p2]) (rest := []) hC lk_RX9_145 kX1 rfl (tX1_remember _ _ s9 p0 p1 v7 p2) rfl rfl (Nat.le_of_ble_eq_true rfl) ⟨rfl, rfl, Nat.le_of_ble_eq_true rfl, Nat.le_of_ble_eq_true rfl⟩ dX9_mend_64 (fun r10 s11 => ?_)
          refine g_iload (pc := 67) (q := 0) hC dX9_mend_67 rfl ?_
          exact g_iret (pc := 69) hC dX9_mend_69
      · refine g_iconst (pc := 32) (v := (-1)) hC dX9_mend_32 (by decide) ?_
        exact g_iret (pc := 33) hC dX9_mend_33
theorem dX9_of_0 : decode cX9_of 0 = .ok (.aload_n 0, 1) := by decide +kernel
theorem dX9_of_1 : decode cX9_of 1 = .ok (.iload_n 1, 1) := by decide +kernel
theorem dX9_of_2 : decode cX9_of 2 = .ok (.iload_n 2, 1) := by decide +kernel
theorem dX9_of_3 : decode cX9_of 3 = .ok (.invokevirtual 133, 3) := by decide +kernel
theorem dX9_of_6 : decode cX9_of 6 = .ok (.ifCond .eq 12, 3) := by decide +kernel
theorem dX9_of_9 : decode cX9_of 9 = .ok (.aload_n 0, 1) := by decide +kernel
theorem dX9_of_10 : decode cX9_of 10 = .ok (.iload_n 1, 1) := by decide +kernel
theorem dX9_of_11 : decode cX9_of 11 = .ok (.iload_n 2, 1) := by decide +kernel
theorem dX9_of_12 : decode cX9_of 12 = .ok (.invokevirtual 137, 3) := by decide +kernel
theorem dX9_of_15 : decode cX9_of 15 = .ok (.goto 4, 3) := by decide +kernel
theorem dX9_of_18 : decode cX9_of 18 = .ok (.iconst (-1), 1) := by decide +kernel
theorem dX9_of_19 : decode cX9_of 19 = .ok (.ireturn, 1) := by decide +kernel
abbrev rX9_of : Room := { frames := 2, cells := 0, slots := 0, locals := 44 }
def mX9_of (σ : gS) (p0 : Int32) (p1 : Int32) : Option (Int32 × gS) := gBind (mX9_isNumber σ p0 p1) (fun r1 s2 => if r1 = true then (gBind (mX9_valueOf s2 p0 p1) (fun r3 s4 => some (r3, s4))) else (some ((-1), s2)))
set_option maxHeartbeats 4000000 in
set_option maxRecDepth 100000 in
theorem tX9_of (l : Launch) (G : gE) (σ : gS) (p0 : Int32) (p1 : Int32) : gM l G yX9_of cX9_of 3 (some .int) rX9_of iI [.ref (G.2.1 0), .int p0, .int p1] σ (mX9_of σ p0 p1) := by
  refine gM_of (by decide) (Nat.le_of_ble_eq_true rfl) ?_
  intro p e s m args below meth c hC
  unfold mX9_of
  show gT p l e rX9_of s m args below meth c G 3 iI σ 0 [(0, .ref (G.2.1 0)), (1, .int p0), (2, .int p1)] [] _
  refine g_aload_n (pc := 0) (q := 0) hC dX9_of_0 rfl rfl ?_
  refine g_iload_n (pc := 1) (q := 1) hC dX9_of_1 rfl rfl ?_
  refine g_iload_n (pc := 2) (q := 2) hC dX9_of_2 rfl rfl ?_
  refine g_callVz (pc := 3) (As := [.int p0, .int p1]) (rest := []) hC lk_RX9_133 kX9 rfl (tX9_isNumber _ _ σ p0 p1) rfl rfl (Nat.le_of_ble_eq_true rfl) ⟨rfl, rfl, Nat.le_of_ble_eq_true rfl, Nat.le_of_ble_eq_true rfl⟩ dX9_of_3 (fun r1 s2 => ?_)
  refine g_bif_eq (pc := 6) (tgt := 18) hC dX9_of_6 (by decide) ?_ ?_
  · refine g_iconst (pc := 18) (v := (-1)) hC dX9_of_18 (by decide) ?_
    exact g_iret (pc := 19) hC dX9_of_19
  · refine g_aload_n (pc := 9) (q := 0) hC dX9_of_9 rfl rfl ?_
    refine g_iload_n (pc := 10) (q := 1) hC dX9_of_10 rfl rfl ?_
    refine g_iload_n (pc := 11) (q := 2) hC dX9_of_11 rfl rfl ?_
    refine g_callVi (pc := 12) (As := [.int p0, .int p1]) (rest := []) hC lk_RX9_137 kX9 rfl (tX9_valueOf _ _ s2 p0 p1) rfl rfl (Nat.le_of_ble_eq_true rfl) ⟨rfl, rfl, Nat.le_of_ble_eq_true rfl, Nat.le_of_ble_eq_true rfl⟩ dX9_of_12 (fun r3 s4 => ?_)
    refine g_goto (pc := 15) (tgt := 19) hC dX9_of_15 (by decide) ?_
    exact g_iret (pc := 19) hC dX9_of_19
theorem dX9_feed_0 : decode cX9_feed 0 = .ok (.iload_n 1, 1) := by decide +kernel
theorem dX9_feed_1 : decode cX9_feed 1 = .ok (.iconst 0, 1) := by decide +kernel
theorem dX9_feed_2 : decode cX9_feed 2 = .ok (.sipush 255, 3) := by decide +kernel
theorem dX9_feed_5 : decode cX9_feed 5 = .ok (.invokestatic 102, 3) := by decide +kernel
theorem dX9_feed_8 : decode cX9_feed 8 = .ok (.ifCond .ne 5, 3) := by decide +kernel
theorem dX9_feed_11 : decode cX9_feed 11 = .ok (.iconst (-1), 1) := by decide +kernel
theorem dX9_feed_12 : decode cX9_feed 12 = .ok (.ireturn, 1) := by decide +kernel
theorem dX9_feed_13 : decode cX9_feed 13 = .ok (.aload_n 0, 1) := by decide +kernel
theorem dX9_feed_14 : decode cX9_feed 14 = .ok (.getfield 44, 3) := by decide +kernel
theorem dX9_feed_17 : decode cX9_feed 17 = .ok (.bipush 120, 2) := by decide +kernel
theorem dX9_feed_19 : decode cX9_feed 19 = .ok (.if_icmp .lt 6, 3) := by decide +kernel
theorem dX9_feed_22 : decode cX9_feed 22 = .ok (.bipush (-3), 2) := by decide +kernel
theorem dX9_feed_24 : decode cX9_feed 24 = .ok (.ireturn, 1) := by decide +kernel
theorem dX9_feed_25 : decode cX9_feed 25 = .ok (.aload_n 0, 1) := by decide +kernel
theorem dX9_feed_26 : decode cX9_feed 26 = .ok (.getfield 40, 3) := by decide +kernel
theorem dX9_feed_29 : decode cX9_feed 29 = .ok (.aload_n 0, 1) := by decide +kernel
theorem dX9_feed_30 : decode cX9_feed 30 = .ok (.getfield 44, 3) := by decide +kernel
theorem dX9_feed_33 : decode cX9_feed 33 = .ok (.iload_n 1, 1) := by decide +kernel
theorem dX9_feed_34 : decode cX9_feed 34 = .ok (.iastore, 1) := by decide +kernel
theorem dX9_feed_35 : decode cX9_feed 35 = .ok (.aload_n 0, 1) := by decide +kernel
theorem dX9_feed_36 : decode cX9_feed 36 = .ok (.dup, 1) := by decide +kernel
theorem dX9_feed_37 : decode cX9_feed 37 = .ok (.getfield 44, 3) := by decide +kernel
theorem dX9_feed_40 : decode cX9_feed 40 = .ok (.iconst 1, 1) := by decide +kernel
theorem dX9_feed_41 : decode cX9_feed 41 = .ok (.iadd, 1) := by decide +kernel
theorem dX9_feed_42 : decode cX9_feed 42 = .ok (.putfield 44, 3) := by decide +kernel
theorem dX9_feed_45 : decode cX9_feed 45 = .ok (.aload_n 0, 1) := by decide +kernel
theorem dX9_feed_46 : decode cX9_feed 46 = .ok (.getfield 44, 3) := by decide +kernel
theorem dX9_feed_49 : decode cX9_feed 49 = .ok (.ireturn, 1) := by decide +kernel
abbrev rX9_feed : Room := { frames := 1, cells := 0, slots := 0, locals := 22 }
def mX9_feed (σ : gS) (p0 : Int32) : Option (Int32 × gS) := gBind (mX9_within σ p0 0 255) (fun r1 s2 => if r1 = true then (if (s2.1 0 6) < 120 then (if inbB (s2.1 0 6) 120 = true then gLet (gUI s2 17 (Int32.toNatClampNeg (s2.1 0 6)) p0) (fun s3 => gLet (gUI s3 0 6 ((s3.1 0 6) + 1)) (fun s4 => some ((s4.1 0 6), s4))) else none) else (some ((-3), s2))) else (some ((-1), s2)))
set_option maxHeartbeats 4000000 in
set_option maxRecDepth 100000 in
theorem tX9_feed (l : Launch) (G : gE) (σ : gS) (p0 : Int32) : gM l G yX9_feed cX9_feed 2 (some .int) rX9_feed iI [.ref (G.2.1 0), .int p0] σ (mX9_feed σ p0) := by
  refine gM_of (by decide) (Nat.le_of_ble_eq_true rfl) ?_
  intro p e s m args below meth c hC
  unfold mX9_feed
  show gT p l e rX9_feed s m args below meth c G 2 iI σ 0 [(0, .ref (G.2.1 0)), (1, .int p0)] [] _
  refine g_iload_n (pc := 0) (q := 1) hC dX9_feed_0 rfl rfl ?_
  refine g_iconst (pc := 1) (v := 0) hC dX9_feed_1 (by decide) ?_
  refine g_sipush (pc := 2) (v := 255) hC dX9_feed_2 (by decide) ?_
  refine g_callSz (pc := 5) (As := [.int p0, .int 0, .int 255]) (rest := []) hC lk_RX9_102 (tX9_within _ _ σ p0 0 255) rfl rfl (Nat.le_of_ble_eq_true rfl) ⟨rfl, rfl, Nat.le_of_ble_eq_true rfl, Nat.le_of_ble_eq_true rfl⟩ dX9_feed_5 (fun r1 s2 => ?_)
  refine g_bif_ne (pc := 8) (tgt := 13) hC dX9_feed_8 (by decide) ?_ ?_
  · refine g_aload_n (pc := 13) (q := 0) hC dX9_feed_13 rfl rfl ?_
    refine g_get (pc := 14) (v := .int (s2.1 0 6)) hC kX9 rfl 6 (by decide) fl_RX9_44 rfl dX9_feed_14 ?_
    refine g_bipush (pc := 17) (v := 120) hC dX9_feed_17 (by decide) ?_
    refine g_icmp_lt (pc := 19) (tgt := 25) hC dX9_feed_19 (by decide) ?_ ?_
    · refine g_aload_n (pc := 25) (q := 0) hC dX9_feed_25 rfl rfl ?_
      refine g_get (pc := 26) (v := .ref (G.2.1 17)) hC kX9 rfl 5 (by decide) fl_RX9_40 rfl dX9_feed_26 ?_
      refine g_aload_n (pc := 29) (q := 0) hC dX9_feed_29 rfl rfl ?_
      refine g_get (pc := 30) (v := .int (s2.1 0 6)) hC kX9 rfl 6 (by decide) fl_RX9_44 rfl dX9_feed_30 ?_
      refine g_iload_n (pc := 33) (q := 1) hC dX9_feed_33 rfl rfl ?_
      refine g_iast (pc := 34) hC 120 rfl (by decide) dX9_feed_34 (fun s3 => ?_)
      refine g_aload_n (pc := 35) (q := 0) hC dX9_feed_35 rfl rfl ?_
      refine g_dup (pc := 36) hC dX9_feed_36 rfl ?_
      refine g_get (pc := 37) (v := .int (s3.1 0 6)) hC kX9 rfl 6 (by decide) fl_RX9_44 rfl dX9_feed_37 ?_
      refine g_iconst (pc := 40) (v := 1) hC dX9_feed_40 (by decide) ?_
      refine g_iadd (pc := 41) hC dX9_feed_41 ?_
      refine g_puti (pc := 42) (fty := .int) hC kX9 rfl 6 (by decide) fl_RX9_44 rfl rfl rfl rfl (fun _ _ => Nat.le_of_ble_eq_true rfl) (fun _ _ => rfl) dX9_feed_42 (fun s4 => ?_)
      refine g_aload_n (pc := 45) (q := 0) hC dX9_feed_45 rfl rfl ?_
      refine g_get (pc := 46) (v := .int (s4.1 0 6)) hC kX9 rfl 6 (by decide) fl_RX9_44 rfl dX9_feed_46 ?_
      exact g_iret (pc := 49) hC dX9_feed_49
    · refine g_bipush (pc := 22) (v := (-3)) hC dX9_feed_22 (by decide) ?_
      exact g_iret (pc := 24) hC dX9_feed_24
  · refine g_iconst (pc := 11) (v := (-1)) hC dX9_feed_11 (by decide) ?_
    exact g_iret (pc := 12) hC dX9_feed_12
theorem lk_RX9_156 : gLV RX9 156 RX9 yX9_thinkPlan cX9_thinkPlan 3 (some .int) 1 := ⟨(gBig_tab 610 (by decide +kernel) (by decide +kernel)), (gBig_tab 612 (by decide +kernel) (by decide +kernel)), (gBig_sel 14 (by decide +kernel) (by decide +kernel)), (gBig_tab 1 (by decide +kernel) (by decide +kernel)), (gBig_tab 613 (by decide +kernel) (by decide +kernel)), rfl, by decide +kernel, by decide +kernel, by decide +kernel⟩
theorem dX9_cold_0 : decode cX9_cold 0 = .ok (.iload_n 2, 1) := by decide +kernel
theorem dX9_cold_1 : decode cX9_cold 1 = .ok (.aload_n 0, 1) := by decide +kernel
theorem dX9_cold_2 : decode cX9_cold 2 = .ok (.getfield 19, 3) := by decide +kernel
theorem dX9_cold_5 : decode cX9_cold 5 = .ok (.getfield 153, 3) := by decide +kernel
theorem dX9_cold_8 : decode cX9_cold 8 = .ok (.bipush 30, 2) := by decide +kernel
theorem dX9_cold_10 : decode cX9_cold 10 = .ok (.invokestatic 102, 3) := by decide +kernel
theorem dX9_cold_13 : decode cX9_cold 13 = .ok (.ifCond .ne 5, 3) := by decide +kernel
theorem dX9_cold_16 : decode cX9_cold 16 = .ok (.iconst (-1), 1) := by decide +kernel
theorem dX9_cold_17 : decode cX9_cold 17 = .ok (.ireturn, 1) := by decide +kernel
theorem dX9_cold_18 : decode cX9_cold 18 = .ok (.aload_n 0, 1) := by decide +kernel
theorem dX9_cold_19 : decode cX9_cold 19 = .ok (.iload_n 1, 1) := by decide +kernel
theorem dX9_cold_20 : decode cX9_cold 20 = .ok (.invokevirtual 156, 3) := by decide +kernel
theorem dX9_cold_23 : decode cX9_cold 23 = .ok (.istore_n 3, 1) := by decide +kernel
theorem dX9_cold_24 : decode cX9_cold 24 = .ok (.iload_n 3, 1) := by decide +kernel
theorem dX9_cold_25 : decode cX9_cold 25 = .ok (.iconst 1, 1) := by decide +kernel
theorem dX9_cold_26 : decode cX9_cold 26 = .ok (.if_icmp .ne 15, 3) := by decide +kernel
theorem dX9_cold_29 : decode cX9_cold 29 = .ok (.aload_n 0, 1) := by decide +kernel
theorem dX9_cold_30 : decode cX9_cold 30 = .ok (.getfield 29, 3) := by decide +kernel
theorem dX9_cold_33 : decode cX9_cold 33 = .ok (.getfield 159, 3) := by decide +kernel
theorem dX9_cold_36 : decode cX9_cold 36 = .ok (.iload_n 2, 1) := by decide +kernel
theorem dX9_cold_37 : decode cX9_cold 37 = .ok (.iaload, 1) := by decide +kernel
theorem dX9_cold_38 : decode cX9_cold 38 = .ok (.goto 4, 3) := by decide +kernel
theorem dX9_cold_41 : decode cX9_cold 41 = .ok (.iload_n 3, 1) := by decide +kernel
theorem dX9_cold_42 : decode cX9_cold 42 = .ok (.ireturn, 1) := by decide +kernel
abbrev rX9_cold : Room := { frames := 6, cells := 0, slots := 0, locals := 143 }
def mX9_cold (σ : gS) (p0 : Int32) (p1 : Int32) : Option (Int32 × gS) := gBind (mX9_within σ p1 (σ.1 8 4) 30) (fun r1 s2 => if r1 = true then (gBind (mX9_thinkPlan s2 p0) (fun r3 s4 => gLet r3 (fun v5 => if v5 = 1 then (if inbB p1 31 = true then (some ((s4.1 12 (Int32.toNatClampNeg p1)), s4)) else none) else (some (v5, s4))))) else (some ((-1), s2)))
set_option maxHeartbeats 4000000 in
set_option maxRecDepth 100000 in
theorem tX9_cold (l : Launch) (G : gE) (σ : gS) (p0 : Int32) (p1 : Int32) : gM l G yX9_cold cX9_cold 4 (some .int) rX9_cold iI [.ref (G.2.1 0), .int p0, .int p1] σ (mX9_cold σ p0 p1) := by
  refine gM_of (by decide) (Nat.le_of_ble_eq_true rfl) ?_
  intro p e s m args below meth c hC
  unfold mX9_cold
  show gT p l e rX9_cold s m args below meth c G 4 iI σ 0 [(0, .ref (G.2.1 0)), (1, .int p0), (2, .int p1)] [] _
  refine g_iload_n (pc := 0) (q := 2) hC dX9_cold_0 rfl rfl ?_
  refine g_aload_n (pc := 1) (q := 0) hC dX9_cold_1 rfl rfl ?_
  refine g_get (pc := 2) (v := .ref (G.2.1 8)) hC kX9 rfl 1 (by decide) fl_RX9_19 rfl dX9_cold_2 ?_
  refine g_get (pc := 5) (v := .int (σ.1 8 4)) hC kX5 rfl 4 (by decide) fl_RX9_153 rfl dX9_cold_5 ?_
  refine g_bipush (pc := 8) (v := 30) hC dX9_cold_8 (by decide) ?_
  refine g_callSz (pc := 10) (As := [.int p1, .int (σ.1 8 4), .int 30]) (rest := []) hC lk_RX9_102 (tX9_within _ _ σ p1 (σ.1 8 4) 30) rfl rfl (Nat.le_of_ble_eq_true rfl) ⟨rfl, rfl, Nat.le_of_ble_eq_true rfl, Nat.le_of_ble_eq_true rfl⟩ dX9_cold_10 (fun r1 s2 => ?_)
  refine g_bif_ne (pc := 13) (tgt := 18) hC dX9_cold_13 (by decide) ?_ ?_
  · refine g_aload_n (pc := 18) (q := 0) hC dX9_cold_18 rfl rfl ?_
    refine g_iload_n (pc := 19) (q := 1) hC dX9_cold_19 rfl rfl ?_
    refine g_callVi (pc := 20) (As := [.int p0]) (rest := []) hC lk_RX9_156 kX9 rfl (tX9_thinkPlan _ _ s2 p0) rfl rfl (Nat.le_of_ble_eq_true rfl) ⟨rfl, rfl, Nat.le_of_ble_eq_true rfl, Nat.le_of_ble_eq_true rfl⟩ dX9_cold_20 (fun r3 s4 => ?_)
    refine g_istore_n (pc := 23) (lv' := fun v5 => [(3, .int v5), (0, .ref (G.2.1 0)), (1, .int p0), (2, .int p1)]) hC dX9_cold_23 rfl (by decide) (fun _ => rfl) (fun v5 => ?_)
    refine g_iload_n (pc := 24) (q := 0) hC dX9_cold_24 rfl rfl ?_
    refine g_iconst (pc := 25) (v := 1) hC dX9_cold_25 (by decide) ?_
    refine g_icmp_ne (pc := 26) (tgt := 41) hC dX9_cold_26 (by decide) ?_ ?_
    · refine g_iload_n (pc := 41) (q := 0) hC dX9_cold_41 rfl rfl ?_
      exact g_iret (pc := 42) hC dX9_cold_42
    · refine g_aload_n (pc := 29) (q := 1) hC dX9_cold_29 rfl rfl ?_
      refine g_get (pc := 30) (v := .ref (G.2.1 10)) hC kX9 rfl 3 (by decide) fl_RX9_29 rfl dX9_cold_30 ?_
      refine g_get (pc := 33) (v := .ref (G.2.1 12)) hC kX7 rfl 1 (by decide) fl_RX9_159 rfl dX9_cold_33 ?_
      refine g_iload_n (pc := 36) (q := 3) hC dX9_cold_36 rfl rfl ?_
      refine g_iald (pc := 37) hC 31 rfl (by decide) dX9_cold_37 ?_
      refine g_goto (pc := 38) (tgt := 42) hC dX9_cold_38 (by decide) ?_
      exact g_iret (pc := 42) hC dX9_cold_42
  · refine g_iconst (pc := 16) (v := (-1)) hC dX9_cold_16 (by decide) ?_
    exact g_iret (pc := 17) hC dX9_cold_17
theorem lk_RX9_171 : gLV RX9 171 RX9 yX9_sumTo cX9_sumTo 6 (some .int) 2 := ⟨(gBig_tab 687 (by decide +kernel) (by decide +kernel)), (gBig_tab 689 (by decide +kernel) (by decide +kernel)), (gBig_sel 23 (by decide +kernel) (by decide +kernel)), (gBig_tab 1 (by decide +kernel) (by decide +kernel)), (gBig_tab 690 (by decide +kernel) (by decide +kernel)), rfl, by decide +kernel, by decide +kernel, by decide +kernel⟩
theorem lk_RX9_168 : gLV RX9 168 RX9 yX9_metTo cX9_metTo 4 (some .int) 1 := ⟨(gBig_tab 675 (by decide +kernel) (by decide +kernel)), (gBig_tab 677 (by decide +kernel) (by decide +kernel)), (gBig_sel 21 (by decide +kernel) (by decide +kernel)), (gBig_tab 1 (by decide +kernel) (by decide +kernel)), (gBig_tab 678 (by decide +kernel) (by decide +kernel)), rfl, by decide +kernel, by decide +kernel, by decide +kernel⟩
theorem dX9_plan_0 : decode cX9_plan 0 = .ok (.iload_n 3, 1) := by decide +kernel
theorem dX9_plan_1 : decode cX9_plan 1 = .ok (.bipush 10, 2) := by decide +kernel
theorem dX9_plan_3 : decode cX9_plan 3 = .ok (.if_icmp .lt 21, 3) := by decide +kernel
theorem dX9_plan_6 : decode cX9_plan 6 = .ok (.aload_n 0, 1) := by decide +kernel
theorem dX9_plan_7 : decode cX9_plan 7 = .ok (.getfield 10, 3) := by decide +kernel
theorem dX9_plan_10 : decode cX9_plan 10 = .ok (.iload_n 3, 1) := by decide +kernel
theorem dX9_plan_11 : decode cX9_plan 11 = .ok (.bipush 10, 2) := by decide +kernel
theorem dX9_plan_13 : decode cX9_plan 13 = .ok (.isub, 1) := by decide +kernel
theorem dX9_plan_14 : decode cX9_plan 14 = .ok (.invokevirtual 162, 3) := by decide +kernel
theorem dX9_plan_17 : decode cX9_plan 17 = .ok (.ifCond .eq 7, 3) := by decide +kernel
theorem dX9_plan_20 : decode cX9_plan 20 = .ok (.iconst 1, 1) := by decide +kernel
theorem dX9_plan_21 : decode cX9_plan 21 = .ok (.goto 4, 3) := by decide +kernel
theorem dX9_plan_24 : decode cX9_plan 24 = .ok (.iconst 0, 1) := by decide +kernel
theorem dX9_plan_25 : decode cX9_plan 25 = .ok (.istore 4, 2) := by decide +kernel
theorem dX9_plan_27 : decode cX9_plan 27 = .ok (.iload_n 2, 1) := by decide +kernel
theorem dX9_plan_28 : decode cX9_plan 28 = .ok (.aload_n 0, 1) := by decide +kernel
theorem dX9_plan_29 : decode cX9_plan 29 = .ok (.getfield 19, 3) := by decide +kernel
theorem dX9_plan_32 : decode cX9_plan 32 = .ok (.getfield 153, 3) := by decide +kernel
theorem dX9_plan_35 : decode cX9_plan 35 = .ok (.bipush 29, 2) := by decide +kernel
theorem dX9_plan_37 : decode cX9_plan 37 = .ok (.invokestatic 102, 3) := by decide +kernel
theorem dX9_plan_40 : decode cX9_plan 40 = .ok (.ifCond .eq 17, 3) := by decide +kernel
theorem dX9_plan_43 : decode cX9_plan 43 = .ok (.iload_n 3, 1) := by decide +kernel
theorem dX9_plan_44 : decode cX9_plan 44 = .ok (.iconst 0, 1) := by decide +kernel
theorem dX9_plan_45 : decode cX9_plan 45 = .ok (.iconst 3, 1) := by decide +kernel
theorem dX9_plan_46 : decode cX9_plan 46 = .ok (.invokestatic 102, 3) := by decide +kernel
theorem dX9_plan_49 : decode cX9_plan 49 = .ok (.ifCond .ne 10, 3) := by decide +kernel
theorem dX9_plan_52 : decode cX9_plan 52 = .ok (.iload 4, 2) := by decide +kernel
theorem dX9_plan_54 : decode cX9_plan 54 = .ok (.ifCond .ne 5, 3) := by decide +kernel
theorem dX9_plan_57 : decode cX9_plan 57 = .ok (.iconst (-1), 1) := by decide +kernel
theorem dX9_plan_58 : decode cX9_plan 58 = .ok (.ireturn, 1) := by decide +kernel
theorem dX9_plan_59 : decode cX9_plan 59 = .ok (.aload_n 0, 1) := by decide +kernel
theorem dX9_plan_60 : decode cX9_plan 60 = .ok (.iload_n 1, 1) := by decide +kernel
theorem dX9_plan_61 : decode cX9_plan 61 = .ok (.invokevirtual 156, 3) := by decide +kernel
theorem dX9_plan_64 : decode cX9_plan 64 = .ok (.istore 5, 2) := by decide +kernel
theorem dX9_plan_66 : decode cX9_plan 66 = .ok (.iload 5, 2) := by decide +kernel
theorem dX9_plan_68 : decode cX9_plan 68 = .ok (.iconst 1, 1) := by decide +kernel
theorem dX9_plan_69 : decode cX9_plan 69 = .ok (.if_icmp .eq 6, 3) := by decide +kernel
theorem dX9_plan_72 : decode cX9_plan 72 = .ok (.iload 5, 2) := by decide +kernel
theorem dX9_plan_74 : decode cX9_plan 74 = .ok (.ireturn, 1) := by decide +kernel
theorem dX9_plan_75 : decode cX9_plan 75 = .ok (.iload_n 3, 1) := by decide +kernel
theorem dX9_plan_76 : decode cX9_plan 76 = .ok (.ifCond .ne 13, 3) := by decide +kernel
theorem dX9_plan_79 : decode cX9_plan 79 = .ok (.aload_n 0, 1) := by decide +kernel
theorem dX9_plan_80 : decode cX9_plan 80 = .ok (.getfield 29, 3) := by decide +kernel
theorem dX9_plan_83 : decode cX9_plan 83 = .ok (.getfield 165, 3) := by decide +kernel
theorem dX9_plan_86 : decode cX9_plan 86 = .ok (.iload_n 2, 1) := by decide +kernel
theorem dX9_plan_87 : decode cX9_plan 87 = .ok (.iaload, 1) := by decide +kernel
theorem dX9_plan_88 : decode cX9_plan 88 = .ok (.ireturn, 1) := by decide +kernel
theorem dX9_plan_89 : decode cX9_plan 89 = .ok (.iload_n 3, 1) := by decide +kernel
theorem dX9_plan_90 : decode cX9_plan 90 = .ok (.iconst 1, 1) := by decide +kernel
theorem dX9_plan_91 : decode cX9_plan 91 = .ok (.if_icmp .ne 11, 3) := by decide +kernel
theorem dX9_plan_94 : decode cX9_plan 94 = .ok (.aload_n 0, 1) := by decide +kernel
theorem dX9_plan_95 : decode cX9_plan 95 = .ok (.iload_n 2, 1) := by decide +kernel
theorem dX9_plan_96 : decode cX9_plan 96 = .ok (.invokevirtual 168, 3) := by decide +kernel
theorem dX9_plan_99 : decode cX9_plan 99 = .ok (.goto 9, 3) := by decide +kernel
theorem dX9_plan_102 : decode cX9_plan 102 = .ok (.aload_n 0, 1) := by decide +kernel
theorem dX9_plan_103 : decode cX9_plan 103 = .ok (.iload_n 2, 1) := by decide +kernel
theorem dX9_plan_104 : decode cX9_plan 104 = .ok (.iload_n 3, 1) := by decide +kernel
theorem dX9_plan_105 : decode cX9_plan 105 = .ok (.invokevirtual 171, 3) := by decide +kernel
theorem dX9_plan_108 : decode cX9_plan 108 = .ok (.ireturn, 1) := by decide +kernel
abbrev rX9_plan : Room := { frames := 6, cells := 0, slots := 0, locals := 143 }
def mX9_plan_b59    (σ : gS) (x13 : Int32) (x14 : Int32) (x15 : Int32) : Option (Int32 × gS) := gBind (mX9_thinkPlan σ x13) (fun r16 s17 => gLet r16 (fun v18 => if v18 = 1 then (if x15 = 0 then (if inbB x14 30 = true then (some ((s17.1 13 (Int32.toNatClampNeg x14)), s17)) else none) else (if x15 = 1 then (gBind (mX9_metTo s17 x14) (fun r21 s22 => some (r21, s22))) else (gBind (mX9_sumTo s17 x14 x15) (fun r19 s20 => some (r19, s20))))) else (some (v18, s17))))
set_option maxHeartbeats 4000000 in
set_option maxRecDepth 100000 in
theorem wX9_plan_b59 {p : Program} {l : Launch} {e : Env} {s : State} {m : MethodId} {args : Array Value} {below : List Frame} {meth : Method} {c : Code} {G : gE} (hC : gCx p s m args meth c G RX9 cX9_plan 6 (some .int))     (σ : gS) (x13 : Int32) (x14 : Int32) (x15 : Int32)  : gT p l e rX9_plan s m args below meth c G 6 iI σ 59 [(0, .ref (G.2.1 0)), (1, .int x13), (2, .int x14), (3, .int x15)] [] (mX9_plan_b59  σ x13 x14 x15) := by
  unfold mX9_plan_b59
  refine g_aload_n (pc := 59) (q := 0) hC dX9_plan_59 rfl rfl ?_
  refine g_iload_n (pc := 60) (q := 1) hC dX9_plan_60 rfl rfl ?_
  refine g_callVi (pc := 61) (As := [.int x13]) (rest := []) hC lk_RX9_156 kX9 rfl (tX9_thinkPlan _ _ σ x13) rfl rfl (Nat.le_of_ble_eq_true rfl) ⟨rfl, rfl, Nat.le_of_ble_eq_true rfl, Nat.le_of_ble_eq_true rfl⟩ dX9_plan_61 (fun r16 s17 => ?_)
  refine g_istore (pc := 64) (lv' := fun v18 => [(5, .int v18), (0, .ref (G.2.1 0)), (1, .int x13), (2, .int x14), (3, .int x15)]) hC dX9_plan_64 (by decide) (fun _ => rfl) (fun v18 => ?_)
  refine g_iload (pc := 66) (q := 0) hC dX9_plan_66 rfl ?_
  refine g_iconst (pc := 68) (v := 1) hC dX9_plan_68 (by decide) ?_
  refine g_icmp_eq (pc := 69) (tgt := 75) hC dX9_plan_69 (by decide) ?_ ?_
  · refine g_iload_n (pc := 75) (q := 4) hC dX9_plan_75 rfl rfl ?_
    refine g_if_ne (pc := 76) (tgt := 89) hC dX9_plan_76 (by decide) ?_ ?_
    · refine g_iload_n (pc := 89) (q := 4) hC dX9_plan_89 rfl rfl ?_
      refine g_iconst (pc := 90) (v := 1) hC dX9_plan_90 (by decide) ?_
      refine g_icmp_ne (pc := 91) (tgt := 102) hC dX9_plan_91 (by decide) ?_ ?_
      · refine g_aload_n (pc := 102) (q := 1) hC dX9_plan_102 rfl rfl ?_
        refine g_iload_n (pc := 103) (q := 3) hC dX9_plan_103 rfl rfl ?_
        refine g_iload_n (pc := 104) (q := 4) hC dX9_plan_104 rfl rfl ?_
        refine g_callVi (pc := 105) (As := [.int x14, .int x15]) (rest := []) hC lk_RX9_171 kX9 rfl (tX9_sumTo _ _ s17 x14 x15) rfl rfl (Nat.le_of_ble_eq_true rfl) ⟨rfl, rfl, Nat.le_of_ble_eq_true rfl, Nat.le_of_ble_eq_true rfl⟩ dX9_plan_105 (fun r19 s20 => ?_)
        exact g_iret (pc := 108) hC dX9_plan_108
      · refine g_aload_n (pc := 94) (q := 1) hC dX9_plan_94 rfl rfl ?_
        refine g_iload_n (pc := 95) (q := 3) hC dX9_plan_95 rfl rfl ?_
        refine g_callVi (pc := 96) (As := [.int x14]) (rest := []) hC lk_RX9_168 kX9 rfl (tX9_metTo _ _ s17 x14) rfl rfl (Nat.le_of_ble_eq_true rfl) ⟨rfl, rfl, Nat.le_of_ble_eq_true rfl, Nat.le_of_ble_eq_true rfl⟩ dX9_plan_96 (fun r21 s22 => ?_)
        refine g_goto (pc := 99) (tgt := 108) hC dX9_plan_99 (by decide) ?_
        exact g_iret (pc := 108) hC dX9_plan_108
    · refine g_aload_n (pc := 79) (q := 1) hC dX9_plan_79 rfl rfl ?_
      refine g_get (pc := 80) (v := .ref (G.2.1 10)) hC kX9 rfl 3 (by decide) fl_RX9_29 rfl dX9_plan_80 ?_
      refine g_get (pc := 83) (v := .ref (G.2.1 13)) hC kX7 rfl 2 (by decide) fl_RX9_165 rfl dX9_plan_83 ?_
      refine g_iload_n (pc := 86) (q := 3) hC dX9_plan_86 rfl rfl ?_
      refine g_iald (pc := 87) hC 30 rfl (by decide) dX9_plan_87 ?_
      exact g_iret (pc := 88) hC dX9_plan_88
  · refine g_iload (pc := 72) (q := 0) hC dX9_plan_72 rfl ?_
    exact g_iret (pc := 74) hC dX9_plan_74
def mX9_plan_b25    (σ : gS) (x4 : Int32) (x5 : Int32) (x6 : Int32) (x7 : Int32) : Option (Int32 × gS) := gLet x7 (fun v8 => gBind (mX9_within σ x5 (σ.1 8 4) 29) (fun r9 s10 => if r9 = true then (gBind (mX9_within s10 x6 0 3) (fun r11 s12 => if r11 = true then ((mX9_plan_b59  s12 x4 x5 x6)) else (if v8 = 0 then (some ((-1), s12)) else ((mX9_plan_b59  s12 x4 x5 x6))))) else (some ((-1), s10))))
set_option maxHeartbeats 4000000 in
set_option maxRecDepth 100000 in
theorem wX9_plan_b25 {p : Program} {l : Launch} {e : Env} {s : State} {m : MethodId} {args : Array Value} {below : List Frame} {meth : Method} {c : Code} {G : gE} (hC : gCx p s m args meth c G RX9 cX9_plan 6 (some .int))     (σ : gS) (x4 : Int32) (x5 : Int32) (x6 : Int32) (x7 : Int32)  : gT p l e rX9_plan s m args below meth c G 6 iI σ 25 [(0, .ref (G.2.1 0)), (1, .int x4), (2, .int x5), (3, .int x6)] [.int x7] (mX9_plan_b25  σ x4 x5 x6 x7) := by
  unfold mX9_plan_b25
  refine g_istore (pc := 25) (lv' := fun v8 => [(4, .int v8), (0, .ref (G.2.1 0)), (1, .int x4), (2, .int x5), (3, .int x6)]) hC dX9_plan_25 (by decide) (fun _ => rfl) (fun v8 => ?_)
  refine g_iload_n (pc := 27) (q := 3) hC dX9_plan_27 rfl rfl ?_
  refine g_aload_n (pc := 28) (q := 1) hC dX9_plan_28 rfl rfl ?_
  refine g_get (pc := 29) (v := .ref (G.2.1 8)) hC kX9 rfl 1 (by decide) fl_RX9_19 rfl dX9_plan_29 ?_
  refine g_get (pc := 32) (v := .int (σ.1 8 4)) hC kX5 rfl 4 (by decide) fl_RX9_153 rfl dX9_plan_32 ?_
  refine g_bipush (pc := 35) (v := 29) hC dX9_plan_35 (by decide) ?_
  refine g_callSz (pc := 37) (As := [.int x5, .int (σ.1 8 4), .int 29]) (rest := []) hC lk_RX9_102 (tX9_within _ _ σ x5 (σ.1 8 4) 29) rfl rfl (Nat.le_of_ble_eq_true rfl) ⟨rfl, rfl, Nat.le_of_ble_eq_true rfl, Nat.le_of_ble_eq_true rfl⟩ dX9_plan_37 (fun r9 s10 => ?_)
  refine g_bif_eq (pc := 40) (tgt := 57) hC dX9_plan_40 (by decide) ?_ ?_
  · refine g_iconst (pc := 57) (v := (-1)) hC dX9_plan_57 (by decide) ?_
    exact g_iret (pc := 58) hC dX9_plan_58
  · refine g_iload_n (pc := 43) (q := 4) hC dX9_plan_43 rfl rfl ?_
    refine g_iconst (pc := 44) (v := 0) hC dX9_plan_44 (by decide) ?_
    refine g_iconst (pc := 45) (v := 3) hC dX9_plan_45 (by decide) ?_
    refine g_callSz (pc := 46) (As := [.int x6, .int 0, .int 3]) (rest := []) hC lk_RX9_102 (tX9_within _ _ s10 x6 0 3) rfl rfl (Nat.le_of_ble_eq_true rfl) ⟨rfl, rfl, Nat.le_of_ble_eq_true rfl, Nat.le_of_ble_eq_true rfl⟩ dX9_plan_46 (fun r11 s12 => ?_)
    refine g_bif_ne (pc := 49) (tgt := 59) hC dX9_plan_49 (by decide) ?_ ?_
    · exact gT_sub [1, 2, 3, 4] rfl (wX9_plan_b59 hC  s12 x4 x5 x6)
    · refine g_iload (pc := 52) (q := 0) hC dX9_plan_52 rfl ?_
      refine g_if_ne (pc := 54) (tgt := 59) hC dX9_plan_54 (by decide) ?_ ?_
      · exact gT_sub [1, 2, 3, 4] rfl (wX9_plan_b59 hC  s12 x4 x5 x6)
      · refine g_iconst (pc := 57) (v := (-1)) hC dX9_plan_57 (by decide) ?_
        exact g_iret (pc := 58) hC dX9_plan_58
def mX9_plan_b24    (σ : gS) (x1 : Int32) (x2 : Int32) (x3 : Int32) : Option (Int32 × gS) := (mX9_plan_b25  σ x1 x2 x3 0)
set_option maxHeartbeats 4000000 in
set_option maxRecDepth 100000 in
theorem wX9_plan_b24 {p : Program} {l : Launch} {e : Env} {s : State} {m : MethodId} {args : Array Value} {below : List Frame} {meth : Method} {c : Code} {G : gE} (hC : gCx p s m args meth c G RX9 cX9_plan 6 (some .int))     (σ : gS) (x1 : Int32) (x2 : Int32) (x3 : Int32)  : gT p l e rX9_plan s m args below meth c G 6 iI σ 24 [(0, .ref (G.2.1 0)), (1, .int x1), (2, .int x2), (3, .int x3)] [] (mX9_plan_b24  σ x1 x2 x3) := by
  unfold mX9_plan_b24
  refine g_iconst (pc := 24) (v := 0) hC dX9_plan_24 (by decide) ?_
  exact gT_sub [0, 1, 2, 3] rfl (wX9_plan_b25 hC  σ x1 x2 x3 0)
def mX9_plan (σ : gS) (p0 : Int32) (p1 : Int32) (p2 : Int32) : Option (Int32 × gS) := if p2 < 10 then ((mX9_plan_b24  σ p0 p1 p2)) else (gBind (mX8_hasFarm σ (p2 - 10)) (fun r23 s24 => if r23 = true then ((mX9_plan_b25  s24 p0 p1 p2 1)) else ((mX9_plan_b24  s24 p0 p1 p2))))
set_option maxHeartbeats 4000000 in
set_option maxRecDepth 100000 in
theorem tX9_plan (l : Launch) (G : gE) (σ : gS) (p0 : Int32) (p1 : Int32) (p2 : Int32) : gM l G yX9_plan cX9_plan 6 (some .int) rX9_plan iI [.ref (G.2.1 0), .int p0, .int p1, .int p2] σ (mX9_plan σ p0 p1 p2) := by
  refine gM_of (by decide) (Nat.le_of_ble_eq_true rfl) ?_
  intro p e s m args below meth c hC
  unfold mX9_plan
  show gT p l e rX9_plan s m args below meth c G 6 iI σ 0 [(0, .ref (G.2.1 0)), (1, .int p0), (2, .int p1), (3, .int p2)] [] _
  refine g_iload_n (pc := 0) (q := 3) hC dX9_plan_0 rfl rfl ?_
  refine g_bipush (pc := 1) (v := 10) hC dX9_plan_1 (by decide) ?_
  refine g_icmp_lt (pc := 3) (tgt := 24) hC dX9_plan_3 (by decide) ?_ ?_
  · exact gT_sub [0, 1, 2, 3] rfl (wX9_plan_b24 hC  σ p0 p1 p2)
  · refine g_aload_n (pc := 6) (q := 0) hC dX9_plan_6 rfl rfl ?_
    refine g_get (pc := 7) (v := .ref (G.2.1 1)) hC kX9 rfl 0 (by decide) fl_RX9_10 rfl dX9_plan_7 ?_
    refine g_iload_n (pc := 10) (q := 3) hC dX9_plan_10 rfl rfl ?_
    refine g_bipush (pc := 11) (v := 10) hC dX9_plan_11 (by decide) ?_
    refine g_isub (pc := 13) hC dX9_plan_13 ?_
    refine g_callVz (pc := 14) (As := [.int (p2 - 10)]) (rest := []) hC lk_RX9_162 kX8 rfl (tX8_hasFarm _ _ σ (p2 - 10)) rfl rfl (Nat.le_of_ble_eq_true rfl) ⟨rfl, rfl, Nat.le_of_ble_eq_true rfl, Nat.le_of_ble_eq_true rfl⟩ dX9_plan_14 (fun r23 s24 => ?_)
    refine g_bif_eq (pc := 17) (tgt := 24) hC dX9_plan_17 (by decide) ?_ ?_
    · exact gT_sub [0, 1, 2, 3] rfl (wX9_plan_b24 hC  s24 p0 p1 p2)
    · refine g_iconst (pc := 20) (v := 1) hC dX9_plan_20 (by decide) ?_
      refine g_goto (pc := 21) (tgt := 25) hC dX9_plan_21 (by decide) ?_
      exact gT_sub [0, 1, 2, 3] rfl (wX9_plan_b25 hC  s24 p0 p1 p2 1)
theorem lk_RX9_177 : gLV RX9 177 RX9 yX9_firstWithoutCold cX9_firstWithoutCold 2 (some .int) 0 := ⟨(gBig_tab 708 (by decide +kernel) (by decide +kernel)), (gBig_tab 710 (by decide +kernel) (by decide +kernel)), (gBig_sel 24 (by decide +kernel) (by decide +kernel)), (gBig_tab 1 (by decide +kernel) (by decide +kernel)), (gBig_tab 711 (by decide +kernel) (by decide +kernel)), rfl, by decide +kernel, by decide +kernel, by decide +kernel⟩
theorem fl_RX9_174 : Cond.fieldLink RX9 174 "WinterShed$Thought" "gives" "I" ∈ gBig := (gBig_tab 113 (by decide +kernel) (by decide +kernel))
theorem dX9_gives_0 : decode cX9_gives 0 = .ok (.iload_n 2, 1) := by decide +kernel
theorem dX9_gives_1 : decode cX9_gives 1 = .ok (.iconst 0, 1) := by decide +kernel
theorem dX9_gives_2 : decode cX9_gives 2 = .ok (.iconst 1, 1) := by decide +kernel
theorem dX9_gives_3 : decode cX9_gives 3 = .ok (.invokestatic 102, 3) := by decide +kernel
theorem dX9_gives_6 : decode cX9_gives 6 = .ok (.ifCond .ne 5, 3) := by decide +kernel
theorem dX9_gives_9 : decode cX9_gives 9 = .ok (.iconst (-1), 1) := by decide +kernel
theorem dX9_gives_10 : decode cX9_gives 10 = .ok (.ireturn, 1) := by decide +kernel
theorem dX9_gives_11 : decode cX9_gives 11 = .ok (.aload_n 0, 1) := by decide +kernel
theorem dX9_gives_12 : decode cX9_gives 12 = .ok (.iload_n 1, 1) := by decide +kernel
theorem dX9_gives_13 : decode cX9_gives 13 = .ok (.invokevirtual 156, 3) := by decide +kernel
theorem dX9_gives_16 : decode cX9_gives 16 = .ok (.istore_n 3, 1) := by decide +kernel
theorem dX9_gives_17 : decode cX9_gives 17 = .ok (.iload_n 3, 1) := by decide +kernel
theorem dX9_gives_18 : decode cX9_gives 18 = .ok (.iconst 1, 1) := by decide +kernel
theorem dX9_gives_19 : decode cX9_gives 19 = .ok (.if_icmp .eq 5, 3) := by decide +kernel
theorem dX9_gives_22 : decode cX9_gives 22 = .ok (.iload_n 3, 1) := by decide +kernel
theorem dX9_gives_23 : decode cX9_gives 23 = .ok (.ireturn, 1) := by decide +kernel
theorem dX9_gives_24 : decode cX9_gives 24 = .ok (.iload_n 2, 1) := by decide +kernel
theorem dX9_gives_25 : decode cX9_gives 25 = .ok (.ifCond .ne 13, 3) := by decide +kernel
theorem dX9_gives_28 : decode cX9_gives 28 = .ok (.aload_n 0, 1) := by decide +kernel
theorem dX9_gives_29 : decode cX9_gives 29 = .ok (.getfield 29, 3) := by decide +kernel
theorem dX9_gives_32 : decode cX9_gives 32 = .ok (.getfield 174, 3) := by decide +kernel
theorem dX9_gives_35 : decode cX9_gives 35 = .ok (.goto 7, 3) := by decide +kernel
theorem dX9_gives_38 : decode cX9_gives 38 = .ok (.aload_n 0, 1) := by decide +kernel
theorem dX9_gives_39 : decode cX9_gives 39 = .ok (.invokevirtual 177, 3) := by decide +kernel
theorem dX9_gives_42 : decode cX9_gives 42 = .ok (.ireturn, 1) := by decide +kernel
abbrev rX9_gives : Room := { frames := 6, cells := 0, slots := 0, locals := 143 }
def mX9_gives (σ : gS) (p0 : Int32) (p1 : Int32) : Option (Int32 × gS) := gBind (mX9_within σ p1 0 1) (fun r1 s2 => if r1 = true then (gBind (mX9_thinkPlan s2 p0) (fun r3 s4 => gLet r3 (fun v5 => if v5 = 1 then (if p1 = 0 then (some ((s4.1 10 3), s4)) else (gBind (mX9_firstWithoutCold s4 ) (fun r6 s7 => some (r6, s7)))) else (some (v5, s4))))) else (some ((-1), s2)))
set_option maxHeartbeats 4000000 in
set_option maxRecDepth 100000 in
theorem tX9_gives (l : Launch) (G : gE) (σ : gS) (p0 : Int32) (p1 : Int32) : gM l G yX9_gives cX9_gives 4 (some .int) rX9_gives iI [.ref (G.2.1 0), .int p0, .int p1] σ (mX9_gives σ p0 p1) := by
  refine gM_of (by decide) (Nat.le_of_ble_eq_true rfl) ?_
  intro p e s m args below meth c hC
  unfold mX9_gives
  show gT p l e rX9_gives s m args below meth c G 4 iI σ 0 [(0, .ref (G.2.1 0)), (1, .int p0), (2, .int p1)] [] _
  refine g_iload_n (pc := 0) (q := 2) hC dX9_gives_0 rfl rfl ?_
  refine g_iconst (pc := 1) (v := 0) hC dX9_gives_1 (by decide) ?_
  refine g_iconst (pc := 2) (v := 1) hC dX9_gives_2 (by decide) ?_
  refine g_callSz (pc := 3) (As := [.int p1, .int 0, .int 1]) (rest := []) hC lk_RX9_102 (tX9_within _ _ σ p1 0 1) rfl rfl (Nat.le_of_ble_eq_true rfl) ⟨rfl, rfl, Nat.le_of_ble_eq_true rfl, Nat.le_of_ble_eq_true rfl⟩ dX9_gives_3 (fun r1 s2 => ?_)
  refine g_bif_ne (pc := 6) (tgt := 11) hC dX9_gives_6 (by decide) ?_ ?_
  · refine g_aload_n (pc := 11) (q := 0) hC dX9_gives_11 rfl rfl ?_
    refine g_iload_n (pc := 12) (q := 1) hC dX9_gives_12 rfl rfl ?_
    refine g_callVi (pc := 13) (As := [.int p0]) (rest := []) hC lk_RX9_156 kX9 rfl (tX9_thinkPlan _ _ s2 p0) rfl rfl (Nat.le_of_ble_eq_true rfl) ⟨rfl, rfl, Nat.le_of_ble_eq_true rfl, Nat.le_of_ble_eq_true rfl⟩ dX9_gives_13 (fun r3 s4 => ?_)
    refine g_istore_n (pc := 16) (lv' := fun v5 => [(3, .int v5), (0, .ref (G.2.1 0)), (1, .int p0), (2, .int p1)]) hC dX9_gives_16 rfl (by decide) (fun _ => rfl) (fun v5 => ?_)
    refine g_iload_n (pc := 17) (q := 0) hC dX9_gives_17 rfl rfl ?_
    refine g_iconst (pc := 18) (v := 1) hC dX9_gives_18 (by decide) ?_
    refine g_icmp_eq (pc := 19) (tgt := 24) hC dX9_gives_19 (by decide) ?_ ?_
    · refine g_iload_n (pc := 24) (q := 3) hC dX9_gives_24 rfl rfl ?_
      refine g_if_ne (pc := 25) (tgt := 38) hC dX9_gives_25 (by decide) ?_ ?_
      · refine g_aload_n (pc := 38) (q := 1) hC dX9_gives_38 rfl rfl ?_
        refine g_callVi (pc := 39) (As := []) (rest := []) hC lk_RX9_177 kX9 rfl (tX9_firstWithoutCold _ _ s4 ) rfl rfl (Nat.le_of_ble_eq_true rfl) ⟨rfl, rfl, Nat.le_of_ble_eq_true rfl, Nat.le_of_ble_eq_true rfl⟩ dX9_gives_39 (fun r6 s7 => ?_)
        exact g_iret (pc := 42) hC dX9_gives_42
      · refine g_aload_n (pc := 28) (q := 1) hC dX9_gives_28 rfl rfl ?_
        refine g_get (pc := 29) (v := .ref (G.2.1 10)) hC kX9 rfl 3 (by decide) fl_RX9_29 rfl dX9_gives_29 ?_
        refine g_get (pc := 32) (v := .int (s4.1 10 3)) hC kX7 rfl 3 (by decide) fl_RX9_174 rfl dX9_gives_32 ?_
        refine g_goto (pc := 35) (tgt := 42) hC dX9_gives_35 (by decide) ?_
        exact g_iret (pc := 42) hC dX9_gives_42
    · refine g_iload_n (pc := 22) (q := 0) hC dX9_gives_22 rfl rfl ?_
      exact g_iret (pc := 23) hC dX9_gives_23
  · refine g_iconst (pc := 9) (v := (-1)) hC dX9_gives_9 (by decide) ?_
    exact g_iret (pc := 10) hC dX9_gives_10
theorem lk_RX9_181 : gLV RX9 181 RX7 yX7_askNothing cX7_askNothing 1 (none) 0 := ⟨(gBig_tab 716 (by decide +kernel) (by decide +kernel)), (gBig_tab 623 (by decide +kernel) (by decide +kernel)), (gBig_tab 624 (by decide +kernel) (by decide +kernel)), (gBig_tab 4 (by decide +kernel) (by decide +kernel)), (gBig_tab 625 (by decide +kernel) (by decide +kernel)), rfl, by decide +kernel, by decide +kernel, by decide +kernel⟩
theorem dX9_idle_0 : decode cX9_idle 0 = .ok (.iload_n 1, 1) := by decide +kernel
theorem dX9_idle_1 : decode cX9_idle 1 = .ok (.aload_n 0, 1) := by decide +kernel
theorem dX9_idle_2 : decode cX9_idle 2 = .ok (.getfield 19, 3) := by decide +kernel
theorem dX9_idle_5 : decode cX9_idle 5 = .ok (.getfield 153, 3) := by decide +kernel
theorem dX9_idle_8 : decode cX9_idle 8 = .ok (.bipush 30, 2) := by decide +kernel
theorem dX9_idle_10 : decode cX9_idle 10 = .ok (.invokestatic 102, 3) := by decide +kernel
theorem dX9_idle_13 : decode cX9_idle 13 = .ok (.ifCond .ne 5, 3) := by decide +kernel
theorem dX9_idle_16 : decode cX9_idle 16 = .ok (.iconst (-1), 1) := by decide +kernel
theorem dX9_idle_17 : decode cX9_idle 17 = .ok (.ireturn, 1) := by decide +kernel
theorem dX9_idle_18 : decode cX9_idle 18 = .ok (.aload_n 0, 1) := by decide +kernel
theorem dX9_idle_19 : decode cX9_idle 19 = .ok (.getfield 29, 3) := by decide +kernel
theorem dX9_idle_22 : decode cX9_idle 22 = .ok (.invokevirtual 181, 3) := by decide +kernel
theorem dX9_idle_25 : decode cX9_idle 25 = .ok (.aload_n 0, 1) := by decide +kernel
theorem dX9_idle_26 : decode cX9_idle 26 = .ok (.getfield 29, 3) := by decide +kernel
theorem dX9_idle_29 : decode cX9_idle 29 = .ok (.aload_n 0, 1) := by decide +kernel
theorem dX9_idle_30 : decode cX9_idle 30 = .ok (.getfield 19, 3) := by decide +kernel
theorem dX9_idle_33 : decode cX9_idle 33 = .ok (.aload_n 0, 1) := by decide +kernel
theorem dX9_idle_34 : decode cX9_idle 34 = .ok (.getfield 51, 3) := by decide +kernel
theorem dX9_idle_37 : decode cX9_idle 37 = .ok (.invokevirtual 184, 3) := by decide +kernel
theorem dX9_idle_40 : decode cX9_idle 40 = .ok (.aload_n 0, 1) := by decide +kernel
theorem dX9_idle_41 : decode cX9_idle 41 = .ok (.getfield 29, 3) := by decide +kernel
theorem dX9_idle_44 : decode cX9_idle 44 = .ok (.getfield 159, 3) := by decide +kernel
theorem dX9_idle_47 : decode cX9_idle 47 = .ok (.iload_n 1, 1) := by decide +kernel
theorem dX9_idle_48 : decode cX9_idle 48 = .ok (.iaload, 1) := by decide +kernel
theorem dX9_idle_49 : decode cX9_idle 49 = .ok (.ireturn, 1) := by decide +kernel
abbrev rX9_idle : Room := { frames := 5, cells := 0, slots := 0, locals := 121 }
def mX9_idle (σ : gS) (p0 : Int32) : Option (Int32 × gS) := gBind (mX9_within σ p0 (σ.1 8 4) 30) (fun r1 s2 => if r1 = true then (gBind (mX7_askNothing s2 ) (fun r3 s4 => gOpt (s4.2.2 0 7) (none) (fun k5 => if gk k5 = 3 then (gBind (mX7_walk s4 8 k5) (fun r6 s7 => if inbB p0 31 = true then (some ((s7.1 12 (Int32.toNatClampNeg p0)), s7)) else none)) else none))) else (some ((-1), s2)))
set_option maxHeartbeats 4000000 in
set_option maxRecDepth 100000 in
theorem tX9_idle (l : Launch) (G : gE) (σ : gS) (p0 : Int32) : gM l G yX9_idle cX9_idle 2 (some .int) rX9_idle iI [.ref (G.2.1 0), .int p0] σ (mX9_idle σ p0) := by
  refine gM_of (by decide) (Nat.le_of_ble_eq_true rfl) ?_
  intro p e s m args below meth c hC
  unfold mX9_idle
  show gT p l e rX9_idle s m args below meth c G 2 iI σ 0 [(0, .ref (G.2.1 0)), (1, .int p0)] [] _
  refine g_iload_n (pc := 0) (q := 1) hC dX9_idle_0 rfl rfl ?_
  refine g_aload_n (pc := 1) (q := 0) hC dX9_idle_1 rfl rfl ?_
  refine g_get (pc := 2) (v := .ref (G.2.1 8)) hC kX9 rfl 1 (by decide) fl_RX9_19 rfl dX9_idle_2 ?_
  refine g_get (pc := 5) (v := .int (σ.1 8 4)) hC kX5 rfl 4 (by decide) fl_RX9_153 rfl dX9_idle_5 ?_
  refine g_bipush (pc := 8) (v := 30) hC dX9_idle_8 (by decide) ?_
  refine g_callSz (pc := 10) (As := [.int p0, .int (σ.1 8 4), .int 30]) (rest := []) hC lk_RX9_102 (tX9_within _ _ σ p0 (σ.1 8 4) 30) rfl rfl (Nat.le_of_ble_eq_true rfl) ⟨rfl, rfl, Nat.le_of_ble_eq_true rfl, Nat.le_of_ble_eq_true rfl⟩ dX9_idle_10 (fun r1 s2 => ?_)
  refine g_bif_ne (pc := 13) (tgt := 18) hC dX9_idle_13 (by decide) ?_ ?_
  · refine g_aload_n (pc := 18) (q := 0) hC dX9_idle_18 rfl rfl ?_
    refine g_get (pc := 19) (v := .ref (G.2.1 10)) hC kX9 rfl 3 (by decide) fl_RX9_29 rfl dX9_idle_19 ?_
    refine g_callVv (pc := 22) (As := []) (rest := []) hC lk_RX9_181 kX7 rfl (tX7_askNothing _ _ s2 ) rfl rfl (Nat.le_of_ble_eq_true rfl) ⟨rfl, rfl, Nat.le_of_ble_eq_true rfl, Nat.le_of_ble_eq_true rfl⟩ dX9_idle_22 (fun r3 s4 => ?_)
    refine g_aload_n (pc := 25) (q := 0) hC dX9_idle_25 rfl rfl ?_
    refine g_get (pc := 26) (v := .ref (G.2.1 10)) hC kX9 rfl 3 (by decide) fl_RX9_29 rfl dX9_idle_26 ?_
    refine g_aload_n (pc := 29) (q := 0) hC dX9_idle_29 rfl rfl ?_
    refine g_get (pc := 30) (v := .ref (G.2.1 8)) hC kX9 rfl 1 (by decide) fl_RX9_19 rfl dX9_idle_30 ?_
    refine g_aload_n (pc := 33) (q := 0) hC dX9_idle_33 rfl rfl ?_
    refine g_get (pc := 34) (v := va_rf ((s4.2.2 0 7).map G.2.1)) hC kX9 rfl 7 (by decide) fl_RX9_51 rfl dX9_idle_34 ?_
    refine gT_opt ?_ (fun k5 => ?_)
    · exact gT_none
    · refine gT_if (fun hk5 => ?_) (fun _ => gT_none)
      refine g_callVv (pc := 37) (As := [.ref (G.2.1 8), .ref (G.2.1 k5)]) (rest := []) hC lk_RX9_184 kX7 rfl (tX7_walk _ _ s4 8 k5) rfl rfl (Nat.le_of_ble_eq_true rfl) ⟨rfl, rfl, Nat.le_of_ble_eq_true rfl, Nat.le_of_ble_eq_true rfl⟩ dX9_idle_37 (fun r6 s7 => ?_)
      refine g_aload_n (pc := 40) (q := 0) hC dX9_idle_40 rfl rfl ?_
      refine g_get (pc := 41) (v := .ref (G.2.1 10)) hC kX9 rfl 3 (by decide) fl_RX9_29 rfl dX9_idle_41 ?_
      refine g_get (pc := 44) (v := .ref (G.2.1 12)) hC kX7 rfl 1 (by decide) fl_RX9_159 rfl dX9_idle_44 ?_
      refine g_iload_n (pc := 47) (q := 1) hC dX9_idle_47 rfl rfl ?_
      refine g_iald (pc := 48) hC 31 rfl (by decide) dX9_idle_48 ?_
      exact g_iret (pc := 49) hC dX9_idle_49
  · refine g_iconst (pc := 16) (v := (-1)) hC dX9_idle_16 (by decide) ?_
    exact g_iret (pc := 17) hC dX9_idle_17
theorem lk_RX9_212 : gLV RX9 212 RX9 yX9_leastCold cX9_leastCold 2 (some .int) 0 := ⟨(gBig_tab 759 (by decide +kernel) (by decide +kernel)), (gBig_tab 761 (by decide +kernel) (by decide +kernel)), (gBig_sel 27 (by decide +kernel) (by decide +kernel)), (gBig_tab 1 (by decide +kernel) (by decide +kernel)), (gBig_tab 762 (by decide +kernel) (by decide +kernel)), rfl, by decide +kernel, by decide +kernel, by decide +kernel⟩
theorem lk_RX9_209 : gLV RX9 209 RX9 yX9_firstUnmet cX9_firstUnmet 3 (some .int) 0 := ⟨(gBig_tab 755 (by decide +kernel) (by decide +kernel)), (gBig_tab 757 (by decide +kernel) (by decide +kernel)), (gBig_sel 26 (by decide +kernel) (by decide +kernel)), (gBig_tab 1 (by decide +kernel) (by decide +kernel)), (gBig_tab 758 (by decide +kernel) (by decide +kernel)), rfl, by decide +kernel, by decide +kernel, by decide +kernel⟩
theorem lk_RX9_205 : gLV RX9 205 RX7 yX7_askGreatest cX7_askGreatest 3 (none) 1 := ⟨(gBig_tab 746 (by decide +kernel) (by decide +kernel)), (gBig_tab 747 (by decide +kernel) (by decide +kernel)), (gBig_tab 748 (by decide +kernel) (by decide +kernel)), (gBig_tab 4 (by decide +kernel) (by decide +kernel)), (gBig_tab 749 (by decide +kernel) (by decide +kernel)), rfl, by decide +kernel, by decide +kernel, by decide +kernel⟩
theorem dX9_all_0 : decode cX9_all 0 = .ok (.iload_n 1, 1) := by decide +kernel
theorem dX9_all_1 : decode cX9_all 1 = .ok (.iconst 0, 1) := by decide +kernel
theorem dX9_all_2 : decode cX9_all 2 = .ok (.iconst 1, 1) := by decide +kernel
theorem dX9_all_3 : decode cX9_all 3 = .ok (.invokestatic 102, 3) := by decide +kernel
theorem dX9_all_6 : decode cX9_all 6 = .ok (.ifCond .ne 5, 3) := by decide +kernel
theorem dX9_all_9 : decode cX9_all 9 = .ok (.iconst (-1), 1) := by decide +kernel
theorem dX9_all_10 : decode cX9_all 10 = .ok (.ireturn, 1) := by decide +kernel
theorem dX9_all_11 : decode cX9_all 11 = .ok (.aload_n 0, 1) := by decide +kernel
theorem dX9_all_12 : decode cX9_all 12 = .ok (.getfield 29, 3) := by decide +kernel
theorem dX9_all_15 : decode cX9_all 15 = .ok (.aload_n 0, 1) := by decide +kernel
theorem dX9_all_16 : decode cX9_all 16 = .ok (.getfield 10, 3) := by decide +kernel
theorem dX9_all_19 : decode cX9_all 19 = .ok (.invokevirtual 205, 3) := by decide +kernel
theorem dX9_all_22 : decode cX9_all 22 = .ok (.iload_n 1, 1) := by decide +kernel
theorem dX9_all_23 : decode cX9_all 23 = .ok (.ifCond .ne 10, 3) := by decide +kernel
theorem dX9_all_26 : decode cX9_all 26 = .ok (.aload_n 0, 1) := by decide +kernel
theorem dX9_all_27 : decode cX9_all 27 = .ok (.invokevirtual 209, 3) := by decide +kernel
theorem dX9_all_30 : decode cX9_all 30 = .ok (.goto 7, 3) := by decide +kernel
theorem dX9_all_33 : decode cX9_all 33 = .ok (.aload_n 0, 1) := by decide +kernel
theorem dX9_all_34 : decode cX9_all 34 = .ok (.invokevirtual 212, 3) := by decide +kernel
theorem dX9_all_37 : decode cX9_all 37 = .ok (.ireturn, 1) := by decide +kernel
abbrev rX9_all : Room := { frames := 6, cells := 0, slots := 0, locals := 143 }
def mX9_all (σ : gS) (p0 : Int32) : Option (Int32 × gS) := gBind (mX9_within σ p0 0 1) (fun r1 s2 => if r1 = true then (gBind (mX7_askGreatest s2 ) (fun r3 s4 => if p0 = 0 then (gBind (mX9_firstUnmet s4 ) (fun r7 s8 => some (r7, s8))) else (gBind (mX9_leastCold s4 ) (fun r5 s6 => some (r5, s6))))) else (some ((-1), s2)))
set_option maxHeartbeats 4000000 in
set_option maxRecDepth 100000 in
theorem tX9_all (l : Launch) (G : gE) (σ : gS) (p0 : Int32) : gM l G yX9_all cX9_all 2 (some .int) rX9_all iI [.ref (G.2.1 0), .int p0] σ (mX9_all σ p0) := by
  refine gM_of (by decide) (Nat.le_of_ble_eq_true rfl) ?_
  intro p e s m args below meth c hC
  unfold mX9_all
  show gT p l e rX9_all s m args below meth c G 2 iI σ 0 [(0, .ref (G.2.1 0)), (1, .int p0)] [] _
  refine g_iload_n (pc := 0) (q := 1) hC dX9_all_0 rfl rfl ?_
  refine g_iconst (pc := 1) (v := 0) hC dX9_all_1 (by decide) ?_
  refine g_iconst (pc := 2) (v := 1) hC dX9_all_2 (by decide) ?_
  refine g_callSz (pc := 3) (As := [.int p0, .int 0, .int 1]) (rest := []) hC lk_RX9_102 (tX9_within _ _ σ p0 0 1) rfl rfl (Nat.le_of_ble_eq_true rfl) ⟨rfl, rfl, Nat.le_of_ble_eq_true rfl, Nat.le_of_ble_eq_true rfl⟩ dX9_all_3 (fun r1 s2 => ?_)
  refine g_bif_ne (pc := 6) (tgt := 11) hC dX9_all_6 (by decide) ?_ ?_
  · refine g_aload_n (pc := 11) (q := 0) hC dX9_all_11 rfl rfl ?_
    refine g_get (pc := 12) (v := .ref (G.2.1 10)) hC kX9 rfl 3 (by decide) fl_RX9_29 rfl dX9_all_12 ?_
    refine g_aload_n (pc := 15) (q := 0) hC dX9_all_15 rfl rfl ?_
    refine g_get (pc := 16) (v := .ref (G.2.1 1)) hC kX9 rfl 0 (by decide) fl_RX9_10 rfl dX9_all_16 ?_
    refine g_callVv (pc := 19) (As := [.ref (G.2.1 1)]) (rest := []) hC lk_RX9_205 kX7 rfl (tX7_askGreatest _ _ s2 ) rfl rfl (Nat.le_of_ble_eq_true rfl) ⟨rfl, rfl, Nat.le_of_ble_eq_true rfl, Nat.le_of_ble_eq_true rfl⟩ dX9_all_19 (fun r3 s4 => ?_)
    refine g_iload_n (pc := 22) (q := 1) hC dX9_all_22 rfl rfl ?_
    refine g_if_ne (pc := 23) (tgt := 33) hC dX9_all_23 (by decide) ?_ ?_
    · refine g_aload_n (pc := 33) (q := 0) hC dX9_all_33 rfl rfl ?_
      refine g_callVi (pc := 34) (As := []) (rest := []) hC lk_RX9_212 kX9 rfl (tX9_leastCold _ _ s4 ) rfl rfl (Nat.le_of_ble_eq_true rfl) ⟨rfl, rfl, Nat.le_of_ble_eq_true rfl, Nat.le_of_ble_eq_true rfl⟩ dX9_all_34 (fun r5 s6 => ?_)
      exact g_iret (pc := 37) hC dX9_all_37
    · refine g_aload_n (pc := 26) (q := 0) hC dX9_all_26 rfl rfl ?_
      refine g_callVi (pc := 27) (As := []) (rest := []) hC lk_RX9_209 kX9 rfl (tX9_firstUnmet _ _ s4 ) rfl rfl (Nat.le_of_ble_eq_true rfl) ⟨rfl, rfl, Nat.le_of_ble_eq_true rfl, Nat.le_of_ble_eq_true rfl⟩ dX9_all_27 (fun r7 s8 => ?_)
      refine g_goto (pc := 30) (tgt := 37) hC dX9_all_30 (by decide) ?_
      exact g_iret (pc := 37) hC dX9_all_37
  · refine g_iconst (pc := 9) (v := (-1)) hC dX9_all_9 (by decide) ?_
    exact g_iret (pc := 10) hC dX9_all_10
theorem lk_RX9_221 : gLV RX9 221 RX8 yX8_carries cX8_carries 2 (some .boolean) 1 := ⟨(gBig_tab 792 (by decide +kernel) (by decide +kernel)), (gBig_tab 785 (by decide +kernel) (by decide +kernel)), (gBig_tab 786 (by decide +kernel) (by decide +kernel)), (gBig_tab 2 (by decide +kernel) (by decide +kernel)), (gBig_tab 787 (by decide +kernel) (by decide +kernel)), rfl, by decide +kernel, by decide +kernel, by decide +kernel⟩
theorem lk_RX9_218 : gLV RX9 218 RX8 yX8_swing cX8_swing 4 (some .int) 1 := ⟨(gBig_tab 780 (by decide +kernel) (by decide +kernel)), (gBig_tab 781 (by decide +kernel) (by decide +kernel)), (gBig_tab 782 (by decide +kernel) (by decide +kernel)), (gBig_tab 2 (by decide +kernel) (by decide +kernel)), (gBig_tab 783 (by decide +kernel) (by decide +kernel)), rfl, by decide +kernel, by decide +kernel, by decide +kernel⟩
theorem lk_RX9_215 : gLV RX9 215 RX8 yX8_sayYes cX8_sayYes 5 (some .int) 2 := ⟨(gBig_tab 772 (by decide +kernel) (by decide +kernel)), (gBig_tab 773 (by decide +kernel) (by decide +kernel)), (gBig_tab 774 (by decide +kernel) (by decide +kernel)), (gBig_tab 2 (by decide +kernel) (by decide +kernel)), (gBig_tab 775 (by decide +kernel) (by decide +kernel)), rfl, by decide +kernel, by decide +kernel, by decide +kernel⟩
theorem dX9_vote_0 : decode cX9_vote 0 = .ok (.iload_n 1, 1) := by decide +kernel
theorem dX9_vote_1 : decode cX9_vote 1 = .ok (.ifCond .lt 30, 3) := by decide +kernel
theorem dX9_vote_4 : decode cX9_vote 4 = .ok (.iload_n 1, 1) := by decide +kernel
theorem dX9_vote_5 : decode cX9_vote 5 = .ok (.bipush 100, 2) := by decide +kernel
theorem dX9_vote_7 : decode cX9_vote 7 = .ok (.idiv, 1) := by decide +kernel
theorem dX9_vote_8 : decode cX9_vote 8 = .ok (.bipush 29, 2) := by decide +kernel
theorem dX9_vote_10 : decode cX9_vote 10 = .ok (.if_icmp .gt 21, 3) := by decide +kernel
theorem dX9_vote_13 : decode cX9_vote 13 = .ok (.iload_n 1, 1) := by decide +kernel
theorem dX9_vote_14 : decode cX9_vote 14 = .ok (.bipush 100, 2) := by decide +kernel
theorem dX9_vote_16 : decode cX9_vote 16 = .ok (.irem, 1) := by decide +kernel
theorem dX9_vote_17 : decode cX9_vote 17 = .ok (.bipush 24, 2) := by decide +kernel
theorem dX9_vote_19 : decode cX9_vote 19 = .ok (.if_icmp .gt 12, 3) := by decide +kernel
theorem dX9_vote_22 : decode cX9_vote 22 = .ok (.iload_n 2, 1) := by decide +kernel
theorem dX9_vote_23 : decode cX9_vote 23 = .ok (.iconst 0, 1) := by decide +kernel
theorem dX9_vote_24 : decode cX9_vote 24 = .ok (.iconst 2, 1) := by decide +kernel
theorem dX9_vote_25 : decode cX9_vote 25 = .ok (.invokestatic 102, 3) := by decide +kernel
theorem dX9_vote_28 : decode cX9_vote 28 = .ok (.ifCond .ne 5, 3) := by decide +kernel
theorem dX9_vote_31 : decode cX9_vote 31 = .ok (.iconst (-1), 1) := by decide +kernel
theorem dX9_vote_32 : decode cX9_vote 32 = .ok (.ireturn, 1) := by decide +kernel
theorem dX9_vote_33 : decode cX9_vote 33 = .ok (.aload_n 0, 1) := by decide +kernel
theorem dX9_vote_34 : decode cX9_vote 34 = .ok (.getfield 10, 3) := by decide +kernel
theorem dX9_vote_37 : decode cX9_vote 37 = .ok (.iload_n 1, 1) := by decide +kernel
theorem dX9_vote_38 : decode cX9_vote 38 = .ok (.bipush 100, 2) := by decide +kernel
theorem dX9_vote_40 : decode cX9_vote 40 = .ok (.idiv, 1) := by decide +kernel
theorem dX9_vote_41 : decode cX9_vote 41 = .ok (.iload_n 1, 1) := by decide +kernel
theorem dX9_vote_42 : decode cX9_vote 42 = .ok (.bipush 100, 2) := by decide +kernel
theorem dX9_vote_44 : decode cX9_vote 44 = .ok (.irem, 1) := by decide +kernel
theorem dX9_vote_45 : decode cX9_vote 45 = .ok (.invokevirtual 215, 3) := by decide +kernel
theorem dX9_vote_48 : decode cX9_vote 48 = .ok (.istore_n 3, 1) := by decide +kernel
theorem dX9_vote_49 : decode cX9_vote 49 = .ok (.iload_n 2, 1) := by decide +kernel
theorem dX9_vote_50 : decode cX9_vote 50 = .ok (.ifCond .ne 5, 3) := by decide +kernel
theorem dX9_vote_53 : decode cX9_vote 53 = .ok (.iload_n 3, 1) := by decide +kernel
theorem dX9_vote_54 : decode cX9_vote 54 = .ok (.ireturn, 1) := by decide +kernel
theorem dX9_vote_55 : decode cX9_vote 55 = .ok (.iload_n 2, 1) := by decide +kernel
theorem dX9_vote_56 : decode cX9_vote 56 = .ok (.iconst 2, 1) := by decide +kernel
theorem dX9_vote_57 : decode cX9_vote 57 = .ok (.if_icmp .ne 14, 3) := by decide +kernel
theorem dX9_vote_60 : decode cX9_vote 60 = .ok (.aload_n 0, 1) := by decide +kernel
theorem dX9_vote_61 : decode cX9_vote 61 = .ok (.getfield 10, 3) := by decide +kernel
theorem dX9_vote_64 : decode cX9_vote 64 = .ok (.iload_n 3, 1) := by decide +kernel
theorem dX9_vote_65 : decode cX9_vote 65 = .ok (.invokevirtual 218, 3) := by decide +kernel
theorem dX9_vote_68 : decode cX9_vote 68 = .ok (.goto 19, 3) := by decide +kernel
theorem dX9_vote_71 : decode cX9_vote 71 = .ok (.aload_n 0, 1) := by decide +kernel
theorem dX9_vote_72 : decode cX9_vote 72 = .ok (.getfield 10, 3) := by decide +kernel
theorem dX9_vote_75 : decode cX9_vote 75 = .ok (.iload_n 3, 1) := by decide +kernel
theorem dX9_vote_76 : decode cX9_vote 76 = .ok (.invokevirtual 221, 3) := by decide +kernel
theorem dX9_vote_79 : decode cX9_vote 79 = .ok (.ifCond .eq 7, 3) := by decide +kernel
theorem dX9_vote_82 : decode cX9_vote 82 = .ok (.iconst 1, 1) := by decide +kernel
theorem dX9_vote_83 : decode cX9_vote 83 = .ok (.goto 4, 3) := by decide +kernel
theorem dX9_vote_86 : decode cX9_vote 86 = .ok (.iconst 0, 1) := by decide +kernel
theorem dX9_vote_87 : decode cX9_vote 87 = .ok (.ireturn, 1) := by decide +kernel
abbrev rX9_vote : Room := { frames := 4, cells := 0, slots := 0, locals := 96 }
def mX9_vote (σ : gS) (p0 : Int32) (p1 : Int32) : Option (Int32 × gS) := if p0 < 0 then (some ((-1), σ)) else (if 29 < (p0 / 100) then (some ((-1), σ)) else (if 24 < (gRem p0 100) then (some ((-1), σ)) else (gBind (mX9_within σ p1 0 2) (fun r1 s2 => if r1 = true then (gBind (mX8_sayYes s2 (p0 / 100) (gRem p0 100)) (fun r3 s4 => gLet r3 (fun v5 => if p1 = 0 then (some (v5, s4)) else (if p1 = 2 then (gBind (mX8_swing s4 v5) (fun r8 s9 => some (r8, s9))) else (gBind (mX8_carries s4 v5) (fun r6 s7 => if r6 = true then (some (1, s7)) else (some (0, s7)))))))) else (some ((-1), s2))))))
set_option maxHeartbeats 4000000 in
set_option maxRecDepth 100000 in
theorem tX9_vote (l : Launch) (G : gE) (σ : gS) (p0 : Int32) (p1 : Int32) : gM l G yX9_vote cX9_vote 4 (some .int) rX9_vote iI [.ref (G.2.1 0), .int p0, .int p1] σ (mX9_vote σ p0 p1) := by
  refine gM_of (by decide) (Nat.le_of_ble_eq_true rfl) ?_
  intro p e s m args below meth c hC
  unfold mX9_vote
  show gT p l e rX9_vote s m args below meth c G 4 iI σ 0 [(0, .ref (G.2.1 0)), (1, .int p0), (2, .int p1)] [] _
  refine g_iload_n (pc := 0) (q := 1) hC dX9_vote_0 rfl rfl ?_
  refine g_if_lt (pc := 1) (tgt := 31) hC dX9_vote_1 (by decide) ?_ ?_
  · refine g_iconst (pc := 31) (v := (-1)) hC dX9_vote_31 (by decide) ?_
    exact g_iret (pc := 32) hC dX9_vote_32
  · refine g_iload_n (pc := 4) (q := 1) hC dX9_vote_4 rfl rfl ?_
    refine g_bipush (pc := 5) (v := 100) hC dX9_vote_5 (by decide) ?_
    refine g_idivL (pc := 7) hC dX9_vote_7 (by decide) ?_
    refine g_bipush (pc := 8) (v := 29) hC dX9_vote_8 (by decide) ?_
    refine g_icmp_gt (pc := 10) (tgt := 31) hC dX9_vote_10 (by decide) ?_ ?_
    · refine g_iconst (pc := 31) (v := (-1)) hC dX9_vote_31 (by decide) ?_
      exact g_iret (pc := 32) hC dX9_vote_32
    · refine g_iload_n (pc := 13) (q := 1) hC dX9_vote_13 rfl rfl ?_
      refine g_bipush (pc := 14) (v := 100) hC dX9_vote_14 (by decide) ?_
      refine g_iremL (pc := 16) hC dX9_vote_16 (by decide) ?_
      refine g_bipush (pc := 17) (v := 24) hC dX9_vote_17 (by decide) ?_
      refine g_icmp_gt (pc := 19) (tgt := 31) hC dX9_vote_19 (by decide) ?_ ?_
      · refine g_iconst (pc := 31) (v := (-1)) hC dX9_vote_31 (by decide) ?_
        exact g_iret (pc := 32) hC dX9_vote_32
      · refine g_iload_n (pc := 22) (q := 2) hC dX9_vote_22 rfl rfl ?_
        refine g_iconst (pc := 23) (v := 0) hC dX9_vote_23 (by decide) ?_
        refine g_iconst (pc := 24) (v := 2) hC dX9_vote_24 (by decide) ?_
        refine g_callSz (pc := 25) (As := [.int p1, .int 0, .int 2]) (rest := []) hC lk_RX9_102 (tX9_within _ _ σ p1 0 2) rfl rfl (Nat.le_of_ble_eq_true rfl) ⟨rfl, rfl, Nat.le_of_ble_eq_true rfl, Nat.le_of_ble_eq_true rfl⟩ dX9_vote_25 (fun r1 s2 => ?_)
        refine g_bif_ne (pc := 28) (tgt := 33) hC dX9_vote_28 (by decide) ?_ ?_
        · refine g_aload_n (pc := 33) (q := 0) hC dX9_vote_33 rfl rfl ?_
          refine g_get (pc := 34) (v := .ref (G.2.1 1)) hC kX9 rfl 0 (by decide) fl_RX9_10 rfl dX9_vote_34 ?_
          refine g_iload_n (pc := 37) (q := 1) hC dX9_vote_37 rfl rfl ?_
          refine g_bipush (pc := 38) (v := 100) hC dX9_vote_38 (by decide) ?_
          refine g_idivL (pc := 40) hC dX9_vote_40 (by decide) ?_
          refine g_iload_n (pc := 41) (q := 1) hC dX9_vote_41 rfl rfl ?_
          refine g_bipush (pc := 42) (v := 100) hC dX9_vote_42 (by decide) ?_
          refine g_iremL (pc := 44) hC dX9_vote_44 (by decide) ?_
          refine g_callVi (pc := 45) (As := [.int (p0 / 100), .int (gRem p0 100)]) (rest := []) hC lk_RX9_215 kX8 rfl (tX8_sayYes _ _ s2 (p0 / 100) (gRem p0 100)) rfl rfl (Nat.le_of_ble_eq_true rfl) ⟨rfl, rfl, Nat.le_of_ble_eq_true rfl, Nat.le_of_ble_eq_true rfl⟩ dX9_vote_45 (fun r3 s4 => ?_)
          refine g_istore_n (pc := 48) (lv' := fun v5 => [(3, .int v5), (0, .ref (G.2.1 0)), (1, .int p0), (2, .int p1)]) hC dX9_vote_48 rfl (by decide) (fun _ => rfl) (fun v5 => ?_)
          refine g_iload_n (pc := 49) (q := 3) hC dX9_vote_49 rfl rfl ?_
          refine g_if_ne (pc := 50) (tgt := 55) hC dX9_vote_50 (by decide) ?_ ?_
          · refine g_iload_n (pc := 55) (q := 3) hC dX9_vote_55 rfl rfl ?_
            refine g_iconst (pc := 56) (v := 2) hC dX9_vote_56 (by decide) ?_
            refine g_icmp_ne (pc := 57) (tgt := 71) hC dX9_vote_57 (by decide) ?_ ?_
            · refine g_aload_n (pc := 71) (q := 1) hC dX9_vote_71 rfl rfl ?_
              refine g_get (pc := 72) (v := .ref (G.2.1 1)) hC kX9 rfl 0 (by decide) fl_RX9_10 rfl dX9_vote_72 ?_
              refine g_iload_n (pc := 75) (q := 0) hC dX9_vote_75 rfl rfl ?_
              refine g_callVz (pc := 76) (As := [.int v5]) (rest := []) hC lk_RX9_221 kX8 rfl (tX8_carries _ _ s4 v5) rfl rfl (Nat.le_of_ble_eq_true rfl) ⟨rfl, rfl, Nat.le_of_ble_eq_true rfl, Nat.le_of_ble_eq_true rfl⟩ dX9_vote_76 (fun r6 s7 => ?_)
              refine g_bif_eq (pc := 79) (tgt := 86) hC dX9_vote_79 (by decide) ?_ ?_
              · refine g_iconst (pc := 86) (v := 0) hC dX9_vote_86 (by decide) ?_
                exact g_iret (pc := 87) hC dX9_vote_87
              · refine g_iconst (pc := 82) (v := 1) hC dX9_vote_82 (by decide) ?_
                refine g_goto (pc := 83) (tgt := 87) hC dX9_vote_83 (by decide) ?_
                exact g_iret (pc := 87) hC dX9_vote_87
            · refine g_aload_n (pc := 60) (q := 1) hC dX9_vote_60 rfl rfl ?_
              refine g_get (pc := 61) (v := .ref (G.2.1 1)) hC kX9 rfl 0 (by decide) fl_RX9_10 rfl dX9_vote_61 ?_
              refine g_iload_n (pc := 64) (q := 0) hC dX9_vote_64 rfl rfl ?_
              refine g_callVi (pc := 65) (As := [.int v5]) (rest := []) hC lk_RX9_218 kX8 rfl (tX8_swing _ _ s4 v5) rfl rfl (Nat.le_of_ble_eq_true rfl) ⟨rfl, rfl, Nat.le_of_ble_eq_true rfl, Nat.le_of_ble_eq_true rfl⟩ dX9_vote_65 (fun r8 s9 => ?_)
              refine g_goto (pc := 68) (tgt := 87) hC dX9_vote_68 (by decide) ?_
              exact g_iret (pc := 87) hC dX9_vote_87
          · refine g_iload_n (pc := 53) (q := 0) hC dX9_vote_53 rfl rfl ?_
            exact g_iret (pc := 54) hC dX9_vote_54
        · refine g_iconst (pc := 31) (v := (-1)) hC dX9_vote_31 (by decide) ?_
          exact g_iret (pc := 32) hC dX9_vote_32
theorem dX9_most_0 : decode cX9_most 0 = .ok (.iload_n 1, 1) := by decide +kernel
theorem dX9_most_1 : decode cX9_most 1 = .ok (.iconst 0, 1) := by decide +kernel
theorem dX9_most_2 : decode cX9_most 2 = .ok (.bipush 29, 2) := by decide +kernel
theorem dX9_most_4 : decode cX9_most 4 = .ok (.invokestatic 102, 3) := by decide +kernel
theorem dX9_most_7 : decode cX9_most 7 = .ok (.ifCond .ne 5, 3) := by decide +kernel
theorem dX9_most_10 : decode cX9_most 10 = .ok (.iconst (-1), 1) := by decide +kernel
theorem dX9_most_11 : decode cX9_most 11 = .ok (.ireturn, 1) := by decide +kernel
theorem dX9_most_12 : decode cX9_most 12 = .ok (.bipush 24, 2) := by decide +kernel
theorem dX9_most_14 : decode cX9_most 14 = .ok (.istore_n 2, 1) := by decide +kernel
theorem dX9_most_15 : decode cX9_most 15 = .ok (.iload_n 2, 1) := by decide +kernel
theorem dX9_most_16 : decode cX9_most 16 = .ok (.ifCond .lt 30, 3) := by decide +kernel
theorem dX9_most_19 : decode cX9_most 19 = .ok (.aload_n 0, 1) := by decide +kernel
theorem dX9_most_20 : decode cX9_most 20 = .ok (.getfield 10, 3) := by decide +kernel
theorem dX9_most_23 : decode cX9_most 23 = .ok (.aload_n 0, 1) := by decide +kernel
theorem dX9_most_24 : decode cX9_most 24 = .ok (.getfield 10, 3) := by decide +kernel
theorem dX9_most_27 : decode cX9_most 27 = .ok (.iload_n 1, 1) := by decide +kernel
theorem dX9_most_28 : decode cX9_most 28 = .ok (.iload_n 2, 1) := by decide +kernel
theorem dX9_most_29 : decode cX9_most 29 = .ok (.invokevirtual 215, 3) := by decide +kernel
theorem dX9_most_32 : decode cX9_most 32 = .ok (.invokevirtual 221, 3) := by decide +kernel
theorem dX9_most_35 : decode cX9_most 35 = .ok (.ifCond .eq 5, 3) := by decide +kernel
theorem dX9_most_38 : decode cX9_most 38 = .ok (.iload_n 2, 1) := by decide +kernel
theorem dX9_most_39 : decode cX9_most 39 = .ok (.ireturn, 1) := by decide +kernel
theorem dX9_most_40 : decode cX9_most 40 = .ok (.iinc 2 (-1), 3) := by decide +kernel
theorem dX9_most_43 : decode cX9_most 43 = .ok (.goto (-28), 3) := by decide +kernel
theorem dX9_most_46 : decode cX9_most 46 = .ok (.bipush (-2), 2) := by decide +kernel
theorem dX9_most_48 : decode cX9_most 48 = .ok (.ireturn, 1) := by decide +kernel
abbrev rX9_most : Room := { frames := 4, cells := 0, slots := 0, locals := 96 }
def mX9_most_b15    : Nat → gS → Int32 → Int32 → Option (Int32 × gS)
  | 0, _, _, _ => none
  | n + 1, σ, x4, x5 => if x5 < 0 then (some ((-2), σ)) else (gBind (mX8_sayYes σ x4 x5) (fun r6 s7 => gBind (mX8_carries s7 r6) (fun r8 s9 => if r8 = true then (some (x5, s9)) else (gLet (x5 + (-1)) (fun v10 => ((mX9_most_b15  n) s9 x4 v10))))))
set_option maxHeartbeats 4000000 in
set_option maxRecDepth 100000 in
theorem wX9_most_b15 {p : Program} {l : Launch} {e : Env} {s : State} {m : MethodId} {args : Array Value} {below : List Frame} {meth : Method} {c : Code} {G : gE} (hC : gCx p s m args meth c G RX9 cX9_most 3 (some .int))     (n : Nat) (σ : gS) (x4 : Int32) (x5 : Int32)  : gT p l e rX9_most s m args below meth c G 3 iI σ 15 [(0, .ref (G.2.1 0)), (1, .int x4), (2, .int x5)] [] (mX9_most_b15  n σ x4 x5) := by
  induction n generalizing σ x4 x5 with
  | zero => exact gT_none
  | succ n ih =>
    unfold mX9_most_b15
    refine g_iload_n (pc := 15) (q := 2) hC dX9_most_15 rfl rfl ?_
    refine g_if_lt (pc := 16) (tgt := 46) hC dX9_most_16 (by decide) ?_ ?_
    · refine g_bipush (pc := 46) (v := (-2)) hC dX9_most_46 (by decide) ?_
      exact g_iret (pc := 48) hC dX9_most_48
    · refine g_aload_n (pc := 19) (q := 0) hC dX9_most_19 rfl rfl ?_
      refine g_get (pc := 20) (v := .ref (G.2.1 1)) hC kX9 rfl 0 (by decide) fl_RX9_10 rfl dX9_most_20 ?_
      refine g_aload_n (pc := 23) (q := 0) hC dX9_most_23 rfl rfl ?_
      refine g_get (pc := 24) (v := .ref (G.2.1 1)) hC kX9 rfl 0 (by decide) fl_RX9_10 rfl dX9_most_24 ?_
      refine g_iload_n (pc := 27) (q := 1) hC dX9_most_27 rfl rfl ?_
      refine g_iload_n (pc := 28) (q := 2) hC dX9_most_28 rfl rfl ?_
      refine g_callVi (pc := 29) (As := [.int x4, .int x5]) (rest := [.ref (G.2.1 1)]) hC lk_RX9_215 kX8 rfl (tX8_sayYes _ _ σ x4 x5) rfl rfl (Nat.le_of_ble_eq_true rfl) ⟨rfl, rfl, Nat.le_of_ble_eq_true rfl, Nat.le_of_ble_eq_true rfl⟩ dX9_most_29 (fun r6 s7 => ?_)
      refine g_callVz (pc := 32) (As := [.int r6]) (rest := []) hC lk_RX9_221 kX8 rfl (tX8_carries _ _ s7 r6) rfl rfl (Nat.le_of_ble_eq_true rfl) ⟨rfl, rfl, Nat.le_of_ble_eq_true rfl, Nat.le_of_ble_eq_true rfl⟩ dX9_most_32 (fun r8 s9 => ?_)
      refine g_bif_eq (pc := 35) (tgt := 40) hC dX9_most_35 (by decide) ?_ ?_
      · refine g_iinc (pc := 40) (q := 2) (w := (-1)) (lv' := fun v10 => [(2, .int v10), (0, .ref (G.2.1 0)), (1, .int x4)]) hC dX9_most_40 rfl (by decide) (by decide) (fun _ => rfl) (fun v10 => ?_)
        refine g_goto (pc := 43) (tgt := 15) hC dX9_most_43 (by decide) ?_
        exact gT_sub [1, 2, 0] rfl (ih s9 x4 v10)
      · refine g_iload_n (pc := 38) (q := 2) hC dX9_most_38 rfl rfl ?_
        exact g_iret (pc := 39) hC dX9_most_39
def mX9_most (σ : gS) (p0 : Int32) : Option (Int32 × gS) := gBind (mX9_within σ p0 0 29) (fun r1 s2 => if r1 = true then (gLet 24 (fun v3 => (mX9_most_b15  1100 s2 p0 v3))) else (some ((-1), s2)))
set_option maxHeartbeats 4000000 in
set_option maxRecDepth 100000 in
theorem tX9_most (l : Launch) (G : gE) (σ : gS) (p0 : Int32) : gM l G yX9_most cX9_most 3 (some .int) rX9_most iI [.ref (G.2.1 0), .int p0] σ (mX9_most σ p0) := by
  refine gM_of (by decide) (Nat.le_of_ble_eq_true rfl) ?_
  intro p e s m args below meth c hC
  unfold mX9_most
  show gT p l e rX9_most s m args below meth c G 3 iI σ 0 [(0, .ref (G.2.1 0)), (1, .int p0)] [] _
  refine g_iload_n (pc := 0) (q := 1) hC dX9_most_0 rfl rfl ?_
  refine g_iconst (pc := 1) (v := 0) hC dX9_most_1 (by decide) ?_
  refine g_bipush (pc := 2) (v := 29) hC dX9_most_2 (by decide) ?_
  refine g_callSz (pc := 4) (As := [.int p0, .int 0, .int 29]) (rest := []) hC lk_RX9_102 (tX9_within _ _ σ p0 0 29) rfl rfl (Nat.le_of_ble_eq_true rfl) ⟨rfl, rfl, Nat.le_of_ble_eq_true rfl, Nat.le_of_ble_eq_true rfl⟩ dX9_most_4 (fun r1 s2 => ?_)
  refine g_bif_ne (pc := 7) (tgt := 12) hC dX9_most_7 (by decide) ?_ ?_
  · refine g_bipush (pc := 12) (v := 24) hC dX9_most_12 (by decide) ?_
    refine g_istore_n (pc := 14) (lv' := fun v3 => [(2, .int v3), (0, .ref (G.2.1 0)), (1, .int p0)]) hC dX9_most_14 rfl (by decide) (fun _ => rfl) (fun v3 => ?_)
    exact gT_sub [1, 2, 0] rfl (wX9_most_b15 hC  1100 s2 p0 v3)
  · refine g_iconst (pc := 10) (v := (-1)) hC dX9_most_10 (by decide) ?_
    exact g_iret (pc := 11) hC dX9_most_11
theorem cst_RX9_226 : Cond.constantLong RX9 226 (-9223372036854775808) ∈ gBig := (gBig_tab 801 (by decide +kernel) (by decide +kernel))
theorem fl_RX9_228 : Cond.fieldLink RX9 228 "WinterShed$Village" "farms" "I" ∈ gBig := (gBig_tab 35 (by decide +kernel) (by decide +kernel))
theorem lk_RX9_234 : gLS RX9 234 yX9_commonDivisor cX9_commonDivisor 6 (some .int) 2 := ⟨(gBig_tab 806 (by decide +kernel) (by decide +kernel)), (gBig_tab 807 (by decide +kernel) (by decide +kernel)), (gBig_tab 1 (by decide +kernel) (by decide +kernel)), (gBig_tab 808 (by decide +kernel) (by decide +kernel)), by decide +kernel, by decide +kernel, by decide +kernel⟩
theorem lk_RX9_231 : gLV RX9 231 RX8 yX8_decides cX8_decides 5 (some .int) 1 := ⟨(gBig_tab 802 (by decide +kernel) (by decide +kernel)), (gBig_tab 803 (by decide +kernel) (by decide +kernel)), (gBig_tab 804 (by decide +kernel) (by decide +kernel)), (gBig_tab 2 (by decide +kernel) (by decide +kernel)), (gBig_tab 805 (by decide +kernel) (by decide +kernel)), rfl, by decide +kernel, by decide +kernel, by decide +kernel⟩
theorem dX9_power_0 : decode cX9_power 0 = .ok (.aload_n 0, 1) := by decide +kernel
theorem dX9_power_1 : decode cX9_power 1 = .ok (.getfield 10, 3) := by decide +kernel
theorem dX9_power_4 : decode cX9_power 4 = .ok (.iload_n 1, 1) := by decide +kernel
theorem dX9_power_5 : decode cX9_power 5 = .ok (.invokevirtual 162, 3) := by decide +kernel
theorem dX9_power_8 : decode cX9_power 8 = .ok (.ifCond .eq 12, 3) := by decide +kernel
theorem dX9_power_11 : decode cX9_power 11 = .ok (.iload_n 2, 1) := by decide +kernel
theorem dX9_power_12 : decode cX9_power 12 = .ok (.iconst 0, 1) := by decide +kernel
theorem dX9_power_13 : decode cX9_power 13 = .ok (.iconst 1, 1) := by decide +kernel
theorem dX9_power_14 : decode cX9_power 14 = .ok (.invokestatic 102, 3) := by decide +kernel
theorem dX9_power_17 : decode cX9_power 17 = .ok (.ifCond .ne 7, 3) := by decide +kernel
theorem dX9_power_20 : decode cX9_power 20 = .ok (.ldc2_w 226, 3) := by decide +kernel
theorem dX9_power_23 : decode cX9_power 23 = .ok (.lreturn, 1) := by decide +kernel
theorem dX9_power_24 : decode cX9_power 24 = .ok (.iconst 1, 1) := by decide +kernel
theorem dX9_power_25 : decode cX9_power 25 = .ok (.aload_n 0, 1) := by decide +kernel
theorem dX9_power_26 : decode cX9_power 26 = .ok (.getfield 10, 3) := by decide +kernel
theorem dX9_power_29 : decode cX9_power 29 = .ok (.getfield 228, 3) := by decide +kernel
theorem dX9_power_32 : decode cX9_power 32 = .ok (.iconst 1, 1) := by decide +kernel
theorem dX9_power_33 : decode cX9_power 33 = .ok (.isub, 1) := by decide +kernel
theorem dX9_power_34 : decode cX9_power 34 = .ok (.ishl, 1) := by decide +kernel
theorem dX9_power_35 : decode cX9_power 35 = .ok (.istore_n 3, 1) := by decide +kernel
theorem dX9_power_36 : decode cX9_power 36 = .ok (.aload_n 0, 1) := by decide +kernel
theorem dX9_power_37 : decode cX9_power 37 = .ok (.getfield 10, 3) := by decide +kernel
theorem dX9_power_40 : decode cX9_power 40 = .ok (.iload_n 1, 1) := by decide +kernel
theorem dX9_power_41 : decode cX9_power 41 = .ok (.invokevirtual 231, 3) := by decide +kernel
theorem dX9_power_44 : decode cX9_power 44 = .ok (.istore 4, 2) := by decide +kernel
theorem dX9_power_46 : decode cX9_power 46 = .ok (.iload_n 3, 1) := by decide +kernel
theorem dX9_power_47 : decode cX9_power 47 = .ok (.iload 4, 2) := by decide +kernel
theorem dX9_power_49 : decode cX9_power 49 = .ok (.invokestatic 234, 3) := by decide +kernel
theorem dX9_power_52 : decode cX9_power 52 = .ok (.istore 5, 2) := by decide +kernel
theorem dX9_power_54 : decode cX9_power 54 = .ok (.iload_n 2, 1) := by decide +kernel
theorem dX9_power_55 : decode cX9_power 55 = .ok (.ifCond .ne 8, 3) := by decide +kernel
theorem dX9_power_58 : decode cX9_power 58 = .ok (.iload 4, 2) := by decide +kernel
theorem dX9_power_60 : decode cX9_power 60 = .ok (.goto 4, 3) := by decide +kernel
theorem dX9_power_63 : decode cX9_power 63 = .ok (.iload_n 3, 1) := by decide +kernel
theorem dX9_power_64 : decode cX9_power 64 = .ok (.iload 5, 2) := by decide +kernel
theorem dX9_power_66 : decode cX9_power 66 = .ok (.idiv, 1) := by decide +kernel
theorem dX9_power_67 : decode cX9_power 67 = .ok (.i2l, 1) := by decide +kernel
theorem dX9_power_68 : decode cX9_power 68 = .ok (.lreturn, 1) := by decide +kernel
abbrev rX9_power : Room := { frames := 3, cells := 0, slots := 0, locals := 68 }
def mX9_power (σ : gS) (p0 : Int32) (p1 : Int32) : Option (Int64 × gS) := gBind (mX8_hasFarm σ p0) (fun r1 s2 => if r1 = true then (gBind (mX9_within s2 p1 0 1) (fun r3 s4 => if r3 = true then (gLet (1 <<< (((s4.1 1 0) - 1) &&& 31)) (fun v5 => gBind (mX8_decides s4 p0) (fun r6 s7 => gLet r6 (fun v8 => gBind (mX9_commonDivisor s7 v5 v8) (fun r9 s10 => gLet r9 (fun v11 => if p1 = 0 then (if v11 = 0 then none else some ((Int32.toInt64 (v8 / v11)), s10)) else (if v11 = 0 then none else some ((Int32.toInt64 (v5 / v11)), s10)))))))) else (some ((-9223372036854775808), s4)))) else (some ((-9223372036854775808), s2)))
set_option maxHeartbeats 4000000 in
set_option maxRecDepth 100000 in
theorem tX9_power (l : Launch) (G : gE) (σ : gS) (p0 : Int32) (p1 : Int32) : gM l G yX9_power cX9_power 6 (some .long) rX9_power iJ [.ref (G.2.1 0), .int p0, .int p1] σ (mX9_power σ p0 p1) := by
  refine gM_of (by decide) (Nat.le_of_ble_eq_true rfl) ?_
  intro p e s m args below meth c hC
  unfold mX9_power
  show gT p l e rX9_power s m args below meth c G 6 iJ σ 0 [(0, .ref (G.2.1 0)), (1, .int p0), (2, .int p1)] [] _
  refine g_aload_n (pc := 0) (q := 0) hC dX9_power_0 rfl rfl ?_
  refine g_get (pc := 1) (v := .ref (G.2.1 1)) hC kX9 rfl 0 (by decide) fl_RX9_10 rfl dX9_power_1 ?_
  refine g_iload_n (pc := 4) (q := 1) hC dX9_power_4 rfl rfl ?_
  refine g_callVz (pc := 5) (As := [.int p0]) (rest := []) hC lk_RX9_162 kX8 rfl (tX8_hasFarm _ _ σ p0) rfl rfl (Nat.le_of_ble_eq_true rfl) ⟨rfl, rfl, Nat.le_of_ble_eq_true rfl, Nat.le_of_ble_eq_true rfl⟩ dX9_power_5 (fun r1 s2 => ?_)
  refine g_bif_eq (pc := 8) (tgt := 20) hC dX9_power_8 (by decide) ?_ ?_
  · refine g_ldc2 (pc := 20) hC dX9_power_20 cst_RX9_226 ?_
    exact g_lret (pc := 23) hC dX9_power_23
  · refine g_iload_n (pc := 11) (q := 2) hC dX9_power_11 rfl rfl ?_
    refine g_iconst (pc := 12) (v := 0) hC dX9_power_12 (by decide) ?_
    refine g_iconst (pc := 13) (v := 1) hC dX9_power_13 (by decide) ?_
    refine g_callSz (pc := 14) (As := [.int p1, .int 0, .int 1]) (rest := []) hC lk_RX9_102 (tX9_within _ _ s2 p1 0 1) rfl rfl (Nat.le_of_ble_eq_true rfl) ⟨rfl, rfl, Nat.le_of_ble_eq_true rfl, Nat.le_of_ble_eq_true rfl⟩ dX9_power_14 (fun r3 s4 => ?_)
    refine g_bif_ne (pc := 17) (tgt := 24) hC dX9_power_17 (by decide) ?_ ?_
    · refine g_iconst (pc := 24) (v := 1) hC dX9_power_24 (by decide) ?_
      refine g_aload_n (pc := 25) (q := 0) hC dX9_power_25 rfl rfl ?_
      refine g_get (pc := 26) (v := .ref (G.2.1 1)) hC kX9 rfl 0 (by decide) fl_RX9_10 rfl dX9_power_26 ?_
      refine g_get (pc := 29) (v := .int (s4.1 1 0)) hC kX8 rfl 0 (by decide) fl_RX9_228 rfl dX9_power_29 ?_
      refine g_iconst (pc := 32) (v := 1) hC dX9_power_32 (by decide) ?_
      refine g_isub (pc := 33) hC dX9_power_33 ?_
      refine g_ishl (pc := 34) hC dX9_power_34 ?_
      refine g_istore_n (pc := 35) (lv' := fun v5 => [(3, .int v5), (0, .ref (G.2.1 0)), (1, .int p0), (2, .int p1)]) hC dX9_power_35 rfl (by decide) (fun _ => rfl) (fun v5 => ?_)
      refine g_aload_n (pc := 36) (q := 1) hC dX9_power_36 rfl rfl ?_
      refine g_get (pc := 37) (v := .ref (G.2.1 1)) hC kX9 rfl 0 (by decide) fl_RX9_10 rfl dX9_power_37 ?_
      refine g_iload_n (pc := 40) (q := 2) hC dX9_power_40 rfl rfl ?_
      refine g_callVi (pc := 41) (As := [.int p0]) (rest := []) hC lk_RX9_231 kX8 rfl (tX8_decides _ _ s4 p0) rfl rfl (Nat.le_of_ble_eq_true rfl) ⟨rfl, rfl, Nat.le_of_ble_eq_true rfl, Nat.le_of_ble_eq_true rfl⟩ dX9_power_41 (fun r6 s7 => ?_)
      refine g_istore (pc := 44) (lv' := fun v8 => [(4, .int v8), (3, .int v5), (0, .ref (G.2.1 0)), (1, .int p0), (2, .int p1)]) hC dX9_power_44 (by decide) (fun _ => rfl) (fun v8 => ?_)
      refine g_iload_n (pc := 46) (q := 1) hC dX9_power_46 rfl rfl ?_
      refine g_iload (pc := 47) (q := 0) hC dX9_power_47 rfl ?_
      refine g_callSi (pc := 49) (As := [.int v5, .int v8]) (rest := []) hC lk_RX9_234 (tX9_commonDivisor _ _ s7 v5 v8) rfl rfl (Nat.le_of_ble_eq_true rfl) ⟨rfl, rfl, Nat.le_of_ble_eq_true rfl, Nat.le_of_ble_eq_true rfl⟩ dX9_power_49 (fun r9 s10 => ?_)
      refine g_istore (pc := 52) (lv' := fun v11 => [(5, .int v11), (4, .int v8), (3, .int v5), (0, .ref (G.2.1 0)), (1, .int p0), (2, .int p1)]) hC dX9_power_52 (by decide) (fun _ => rfl) (fun v11 => ?_)
      refine g_iload_n (pc := 54) (q := 5) hC dX9_power_54 rfl rfl ?_
      refine g_if_ne (pc := 55) (tgt := 63) hC dX9_power_55 (by decide) ?_ ?_
      · refine g_iload_n (pc := 63) (q := 2) hC dX9_power_63 rfl rfl ?_
        refine g_iload (pc := 64) (q := 0) hC dX9_power_64 rfl ?_
        refine g_idiv (pc := 66) hC dX9_power_66 ?_
        refine g_i2l (pc := 67) hC dX9_power_67 ?_
        exact g_lret (pc := 68) hC dX9_power_68
      · refine g_iload (pc := 58) (q := 1) hC dX9_power_58 rfl ?_
        refine g_goto (pc := 60) (tgt := 64) hC dX9_power_60 (by decide) ?_
        refine g_iload (pc := 64) (q := 0) hC dX9_power_64 rfl ?_
        refine g_idiv (pc := 66) hC dX9_power_66 ?_
        refine g_i2l (pc := 67) hC dX9_power_67 ?_
        exact g_lret (pc := 68) hC dX9_power_68
    · refine g_ldc2 (pc := 20) hC dX9_power_20 cst_RX9_226 ?_
      exact g_lret (pc := 23) hC dX9_power_23
theorem cst_RX9_237 : Cond.constant RX9 237 (-33554431) ∈ gBig := (gBig_tab 813 (by decide +kernel) (by decide +kernel))
theorem lk_RX9_238 : gLV RX9 238 RX8 yX8_prefer cX8_prefer 6 (some .int) 3 := ⟨(gBig_tab 814 (by decide +kernel) (by decide +kernel)), (gBig_tab 815 (by decide +kernel) (by decide +kernel)), (gBig_tab 816 (by decide +kernel) (by decide +kernel)), (gBig_tab 2 (by decide +kernel) (by decide +kernel)), (gBig_tab 817 (by decide +kernel) (by decide +kernel)), rfl, by decide +kernel, by decide +kernel, by decide +kernel⟩
theorem dX9_agenda_0 : decode cX9_agenda 0 = .ok (.iload_n 1, 1) := by decide +kernel
theorem dX9_agenda_1 : decode cX9_agenda 1 = .ok (.iconst 0, 1) := by decide +kernel
theorem dX9_agenda_2 : decode cX9_agenda 2 = .ok (.bipush 29, 2) := by decide +kernel
theorem dX9_agenda_4 : decode cX9_agenda 4 = .ok (.invokestatic 102, 3) := by decide +kernel
theorem dX9_agenda_7 : decode cX9_agenda 7 = .ok (.ifCond .eq 10, 3) := by decide +kernel
theorem dX9_agenda_10 : decode cX9_agenda 10 = .ok (.iload_n 2, 1) := by decide +kernel
theorem dX9_agenda_11 : decode cX9_agenda 11 = .ok (.ldc 237, 2) := by decide +kernel
theorem dX9_agenda_13 : decode cX9_agenda 13 = .ok (.iand, 1) := by decide +kernel
theorem dX9_agenda_14 : decode cX9_agenda 14 = .ok (.ifCond .eq 5, 3) := by decide +kernel
theorem dX9_agenda_17 : decode cX9_agenda 17 = .ok (.iconst (-1), 1) := by decide +kernel
theorem dX9_agenda_18 : decode cX9_agenda 18 = .ok (.ireturn, 1) := by decide +kernel
theorem dX9_agenda_19 : decode cX9_agenda 19 = .ok (.iconst 0, 1) := by decide +kernel
theorem dX9_agenda_20 : decode cX9_agenda 20 = .ok (.istore_n 3, 1) := by decide +kernel
theorem dX9_agenda_21 : decode cX9_agenda 21 = .ok (.iconst 1, 1) := by decide +kernel
theorem dX9_agenda_22 : decode cX9_agenda 22 = .ok (.istore 4, 2) := by decide +kernel
theorem dX9_agenda_24 : decode cX9_agenda 24 = .ok (.iload 4, 2) := by decide +kernel
theorem dX9_agenda_26 : decode cX9_agenda 26 = .ok (.bipush 24, 2) := by decide +kernel
theorem dX9_agenda_28 : decode cX9_agenda 28 = .ok (.if_icmp .gt 43, 3) := by decide +kernel
theorem dX9_agenda_31 : decode cX9_agenda 31 = .ok (.iload_n 2, 1) := by decide +kernel
theorem dX9_agenda_32 : decode cX9_agenda 32 = .ok (.iload 4, 2) := by decide +kernel
theorem dX9_agenda_34 : decode cX9_agenda 34 = .ok (.ishr, 1) := by decide +kernel
theorem dX9_agenda_35 : decode cX9_agenda 35 = .ok (.iconst 1, 1) := by decide +kernel
theorem dX9_agenda_36 : decode cX9_agenda 36 = .ok (.iand, 1) := by decide +kernel
theorem dX9_agenda_37 : decode cX9_agenda 37 = .ok (.iconst 1, 1) := by decide +kernel
theorem dX9_agenda_38 : decode cX9_agenda 38 = .ok (.if_icmp .ne 27, 3) := by decide +kernel
theorem dX9_agenda_41 : decode cX9_agenda 41 = .ok (.aload_n 0, 1) := by decide +kernel
theorem dX9_agenda_42 : decode cX9_agenda 42 = .ok (.getfield 10, 3) := by decide +kernel
theorem dX9_agenda_45 : decode cX9_agenda 45 = .ok (.aload_n 0, 1) := by decide +kernel
theorem dX9_agenda_46 : decode cX9_agenda 46 = .ok (.getfield 10, 3) := by decide +kernel
theorem dX9_agenda_49 : decode cX9_agenda 49 = .ok (.iload_n 1, 1) := by decide +kernel
theorem dX9_agenda_50 : decode cX9_agenda 50 = .ok (.iload 4, 2) := by decide +kernel
theorem dX9_agenda_52 : decode cX9_agenda 52 = .ok (.iload_n 3, 1) := by decide +kernel
theorem dX9_agenda_53 : decode cX9_agenda 53 = .ok (.invokevirtual 238, 3) := by decide +kernel
theorem dX9_agenda_56 : decode cX9_agenda 56 = .ok (.invokevirtual 221, 3) := by decide +kernel
theorem dX9_agenda_59 : decode cX9_agenda 59 = .ok (.ifCond .eq 6, 3) := by decide +kernel
theorem dX9_agenda_62 : decode cX9_agenda 62 = .ok (.iload 4, 2) := by decide +kernel
theorem dX9_agenda_64 : decode cX9_agenda 64 = .ok (.istore_n 3, 1) := by decide +kernel
theorem dX9_agenda_65 : decode cX9_agenda 65 = .ok (.iinc 4 1, 3) := by decide +kernel
theorem dX9_agenda_68 : decode cX9_agenda 68 = .ok (.goto (-44), 3) := by decide +kernel
theorem dX9_agenda_71 : decode cX9_agenda 71 = .ok (.iload_n 3, 1) := by decide +kernel
theorem dX9_agenda_72 : decode cX9_agenda 72 = .ok (.ireturn, 1) := by decide +kernel
abbrev rX9_agenda : Room := { frames := 4, cells := 0, slots := 0, locals := 97 }
def mX9_agenda_b65   (k24 : gS → Int32 → Int32 → Int32 → Int32 → Option (Int32 × gS)) (σ : gS) (x9 : Int32) (x10 : Int32) (x11 : Int32) (x12 : Int32) : Option (Int32 × gS) := gLet (x12 + 1) (fun v13 => (k24 σ x9 x10 x11 v13))
set_option maxHeartbeats 4000000 in
set_option maxRecDepth 100000 in
theorem wX9_agenda_b65 {p : Program} {l : Launch} {e : Env} {s : State} {m : MethodId} {args : Array Value} {below : List Frame} {meth : Method} {c : Code} {G : gE} (hC : gCx p s m args meth c G RX9 cX9_agenda 5 (some .int))    {k24 : gS → Int32 → Int32 → Int32 → Int32 → Option (Int32 × gS)} (hk24 : ∀ (σ : gS) (x5 : Int32) (x6 : Int32) (x7 : Int32) (x8 : Int32), gT p l e rX9_agenda s m args below meth c G 5 iI σ 24 [(0, .ref (G.2.1 0)), (1, .int x5), (2, .int x6), (3, .int x7), (4, .int x8)] [] (k24 σ x5 x6 x7 x8)) (σ : gS) (x9 : Int32) (x10 : Int32) (x11 : Int32) (x12 : Int32)  : gT p l e rX9_agenda s m args below meth c G 5 iI σ 65 [(0, .ref (G.2.1 0)), (1, .int x9), (2, .int x10), (3, .int x11), (4, .int x12)] [] (mX9_agenda_b65 k24 σ x9 x10 x11 x12) := by
  unfold mX9_agenda_b65
  refine g_iinc (pc := 65) (q := 4) (w := 1) (lv' := fun v13 => [(4, .int v13), (0, .ref (G.2.1 0)), (1, .int x9), (2, .int x10), (3, .int x11)]) hC dX9_agenda_65 rfl (by decide) (by decide) (fun _ => rfl) (fun v13 => ?_)
  refine g_goto (pc := 68) (tgt := 24) hC dX9_agenda_68 (by decide) ?_
  exact gT_sub [1, 2, 3, 4, 0] rfl (hk24 σ x9 x10 x11 v13)
def mX9_agenda_b24    : Nat → gS → Int32 → Int32 → Int32 → Int32 → Option (Int32 × gS)
  | 0, _, _, _, _, _ => none
  | n + 1, σ, x5, x6, x7, x8 => if 24 < x8 then (some (x7, σ)) else (if ((x6 >>> (x8 &&& 31)) &&& 1) = 1 then (gBind (mX8_prefer σ x5 x8 x7) (fun r14 s15 => gBind (mX8_carries s15 r14) (fun r16 s17 => if r16 = true then (gLet x8 (fun v18 => (mX9_agenda_b65 (mX9_agenda_b24  n) s17 x5 x6 v18 x8))) else ((mX9_agenda_b65 (mX9_agenda_b24  n) s17 x5 x6 x7 x8))))) else ((mX9_agenda_b65 (mX9_agenda_b24  n) σ x5 x6 x7 x8)))
set_option maxHeartbeats 4000000 in
set_option maxRecDepth 100000 in
theorem wX9_agenda_b24 {p : Program} {l : Launch} {e : Env} {s : State} {m : MethodId} {args : Array Value} {below : List Frame} {meth : Method} {c : Code} {G : gE} (hC : gCx p s m args meth c G RX9 cX9_agenda 5 (some .int))     (n : Nat) (σ : gS) (x5 : Int32) (x6 : Int32) (x7 : Int32) (x8 : Int32)  : gT p l e rX9_agenda s m args below meth c G 5 iI σ 24 [(0, .ref (G.2.1 0)), (1, .int x5), (2, .int x6), (3, .int x7), (4, .int x8)] [] (mX9_agenda_b24  n σ x5 x6 x7 x8) := by
  induction n generalizing σ x5 x6 x7 x8 with
  | zero => exact gT_none
  | succ n ih =>
    unfold mX9_agenda_b24
    refine g_iload (pc := 24) (q := 4) hC dX9_agenda_24 rfl ?_
    refine g_bipush (pc := 26) (v := 24) hC dX9_agenda_26 (by decide) ?_
    refine g_icmp_gt (pc := 28) (tgt := 71) hC dX9_agenda_28 (by decide) ?_ ?_
    · refine g_iload_n (pc := 71) (q := 3) hC dX9_agenda_71 rfl rfl ?_
      exact g_iret (pc := 72) hC dX9_agenda_72
    · refine g_iload_n (pc := 31) (q := 2) hC dX9_agenda_31 rfl rfl ?_
      refine g_iload (pc := 32) (q := 4) hC dX9_agenda_32 rfl ?_
      refine g_ishr (pc := 34) hC dX9_agenda_34 ?_
      refine g_iconst (pc := 35) (v := 1) hC dX9_agenda_35 (by decide) ?_
      refine g_iand (pc := 36) hC dX9_agenda_36 ?_
      refine g_iconst (pc := 37) (v := 1) hC dX9_agenda_37 (by decide) ?_
      refine g_icmp_ne (pc := 38) (tgt := 65) hC dX9_agenda_38 (by decide) ?_ ?_
      · exact gT_sub [0, 1, 2, 3, 4] rfl (wX9_agenda_b65 hC ih σ x5 x6 x7 x8)
      · refine g_aload_n (pc := 41) (q := 0) hC dX9_agenda_41 rfl rfl ?_
        refine g_get (pc := 42) (v := .ref (G.2.1 1)) hC kX9 rfl 0 (by decide) fl_RX9_10 rfl dX9_agenda_42 ?_
        refine g_aload_n (pc := 45) (q := 0) hC dX9_agenda_45 rfl rfl ?_
        refine g_get (pc := 46) (v := .ref (G.2.1 1)) hC kX9 rfl 0 (by decide) fl_RX9_10 rfl dX9_agenda_46 ?_
        refine g_iload_n (pc := 49) (q := 1) hC dX9_agenda_49 rfl rfl ?_
        refine g_iload (pc := 50) (q := 4) hC dX9_agenda_50 rfl ?_
        refine g_iload_n (pc := 52) (q := 3) hC dX9_agenda_52 rfl rfl ?_
        refine g_callVi (pc := 53) (As := [.int x5, .int x8, .int x7]) (rest := [.ref (G.2.1 1)]) hC lk_RX9_238 kX8 rfl (tX8_prefer _ _ σ x5 x8 x7) rfl rfl (Nat.le_of_ble_eq_true rfl) ⟨rfl, rfl, Nat.le_of_ble_eq_true rfl, Nat.le_of_ble_eq_true rfl⟩ dX9_agenda_53 (fun r14 s15 => ?_)
        refine g_callVz (pc := 56) (As := [.int r14]) (rest := []) hC lk_RX9_221 kX8 rfl (tX8_carries _ _ s15 r14) rfl rfl (Nat.le_of_ble_eq_true rfl) ⟨rfl, rfl, Nat.le_of_ble_eq_true rfl, Nat.le_of_ble_eq_true rfl⟩ dX9_agenda_56 (fun r16 s17 => ?_)
        refine g_bif_eq (pc := 59) (tgt := 65) hC dX9_agenda_59 (by decide) ?_ ?_
        · exact gT_sub [0, 1, 2, 3, 4] rfl (wX9_agenda_b65 hC ih s17 x5 x6 x7 x8)
        · refine g_iload (pc := 62) (q := 4) hC dX9_agenda_62 rfl ?_
          refine g_istore_n (pc := 64) (lv' := fun v18 => [(3, .int v18), (0, .ref (G.2.1 0)), (1, .int x5), (2, .int x6), (4, .int x8)]) hC dX9_agenda_64 rfl (by decide) (fun _ => rfl) (fun v18 => ?_)
          exact gT_sub [1, 2, 3, 0, 4] rfl (wX9_agenda_b65 hC ih s17 x5 x6 v18 x8)
def mX9_agenda (σ : gS) (p0 : Int32) (p1 : Int32) : Option (Int32 × gS) := gBind (mX9_within σ p0 0 29) (fun r1 s2 => if r1 = true then (if (p1 &&& (-33554431)) = 0 then (gLet 0 (fun v3 => gLet 1 (fun v4 => (mX9_agenda_b24  1100 s2 p0 p1 v3 v4)))) else (some ((-1), s2))) else (some ((-1), s2)))
set_option maxHeartbeats 4000000 in
set_option maxRecDepth 100000 in
theorem tX9_agenda (l : Launch) (G : gE) (σ : gS) (p0 : Int32) (p1 : Int32) : gM l G yX9_agenda cX9_agenda 5 (some .int) rX9_agenda iI [.ref (G.2.1 0), .int p0, .int p1] σ (mX9_agenda σ p0 p1) := by
  refine gM_of (by decide) (Nat.le_of_ble_eq_true rfl) ?_
  intro p e s m args below meth c hC
  unfold mX9_agenda
  show gT p l e rX9_agenda s m args below meth c G 5 iI σ 0 [(0, .ref (G.2.1 0)), (1, .int p0), (2, .int p1)] [] _
  refine g_iload_n (pc := 0) (q := 1) hC dX9_agenda_0 rfl rfl ?_
  refine g_iconst (pc := 1) (v := 0) hC dX9_agenda_1 (by decide) ?_
  refine g_bipush (pc := 2) (v := 29) hC dX9_agenda_2 (by decide) ?_
  refine g_callSz (pc := 4) (As := [.int p0, .int 0, .int 29]) (rest := []) hC lk_RX9_102 (tX9_within _ _ σ p0 0 29) rfl rfl (Nat.le_of_ble_eq_true rfl) ⟨rfl, rfl, Nat.le_of_ble_eq_true rfl, Nat.le_of_ble_eq_true rfl⟩ dX9_agenda_4 (fun r1 s2 => ?_)
  refine g_bif_eq (pc := 7) (tgt := 17) hC dX9_agenda_7 (by decide) ?_ ?_
  · refine g_iconst (pc := 17) (v := (-1)) hC dX9_agenda_17 (by decide) ?_
    exact g_iret (pc := 18) hC dX9_agenda_18
  · refine g_iload_n (pc := 10) (q := 2) hC dX9_agenda_10 rfl rfl ?_
    refine g_ldc (pc := 11) hC dX9_agenda_11 cst_RX9_237 ?_
    refine g_iand (pc := 13) hC dX9_agenda_13 ?_
    refine g_if_eq (pc := 14) (tgt := 19) hC dX9_agenda_14 (by decide) ?_ ?_
    · refine g_iconst (pc := 19) (v := 0) hC dX9_agenda_19 (by decide) ?_
      refine g_istore_n (pc := 20) (lv' := fun v3 => [(3, .int v3), (0, .ref (G.2.1 0)), (1, .int p0), (2, .int p1)]) hC dX9_agenda_20 rfl (by decide) (fun _ => rfl) (fun v3 => ?_)
      refine g_iconst (pc := 21) (v := 1) hC dX9_agenda_21 (by decide) ?_
      refine g_istore (pc := 22) (lv' := fun v4 => [(4, .int v4), (3, .int v3), (0, .ref (G.2.1 0)), (1, .int p0), (2, .int p1)]) hC dX9_agenda_22 (by decide) (fun _ => rfl) (fun v4 => ?_)
      exact gT_sub [2, 3, 4, 1, 0] rfl (wX9_agenda_b24 hC  1100 s2 p0 p1 v3 v4)
    · refine g_iconst (pc := 17) (v := (-1)) hC dX9_agenda_17 (by decide) ?_
      exact g_iret (pc := 18) hC dX9_agenda_18
theorem lk_RX9_242 : gLV RX9 242 RX9 yX9_bestPrice cX9_bestPrice 6 (some .int) 1 := ⟨(gBig_tab 822 (by decide +kernel) (by decide +kernel)), (gBig_tab 824 (by decide +kernel) (by decide +kernel)), (gBig_sel 30 (by decide +kernel) (by decide +kernel)), (gBig_tab 1 (by decide +kernel) (by decide +kernel)), (gBig_tab 825 (by decide +kernel) (by decide +kernel)), rfl, by decide +kernel, by decide +kernel, by decide +kernel⟩
theorem dX9_price_0 : decode cX9_price 0 = .ok (.iload_n 1, 1) := by decide +kernel
theorem dX9_price_1 : decode cX9_price 1 = .ok (.iconst 0, 1) := by decide +kernel
theorem dX9_price_2 : decode cX9_price 2 = .ok (.bipush 29, 2) := by decide +kernel
theorem dX9_price_4 : decode cX9_price 4 = .ok (.invokestatic 102, 3) := by decide +kernel
theorem dX9_price_7 : decode cX9_price 7 = .ok (.ifCond .eq 13, 3) := by decide +kernel
theorem dX9_price_10 : decode cX9_price 10 = .ok (.iload_n 2, 1) := by decide +kernel
theorem dX9_price_11 : decode cX9_price 11 = .ok (.iconst (-1), 1) := by decide +kernel
theorem dX9_price_12 : decode cX9_price 12 = .ok (.bipush 99, 2) := by decide +kernel
theorem dX9_price_14 : decode cX9_price 14 = .ok (.invokestatic 102, 3) := by decide +kernel
theorem dX9_price_17 : decode cX9_price 17 = .ok (.ifCond .ne 5, 3) := by decide +kernel
theorem dX9_price_20 : decode cX9_price 20 = .ok (.iconst (-1), 1) := by decide +kernel
theorem dX9_price_21 : decode cX9_price 21 = .ok (.ireturn, 1) := by decide +kernel
theorem dX9_price_22 : decode cX9_price 22 = .ok (.iload_n 2, 1) := by decide +kernel
theorem dX9_price_23 : decode cX9_price 23 = .ok (.iconst (-1), 1) := by decide +kernel
theorem dX9_price_24 : decode cX9_price 24 = .ok (.if_icmp .ne 11, 3) := by decide +kernel
theorem dX9_price_27 : decode cX9_price 27 = .ok (.aload_n 0, 1) := by decide +kernel
theorem dX9_price_28 : decode cX9_price 28 = .ok (.iload_n 1, 1) := by decide +kernel
theorem dX9_price_29 : decode cX9_price 29 = .ok (.invokevirtual 242, 3) := by decide +kernel
theorem dX9_price_32 : decode cX9_price 32 = .ok (.goto 9, 3) := by decide +kernel
theorem dX9_price_35 : decode cX9_price 35 = .ok (.aload_n 0, 1) := by decide +kernel
theorem dX9_price_36 : decode cX9_price 36 = .ok (.iload_n 1, 1) := by decide +kernel
theorem dX9_price_37 : decode cX9_price 37 = .ok (.iload_n 2, 1) := by decide +kernel
theorem dX9_price_38 : decode cX9_price 38 = .ok (.invokevirtual 245, 3) := by decide +kernel
theorem dX9_price_41 : decode cX9_price 41 = .ok (.ireturn, 1) := by decide +kernel
abbrev rX9_price : Room := { frames := 4, cells := 0, slots := 0, locals := 92 }
def mX9_price (σ : gS) (p0 : Int32) (p1 : Int32) : Option (Int32 × gS) := gBind (mX9_within σ p0 0 29) (fun r1 s2 => if r1 = true then (gBind (mX9_within s2 p1 (-1) 99) (fun r3 s4 => if r3 = true then (if p1 = (-1) then (gBind (mX9_bestPrice s4 p0) (fun r7 s8 => some (r7, s8))) else (gBind (mX9_sold s4 p0 p1) (fun r5 s6 => some (r5, s6)))) else (some ((-1), s4)))) else (some ((-1), s2)))
set_option maxHeartbeats 4000000 in
set_option maxRecDepth 100000 in
theorem tX9_price (l : Launch) (G : gE) (σ : gS) (p0 : Int32) (p1 : Int32) : gM l G yX9_price cX9_price 3 (some .int) rX9_price iI [.ref (G.2.1 0), .int p0, .int p1] σ (mX9_price σ p0 p1) := by
  refine gM_of (by decide) (Nat.le_of_ble_eq_true rfl) ?_
  intro p e s m args below meth c hC
  unfold mX9_price
  show gT p l e rX9_price s m args below meth c G 3 iI σ 0 [(0, .ref (G.2.1 0)), (1, .int p0), (2, .int p1)] [] _
  refine g_iload_n (pc := 0) (q := 1) hC dX9_price_0 rfl rfl ?_
  refine g_iconst (pc := 1) (v := 0) hC dX9_price_1 (by decide) ?_
  refine g_bipush (pc := 2) (v := 29) hC dX9_price_2 (by decide) ?_
  refine g_callSz (pc := 4) (As := [.int p0, .int 0, .int 29]) (rest := []) hC lk_RX9_102 (tX9_within _ _ σ p0 0 29) rfl rfl (Nat.le_of_ble_eq_true rfl) ⟨rfl, rfl, Nat.le_of_ble_eq_true rfl, Nat.le_of_ble_eq_true rfl⟩ dX9_price_4 (fun r1 s2 => ?_)
  refine g_bif_eq (pc := 7) (tgt := 20) hC dX9_price_7 (by decide) ?_ ?_
  · refine g_iconst (pc := 20) (v := (-1)) hC dX9_price_20 (by decide) ?_
    exact g_iret (pc := 21) hC dX9_price_21
  · refine g_iload_n (pc := 10) (q := 2) hC dX9_price_10 rfl rfl ?_
    refine g_iconst (pc := 11) (v := (-1)) hC dX9_price_11 (by decide) ?_
    refine g_bipush (pc := 12) (v := 99) hC dX9_price_12 (by decide) ?_
    refine g_callSz (pc := 14) (As := [.int p1, .int (-1), .int 99]) (rest := []) hC lk_RX9_102 (tX9_within _ _ s2 p1 (-1) 99) rfl rfl (Nat.le_of_ble_eq_true rfl) ⟨rfl, rfl, Nat.le_of_ble_eq_true rfl, Nat.le_of_ble_eq_true rfl⟩ dX9_price_14 (fun r3 s4 => ?_)
    refine g_bif_ne (pc := 17) (tgt := 22) hC dX9_price_17 (by decide) ?_ ?_
    · refine g_iload_n (pc := 22) (q := 2) hC dX9_price_22 rfl rfl ?_
      refine g_iconst (pc := 23) (v := (-1)) hC dX9_price_23 (by decide) ?_
      refine g_icmp_ne (pc := 24) (tgt := 35) hC dX9_price_24 (by decide) ?_ ?_
      · refine g_aload_n (pc := 35) (q := 0) hC dX9_price_35 rfl rfl ?_
        refine g_iload_n (pc := 36) (q := 1) hC dX9_price_36 rfl rfl ?_
        refine g_iload_n (pc := 37) (q := 2) hC dX9_price_37 rfl rfl ?_
        refine g_callVi (pc := 38) (As := [.int p0, .int p1]) (rest := []) hC lk_RX9_245 kX9 rfl (tX9_sold _ _ s4 p0 p1) rfl rfl (Nat.le_of_ble_eq_true rfl) ⟨rfl, rfl, Nat.le_of_ble_eq_true rfl, Nat.le_of_ble_eq_true rfl⟩ dX9_price_38 (fun r5 s6 => ?_)
        exact g_iret (pc := 41) hC dX9_price_41
      · refine g_aload_n (pc := 27) (q := 0) hC dX9_price_27 rfl rfl ?_
        refine g_iload_n (pc := 28) (q := 1) hC dX9_price_28 rfl rfl ?_
        refine g_callVi (pc := 29) (As := [.int p0]) (rest := []) hC lk_RX9_242 kX9 rfl (tX9_bestPrice _ _ s4 p0) rfl rfl (Nat.le_of_ble_eq_true rfl) ⟨rfl, rfl, Nat.le_of_ble_eq_true rfl, Nat.le_of_ble_eq_true rfl⟩ dX9_price_29 (fun r7 s8 => ?_)
        refine g_goto (pc := 32) (tgt := 41) hC dX9_price_32 (by decide) ?_
        exact g_iret (pc := 41) hC dX9_price_41
    · refine g_iconst (pc := 20) (v := (-1)) hC dX9_price_20 (by decide) ?_
      exact g_iret (pc := 21) hC dX9_price_21
theorem dX9_judge_0 : decode cX9_judge 0 = .ok (.aload_n 0, 1) := by decide +kernel
theorem dX9_judge_1 : decode cX9_judge 1 = .ok (.iload_n 1, 1) := by decide +kernel
theorem dX9_judge_2 : decode cX9_judge 2 = .ok (.iconst 1, 1) := by decide +kernel
theorem dX9_judge_3 : decode cX9_judge 3 = .ok (.invokevirtual 248, 3) := by decide +kernel
theorem dX9_judge_6 : decode cX9_judge 6 = .ok (.istore_n 2, 1) := by decide +kernel
theorem dX9_judge_7 : decode cX9_judge 7 = .ok (.iload_n 2, 1) := by decide +kernel
theorem dX9_judge_8 : decode cX9_judge 8 = .ok (.iconst 1, 1) := by decide +kernel
theorem dX9_judge_9 : decode cX9_judge 9 = .ok (.if_icmp .ne 20, 3) := by decide +kernel
theorem dX9_judge_12 : decode cX9_judge 12 = .ok (.aload_n 0, 1) := by decide +kernel
theorem dX9_judge_13 : decode cX9_judge 13 = .ok (.aload_n 0, 1) := by decide +kernel
theorem dX9_judge_14 : decode cX9_judge 14 = .ok (.getfield 91, 3) := by decide +kernel
theorem dX9_judge_17 : decode cX9_judge 17 = .ok (.iload_n 1, 1) := by decide +kernel
theorem dX9_judge_18 : decode cX9_judge 18 = .ok (.aaload, 1) := by decide +kernel
theorem dX9_judge_19 : decode cX9_judge 19 = .ok (.aload_n 0, 1) := by decide +kernel
theorem dX9_judge_20 : decode cX9_judge 20 = .ok (.getfield 19, 3) := by decide +kernel
theorem dX9_judge_23 : decode cX9_judge 23 = .ok (.invokevirtual 251, 3) := by decide +kernel
theorem dX9_judge_26 : decode cX9_judge 26 = .ok (.goto 4, 3) := by decide +kernel
theorem dX9_judge_29 : decode cX9_judge 29 = .ok (.iload_n 2, 1) := by decide +kernel
theorem dX9_judge_30 : decode cX9_judge 30 = .ok (.ireturn, 1) := by decide +kernel
abbrev rX9_judge : Room := { frames := 5, cells := 0, slots := 0, locals := 121 }
def mX9_judge (σ : gS) (p0 : Int32) : Option (Int32 × gS) := gBind (mX9_refuseRow σ p0 1) (fun r1 s2 => gLet r1 (fun v3 => if v3 = 1 then (if inbB p0 6 = true then (if gk (40 + 2 * Int32.toNatClampNeg p0) = 6 then (gBind (mX9_firstUnlike s2 (40 + 2 * Int32.toNatClampNeg p0) 8) (fun r5 s6 => some (r5, s6))) else none) else none) else (some (v3, s2))))
set_option maxHeartbeats 4000000 in
set_option maxRecDepth 100000 in
theorem tX9_judge (l : Launch) (G : gE) (σ : gS) (p0 : Int32) : gM l G yX9_judge cX9_judge 3 (some .int) rX9_judge iI [.ref (G.2.1 0), .int p0] σ (mX9_judge σ p0) := by
  refine gM_of (by decide) (Nat.le_of_ble_eq_true rfl) ?_
  intro p e s m args below meth c hC
  unfold mX9_judge
  show gT p l e rX9_judge s m args below meth c G 3 iI σ 0 [(0, .ref (G.2.1 0)), (1, .int p0)] [] _
  refine g_aload_n (pc := 0) (q := 0) hC dX9_judge_0 rfl rfl ?_
  refine g_iload_n (pc := 1) (q := 1) hC dX9_judge_1 rfl rfl ?_
  refine g_iconst (pc := 2) (v := 1) hC dX9_judge_2 (by decide) ?_
  refine g_callVi (pc := 3) (As := [.int p0, .int 1]) (rest := []) hC lk_RX9_248 kX9 rfl (tX9_refuseRow _ _ σ p0 1) rfl rfl (Nat.le_of_ble_eq_true rfl) ⟨rfl, rfl, Nat.le_of_ble_eq_true rfl, Nat.le_of_ble_eq_true rfl⟩ dX9_judge_3 (fun r1 s2 => ?_)
  refine g_istore_n (pc := 6) (lv' := fun v3 => [(2, .int v3), (0, .ref (G.2.1 0)), (1, .int p0)]) hC dX9_judge_6 rfl (by decide) (fun _ => rfl) (fun v3 => ?_)
  refine g_iload_n (pc := 7) (q := 0) hC dX9_judge_7 rfl rfl ?_
  refine g_iconst (pc := 8) (v := 1) hC dX9_judge_8 (by decide) ?_
  refine g_icmp_ne (pc := 9) (tgt := 29) hC dX9_judge_9 (by decide) ?_ ?_
  · refine g_iload_n (pc := 29) (q := 0) hC dX9_judge_29 rfl rfl ?_
    exact g_iret (pc := 30) hC dX9_judge_30
  · refine g_aload_n (pc := 12) (q := 1) hC dX9_judge_12 rfl rfl ?_
    refine g_aload_n (pc := 13) (q := 1) hC dX9_judge_13 rfl rfl ?_
    refine g_get (pc := 14) (v := .ref (G.2.1 39)) hC kX9 rfl 15 (by decide) fl_RX9_91 rfl dX9_judge_14 ?_
    refine g_iload_n (pc := 17) (q := 2) hC dX9_judge_17 rfl rfl ?_
    refine g_aald (pc := 18) hC rfl dX9_judge_18 ?_
    refine gT_if (fun hg4 => ?_) (fun _ => gT_none)
    refine g_aload_n (pc := 19) (q := 1) hC dX9_judge_19 rfl rfl ?_
    refine g_get (pc := 20) (v := .ref (G.2.1 8)) hC kX9 rfl 1 (by decide) fl_RX9_19 rfl dX9_judge_20 ?_
    refine g_callVi (pc := 23) (As := [.ref (G.2.1 (40 + 2 * Int32.toNatClampNeg p0)), .ref (G.2.1 8)]) (rest := []) hC lk_RX9_251 kX9 rfl (tX9_firstUnlike _ _ s2 (40 + 2 * Int32.toNatClampNeg p0) 8) rfl rfl (Nat.le_of_ble_eq_true rfl) ⟨rfl, rfl, Nat.le_of_ble_eq_true rfl, Nat.le_of_ble_eq_true rfl⟩ dX9_judge_23 (fun r5 s6 => ?_)
    refine g_goto (pc := 26) (tgt := 30) hC dX9_judge_26 (by decide) ?_
    exact g_iret (pc := 30) hC dX9_judge_30
theorem lk_RX9_259 : gLV RX9 259 RX9 yX9_howFast cX9_howFast 5 (some .int) 2 := ⟨(gBig_tab 855 (by decide +kernel) (by decide +kernel)), (gBig_tab 857 (by decide +kernel) (by decide +kernel)), (gBig_sel 34 (by decide +kernel) (by decide +kernel)), (gBig_tab 1 (by decide +kernel) (by decide +kernel)), (gBig_tab 858 (by decide +kernel) (by decide +kernel)), rfl, by decide +kernel, by decide +kernel, by decide +kernel⟩
theorem lk_RX9_255 : gLV RX9 255 RX9 yX9_howMuch cX9_howMuch 5 (some .int) 2 := ⟨(gBig_tab 847 (by decide +kernel) (by decide +kernel)), (gBig_tab 849 (by decide +kernel) (by decide +kernel)), (gBig_sel 33 (by decide +kernel) (by decide +kernel)), (gBig_tab 1 (by decide +kernel) (by decide +kernel)), (gBig_tab 850 (by decide +kernel) (by decide +kernel)), rfl, by decide +kernel, by decide +kernel, by decide +kernel⟩
theorem dX9_knock_0 : decode cX9_knock 0 = .ok (.iload_n 2, 1) := by decide +kernel
theorem dX9_knock_1 : decode cX9_knock 1 = .ok (.iconst 0, 1) := by decide +kernel
theorem dX9_knock_2 : decode cX9_knock 2 = .ok (.iconst 3, 1) := by decide +kernel
theorem dX9_knock_3 : decode cX9_knock 3 = .ok (.invokestatic 102, 3) := by decide +kernel
theorem dX9_knock_6 : decode cX9_knock 6 = .ok (.ifCond .ne 5, 3) := by decide +kernel
theorem dX9_knock_9 : decode cX9_knock 9 = .ok (.iconst (-1), 1) := by decide +kernel
theorem dX9_knock_10 : decode cX9_knock 10 = .ok (.ireturn, 1) := by decide +kernel
theorem dX9_knock_11 : decode cX9_knock 11 = .ok (.aload_n 0, 1) := by decide +kernel
theorem dX9_knock_12 : decode cX9_knock 12 = .ok (.iload_n 1, 1) := by decide +kernel
theorem dX9_knock_13 : decode cX9_knock 13 = .ok (.iconst 1, 1) := by decide +kernel
theorem dX9_knock_14 : decode cX9_knock 14 = .ok (.invokevirtual 248, 3) := by decide +kernel
theorem dX9_knock_17 : decode cX9_knock 17 = .ok (.istore_n 3, 1) := by decide +kernel
theorem dX9_knock_18 : decode cX9_knock 18 = .ok (.iload_n 3, 1) := by decide +kernel
theorem dX9_knock_19 : decode cX9_knock 19 = .ok (.iconst 1, 1) := by decide +kernel
theorem dX9_knock_20 : decode cX9_knock 20 = .ok (.if_icmp .eq 5, 3) := by decide +kernel
theorem dX9_knock_23 : decode cX9_knock 23 = .ok (.iload_n 3, 1) := by decide +kernel
theorem dX9_knock_24 : decode cX9_knock 24 = .ok (.ireturn, 1) := by decide +kernel
theorem dX9_knock_25 : decode cX9_knock 25 = .ok (.iload_n 2, 1) := by decide +kernel
theorem dX9_knock_26 : decode cX9_knock 26 = .ok (.iconst 2, 1) := by decide +kernel
theorem dX9_knock_27 : decode cX9_knock 27 = .ok (.irem, 1) := by decide +kernel
theorem dX9_knock_28 : decode cX9_knock 28 = .ok (.iconst 1, 1) := by decide +kernel
theorem dX9_knock_29 : decode cX9_knock 29 = .ok (.if_icmp .ne 7, 3) := by decide +kernel
theorem dX9_knock_32 : decode cX9_knock 32 = .ok (.iconst 1, 1) := by decide +kernel
theorem dX9_knock_33 : decode cX9_knock 33 = .ok (.goto 4, 3) := by decide +kernel
theorem dX9_knock_36 : decode cX9_knock 36 = .ok (.iconst 0, 1) := by decide +kernel
theorem dX9_knock_37 : decode cX9_knock 37 = .ok (.istore 4, 2) := by decide +kernel
theorem dX9_knock_39 : decode cX9_knock 39 = .ok (.iload_n 2, 1) := by decide +kernel
theorem dX9_knock_40 : decode cX9_knock 40 = .ok (.iconst 2, 1) := by decide +kernel
theorem dX9_knock_41 : decode cX9_knock 41 = .ok (.if_icmp .ge 18, 3) := by decide +kernel
theorem dX9_knock_44 : decode cX9_knock 44 = .ok (.aload_n 0, 1) := by decide +kernel
theorem dX9_knock_45 : decode cX9_knock 45 = .ok (.aload_n 0, 1) := by decide +kernel
theorem dX9_knock_46 : decode cX9_knock 46 = .ok (.getfield 91, 3) := by decide +kernel
theorem dX9_knock_49 : decode cX9_knock 49 = .ok (.iload_n 1, 1) := by decide +kernel
theorem dX9_knock_50 : decode cX9_knock 50 = .ok (.aaload, 1) := by decide +kernel
theorem dX9_knock_51 : decode cX9_knock 51 = .ok (.iload 4, 2) := by decide +kernel
theorem dX9_knock_53 : decode cX9_knock 53 = .ok (.invokevirtual 255, 3) := by decide +kernel
theorem dX9_knock_56 : decode cX9_knock 56 = .ok (.goto 15, 3) := by decide +kernel
theorem dX9_knock_59 : decode cX9_knock 59 = .ok (.aload_n 0, 1) := by decide +kernel
theorem dX9_knock_60 : decode cX9_knock 60 = .ok (.aload_n 0, 1) := by decide +kernel
theorem dX9_knock_61 : decode cX9_knock 61 = .ok (.getfield 91, 3) := by decide +kernel
theorem dX9_knock_64 : decode cX9_knock 64 = .ok (.iload_n 1, 1) := by decide +kernel
theorem dX9_knock_65 : decode cX9_knock 65 = .ok (.aaload, 1) := by decide +kernel
theorem dX9_knock_66 : decode cX9_knock 66 = .ok (.iload 4, 2) := by decide +kernel
theorem dX9_knock_68 : decode cX9_knock 68 = .ok (.invokevirtual 259, 3) := by decide +kernel
theorem dX9_knock_71 : decode cX9_knock 71 = .ok (.ireturn, 1) := by decide +kernel
abbrev rX9_knock : Room := { frames := 6, cells := 0, slots := 0, locals := 145 }
def mX9_knock_b37    (σ : gS) (x6 : Int32) (x7 : Int32) (x8 : Int32) : Option (Int32 × gS) := gLet x8 (fun v9 => if 2 ≤ x7 then (if inbB x6 6 = true then (if gk (40 + 2 * Int32.toNatClampNeg x6) = 6 then (gBind (mX9_howFast σ (40 + 2 * Int32.toNatClampNeg x6) v9) (fun r11 s12 => some (r11, s12))) else none) else none) else (if inbB x6 6 = true then (if gk (40 + 2 * Int32.toNatClampNeg x6) = 6 then (gBind (mX9_howMuch σ (40 + 2 * Int32.toNatClampNeg x6) v9) (fun r14 s15 => some (r14, s15))) else none) else none))
set_option maxHeartbeats 4000000 in
set_option maxRecDepth 100000 in
theorem wX9_knock_b37 {p : Program} {l : Launch} {e : Env} {s : State} {m : MethodId} {args : Array Value} {below : List Frame} {meth : Method} {c : Code} {G : gE} (hC : gCx p s m args meth c G RX9 cX9_knock 5 (some .int))     (σ : gS) (x6 : Int32) (x7 : Int32) (x8 : Int32)  : gT p l e rX9_knock s m args below meth c G 5 iI σ 37 [(0, .ref (G.2.1 0)), (1, .int x6), (2, .int x7)] [.int x8] (mX9_knock_b37  σ x6 x7 x8) := by
  unfold mX9_knock_b37
  refine g_istore (pc := 37) (lv' := fun v9 => [(4, .int v9), (0, .ref (G.2.1 0)), (1, .int x6), (2, .int x7)]) hC dX9_knock_37 (by decide) (fun _ => rfl) (fun v9 => ?_)
  refine g_iload_n (pc := 39) (q := 3) hC dX9_knock_39 rfl rfl ?_
  refine g_iconst (pc := 40) (v := 2) hC dX9_knock_40 (by decide) ?_
  refine g_icmp_ge (pc := 41) (tgt := 59) hC dX9_knock_41 (by decide) ?_ ?_
  · refine g_aload_n (pc := 59) (q := 1) hC dX9_knock_59 rfl rfl ?_
    refine g_aload_n (pc := 60) (q := 1) hC dX9_knock_60 rfl rfl ?_
    refine g_get (pc := 61) (v := .ref (G.2.1 39)) hC kX9 rfl 15 (by decide) fl_RX9_91 rfl dX9_knock_61 ?_
    refine g_iload_n (pc := 64) (q := 2) hC dX9_knock_64 rfl rfl ?_
    refine g_aald (pc := 65) hC rfl dX9_knock_65 ?_
    refine gT_if (fun hg10 => ?_) (fun _ => gT_none)
    refine g_iload (pc := 66) (q := 0) hC dX9_knock_66 rfl ?_
    refine g_callVi (pc := 68) (As := [.ref (G.2.1 (40 + 2 * Int32.toNatClampNeg x6)), .int v9]) (rest := []) hC lk_RX9_259 kX9 rfl (tX9_howFast _ _ σ (40 + 2 * Int32.toNatClampNeg x6) v9) rfl rfl (Nat.le_of_ble_eq_true rfl) ⟨rfl, rfl, Nat.le_of_ble_eq_true rfl, Nat.le_of_ble_eq_true rfl⟩ dX9_knock_68 (fun r11 s12 => ?_)
    exact g_iret (pc := 71) hC dX9_knock_71
  · refine g_aload_n (pc := 44) (q := 1) hC dX9_knock_44 rfl rfl ?_
    refine g_aload_n (pc := 45) (q := 1) hC dX9_knock_45 rfl rfl ?_
    refine g_get (pc := 46) (v := .ref (G.2.1 39)) hC kX9 rfl 15 (by decide) fl_RX9_91 rfl dX9_knock_46 ?_
    refine g_iload_n (pc := 49) (q := 2) hC dX9_knock_49 rfl rfl ?_
    refine g_aald (pc := 50) hC rfl dX9_knock_50 ?_
    refine gT_if (fun hg13 => ?_) (fun _ => gT_none)
    refine g_iload (pc := 51) (q := 0) hC dX9_knock_51 rfl ?_
    refine g_callVi (pc := 53) (As := [.ref (G.2.1 (40 + 2 * Int32.toNatClampNeg x6)), .int v9]) (rest := []) hC lk_RX9_255 kX9 rfl (tX9_howMuch _ _ σ (40 + 2 * Int32.toNatClampNeg x6) v9) rfl rfl (Nat.le_of_ble_eq_true rfl) ⟨rfl, rfl, Nat.le_of_ble_eq_true rfl, Nat.le_of_ble_eq_true rfl⟩ dX9_knock_53 (fun r14 s15 => ?_)
    refine g_goto (pc := 56) (tgt := 71) hC dX9_knock_56 (by decide) ?_
    exact g_iret (pc := 71) hC dX9_knock_71
def mX9_knock (σ : gS) (p0 : Int32) (p1 : Int32) : Option (Int32 × gS) := gBind (mX9_within σ p1 0 3) (fun r1 s2 => if r1 = true then (gBind (mX9_refuseRow s2 p0 1) (fun r3 s4 => gLet r3 (fun v5 => if v5 = 1 then (if (gRem p1 2) = 1 then ((mX9_knock_b37  s4 p0 p1 1)) else ((mX9_knock_b37  s4 p0 p1 0))) else (some (v5, s4))))) else (some ((-1), s2)))
set_option maxHeartbeats 4000000 in
set_option maxRecDepth 100000 in
theorem tX9_knock (l : Launch) (G : gE) (σ : gS) (p0 : Int32) (p1 : Int32) : gM l G yX9_knock cX9_knock 5 (some .int) rX9_knock iI [.ref (G.2.1 0), .int p0, .int p1] σ (mX9_knock σ p0 p1) := by
  refine gM_of (by decide) (Nat.le_of_ble_eq_true rfl) ?_
  intro p e s m args below meth c hC
  unfold mX9_knock
  show gT p l e rX9_knock s m args below meth c G 5 iI σ 0 [(0, .ref (G.2.1 0)), (1, .int p0), (2, .int p1)] [] _
  refine g_iload_n (pc := 0) (q := 2) hC dX9_knock_0 rfl rfl ?_
  refine g_iconst (pc := 1) (v := 0) hC dX9_knock_1 (by decide) ?_
  refine g_iconst (pc := 2) (v := 3) hC dX9_knock_2 (by decide) ?_
  refine g_callSz (pc := 3) (As := [.int p1, .int 0, .int 3]) (rest := []) hC lk_RX9_102 (tX9_within _ _ σ p1 0 3) rfl rfl (Nat.le_of_ble_eq_true rfl) ⟨rfl, rfl, Nat.le_of_ble_eq_true rfl, Nat.le_of_ble_eq_true rfl⟩ dX9_knock_3 (fun r1 s2 => ?_)
  refine g_bif_ne (pc := 6) (tgt := 11) hC dX9_knock_6 (by decide) ?_ ?_
  · refine g_aload_n (pc := 11) (q := 0) hC dX9_knock_11 rfl rfl ?_
    refine g_iload_n (pc := 12) (q := 1) hC dX9_knock_12 rfl rfl ?_
    refine g_iconst (pc := 13) (v := 1) hC dX9_knock_13 (by decide) ?_
    refine g_callVi (pc := 14) (As := [.int p0, .int 1]) (rest := []) hC lk_RX9_248 kX9 rfl (tX9_refuseRow _ _ s2 p0 1) rfl rfl (Nat.le_of_ble_eq_true rfl) ⟨rfl, rfl, Nat.le_of_ble_eq_true rfl, Nat.le_of_ble_eq_true rfl⟩ dX9_knock_14 (fun r3 s4 => ?_)
    refine g_istore_n (pc := 17) (lv' := fun v5 => [(3, .int v5), (0, .ref (G.2.1 0)), (1, .int p0), (2, .int p1)]) hC dX9_knock_17 rfl (by decide) (fun _ => rfl) (fun v5 => ?_)
    refine g_iload_n (pc := 18) (q := 0) hC dX9_knock_18 rfl rfl ?_
    refine g_iconst (pc := 19) (v := 1) hC dX9_knock_19 (by decide) ?_
    refine g_icmp_eq (pc := 20) (tgt := 25) hC dX9_knock_20 (by decide) ?_ ?_
    · refine g_iload_n (pc := 25) (q := 3) hC dX9_knock_25 rfl rfl ?_
      refine g_iconst (pc := 26) (v := 2) hC dX9_knock_26 (by decide) ?_
      refine g_iremL (pc := 27) hC dX9_knock_27 (by decide) ?_
      refine g_iconst (pc := 28) (v := 1) hC dX9_knock_28 (by decide) ?_
      refine g_icmp_ne (pc := 29) (tgt := 36) hC dX9_knock_29 (by decide) ?_ ?_
      · refine g_iconst (pc := 36) (v := 0) hC dX9_knock_36 (by decide) ?_
        exact gT_sub [1, 2, 3] rfl (wX9_knock_b37 hC  s4 p0 p1 0)
      · refine g_iconst (pc := 32) (v := 1) hC dX9_knock_32 (by decide) ?_
        refine g_goto (pc := 33) (tgt := 37) hC dX9_knock_33 (by decide) ?_
        exact gT_sub [1, 2, 3] rfl (wX9_knock_b37 hC  s4 p0 p1 1)
    · refine g_iload_n (pc := 23) (q := 0) hC dX9_knock_23 rfl rfl ?_
      exact g_iret (pc := 24) hC dX9_knock_24
  · refine g_iconst (pc := 9) (v := (-1)) hC dX9_knock_9 (by decide) ?_
    exact g_iret (pc := 10) hC dX9_knock_10
