theorem lk_RX7_37 : gLS RX7 37 yJ7_fill_53178 cJ7_fill_53178 4 (none) 2 := ⟨(gBig_tab 626 (by decide +kernel) (by decide +kernel)), (gBig_tab 627 (by decide +kernel) (by decide +kernel)), (gBig_tab 19 (by decide +kernel) (by decide +kernel)), (gBig_tab 628 (by decide +kernel) (by decide +kernel)), by decide +kernel, by decide +kernel, by decide +kernel⟩
theorem dX7_askNothing_0 : decode cX7_askNothing 0 = .ok (.aload_n 0, 1) := by decide +kernel
theorem dX7_askNothing_1 : decode cX7_askNothing 1 = .ok (.getfield 9, 3) := by decide +kernel
theorem dX7_askNothing_4 : decode cX7_askNothing 4 = .ok (.iconst 0, 1) := by decide +kernel
theorem dX7_askNothing_5 : decode cX7_askNothing 5 = .ok (.invokestatic 37, 3) := by decide +kernel
theorem dX7_askNothing_8 : decode cX7_askNothing 8 = .ok (.return_, 1) := by decide +kernel
abbrev rX7_askNothing : Room := { frames := 1, cells := 0, slots := 0, locals := 23 }
def mX7_askNothing (σ : gS)  : Option (Unit × gS) := gBind (mJ7_fill_53178 σ 11 0) (fun r1 s2 => some ((), s2))
set_option maxHeartbeats 4000000 in
set_option maxRecDepth 100000 in
theorem tX7_askNothing (l : Launch) (G : gE) (σ : gS)  : gM l G yX7_askNothing cX7_askNothing 1 (none) rX7_askNothing iV [.ref (G.2.1 10)] σ (mX7_askNothing σ ) := by
  refine gM_of (by decide) (Nat.le_of_ble_eq_true rfl) ?_
  intro p e s m args below meth c hC
  unfold mX7_askNothing
  show gT p l e rX7_askNothing s m args below meth c G 1 iV σ 0 [(0, .ref (G.2.1 10))] [] _
  refine g_aload_n (pc := 0) (q := 0) hC dX7_askNothing_0 rfl rfl ?_
  refine g_get (pc := 1) (v := .ref (G.2.1 11)) hC kX7 rfl 0 (by decide) fl_RX7_9 rfl dX7_askNothing_1 ?_
  refine g_iconst (pc := 4) (v := 0) hC dX7_askNothing_4 (by decide) ?_
  refine g_callSv (pc := 5) (As := [.ref (G.2.1 11), .int 0]) (rest := []) hC lk_RX7_37 (tJ7_fill_53178 _ _ σ 11 0) rfl rfl (Nat.le_of_ble_eq_true rfl) ⟨rfl, rfl, Nat.le_of_ble_eq_true rfl, Nat.le_of_ble_eq_true rfl⟩ dX7_askNothing_5 (fun r1 s2 => ?_)
  exact g_vret (pc := 8) hC dX7_askNothing_8
theorem fl_RX7_46 : Cond.fieldLink RX7 46 "WinterShed$Shelf" "length" "I" ∈ gBig := (gBig_tab 310 (by decide +kernel) (by decide +kernel))
theorem fl_RX7_51 : Cond.fieldLink RX7 51 "WinterShed$Shelf" "cells" "[J" ∈ gBig := (gBig_tab 313 (by decide +kernel) (by decide +kernel))
theorem mth_RX7_55 : gMn RX7 55 := ⟨(gBig_tab 629 (by decide +kernel) (by decide +kernel)), (gBig_tab 479 (by decide +kernel) (by decide +kernel)), (gBig_tab 13 (by decide +kernel) (by decide +kernel)), (gBig_tab 480 (by decide +kernel) (by decide +kernel))⟩
theorem mth_RX7_61 : gMx RX7 61 := ⟨(gBig_tab 630 (by decide +kernel) (by decide +kernel)), (gBig_tab 482 (by decide +kernel) (by decide +kernel)), (gBig_tab 13 (by decide +kernel) (by decide +kernel)), (gBig_tab 483 (by decide +kernel) (by decide +kernel))⟩
theorem lk_RX7_43 : gLV RX7 43 RX7 yX7_askNothing cX7_askNothing 1 (none) 0 := ⟨(gBig_tab 622 (by decide +kernel) (by decide +kernel)), (gBig_tab 623 (by decide +kernel) (by decide +kernel)), (gBig_tab 624 (by decide +kernel) (by decide +kernel)), (gBig_tab 4 (by decide +kernel) (by decide +kernel)), (gBig_tab 625 (by decide +kernel) (by decide +kernel)), rfl, by decide +kernel, by decide +kernel, by decide +kernel⟩
theorem dX7_askRow_0 : decode cX7_askRow 0 = .ok (.aload_n 0, 1) := by decide +kernel
theorem dX7_askRow_1 : decode cX7_askRow 1 = .ok (.invokevirtual 43, 3) := by decide +kernel
theorem dX7_askRow_4 : decode cX7_askRow 4 = .ok (.iconst 0, 1) := by decide +kernel
theorem dX7_askRow_5 : decode cX7_askRow 5 = .ok (.istore_n 3, 1) := by decide +kernel
theorem dX7_askRow_6 : decode cX7_askRow 6 = .ok (.iload_n 3, 1) := by decide +kernel
theorem dX7_askRow_7 : decode cX7_askRow 7 = .ok (.aload_n 1, 1) := by decide +kernel
theorem dX7_askRow_8 : decode cX7_askRow 8 = .ok (.getfield 46, 3) := by decide +kernel
theorem dX7_askRow_11 : decode cX7_askRow 11 = .ok (.if_icmp .ge 45, 3) := by decide +kernel
theorem dX7_askRow_14 : decode cX7_askRow 14 = .ok (.iload_n 2, 1) := by decide +kernel
theorem dX7_askRow_15 : decode cX7_askRow 15 = .ok (.iload_n 3, 1) := by decide +kernel
theorem dX7_askRow_16 : decode cX7_askRow 16 = .ok (.iadd, 1) := by decide +kernel
theorem dX7_askRow_17 : decode cX7_askRow 17 = .ok (.bipush 29, 2) := by decide +kernel
theorem dX7_askRow_19 : decode cX7_askRow 19 = .ok (.if_icmp .gt 37, 3) := by decide +kernel
theorem dX7_askRow_22 : decode cX7_askRow 22 = .ok (.aload_n 1, 1) := by decide +kernel
theorem dX7_askRow_23 : decode cX7_askRow 23 = .ok (.getfield 51, 3) := by decide +kernel
theorem dX7_askRow_26 : decode cX7_askRow 26 = .ok (.iload_n 3, 1) := by decide +kernel
theorem dX7_askRow_27 : decode cX7_askRow 27 = .ok (.laload, 1) := by decide +kernel
theorem dX7_askRow_28 : decode cX7_askRow 28 = .ok (.l2i, 1) := by decide +kernel
theorem dX7_askRow_29 : decode cX7_askRow 29 = .ok (.istore 4, 2) := by decide +kernel
theorem dX7_askRow_31 : decode cX7_askRow 31 = .ok (.aload_n 0, 1) := by decide +kernel
theorem dX7_askRow_32 : decode cX7_askRow 32 = .ok (.getfield 9, 3) := by decide +kernel
theorem dX7_askRow_35 : decode cX7_askRow 35 = .ok (.iload_n 2, 1) := by decide +kernel
theorem dX7_askRow_36 : decode cX7_askRow 36 = .ok (.iload_n 3, 1) := by decide +kernel
theorem dX7_askRow_37 : decode cX7_askRow 37 = .ok (.iadd, 1) := by decide +kernel
theorem dX7_askRow_38 : decode cX7_askRow 38 = .ok (.iconst 0, 1) := by decide +kernel
theorem dX7_askRow_39 : decode cX7_askRow 39 = .ok (.iload 4, 2) := by decide +kernel
theorem dX7_askRow_41 : decode cX7_askRow 41 = .ok (.bipush 24, 2) := by decide +kernel
theorem dX7_askRow_43 : decode cX7_askRow 43 = .ok (.invokestatic 55, 3) := by decide +kernel
theorem dX7_askRow_46 : decode cX7_askRow 46 = .ok (.invokestatic 61, 3) := by decide +kernel
theorem dX7_askRow_49 : decode cX7_askRow 49 = .ok (.iastore, 1) := by decide +kernel
theorem dX7_askRow_50 : decode cX7_askRow 50 = .ok (.iinc 3 1, 3) := by decide +kernel
theorem dX7_askRow_53 : decode cX7_askRow 53 = .ok (.goto (-47), 3) := by decide +kernel
theorem dX7_askRow_56 : decode cX7_askRow 56 = .ok (.return_, 1) := by decide +kernel
abbrev rX7_askRow : Room := { frames := 2, cells := 0, slots := 0, locals := 43 }
def mX7_askRow_b6  (q0 : Nat)  : Nat → gS → Int32 → Int32 → Option (Unit × gS)
  | 0, _, _, _ => none
  | n + 1, σ, x4, x5 => if (σ.1 q0 3) ≤ x5 then (some ((), σ)) else (if 29 < (x4 + x5) then (some ((), σ)) else (if inbB x5 60 = true then (gLet (Int64.toInt32 (σ.2.1 (q0 + 1) (Int32.toNatClampNeg x5))) (fun v6 => if inbB (x4 + x5) 30 = true then gLet (gUI σ 11 (Int32.toNatClampNeg (x4 + x5)) (gMax 0 (gMin v6 24))) (fun s7 => gLet (x5 + 1) (fun v8 => ((mX7_askRow_b6 q0 n) s7 x4 v8))) else none)) else none))
set_option maxHeartbeats 4000000 in
set_option maxRecDepth 100000 in
theorem wX7_askRow_b6 {p : Program} {l : Launch} {e : Env} {s : State} {m : MethodId} {args : Array Value} {below : List Frame} {meth : Method} {c : Code} {G : gE} (hC : gCx p s m args meth c G RX7 cX7_askRow 5 (none))  (q0 : Nat) (hq0 : gk q0 = 6)  (n : Nat) (σ : gS) (x4 : Int32) (x5 : Int32)  : gT p l e rX7_askRow s m args below meth c G 5 iV σ 6 [(0, .ref (G.2.1 10)), (1, .ref (G.2.1 q0)), (2, .int x4), (3, .int x5)] [] (mX7_askRow_b6 q0 n σ x4 x5) := by
  induction n generalizing σ x4 x5 with
  | zero => exact gT_none
  | succ n ih =>
    unfold mX7_askRow_b6
    refine g_iload_n (pc := 6) (q := 3) hC dX7_askRow_6 rfl rfl ?_
    refine g_aload_n (pc := 7) (q := 1) hC dX7_askRow_7 rfl rfl ?_
    refine g_get (pc := 8) (v := .int (σ.1 q0 3)) hC kX6 hq0 3 (by decide) fl_RX7_46 rfl dX7_askRow_8 ?_
    refine g_icmp_ge (pc := 11) (tgt := 56) hC dX7_askRow_11 (by decide) ?_ ?_
    · exact g_vret (pc := 56) hC dX7_askRow_56
    · refine g_iload_n (pc := 14) (q := 2) hC dX7_askRow_14 rfl rfl ?_
      refine g_iload_n (pc := 15) (q := 3) hC dX7_askRow_15 rfl rfl ?_
      refine g_iadd (pc := 16) hC dX7_askRow_16 ?_
      refine g_bipush (pc := 17) (v := 29) hC dX7_askRow_17 (by decide) ?_
      refine g_icmp_gt (pc := 19) (tgt := 56) hC dX7_askRow_19 (by decide) ?_ ?_
      · exact g_vret (pc := 56) hC dX7_askRow_56
      · refine g_aload_n (pc := 22) (q := 1) hC dX7_askRow_22 rfl rfl ?_
        refine g_get (pc := 23) (v := .ref (G.2.1 (q0 + 1))) hC kX6 hq0 4 (by decide) fl_RX7_51 rfl dX7_askRow_23 ?_
        refine g_iload_n (pc := 26) (q := 3) hC dX7_askRow_26 rfl rfl ?_
        refine g_lald (pc := 27) hC 60 (ck_6_1 hq0) dX7_askRow_27 ?_
        refine g_l2i (pc := 28) hC dX7_askRow_28 ?_
        refine g_istore (pc := 29) (lv' := fun v6 => [(4, .int v6), (0, .ref (G.2.1 10)), (1, .ref (G.2.1 q0)), (2, .int x4), (3, .int x5)]) hC dX7_askRow_29 (by decide) (fun _ => rfl) (fun v6 => ?_)
        refine g_aload_n (pc := 31) (q := 1) hC dX7_askRow_31 rfl rfl ?_
        refine g_get (pc := 32) (v := .ref (G.2.1 11)) hC kX7 rfl 0 (by decide) fl_RX7_9 rfl dX7_askRow_32 ?_
        refine g_iload_n (pc := 35) (q := 3) hC dX7_askRow_35 rfl rfl ?_
        refine g_iload_n (pc := 36) (q := 4) hC dX7_askRow_36 rfl rfl ?_
        refine g_iadd (pc := 37) hC dX7_askRow_37 ?_
        refine g_iconst (pc := 38) (v := 0) hC dX7_askRow_38 (by decide) ?_
        refine g_iload (pc := 39) (q := 0) hC dX7_askRow_39 rfl ?_
        refine g_bipush (pc := 41) (v := 24) hC dX7_askRow_41 (by decide) ?_
        refine g_min (pc := 43) hC mth_RX7_55 ⟨Nat.le_of_ble_eq_true rfl, Nat.le_of_ble_eq_true rfl⟩ (Nat.le_of_ble_eq_true rfl) dX7_askRow_43 ?_
        refine g_max (pc := 46) hC mth_RX7_61 ⟨Nat.le_of_ble_eq_true rfl, Nat.le_of_ble_eq_true rfl⟩ (Nat.le_of_ble_eq_true rfl) dX7_askRow_46 ?_
        refine g_iast (pc := 49) hC 30 rfl (by decide) dX7_askRow_49 (fun s7 => ?_)
        refine g_iinc (pc := 50) (q := 4) (w := 1) (lv' := fun v8 => [(3, .int v8), (4, .int v6), (0, .ref (G.2.1 10)), (1, .ref (G.2.1 q0)), (2, .int x4)]) hC dX7_askRow_50 rfl (by decide) (by decide) (fun _ => rfl) (fun v8 => ?_)
        refine g_goto (pc := 53) (tgt := 6) hC dX7_askRow_53 (by decide) ?_
        exact gT_sub [2, 3, 4, 0] rfl (ih s7 x4 v8)
def mX7_askRow (σ : gS) (q0 : Nat) (p1 : Int32) : Option (Unit × gS) := if gk q0 = 6 then (gBind (mX7_askNothing σ ) (fun r1 s2 => gLet 0 (fun v3 => (mX7_askRow_b6 q0 1100 s2 p1 v3)))) else none
set_option maxHeartbeats 4000000 in
set_option maxRecDepth 100000 in
theorem tX7_askRow (l : Launch) (G : gE) (σ : gS) (q0 : Nat) (p1 : Int32) : gM l G yX7_askRow cX7_askRow 5 (none) rX7_askRow iV [.ref (G.2.1 10), .ref (G.2.1 q0), .int p1] σ (mX7_askRow σ q0 p1) := by
  refine gM_of (by decide) (Nat.le_of_ble_eq_true rfl) ?_
  intro p e s m args below meth c hC
  unfold mX7_askRow
  refine gT_if (fun hq0 => ?_) (fun _ => gT_none)
  show gT p l e rX7_askRow s m args below meth c G 5 iV σ 0 [(0, .ref (G.2.1 10)), (1, .ref (G.2.1 q0)), (2, .int p1)] [] _
  refine g_aload_n (pc := 0) (q := 0) hC dX7_askRow_0 rfl rfl ?_
  refine g_callVv (pc := 1) (As := []) (rest := []) hC lk_RX7_43 kX7 rfl (tX7_askNothing _ _ σ ) rfl rfl (Nat.le_of_ble_eq_true rfl) ⟨rfl, rfl, Nat.le_of_ble_eq_true rfl, Nat.le_of_ble_eq_true rfl⟩ dX7_askRow_1 (fun r1 s2 => ?_)
  refine g_iconst (pc := 4) (v := 0) hC dX7_askRow_4 (by decide) ?_
  refine g_istore_n (pc := 5) (lv' := fun v3 => [(3, .int v3), (0, .ref (G.2.1 10)), (1, .ref (G.2.1 q0)), (2, .int p1)]) hC dX7_askRow_5 rfl (by decide) (fun _ => rfl) (fun v3 => ?_)
  exact gT_sub [1, 2, 3, 0] rfl (wX7_askRow_b6 hC q0 hq0 1100 s2 p1 v3)
theorem lk_RX7_64 : gLV RX7 64 RX8 yX8_greatest cX8_greatest 4 (some .int) 1 := ⟨(gBig_tab 750 (by decide +kernel) (by decide +kernel)), (gBig_tab 751 (by decide +kernel) (by decide +kernel)), (gBig_tab 752 (by decide +kernel) (by decide +kernel)), (gBig_tab 2 (by decide +kernel) (by decide +kernel)), (gBig_tab 753 (by decide +kernel) (by decide +kernel)), rfl, by decide +kernel, by decide +kernel, by decide +kernel⟩
theorem dX7_askGreatest_0 : decode cX7_askGreatest 0 = .ok (.iconst 0, 1) := by decide +kernel
theorem dX7_askGreatest_1 : decode cX7_askGreatest 1 = .ok (.istore_n 2, 1) := by decide +kernel
theorem dX7_askGreatest_2 : decode cX7_askGreatest 2 = .ok (.iload_n 2, 1) := by decide +kernel
theorem dX7_askGreatest_3 : decode cX7_askGreatest 3 = .ok (.bipush 29, 2) := by decide +kernel
theorem dX7_askGreatest_5 : decode cX7_askGreatest 5 = .ok (.if_icmp .gt 20, 3) := by decide +kernel
theorem dX7_askGreatest_8 : decode cX7_askGreatest 8 = .ok (.aload_n 0, 1) := by decide +kernel
theorem dX7_askGreatest_9 : decode cX7_askGreatest 9 = .ok (.getfield 9, 3) := by decide +kernel
theorem dX7_askGreatest_12 : decode cX7_askGreatest 12 = .ok (.iload_n 2, 1) := by decide +kernel
theorem dX7_askGreatest_13 : decode cX7_askGreatest 13 = .ok (.aload_n 1, 1) := by decide +kernel
theorem dX7_askGreatest_14 : decode cX7_askGreatest 14 = .ok (.iload_n 2, 1) := by decide +kernel
theorem dX7_askGreatest_15 : decode cX7_askGreatest 15 = .ok (.invokevirtual 64, 3) := by decide +kernel
theorem dX7_askGreatest_18 : decode cX7_askGreatest 18 = .ok (.iastore, 1) := by decide +kernel
theorem dX7_askGreatest_19 : decode cX7_askGreatest 19 = .ok (.iinc 2 1, 3) := by decide +kernel
theorem dX7_askGreatest_22 : decode cX7_askGreatest 22 = .ok (.goto (-20), 3) := by decide +kernel
theorem dX7_askGreatest_25 : decode cX7_askGreatest 25 = .ok (.return_, 1) := by decide +kernel
abbrev rX7_askGreatest : Room := { frames := 2, cells := 0, slots := 0, locals := 44 }
def mX7_askGreatest_b2    : Nat → gS → Int32 → Option (Unit × gS)
  | 0, _, _ => none
  | n + 1, σ, x2 => if 29 < x2 then (some ((), σ)) else (gBind (mX8_greatest σ x2) (fun r3 s4 => if inbB x2 30 = true then gLet (gUI s4 11 (Int32.toNatClampNeg x2) r3) (fun s5 => gLet (x2 + 1) (fun v6 => ((mX7_askGreatest_b2  n) s5 v6))) else none))
set_option maxHeartbeats 4000000 in
set_option maxRecDepth 100000 in
theorem wX7_askGreatest_b2 {p : Program} {l : Launch} {e : Env} {s : State} {m : MethodId} {args : Array Value} {below : List Frame} {meth : Method} {c : Code} {G : gE} (hC : gCx p s m args meth c G RX7 cX7_askGreatest 3 (none))     (n : Nat) (σ : gS) (x2 : Int32)  : gT p l e rX7_askGreatest s m args below meth c G 3 iV σ 2 [(0, .ref (G.2.1 10)), (1, .ref (G.2.1 1)), (2, .int x2)] [] (mX7_askGreatest_b2  n σ x2) := by
  induction n generalizing σ x2 with
  | zero => exact gT_none
  | succ n ih =>
    unfold mX7_askGreatest_b2
    refine g_iload_n (pc := 2) (q := 2) hC dX7_askGreatest_2 rfl rfl ?_
    refine g_bipush (pc := 3) (v := 29) hC dX7_askGreatest_3 (by decide) ?_
    refine g_icmp_gt (pc := 5) (tgt := 25) hC dX7_askGreatest_5 (by decide) ?_ ?_
    · exact g_vret (pc := 25) hC dX7_askGreatest_25
    · refine g_aload_n (pc := 8) (q := 0) hC dX7_askGreatest_8 rfl rfl ?_
      refine g_get (pc := 9) (v := .ref (G.2.1 11)) hC kX7 rfl 0 (by decide) fl_RX7_9 rfl dX7_askGreatest_9 ?_
      refine g_iload_n (pc := 12) (q := 2) hC dX7_askGreatest_12 rfl rfl ?_
      refine g_aload_n (pc := 13) (q := 1) hC dX7_askGreatest_13 rfl rfl ?_
      refine g_iload_n (pc := 14) (q := 2) hC dX7_askGreatest_14 rfl rfl ?_
      refine g_callVi (pc := 15) (As := [.int x2]) (rest := [.int x2, .ref (G.2.1 11)]) hC lk_RX7_64 kX8 rfl (tX8_greatest _ _ σ x2) rfl rfl (Nat.le_of_ble_eq_true rfl) ⟨rfl, rfl, Nat.le_of_ble_eq_true rfl, Nat.le_of_ble_eq_true rfl⟩ dX7_askGreatest_15 (fun r3 s4 => ?_)
      refine g_iast (pc := 18) hC 30 rfl (by decide) dX7_askGreatest_18 (fun s5 => ?_)
      refine g_iinc (pc := 19) (q := 2) (w := 1) (lv' := fun v6 => [(2, .int v6), (0, .ref (G.2.1 10)), (1, .ref (G.2.1 1))]) hC dX7_askGreatest_19 rfl (by decide) (by decide) (fun _ => rfl) (fun v6 => ?_)
      refine g_goto (pc := 22) (tgt := 2) hC dX7_askGreatest_22 (by decide) ?_
      exact gT_sub [1, 2, 0] rfl (ih s5 v6)
def mX7_askGreatest (σ : gS)  : Option (Unit × gS) := gLet 0 (fun v1 => (mX7_askGreatest_b2  1100 σ v1))
set_option maxHeartbeats 4000000 in
set_option maxRecDepth 100000 in
theorem tX7_askGreatest (l : Launch) (G : gE) (σ : gS)  : gM l G yX7_askGreatest cX7_askGreatest 3 (none) rX7_askGreatest iV [.ref (G.2.1 10), .ref (G.2.1 1)] σ (mX7_askGreatest σ ) := by
  refine gM_of (by decide) (Nat.le_of_ble_eq_true rfl) ?_
  intro p e s m args below meth c hC
  unfold mX7_askGreatest
  show gT p l e rX7_askGreatest s m args below meth c G 3 iV σ 0 [(0, .ref (G.2.1 10)), (1, .ref (G.2.1 1))] [] _
  refine g_iconst (pc := 0) (v := 0) hC dX7_askGreatest_0 (by decide) ?_
  refine g_istore_n (pc := 1) (lv' := fun v1 => [(2, .int v1), (0, .ref (G.2.1 10)), (1, .ref (G.2.1 1))]) hC dX7_askGreatest_1 rfl (by decide) (fun _ => rfl) (fun v1 => ?_)
  exact gT_sub [1, 2, 0] rfl (wX7_askGreatest_b2 hC  1100 σ v1)
theorem fl_RX7_70 : Cond.fieldLink RX7 70 "WinterShed$Shed" "cold" "I" ∈ gBig := (gBig_tab 75 (by decide +kernel) (by decide +kernel))
theorem fl_RX7_75 : Cond.fieldLink RX7 75 "WinterShed$Shed" "now" "I" ∈ gBig := (gBig_tab 87 (by decide +kernel) (by decide +kernel))
theorem lk_RX7_85 : gLV RX7 85 RX3 yX3_overnight cX3_overnight 7 (some .int) 4 := ⟨(gBig_tab 644 (by decide +kernel) (by decide +kernel)), (gBig_tab 645 (by decide +kernel) (by decide +kernel)), (gBig_tab 646 (by decide +kernel) (by decide +kernel)), (gBig_tab 6 (by decide +kernel) (by decide +kernel)), (gBig_tab 647 (by decide +kernel) (by decide +kernel)), rfl, by decide +kernel, by decide +kernel, by decide +kernel⟩
theorem lk_RX7_82 : gLV RX7 82 RX5 yX5_atDawn cX5_atDawn 3 (some .int) 2 := ⟨(gBig_tab 639 (by decide +kernel) (by decide +kernel)), (gBig_tab 640 (by decide +kernel) (by decide +kernel)), (gBig_tab 641 (by decide +kernel) (by decide +kernel)), (gBig_tab 3 (by decide +kernel) (by decide +kernel)), (gBig_tab 642 (by decide +kernel) (by decide +kernel)), rfl, by decide +kernel, by decide +kernel, by decide +kernel⟩
theorem lk_RX7_78 : gLV RX7 78 RX5 yX5_givesAt cX5_givesAt 3 (some .boolean) 2 := ⟨(gBig_tab 635 (by decide +kernel) (by decide +kernel)), (gBig_tab 636 (by decide +kernel) (by decide +kernel)), (gBig_tab 637 (by decide +kernel) (by decide +kernel)), (gBig_tab 3 (by decide +kernel) (by decide +kernel)), (gBig_tab 638 (by decide +kernel) (by decide +kernel)), rfl, by decide +kernel, by decide +kernel, by decide +kernel⟩
theorem dX7_walk_0 : decode cX7_walk 0 = .ok (.aload_n 0, 1) := by decide +kernel
theorem dX7_walk_1 : decode cX7_walk 1 = .ok (.bipush (-2), 2) := by decide +kernel
theorem dX7_walk_3 : decode cX7_walk 3 = .ok (.putfield 21, 3) := by decide +kernel
theorem dX7_walk_6 : decode cX7_walk 6 = .ok (.aload_n 1, 1) := by decide +kernel
theorem dX7_walk_7 : decode cX7_walk 7 = .ok (.getfield 70, 3) := by decide +kernel
theorem dX7_walk_10 : decode cX7_walk 10 = .ok (.istore_n 3, 1) := by decide +kernel
theorem dX7_walk_11 : decode cX7_walk 11 = .ok (.aload_n 1, 1) := by decide +kernel
theorem dX7_walk_12 : decode cX7_walk 12 = .ok (.getfield 75, 3) := by decide +kernel
theorem dX7_walk_15 : decode cX7_walk 15 = .ok (.istore 4, 2) := by decide +kernel
theorem dX7_walk_17 : decode cX7_walk 17 = .ok (.iload 4, 2) := by decide +kernel
theorem dX7_walk_19 : decode cX7_walk 19 = .ok (.bipush 29, 2) := by decide +kernel
theorem dX7_walk_21 : decode cX7_walk 21 = .ok (.if_icmp .gt 86, 3) := by decide +kernel
theorem dX7_walk_24 : decode cX7_walk 24 = .ok (.aload_n 0, 1) := by decide +kernel
theorem dX7_walk_25 : decode cX7_walk 25 = .ok (.getfield 21, 3) := by decide +kernel
theorem dX7_walk_28 : decode cX7_walk 28 = .ok (.bipush (-2), 2) := by decide +kernel
theorem dX7_walk_30 : decode cX7_walk 30 = .ok (.if_icmp .ne 19, 3) := by decide +kernel
theorem dX7_walk_33 : decode cX7_walk 33 = .ok (.aload_n 1, 1) := by decide +kernel
theorem dX7_walk_34 : decode cX7_walk 34 = .ok (.iload 4, 2) := by decide +kernel
theorem dX7_walk_36 : decode cX7_walk 36 = .ok (.iload_n 3, 1) := by decide +kernel
theorem dX7_walk_37 : decode cX7_walk 37 = .ok (.invokevirtual 78, 3) := by decide +kernel
theorem dX7_walk_40 : decode cX7_walk 40 = .ok (.ifCond .eq 9, 3) := by decide +kernel
theorem dX7_walk_43 : decode cX7_walk 43 = .ok (.aload_n 0, 1) := by decide +kernel
theorem dX7_walk_44 : decode cX7_walk 44 = .ok (.iload 4, 2) := by decide +kernel
theorem dX7_walk_46 : decode cX7_walk 46 = .ok (.putfield 21, 3) := by decide +kernel
theorem dX7_walk_49 : decode cX7_walk 49 = .ok (.aload_n 1, 1) := by decide +kernel
theorem dX7_walk_50 : decode cX7_walk 50 = .ok (.iload 4, 2) := by decide +kernel
theorem dX7_walk_52 : decode cX7_walk 52 = .ok (.iload_n 3, 1) := by decide +kernel
theorem dX7_walk_53 : decode cX7_walk 53 = .ok (.invokevirtual 82, 3) := by decide +kernel
theorem dX7_walk_56 : decode cX7_walk 56 = .ok (.istore_n 3, 1) := by decide +kernel
theorem dX7_walk_57 : decode cX7_walk 57 = .ok (.aload_n 0, 1) := by decide +kernel
theorem dX7_walk_58 : decode cX7_walk 58 = .ok (.getfield 9, 3) := by decide +kernel
theorem dX7_walk_61 : decode cX7_walk 61 = .ok (.iload 4, 2) := by decide +kernel
theorem dX7_walk_63 : decode cX7_walk 63 = .ok (.iaload, 1) := by decide +kernel
theorem dX7_walk_64 : decode cX7_walk 64 = .ok (.iload_n 3, 1) := by decide +kernel
theorem dX7_walk_65 : decode cX7_walk 65 = .ok (.invokestatic 55, 3) := by decide +kernel
theorem dX7_walk_68 : decode cX7_walk 68 = .ok (.istore 5, 2) := by decide +kernel
theorem dX7_walk_70 : decode cX7_walk 70 = .ok (.aload_n 0, 1) := by decide +kernel
theorem dX7_walk_71 : decode cX7_walk 71 = .ok (.getfield 15, 3) := by decide +kernel
theorem dX7_walk_74 : decode cX7_walk 74 = .ok (.iload 4, 2) := by decide +kernel
theorem dX7_walk_76 : decode cX7_walk 76 = .ok (.iload_n 3, 1) := by decide +kernel
theorem dX7_walk_77 : decode cX7_walk 77 = .ok (.iastore, 1) := by decide +kernel
theorem dX7_walk_78 : decode cX7_walk 78 = .ok (.aload_n 0, 1) := by decide +kernel
theorem dX7_walk_79 : decode cX7_walk 79 = .ok (.getfield 18, 3) := by decide +kernel
theorem dX7_walk_82 : decode cX7_walk 82 = .ok (.iload 4, 2) := by decide +kernel
theorem dX7_walk_84 : decode cX7_walk 84 = .ok (.iload 5, 2) := by decide +kernel
theorem dX7_walk_86 : decode cX7_walk 86 = .ok (.iastore, 1) := by decide +kernel
theorem dX7_walk_87 : decode cX7_walk 87 = .ok (.aload_n 2, 1) := by decide +kernel
theorem dX7_walk_88 : decode cX7_walk 88 = .ok (.aload_n 1, 1) := by decide +kernel
theorem dX7_walk_89 : decode cX7_walk 89 = .ok (.iload 4, 2) := by decide +kernel
theorem dX7_walk_91 : decode cX7_walk 91 = .ok (.iload_n 3, 1) := by decide +kernel
theorem dX7_walk_92 : decode cX7_walk 92 = .ok (.iload 5, 2) := by decide +kernel
theorem dX7_walk_94 : decode cX7_walk 94 = .ok (.isub, 1) := by decide +kernel
theorem dX7_walk_95 : decode cX7_walk 95 = .ok (.iload 5, 2) := by decide +kernel
theorem dX7_walk_97 : decode cX7_walk 97 = .ok (.invokevirtual 85, 3) := by decide +kernel
theorem dX7_walk_100 : decode cX7_walk 100 = .ok (.istore_n 3, 1) := by decide +kernel
theorem dX7_walk_101 : decode cX7_walk 101 = .ok (.iinc 4 1, 3) := by decide +kernel
theorem dX7_walk_104 : decode cX7_walk 104 = .ok (.goto (-87), 3) := by decide +kernel
theorem dX7_walk_107 : decode cX7_walk 107 = .ok (.aload_n 0, 1) := by decide +kernel
theorem dX7_walk_108 : decode cX7_walk 108 = .ok (.getfield 15, 3) := by decide +kernel
theorem dX7_walk_111 : decode cX7_walk 111 = .ok (.bipush 30, 2) := by decide +kernel
theorem dX7_walk_113 : decode cX7_walk 113 = .ok (.iload_n 3, 1) := by decide +kernel
theorem dX7_walk_114 : decode cX7_walk 114 = .ok (.iastore, 1) := by decide +kernel
theorem dX7_walk_115 : decode cX7_walk 115 = .ok (.return_, 1) := by decide +kernel
abbrev rX7_walk : Room := { frames := 4, cells := 0, slots := 0, locals := 96 }
def mX7_walk_b49  (q0 : Nat) (q1 : Nat) (k17 : gS → Int32 → Int32 → Option (Unit × gS)) (σ : gS) (x7 : Int32) (x8 : Int32) : Option (Unit × gS) := gBind (mX5_atDawn σ q0 x8 x7) (fun r9 s10 => gLet r9 (fun v11 => if inbB x8 30 = true then (gLet (gMin (s10.1 11 (Int32.toNatClampNeg x8)) v11) (fun v12 => if inbB x8 31 = true then gLet (gUI s10 12 (Int32.toNatClampNeg x8) v11) (fun s13 => if inbB x8 30 = true then gLet (gUI s13 13 (Int32.toNatClampNeg x8) v12) (fun s14 => gBind (mX3_overnight s14 q1 q0 x8 (v11 - v12) v12) (fun r15 s16 => gLet r15 (fun v17 => gLet (x8 + 1) (fun v18 => (k17 s16 v17 v18))))) else none) else none)) else none))
set_option maxHeartbeats 4000000 in
set_option maxRecDepth 100000 in
theorem wX7_walk_b49 {p : Program} {l : Launch} {e : Env} {s : State} {m : MethodId} {args : Array Value} {below : List Frame} {meth : Method} {c : Code} {G : gE} (hC : gCx p s m args meth c G RX7 cX7_walk 6 (none))  (q0 : Nat) (q1 : Nat) (hq0 : gk q0 = 5) (hq1 : gk q1 = 3) {k17 : gS → Int32 → Int32 → Option (Unit × gS)} (hk17 : ∀ (σ : gS) (x4 : Int32) (x5 : Int32), gT p l e rX7_walk s m args below meth c G 6 iV σ 17 [(0, .ref (G.2.1 10)), (1, .ref (G.2.1 q0)), (2, .ref (G.2.1 q1)), (3, .int x4), (4, .int x5)] [] (k17 σ x4 x5)) (σ : gS) (x7 : Int32) (x8 : Int32)  : gT p l e rX7_walk s m args below meth c G 6 iV σ 49 [(0, .ref (G.2.1 10)), (1, .ref (G.2.1 q0)), (2, .ref (G.2.1 q1)), (3, .int x7), (4, .int x8)] [] (mX7_walk_b49 q0 q1 k17 σ x7 x8) := by
  unfold mX7_walk_b49
  refine g_aload_n (pc := 49) (q := 1) hC dX7_walk_49 rfl rfl ?_
  refine g_iload (pc := 50) (q := 4) hC dX7_walk_50 rfl ?_
  refine g_iload_n (pc := 52) (q := 3) hC dX7_walk_52 rfl rfl ?_
  refine g_callVi (pc := 53) (As := [.int x8, .int x7]) (rest := []) hC lk_RX7_82 kX5 hq0 (tX5_atDawn _ _ σ q0 x8 x7) rfl rfl (Nat.le_of_ble_eq_true rfl) ⟨rfl, rfl, Nat.le_of_ble_eq_true rfl, Nat.le_of_ble_eq_true rfl⟩ dX7_walk_53 (fun r9 s10 => ?_)
  refine g_istore_n (pc := 56) (lv' := fun v11 => [(3, .int v11), (0, .ref (G.2.1 10)), (1, .ref (G.2.1 q0)), (2, .ref (G.2.1 q1)), (4, .int x8)]) hC dX7_walk_56 rfl (by decide) (fun _ => rfl) (fun v11 => ?_)
  refine g_aload_n (pc := 57) (q := 1) hC dX7_walk_57 rfl rfl ?_
  refine g_get (pc := 58) (v := .ref (G.2.1 11)) hC kX7 rfl 0 (by decide) fl_RX7_9 rfl dX7_walk_58 ?_
  refine g_iload (pc := 61) (q := 4) hC dX7_walk_61 rfl ?_
  refine g_iald (pc := 63) hC 30 rfl (by decide) dX7_walk_63 ?_
  refine g_iload_n (pc := 64) (q := 0) hC dX7_walk_64 rfl rfl ?_
  refine g_min (pc := 65) hC mth_RX7_55 ⟨Nat.le_of_ble_eq_true rfl, Nat.le_of_ble_eq_true rfl⟩ (Nat.le_of_ble_eq_true rfl) dX7_walk_65 ?_
  refine g_istore (pc := 68) (lv' := fun v12 => [(5, .int v12), (3, .int v11), (0, .ref (G.2.1 10)), (1, .ref (G.2.1 q0)), (2, .ref (G.2.1 q1)), (4, .int x8)]) hC dX7_walk_68 (by decide) (fun _ => rfl) (fun v12 => ?_)
  refine g_aload_n (pc := 70) (q := 2) hC dX7_walk_70 rfl rfl ?_
  refine g_get (pc := 71) (v := .ref (G.2.1 12)) hC kX7 rfl 1 (by decide) fl_RX7_15 rfl dX7_walk_71 ?_
  refine g_iload (pc := 74) (q := 5) hC dX7_walk_74 rfl ?_
  refine g_iload_n (pc := 76) (q := 1) hC dX7_walk_76 rfl rfl ?_
  refine g_iast (pc := 77) hC 31 rfl (by decide) dX7_walk_77 (fun s13 => ?_)
  refine g_aload_n (pc := 78) (q := 2) hC dX7_walk_78 rfl rfl ?_
  refine g_get (pc := 79) (v := .ref (G.2.1 13)) hC kX7 rfl 2 (by decide) fl_RX7_18 rfl dX7_walk_79 ?_
  refine g_iload (pc := 82) (q := 5) hC dX7_walk_82 rfl ?_
  refine g_iload (pc := 84) (q := 0) hC dX7_walk_84 rfl ?_
  refine g_iast (pc := 86) hC 30 rfl (by decide) dX7_walk_86 (fun s14 => ?_)
  refine g_aload_n (pc := 87) (q := 4) hC dX7_walk_87 rfl rfl ?_
  refine g_aload_n (pc := 88) (q := 3) hC dX7_walk_88 rfl rfl ?_
  refine g_iload (pc := 89) (q := 5) hC dX7_walk_89 rfl ?_
  refine g_iload_n (pc := 91) (q := 1) hC dX7_walk_91 rfl rfl ?_
  refine g_iload (pc := 92) (q := 0) hC dX7_walk_92 rfl ?_
  refine g_isub (pc := 94) hC dX7_walk_94 ?_
  refine g_iload (pc := 95) (q := 0) hC dX7_walk_95 rfl ?_
  refine g_callVi (pc := 97) (As := [.ref (G.2.1 q0), .int x8, .int (v11 - v12), .int v12]) (rest := []) hC lk_RX7_85 kX3 hq1 (tX3_overnight _ _ s14 q1 q0 x8 (v11 - v12) v12) rfl rfl (Nat.le_of_ble_eq_true rfl) ⟨rfl, rfl, Nat.le_of_ble_eq_true rfl, Nat.le_of_ble_eq_true rfl⟩ dX7_walk_97 (fun r15 s16 => ?_)
  refine g_istore_n (pc := 100) (lv' := fun v17 => [(3, .int v17), (5, .int v12), (0, .ref (G.2.1 10)), (1, .ref (G.2.1 q0)), (2, .ref (G.2.1 q1)), (4, .int x8)]) hC dX7_walk_100 rfl (by decide) (fun _ => rfl) (fun v17 => ?_)
  refine g_iinc (pc := 101) (q := 5) (w := 1) (lv' := fun v18 => [(4, .int v18), (3, .int v17), (5, .int v12), (0, .ref (G.2.1 10)), (1, .ref (G.2.1 q0)), (2, .ref (G.2.1 q1))]) hC dX7_walk_101 rfl (by decide) (by decide) (fun _ => rfl) (fun v18 => ?_)
  refine g_goto (pc := 104) (tgt := 17) hC dX7_walk_104 (by decide) ?_
  exact gT_sub [3, 4, 5, 1, 0] rfl (hk17 s16 v17 v18)
def mX7_walk_b17  (q0 : Nat) (q1 : Nat)  : Nat → gS → Int32 → Int32 → Option (Unit × gS)
  | 0, _, _, _ => none
  | n + 1, σ, x4, x5 => if 29 < x5 then (if inbB 30 31 = true then gLet (gUI σ 12 (Int32.toNatClampNeg 30) x4) (fun s6 => some ((), s6)) else none) else (if (σ.1 10 3) = (-2) then (gBind (mX5_givesAt σ q0 x5 x4) (fun r19 s20 => if r19 = true then (gLet (gUI s20 10 3 x5) (fun s21 => (mX7_walk_b49 q0 q1 (mX7_walk_b17 q0 q1 n) s21 x4 x5))) else ((mX7_walk_b49 q0 q1 (mX7_walk_b17 q0 q1 n) s20 x4 x5)))) else ((mX7_walk_b49 q0 q1 (mX7_walk_b17 q0 q1 n) σ x4 x5)))
set_option maxHeartbeats 4000000 in
set_option maxRecDepth 100000 in
theorem wX7_walk_b17 {p : Program} {l : Launch} {e : Env} {s : State} {m : MethodId} {args : Array Value} {below : List Frame} {meth : Method} {c : Code} {G : gE} (hC : gCx p s m args meth c G RX7 cX7_walk 6 (none))  (q0 : Nat) (q1 : Nat) (hq0 : gk q0 = 5) (hq1 : gk q1 = 3)  (n : Nat) (σ : gS) (x4 : Int32) (x5 : Int32)  : gT p l e rX7_walk s m args below meth c G 6 iV σ 17 [(0, .ref (G.2.1 10)), (1, .ref (G.2.1 q0)), (2, .ref (G.2.1 q1)), (3, .int x4), (4, .int x5)] [] (mX7_walk_b17 q0 q1 n σ x4 x5) := by
  induction n generalizing σ x4 x5 with
  | zero => exact gT_none
  | succ n ih =>
    unfold mX7_walk_b17
    refine g_iload (pc := 17) (q := 4) hC dX7_walk_17 rfl ?_
    refine g_bipush (pc := 19) (v := 29) hC dX7_walk_19 (by decide) ?_
    refine g_icmp_gt (pc := 21) (tgt := 107) hC dX7_walk_21 (by decide) ?_ ?_
    · refine g_aload_n (pc := 107) (q := 0) hC dX7_walk_107 rfl rfl ?_
      refine g_get (pc := 108) (v := .ref (G.2.1 12)) hC kX7 rfl 1 (by decide) fl_RX7_15 rfl dX7_walk_108 ?_
      refine g_bipush (pc := 111) (v := 30) hC dX7_walk_111 (by decide) ?_
      refine g_iload_n (pc := 113) (q := 3) hC dX7_walk_113 rfl rfl ?_
      refine g_iast (pc := 114) hC 31 rfl (by decide) dX7_walk_114 (fun s6 => ?_)
      exact g_vret (pc := 115) hC dX7_walk_115
    · refine g_aload_n (pc := 24) (q := 0) hC dX7_walk_24 rfl rfl ?_
      refine g_get (pc := 25) (v := .int (σ.1 10 3)) hC kX7 rfl 3 (by decide) fl_RX7_21 rfl dX7_walk_25 ?_
      refine g_bipush (pc := 28) (v := (-2)) hC dX7_walk_28 (by decide) ?_
      refine g_icmp_ne (pc := 30) (tgt := 49) hC dX7_walk_30 (by decide) ?_ ?_
      · exact gT_sub [0, 1, 2, 3, 4] rfl (wX7_walk_b49 hC q0 q1 hq0 hq1 ih σ x4 x5)
      · refine g_aload_n (pc := 33) (q := 1) hC dX7_walk_33 rfl rfl ?_
        refine g_iload (pc := 34) (q := 4) hC dX7_walk_34 rfl ?_
        refine g_iload_n (pc := 36) (q := 3) hC dX7_walk_36 rfl rfl ?_
        refine g_callVz (pc := 37) (As := [.int x5, .int x4]) (rest := []) hC lk_RX7_78 kX5 hq0 (tX5_givesAt _ _ σ q0 x5 x4) rfl rfl (Nat.le_of_ble_eq_true rfl) ⟨rfl, rfl, Nat.le_of_ble_eq_true rfl, Nat.le_of_ble_eq_true rfl⟩ dX7_walk_37 (fun r19 s20 => ?_)
        refine g_bif_eq (pc := 40) (tgt := 49) hC dX7_walk_40 (by decide) ?_ ?_
        · exact gT_sub [0, 1, 2, 3, 4] rfl (wX7_walk_b49 hC q0 q1 hq0 hq1 ih s20 x4 x5)
        · refine g_aload_n (pc := 43) (q := 0) hC dX7_walk_43 rfl rfl ?_
          refine g_iload (pc := 44) (q := 4) hC dX7_walk_44 rfl ?_
          refine g_puti (pc := 46) (fty := .int) hC kX7 rfl 3 (by decide) fl_RX7_21 rfl rfl rfl rfl (fun _ _ => Nat.le_of_ble_eq_true rfl) (fun _ _ => rfl) dX7_walk_46 (fun s21 => ?_)
          exact gT_sub [0, 1, 2, 3, 4] rfl (wX7_walk_b49 hC q0 q1 hq0 hq1 ih s21 x4 x5)
def mX7_walk (σ : gS) (q0 : Nat) (q1 : Nat) : Option (Unit × gS) := if gk q0 = 5 then (if gk q1 = 3 then (gLet (gUI σ 10 3 (-2)) (fun s1 => gLet (s1.1 q0 0) (fun v2 => gLet (s1.1 q0 4) (fun v3 => (mX7_walk_b17 q0 q1 1100 s1 v2 v3))))) else none) else none
set_option maxHeartbeats 4000000 in
set_option maxRecDepth 100000 in
theorem tX7_walk (l : Launch) (G : gE) (σ : gS) (q0 : Nat) (q1 : Nat) : gM l G yX7_walk cX7_walk 6 (none) rX7_walk iV [.ref (G.2.1 10), .ref (G.2.1 q0), .ref (G.2.1 q1)] σ (mX7_walk σ q0 q1) := by
  refine gM_of (by decide) (Nat.le_of_ble_eq_true rfl) ?_
  intro p e s m args below meth c hC
  unfold mX7_walk
  refine gT_if (fun hq0 => ?_) (fun _ => gT_none)
  refine gT_if (fun hq1 => ?_) (fun _ => gT_none)
  show gT p l e rX7_walk s m args below meth c G 6 iV σ 0 [(0, .ref (G.2.1 10)), (1, .ref (G.2.1 q0)), (2, .ref (G.2.1 q1))] [] _
  refine g_aload_n (pc := 0) (q := 0) hC dX7_walk_0 rfl rfl ?_
  refine g_bipush (pc := 1) (v := (-2)) hC dX7_walk_1 (by decide) ?_
  refine g_puti (pc := 3) (fty := .int) hC kX7 rfl 3 (by decide) fl_RX7_21 rfl rfl rfl rfl (fun _ _ => Nat.le_of_ble_eq_true rfl) (fun _ _ => rfl) dX7_walk_3 (fun s1 => ?_)
  refine g_aload_n (pc := 6) (q := 1) hC dX7_walk_6 rfl rfl ?_
  refine g_get (pc := 7) (v := .int (s1.1 q0 0)) hC kX5 hq0 0 (by decide) fl_RX7_70 rfl dX7_walk_7 ?_
  refine g_istore_n (pc := 10) (lv' := fun v2 => [(3, .int v2), (0, .ref (G.2.1 10)), (1, .ref (G.2.1 q0)), (2, .ref (G.2.1 q1))]) hC dX7_walk_10 rfl (by decide) (fun _ => rfl) (fun v2 => ?_)
  refine g_aload_n (pc := 11) (q := 2) hC dX7_walk_11 rfl rfl ?_
  refine g_get (pc := 12) (v := .int (s1.1 q0 4)) hC kX5 hq0 4 (by decide) fl_RX7_75 rfl dX7_walk_12 ?_
  refine g_istore (pc := 15) (lv' := fun v3 => [(4, .int v3), (3, .int v2), (0, .ref (G.2.1 10)), (1, .ref (G.2.1 q0)), (2, .ref (G.2.1 q1))]) hC dX7_walk_15 (by decide) (fun _ => rfl) (fun v3 => ?_)
  exact gT_sub [2, 3, 4, 1, 0] rfl (wX7_walk_b17 hC q0 q1 hq0 hq1 1100 s1 v2 v3)
theorem dX7_beginDraws_0 : decode cX7_beginDraws 0 = .ok (.aload_n 0, 1) := by decide +kernel
theorem dX7_beginDraws_1 : decode cX7_beginDraws 1 = .ok (.iload_n 1, 1) := by decide +kernel
theorem dX7_beginDraws_2 : decode cX7_beginDraws 2 = .ok (.putfield 31, 3) := by decide +kernel
theorem dX7_beginDraws_5 : decode cX7_beginDraws 5 = .ok (.aload_n 0, 1) := by decide +kernel
theorem dX7_beginDraws_6 : decode cX7_beginDraws 6 = .ok (.iload_n 2, 1) := by decide +kernel
theorem dX7_beginDraws_7 : decode cX7_beginDraws 7 = .ok (.putfield 34, 3) := by decide +kernel
theorem dX7_beginDraws_10 : decode cX7_beginDraws 10 = .ok (.aload_n 0, 1) := by decide +kernel
theorem dX7_beginDraws_11 : decode cX7_beginDraws 11 = .ok (.iconst 0, 1) := by decide +kernel
theorem dX7_beginDraws_12 : decode cX7_beginDraws 12 = .ok (.putfield 25, 3) := by decide +kernel
theorem dX7_beginDraws_15 : decode cX7_beginDraws 15 = .ok (.aload_n 0, 1) := by decide +kernel
theorem dX7_beginDraws_16 : decode cX7_beginDraws 16 = .ok (.iconst 0, 1) := by decide +kernel
theorem dX7_beginDraws_17 : decode cX7_beginDraws 17 = .ok (.putfield 28, 3) := by decide +kernel
theorem dX7_beginDraws_20 : decode cX7_beginDraws 20 = .ok (.return_, 1) := by decide +kernel
abbrev rX7_beginDraws : Room := { frames := 0, cells := 0, slots := 0, locals := 0 }
def mX7_beginDraws (σ : gS) (p0 : Int32) (p1 : Int32) : Option (Unit × gS) := gLet (gUI σ 10 6 p0) (fun s1 => gLet (gUI s1 10 7 p1) (fun s2 => gLet (gUI s2 10 4 0) (fun s3 => gLet (gUI s3 10 5 0) (fun s4 => some ((), s4)))))
set_option maxHeartbeats 4000000 in
set_option maxRecDepth 100000 in
theorem tX7_beginDraws (l : Launch) (G : gE) (σ : gS) (p0 : Int32) (p1 : Int32) : gM l G yX7_beginDraws cX7_beginDraws 3 (none) rX7_beginDraws iV [.ref (G.2.1 10), .int p0, .int p1] σ (mX7_beginDraws σ p0 p1) := by
  refine gM_of (by decide) (Nat.le_of_ble_eq_true rfl) ?_
  intro p e s m args below meth c hC
  unfold mX7_beginDraws
  show gT p l e rX7_beginDraws s m args below meth c G 3 iV σ 0 [(0, .ref (G.2.1 10)), (1, .int p0), (2, .int p1)] [] _
  refine g_aload_n (pc := 0) (q := 0) hC dX7_beginDraws_0 rfl rfl ?_
  refine g_iload_n (pc := 1) (q := 1) hC dX7_beginDraws_1 rfl rfl ?_
  refine g_puti (pc := 2) (fty := .int) hC kX7 rfl 6 (by decide) fl_RX7_31 rfl rfl rfl rfl (fun _ _ => Nat.le_of_ble_eq_true rfl) (fun _ _ => rfl) dX7_beginDraws_2 (fun s1 => ?_)
  refine g_aload_n (pc := 5) (q := 0) hC dX7_beginDraws_5 rfl rfl ?_
  refine g_iload_n (pc := 6) (q := 2) hC dX7_beginDraws_6 rfl rfl ?_
  refine g_puti (pc := 7) (fty := .int) hC kX7 rfl 7 (by decide) fl_RX7_34 rfl rfl rfl rfl (fun _ _ => Nat.le_of_ble_eq_true rfl) (fun _ _ => rfl) dX7_beginDraws_7 (fun s2 => ?_)
  refine g_aload_n (pc := 10) (q := 0) hC dX7_beginDraws_10 rfl rfl ?_
  refine g_iconst (pc := 11) (v := 0) hC dX7_beginDraws_11 (by decide) ?_
  refine g_puti (pc := 12) (fty := .int) hC kX7 rfl 4 (by decide) fl_RX7_25 rfl rfl rfl rfl (fun _ _ => Nat.le_of_ble_eq_true rfl) (fun _ _ => rfl) dX7_beginDraws_12 (fun s3 => ?_)
  refine g_aload_n (pc := 15) (q := 0) hC dX7_beginDraws_15 rfl rfl ?_
  refine g_iconst (pc := 16) (v := 0) hC dX7_beginDraws_16 (by decide) ?_
  refine g_puti (pc := 17) (fty := .int) hC kX7 rfl 5 (by decide) fl_RX7_28 rfl rfl rfl rfl (fun _ _ => Nat.le_of_ble_eq_true rfl) (fun _ _ => rfl) dX7_beginDraws_17 (fun s4 => ?_)
  exact g_vret (pc := 20) hC dX7_beginDraws_20
theorem cst_RX7_91 : Cond.constant RX7 91 1103515245 ∈ gBig := (gBig_tab 896 (by decide +kernel) (by decide +kernel))
theorem dX7_drawHours_0 : decode cX7_drawHours 0 = .ok (.aload_n 0, 1) := by decide +kernel
theorem dX7_drawHours_1 : decode cX7_drawHours 1 = .ok (.aload_n 0, 1) := by decide +kernel
theorem dX7_drawHours_2 : decode cX7_drawHours 2 = .ok (.getfield 31, 3) := by decide +kernel
theorem dX7_drawHours_5 : decode cX7_drawHours 5 = .ok (.ldc 91, 2) := by decide +kernel
theorem dX7_drawHours_7 : decode cX7_drawHours 7 = .ok (.imul, 1) := by decide +kernel
theorem dX7_drawHours_8 : decode cX7_drawHours 8 = .ok (.sipush 12345, 3) := by decide +kernel
theorem dX7_drawHours_11 : decode cX7_drawHours 11 = .ok (.iadd, 1) := by decide +kernel
theorem dX7_drawHours_12 : decode cX7_drawHours 12 = .ok (.putfield 31, 3) := by decide +kernel
theorem dX7_drawHours_15 : decode cX7_drawHours 15 = .ok (.aload_n 0, 1) := by decide +kernel
theorem dX7_drawHours_16 : decode cX7_drawHours 16 = .ok (.getfield 31, 3) := by decide +kernel
theorem dX7_drawHours_19 : decode cX7_drawHours 19 = .ok (.bipush 8, 2) := by decide +kernel
theorem dX7_drawHours_21 : decode cX7_drawHours 21 = .ok (.iushr, 1) := by decide +kernel
theorem dX7_drawHours_22 : decode cX7_drawHours 22 = .ok (.bipush 12, 2) := by decide +kernel
theorem dX7_drawHours_24 : decode cX7_drawHours 24 = .ok (.irem, 1) := by decide +kernel
theorem dX7_drawHours_25 : decode cX7_drawHours 25 = .ok (.aload_n 0, 1) := by decide +kernel
theorem dX7_drawHours_26 : decode cX7_drawHours 26 = .ok (.getfield 34, 3) := by decide +kernel
theorem dX7_drawHours_29 : decode cX7_drawHours 29 = .ok (.if_icmp .ge 18, 3) := by decide +kernel
theorem dX7_drawHours_32 : decode cX7_drawHours 32 = .ok (.iconst 1, 1) := by decide +kernel
theorem dX7_drawHours_33 : decode cX7_drawHours 33 = .ok (.aload_n 0, 1) := by decide +kernel
theorem dX7_drawHours_34 : decode cX7_drawHours 34 = .ok (.getfield 31, 3) := by decide +kernel
theorem dX7_drawHours_37 : decode cX7_drawHours 37 = .ok (.bipush 16, 2) := by decide +kernel
theorem dX7_drawHours_39 : decode cX7_drawHours 39 = .ok (.iushr, 1) := by decide +kernel
theorem dX7_drawHours_40 : decode cX7_drawHours 40 = .ok (.bipush 24, 2) := by decide +kernel
theorem dX7_drawHours_42 : decode cX7_drawHours 42 = .ok (.irem, 1) := by decide +kernel
theorem dX7_drawHours_43 : decode cX7_drawHours 43 = .ok (.iadd, 1) := by decide +kernel
theorem dX7_drawHours_44 : decode cX7_drawHours 44 = .ok (.goto 9, 3) := by decide +kernel
theorem dX7_drawHours_47 : decode cX7_drawHours 47 = .ok (.aload_n 0, 1) := by decide +kernel
theorem dX7_drawHours_48 : decode cX7_drawHours 48 = .ok (.getfield 9, 3) := by decide +kernel
theorem dX7_drawHours_51 : decode cX7_drawHours 51 = .ok (.iload_n 1, 1) := by decide +kernel
theorem dX7_drawHours_52 : decode cX7_drawHours 52 = .ok (.iaload, 1) := by decide +kernel
theorem dX7_drawHours_53 : decode cX7_drawHours 53 = .ok (.ireturn, 1) := by decide +kernel
abbrev rX7_drawHours : Room := { frames := 0, cells := 0, slots := 0, locals := 0 }
def mX7_drawHours (σ : gS) (p0 : Int32) : Option (Int32 × gS) := gLet (gUI σ 10 6 (((σ.1 10 6) * 1103515245) + 12345)) (fun s1 => if (s1.1 10 7) ≤ (gRem (gUsr (s1.1 10 6) 8) 12) then (if inbB p0 30 = true then (some ((s1.1 11 (Int32.toNatClampNeg p0)), s1)) else none) else (some ((1 + (gRem (gUsr (s1.1 10 6) 16) 24)), s1)))
set_option maxHeartbeats 4000000 in
set_option maxRecDepth 100000 in
theorem tX7_drawHours (l : Launch) (G : gE) (σ : gS) (p0 : Int32) : gM l G yX7_drawHours cX7_drawHours 2 (some .int) rX7_drawHours iI [.ref (G.2.1 10), .int p0] σ (mX7_drawHours σ p0) := by
  refine gM_of (by decide) (Nat.le_of_ble_eq_true rfl) ?_
  intro p e s m args below meth c hC
  unfold mX7_drawHours
  show gT p l e rX7_drawHours s m args below meth c G 2 iI σ 0 [(0, .ref (G.2.1 10)), (1, .int p0)] [] _
  refine g_aload_n (pc := 0) (q := 0) hC dX7_drawHours_0 rfl rfl ?_
  refine g_aload_n (pc := 1) (q := 0) hC dX7_drawHours_1 rfl rfl ?_
  refine g_get (pc := 2) (v := .int (σ.1 10 6)) hC kX7 rfl 6 (by decide) fl_RX7_31 rfl dX7_drawHours_2 ?_
  refine g_ldc (pc := 5) hC dX7_drawHours_5 cst_RX7_91 ?_
  refine g_imul (pc := 7) hC dX7_drawHours_7 ?_
  refine g_sipush (pc := 8) (v := 12345) hC dX7_drawHours_8 (by decide) ?_
  refine g_iadd (pc := 11) hC dX7_drawHours_11 ?_
  refine g_puti (pc := 12) (fty := .int) hC kX7 rfl 6 (by decide) fl_RX7_31 rfl rfl rfl rfl (fun _ _ => Nat.le_of_ble_eq_true rfl) (fun _ _ => rfl) dX7_drawHours_12 (fun s1 => ?_)
  refine g_aload_n (pc := 15) (q := 0) hC dX7_drawHours_15 rfl rfl ?_
  refine g_get (pc := 16) (v := .int (s1.1 10 6)) hC kX7 rfl 6 (by decide) fl_RX7_31 rfl dX7_drawHours_16 ?_
  refine g_bipush (pc := 19) (v := 8) hC dX7_drawHours_19 (by decide) ?_
  refine g_iushr (pc := 21) hC dX7_drawHours_21 ?_
  refine g_bipush (pc := 22) (v := 12) hC dX7_drawHours_22 (by decide) ?_
  refine g_iremL (pc := 24) hC dX7_drawHours_24 (by decide) ?_
  refine g_aload_n (pc := 25) (q := 0) hC dX7_drawHours_25 rfl rfl ?_
  refine g_get (pc := 26) (v := .int (s1.1 10 7)) hC kX7 rfl 7 (by decide) fl_RX7_34 rfl dX7_drawHours_26 ?_
  refine g_icmp_ge (pc := 29) (tgt := 47) hC dX7_drawHours_29 (by decide) ?_ ?_
  · refine g_aload_n (pc := 47) (q := 0) hC dX7_drawHours_47 rfl rfl ?_
    refine g_get (pc := 48) (v := .ref (G.2.1 11)) hC kX7 rfl 0 (by decide) fl_RX7_9 rfl dX7_drawHours_48 ?_
    refine g_iload_n (pc := 51) (q := 1) hC dX7_drawHours_51 rfl rfl ?_
    refine g_iald (pc := 52) hC 30 rfl (by decide) dX7_drawHours_52 ?_
    exact g_iret (pc := 53) hC dX7_drawHours_53
  · refine g_iconst (pc := 32) (v := 1) hC dX7_drawHours_32 (by decide) ?_
    refine g_aload_n (pc := 33) (q := 0) hC dX7_drawHours_33 rfl rfl ?_
    refine g_get (pc := 34) (v := .int (s1.1 10 6)) hC kX7 rfl 6 (by decide) fl_RX7_31 rfl dX7_drawHours_34 ?_
    refine g_bipush (pc := 37) (v := 16) hC dX7_drawHours_37 (by decide) ?_
    refine g_iushr (pc := 39) hC dX7_drawHours_39 ?_
    refine g_bipush (pc := 40) (v := 24) hC dX7_drawHours_40 (by decide) ?_
    refine g_iremL (pc := 42) hC dX7_drawHours_42 (by decide) ?_
    refine g_iadd (pc := 43) hC dX7_drawHours_43 ?_
    refine g_goto (pc := 44) (tgt := 53) hC dX7_drawHours_44 (by decide) ?_
    exact g_iret (pc := 53) hC dX7_drawHours_53
