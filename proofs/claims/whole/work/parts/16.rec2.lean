theorem dJ1_canEncode_9a6ad_0 : decode cJ1_canEncode_9a6ad 0 = .ok (.iload_n 0, 1) := by decide +kernel
theorem dJ1_canEncode_9a6ad_1 : decode cJ1_canEncode_9a6ad 1 = .ok (.ifCond .lt 14, 3) := by decide +kernel
theorem dJ1_canEncode_9a6ad_4 : decode cJ1_canEncode_9a6ad 4 = .ok (.iload_n 0, 1) := by decide +kernel
theorem dJ1_canEncode_9a6ad_5 : decode cJ1_canEncode_9a6ad 5 = .ok (.sipush 255, 3) := by decide +kernel
theorem dJ1_canEncode_9a6ad_8 : decode cJ1_canEncode_9a6ad 8 = .ok (.if_icmp .gt 7, 3) := by decide +kernel
theorem dJ1_canEncode_9a6ad_11 : decode cJ1_canEncode_9a6ad 11 = .ok (.iconst 1, 1) := by decide +kernel
theorem dJ1_canEncode_9a6ad_12 : decode cJ1_canEncode_9a6ad 12 = .ok (.goto 4, 3) := by decide +kernel
theorem dJ1_canEncode_9a6ad_15 : decode cJ1_canEncode_9a6ad 15 = .ok (.iconst 0, 1) := by decide +kernel
theorem dJ1_canEncode_9a6ad_16 : decode cJ1_canEncode_9a6ad 16 = .ok (.ireturn, 1) := by decide +kernel
abbrev rJ1_canEncode_9a6ad : Room := { frames := 0, cells := 0, slots := 0, locals := 0 }
def mJ1_canEncode_9a6ad (σ : gS) (p0 : Int32) : Option (Bool × gS) := if p0 < 0 then (some (false, σ)) else (if 255 < p0 then (some (false, σ)) else (some (true, σ)))
set_option maxHeartbeats 4000000 in
set_option maxRecDepth 100000 in
theorem tJ1_canEncode_9a6ad (l : Launch) (G : gE) (σ : gS) (p0 : Int32) : gM l G yJ1_canEncode_9a6ad cJ1_canEncode_9a6ad 1 (some .boolean) rJ1_canEncode_9a6ad iZ [.int p0] σ (mJ1_canEncode_9a6ad σ p0) := by
  refine gM_of (by decide) (Nat.le_of_ble_eq_true rfl) ?_
  intro p e s m args below meth c hC
  unfold mJ1_canEncode_9a6ad
  show gT p l e rJ1_canEncode_9a6ad s m args below meth c G 1 iZ σ 0 [(0, .int p0)] [] _
  refine g_iload_n (pc := 0) (q := 0) hC dJ1_canEncode_9a6ad_0 rfl rfl ?_
  refine g_if_lt (pc := 1) (tgt := 15) hC dJ1_canEncode_9a6ad_1 (by decide) ?_ ?_
  · refine g_iconst (pc := 15) (v := 0) hC dJ1_canEncode_9a6ad_15 (by decide) ?_
    exact g_zret0 (pc := 16) hC dJ1_canEncode_9a6ad_16
  · refine g_iload_n (pc := 4) (q := 0) hC dJ1_canEncode_9a6ad_4 rfl rfl ?_
    refine g_sipush (pc := 5) (v := 255) hC dJ1_canEncode_9a6ad_5 (by decide) ?_
    refine g_icmp_gt (pc := 8) (tgt := 15) hC dJ1_canEncode_9a6ad_8 (by decide) ?_ ?_
    · refine g_iconst (pc := 15) (v := 0) hC dJ1_canEncode_9a6ad_15 (by decide) ?_
      exact g_zret0 (pc := 16) hC dJ1_canEncode_9a6ad_16
    · refine g_iconst (pc := 11) (v := 1) hC dJ1_canEncode_9a6ad_11 (by decide) ?_
      refine g_goto (pc := 12) (tgt := 16) hC dJ1_canEncode_9a6ad_12 (by decide) ?_
      exact g_zret1 (pc := 16) hC dJ1_canEncode_9a6ad_16
theorem dJ1_indexOfChar_4cfef_0 : decode cJ1_indexOfChar_4cfef 0 = .ok (.iload_n 1, 1) := by decide +kernel
theorem dJ1_indexOfChar_4cfef_1 : decode cJ1_indexOfChar_4cfef 1 = .ok (.i2b, 1) := by decide +kernel
theorem dJ1_indexOfChar_4cfef_2 : decode cJ1_indexOfChar_4cfef 2 = .ok (.istore 4, 2) := by decide +kernel
theorem dJ1_indexOfChar_4cfef_4 : decode cJ1_indexOfChar_4cfef 4 = .ok (.iload_n 2, 1) := by decide +kernel
theorem dJ1_indexOfChar_4cfef_5 : decode cJ1_indexOfChar_4cfef 5 = .ok (.istore 5, 2) := by decide +kernel
theorem dJ1_indexOfChar_4cfef_7 : decode cJ1_indexOfChar_4cfef 7 = .ok (.iload 5, 2) := by decide +kernel
theorem dJ1_indexOfChar_4cfef_9 : decode cJ1_indexOfChar_4cfef 9 = .ok (.iload_n 3, 1) := by decide +kernel
theorem dJ1_indexOfChar_4cfef_10 : decode cJ1_indexOfChar_4cfef 10 = .ok (.if_icmp .ge 21, 3) := by decide +kernel
theorem dJ1_indexOfChar_4cfef_13 : decode cJ1_indexOfChar_4cfef 13 = .ok (.aload_n 0, 1) := by decide +kernel
theorem dJ1_indexOfChar_4cfef_14 : decode cJ1_indexOfChar_4cfef 14 = .ok (.iload 5, 2) := by decide +kernel
theorem dJ1_indexOfChar_4cfef_16 : decode cJ1_indexOfChar_4cfef 16 = .ok (.baload, 1) := by decide +kernel
theorem dJ1_indexOfChar_4cfef_17 : decode cJ1_indexOfChar_4cfef 17 = .ok (.iload 4, 2) := by decide +kernel
theorem dJ1_indexOfChar_4cfef_19 : decode cJ1_indexOfChar_4cfef 19 = .ok (.if_icmp .ne 6, 3) := by decide +kernel
theorem dJ1_indexOfChar_4cfef_22 : decode cJ1_indexOfChar_4cfef 22 = .ok (.iload 5, 2) := by decide +kernel
theorem dJ1_indexOfChar_4cfef_24 : decode cJ1_indexOfChar_4cfef 24 = .ok (.ireturn, 1) := by decide +kernel
theorem dJ1_indexOfChar_4cfef_25 : decode cJ1_indexOfChar_4cfef 25 = .ok (.iinc 5 1, 3) := by decide +kernel
theorem dJ1_indexOfChar_4cfef_28 : decode cJ1_indexOfChar_4cfef 28 = .ok (.goto (-21), 3) := by decide +kernel
theorem dJ1_indexOfChar_4cfef_31 : decode cJ1_indexOfChar_4cfef 31 = .ok (.iconst (-1), 1) := by decide +kernel
theorem dJ1_indexOfChar_4cfef_32 : decode cJ1_indexOfChar_4cfef 32 = .ok (.ireturn, 1) := by decide +kernel
abbrev rJ1_indexOfChar_4cfef : Room := { frames := 0, cells := 0, slots := 0, locals := 0 }
def mJ1_indexOfChar_4cfef_b7    : Nat → gS → Int32 → Int32 → Int32 → Option (Int32 × gS)
  | 0, _, _, _, _ => none
  | n + 1, σ, x3, x4, x5 => if x3 ≤ x5 then (some ((-1), σ)) else (if inbB x5 6 = true then (if (gBy (Int32.toNatClampNeg x5)) = x4 then (some (x5, σ)) else (gLet (x5 + 1) (fun v6 => ((mJ1_indexOfChar_4cfef_b7  n) σ x3 x4 v6)))) else none)
set_option maxHeartbeats 4000000 in
set_option maxRecDepth 100000 in
theorem wJ1_indexOfChar_4cfef_b7 {p : Program} {l : Launch} {e : Env} {s : State} {m : MethodId} {args : Array Value} {below : List Frame} {meth : Method} {c : Code} {G : gE} (hC : gCx p s m args meth c G RJ1 cJ1_indexOfChar_4cfef 6 (some .int))     (n : Nat) (σ : gS) (x3 : Int32) (x4 : Int32) (x5 : Int32)  : gT p l e rJ1_indexOfChar_4cfef s m args below meth c G 6 iI σ 7 [(0, .ref (G.2.2.2 5)), (3, .int x3), (4, .int x4), (5, .int x5)] [] (mJ1_indexOfChar_4cfef_b7  n σ x3 x4 x5) := by
  induction n generalizing σ x3 x4 x5 with
  | zero => exact gT_none
  | succ n ih =>
    unfold mJ1_indexOfChar_4cfef_b7
    refine g_iload (pc := 7) (q := 3) hC dJ1_indexOfChar_4cfef_7 rfl ?_
    refine g_iload_n (pc := 9) (q := 1) hC dJ1_indexOfChar_4cfef_9 rfl rfl ?_
    refine g_icmp_ge (pc := 10) (tgt := 31) hC dJ1_indexOfChar_4cfef_10 (by decide) ?_ ?_
    · refine g_iconst (pc := 31) (v := (-1)) hC dJ1_indexOfChar_4cfef_31 (by decide) ?_
      exact g_iret (pc := 32) hC dJ1_indexOfChar_4cfef_32
    · refine g_aload_n (pc := 13) (q := 0) hC dJ1_indexOfChar_4cfef_13 rfl rfl ?_
      refine g_iload (pc := 14) (q := 3) hC dJ1_indexOfChar_4cfef_14 rfl ?_
      refine g_sbald (pc := 16) hC dJ1_indexOfChar_4cfef_16 ?_
      refine g_iload (pc := 17) (q := 2) hC dJ1_indexOfChar_4cfef_17 rfl ?_
      refine g_icmp_ne (pc := 19) (tgt := 25) hC dJ1_indexOfChar_4cfef_19 (by decide) ?_ ?_
      · refine g_iinc (pc := 25) (q := 3) (w := 1) (lv' := fun v6 => [(5, .int v6), (0, .ref (G.2.2.2 5)), (3, .int x3), (4, .int x4)]) hC dJ1_indexOfChar_4cfef_25 rfl (by decide) (by decide) (fun _ => rfl) (fun v6 => ?_)
        refine g_goto (pc := 28) (tgt := 7) hC dJ1_indexOfChar_4cfef_28 (by decide) ?_
        exact gT_sub [1, 2, 3, 0] rfl (ih σ x3 x4 v6)
      · refine g_iload (pc := 22) (q := 3) hC dJ1_indexOfChar_4cfef_22 rfl ?_
        exact g_iret (pc := 24) hC dJ1_indexOfChar_4cfef_24
def mJ1_indexOfChar_4cfef (σ : gS) (p1 : Int32) (p2 : Int32) (p3 : Int32) : Option (Int32 × gS) := gLet (Int8.toInt32 (Int32.toInt8 p1)) (fun v1 => gLet p2 (fun v2 => (mJ1_indexOfChar_4cfef_b7  1100 σ p3 v1 v2)))
set_option maxHeartbeats 4000000 in
set_option maxRecDepth 100000 in
theorem tJ1_indexOfChar_4cfef (l : Launch) (G : gE) (σ : gS) (p1 : Int32) (p2 : Int32) (p3 : Int32) : gM l G yJ1_indexOfChar_4cfef cJ1_indexOfChar_4cfef 6 (some .int) rJ1_indexOfChar_4cfef iI [.ref (G.2.2.2 5), .int p1, .int p2, .int p3] σ (mJ1_indexOfChar_4cfef σ p1 p2 p3) := by
  refine gM_of (by decide) (Nat.le_of_ble_eq_true rfl) ?_
  intro p e s m args below meth c hC
  unfold mJ1_indexOfChar_4cfef
  show gT p l e rJ1_indexOfChar_4cfef s m args below meth c G 6 iI σ 0 [(0, .ref (G.2.2.2 5)), (1, .int p1), (2, .int p2), (3, .int p3)] [] _
  refine g_iload_n (pc := 0) (q := 1) hC dJ1_indexOfChar_4cfef_0 rfl rfl ?_
  refine g_i2b (pc := 1) hC dJ1_indexOfChar_4cfef_1 ?_
  refine g_istore (pc := 2) (lv' := fun v1 => [(4, .int v1), (0, .ref (G.2.2.2 5)), (1, .int p1), (2, .int p2), (3, .int p3)]) hC dJ1_indexOfChar_4cfef_2 (by decide) (fun _ => rfl) (fun v1 => ?_)
  refine g_iload_n (pc := 4) (q := 3) hC dJ1_indexOfChar_4cfef_4 rfl rfl ?_
  refine g_istore (pc := 5) (lv' := fun v2 => [(5, .int v2), (4, .int v1), (0, .ref (G.2.2.2 5)), (1, .int p1), (2, .int p2), (3, .int p3)]) hC dJ1_indexOfChar_4cfef_5 (by decide) (fun _ => rfl) (fun v2 => ?_)
  exact gT_sub [2, 5, 1, 0] rfl (wJ1_indexOfChar_4cfef_b7 hC  1100 σ p3 v1 v2)
theorem mth_RJ1_92 : gMx RJ1 92 := ⟨(gBig_tab 544 (by decide +kernel) (by decide +kernel)), (gBig_tab 482 (by decide +kernel) (by decide +kernel)), (gBig_tab 13 (by decide +kernel) (by decide +kernel)), (gBig_tab 483 (by decide +kernel) (by decide +kernel))⟩
theorem mth_RJ1_38 : gMn RJ1 38 := ⟨(gBig_tab 545 (by decide +kernel) (by decide +kernel)), (gBig_tab 479 (by decide +kernel) (by decide +kernel)), (gBig_tab 13 (by decide +kernel) (by decide +kernel)), (gBig_tab 480 (by decide +kernel) (by decide +kernel))⟩
theorem lk_RJ1_95 : gLS RJ1 95 yJ1_indexOfChar_4cfef cJ1_indexOfChar_4cfef 6 (some .int) 4 := ⟨(gBig_tab 546 (by decide +kernel) (by decide +kernel)), (gBig_tab 547 (by decide +kernel) (by decide +kernel)), (gBig_tab 15 (by decide +kernel) (by decide +kernel)), (gBig_tab 548 (by decide +kernel) (by decide +kernel)), by decide +kernel, by decide +kernel, by decide +kernel⟩
theorem lk_RJ1_88 : gLS RJ1 88 yJ1_canEncode_9a6ad cJ1_canEncode_9a6ad 1 (some .boolean) 1 := ⟨(gBig_tab 541 (by decide +kernel) (by decide +kernel)), (gBig_tab 542 (by decide +kernel) (by decide +kernel)), (gBig_tab 15 (by decide +kernel) (by decide +kernel)), (gBig_tab 543 (by decide +kernel) (by decide +kernel)), by decide +kernel, by decide +kernel, by decide +kernel⟩
theorem dJ1_indexOf_4cfef_0 : decode cJ1_indexOf_4cfef 0 = .ok (.iload_n 1, 1) := by decide +kernel
theorem dJ1_indexOf_4cfef_1 : decode cJ1_indexOf_4cfef 1 = .ok (.invokestatic 88, 3) := by decide +kernel
theorem dJ1_indexOf_4cfef_4 : decode cJ1_indexOf_4cfef 4 = .ok (.ifCond .ne 5, 3) := by decide +kernel
theorem dJ1_indexOf_4cfef_7 : decode cJ1_indexOf_4cfef 7 = .ok (.iconst (-1), 1) := by decide +kernel
theorem dJ1_indexOf_4cfef_8 : decode cJ1_indexOf_4cfef 8 = .ok (.ireturn, 1) := by decide +kernel
theorem dJ1_indexOf_4cfef_9 : decode cJ1_indexOf_4cfef 9 = .ok (.iload_n 2, 1) := by decide +kernel
theorem dJ1_indexOf_4cfef_10 : decode cJ1_indexOf_4cfef 10 = .ok (.iconst 0, 1) := by decide +kernel
theorem dJ1_indexOf_4cfef_11 : decode cJ1_indexOf_4cfef 11 = .ok (.invokestatic 92, 3) := by decide +kernel
theorem dJ1_indexOf_4cfef_14 : decode cJ1_indexOf_4cfef 14 = .ok (.istore_n 2, 1) := by decide +kernel
theorem dJ1_indexOf_4cfef_15 : decode cJ1_indexOf_4cfef 15 = .ok (.iload_n 3, 1) := by decide +kernel
theorem dJ1_indexOf_4cfef_16 : decode cJ1_indexOf_4cfef 16 = .ok (.aload_n 0, 1) := by decide +kernel
theorem dJ1_indexOf_4cfef_17 : decode cJ1_indexOf_4cfef 17 = .ok (.arraylength, 1) := by decide +kernel
theorem dJ1_indexOf_4cfef_18 : decode cJ1_indexOf_4cfef 18 = .ok (.invokestatic 38, 3) := by decide +kernel
theorem dJ1_indexOf_4cfef_21 : decode cJ1_indexOf_4cfef 21 = .ok (.istore_n 3, 1) := by decide +kernel
theorem dJ1_indexOf_4cfef_22 : decode cJ1_indexOf_4cfef 22 = .ok (.iload_n 2, 1) := by decide +kernel
theorem dJ1_indexOf_4cfef_23 : decode cJ1_indexOf_4cfef 23 = .ok (.iload_n 3, 1) := by decide +kernel
theorem dJ1_indexOf_4cfef_24 : decode cJ1_indexOf_4cfef 24 = .ok (.if_icmp .lt 5, 3) := by decide +kernel
theorem dJ1_indexOf_4cfef_27 : decode cJ1_indexOf_4cfef 27 = .ok (.iconst (-1), 1) := by decide +kernel
theorem dJ1_indexOf_4cfef_28 : decode cJ1_indexOf_4cfef 28 = .ok (.ireturn, 1) := by decide +kernel
theorem dJ1_indexOf_4cfef_29 : decode cJ1_indexOf_4cfef 29 = .ok (.aload_n 0, 1) := by decide +kernel
theorem dJ1_indexOf_4cfef_30 : decode cJ1_indexOf_4cfef 30 = .ok (.iload_n 1, 1) := by decide +kernel
theorem dJ1_indexOf_4cfef_31 : decode cJ1_indexOf_4cfef 31 = .ok (.iload_n 2, 1) := by decide +kernel
theorem dJ1_indexOf_4cfef_32 : decode cJ1_indexOf_4cfef 32 = .ok (.iload_n 3, 1) := by decide +kernel
theorem dJ1_indexOf_4cfef_33 : decode cJ1_indexOf_4cfef 33 = .ok (.invokestatic 95, 3) := by decide +kernel
theorem dJ1_indexOf_4cfef_36 : decode cJ1_indexOf_4cfef 36 = .ok (.ireturn, 1) := by decide +kernel
abbrev rJ1_indexOf_4cfef : Room := { frames := 1, cells := 0, slots := 0, locals := 25 }
def mJ1_indexOf_4cfef (σ : gS) (p1 : Int32) (p2 : Int32) (p3 : Int32) : Option (Int32 × gS) := gBind (mJ1_canEncode_9a6ad σ p1) (fun r1 s2 => if r1 = true then (gLet (gMax p2 0) (fun v3 => gLet (gMin p3 6) (fun v4 => if v3 < v4 then (gBind (mJ1_indexOfChar_4cfef s2 p1 v3 v4) (fun r5 s6 => some (r5, s6))) else (some ((-1), s2))))) else (some ((-1), s2)))
set_option maxHeartbeats 4000000 in
set_option maxRecDepth 100000 in
theorem tJ1_indexOf_4cfef (l : Launch) (G : gE) (σ : gS) (p1 : Int32) (p2 : Int32) (p3 : Int32) : gM l G yJ1_indexOf_4cfef cJ1_indexOf_4cfef 4 (some .int) rJ1_indexOf_4cfef iI [.ref (G.2.2.2 5), .int p1, .int p2, .int p3] σ (mJ1_indexOf_4cfef σ p1 p2 p3) := by
  refine gM_of (by decide) (Nat.le_of_ble_eq_true rfl) ?_
  intro p e s m args below meth c hC
  unfold mJ1_indexOf_4cfef
  show gT p l e rJ1_indexOf_4cfef s m args below meth c G 4 iI σ 0 [(0, .ref (G.2.2.2 5)), (1, .int p1), (2, .int p2), (3, .int p3)] [] _
  refine g_iload_n (pc := 0) (q := 1) hC dJ1_indexOf_4cfef_0 rfl rfl ?_
  refine g_callSz (pc := 1) (As := [.int p1]) (rest := []) hC lk_RJ1_88 (tJ1_canEncode_9a6ad _ _ σ p1) rfl rfl (Nat.le_of_ble_eq_true rfl) ⟨rfl, rfl, Nat.le_of_ble_eq_true rfl, Nat.le_of_ble_eq_true rfl⟩ dJ1_indexOf_4cfef_1 (fun r1 s2 => ?_)
  refine g_bif_ne (pc := 4) (tgt := 9) hC dJ1_indexOf_4cfef_4 (by decide) ?_ ?_
  · refine g_iload_n (pc := 9) (q := 2) hC dJ1_indexOf_4cfef_9 rfl rfl ?_
    refine g_iconst (pc := 10) (v := 0) hC dJ1_indexOf_4cfef_10 (by decide) ?_
    refine g_max (pc := 11) hC mth_RJ1_92 ⟨Nat.le_of_ble_eq_true rfl, Nat.le_of_ble_eq_true rfl⟩ (Nat.le_of_ble_eq_true rfl) dJ1_indexOf_4cfef_11 ?_
    refine g_istore_n (pc := 14) (lv' := fun v3 => [(2, .int v3), (0, .ref (G.2.2.2 5)), (1, .int p1), (3, .int p3)]) hC dJ1_indexOf_4cfef_14 rfl (by decide) (fun _ => rfl) (fun v3 => ?_)
    refine g_iload_n (pc := 15) (q := 3) hC dJ1_indexOf_4cfef_15 rfl rfl ?_
    refine g_aload_n (pc := 16) (q := 1) hC dJ1_indexOf_4cfef_16 rfl rfl ?_
    refine g_slen (pc := 17) hC dJ1_indexOf_4cfef_17 ?_
    refine g_min (pc := 18) hC mth_RJ1_38 ⟨Nat.le_of_ble_eq_true rfl, Nat.le_of_ble_eq_true rfl⟩ (Nat.le_of_ble_eq_true rfl) dJ1_indexOf_4cfef_18 ?_
    refine g_istore_n (pc := 21) (lv' := fun v4 => [(3, .int v4), (2, .int v3), (0, .ref (G.2.2.2 5)), (1, .int p1)]) hC dJ1_indexOf_4cfef_21 rfl (by decide) (fun _ => rfl) (fun v4 => ?_)
    refine g_iload_n (pc := 22) (q := 1) hC dJ1_indexOf_4cfef_22 rfl rfl ?_
    refine g_iload_n (pc := 23) (q := 0) hC dJ1_indexOf_4cfef_23 rfl rfl ?_
    refine g_icmp_lt (pc := 24) (tgt := 29) hC dJ1_indexOf_4cfef_24 (by decide) ?_ ?_
    · refine g_aload_n (pc := 29) (q := 2) hC dJ1_indexOf_4cfef_29 rfl rfl ?_
      refine g_iload_n (pc := 30) (q := 3) hC dJ1_indexOf_4cfef_30 rfl rfl ?_
      refine g_iload_n (pc := 31) (q := 1) hC dJ1_indexOf_4cfef_31 rfl rfl ?_
      refine g_iload_n (pc := 32) (q := 0) hC dJ1_indexOf_4cfef_32 rfl rfl ?_
      refine g_callSi (pc := 33) (As := [.ref (G.2.2.2 5), .int p1, .int v3, .int v4]) (rest := []) hC lk_RJ1_95 (tJ1_indexOfChar_4cfef _ _ s2 p1 v3 v4) rfl rfl (Nat.le_of_ble_eq_true rfl) ⟨rfl, rfl, Nat.le_of_ble_eq_true rfl, Nat.le_of_ble_eq_true rfl⟩ dJ1_indexOf_4cfef_33 (fun r5 s6 => ?_)
      exact g_iret (pc := 36) hC dJ1_indexOf_4cfef_36
    · refine g_iconst (pc := 27) (v := (-1)) hC dJ1_indexOf_4cfef_27 (by decide) ?_
      exact g_iret (pc := 28) hC dJ1_indexOf_4cfef_28
  · refine g_iconst (pc := 7) (v := (-1)) hC dJ1_indexOf_4cfef_7 (by decide) ?_
    exact g_iret (pc := 8) hC dJ1_indexOf_4cfef_8
theorem fl_RJ0_38 : Cond.fieldLink RJ0 38 "java/lang/String" "COMPACT_STRINGS" "Z" ∈ gBig := (gBig_tab 528 (by decide +kernel) (by decide +kernel))
theorem fl_RJ0_15 : Cond.fieldLink RJ0 15 "java/lang/String" "coder" "B" ∈ gBig := (gBig_tab 1593 (by decide +kernel) (by decide +kernel))
theorem dJ0_coder_7d493_0 : decode cJ0_coder_7d493 0 = .ok (.getstatic 38, 3) := by decide +kernel
theorem dJ0_coder_7d493_3 : decode cJ0_coder_7d493 3 = .ok (.ifCond .eq 10, 3) := by decide +kernel
theorem dJ0_coder_7d493_6 : decode cJ0_coder_7d493 6 = .ok (.aload_n 0, 1) := by decide +kernel
theorem dJ0_coder_7d493_7 : decode cJ0_coder_7d493 7 = .ok (.getfield 15, 3) := by decide +kernel
theorem dJ0_coder_7d493_10 : decode cJ0_coder_7d493 10 = .ok (.goto 4, 3) := by decide +kernel
theorem dJ0_coder_7d493_13 : decode cJ0_coder_7d493 13 = .ok (.iconst 1, 1) := by decide +kernel
theorem dJ0_coder_7d493_14 : decode cJ0_coder_7d493 14 = .ok (.ireturn, 1) := by decide +kernel
abbrev rJ0_coder_7d493 : Room := { frames := 0, cells := 0, slots := 0, locals := 0 }
def mJ0_coder_7d493 (σ : gS)  : Option (Int32 × gS) := if (1 : Int32) = 0 then (some (1, σ)) else (some (0, σ))
set_option maxHeartbeats 4000000 in
set_option maxRecDepth 100000 in
theorem tJ0_coder_7d493 (l : Launch) (G : gE) (σ : gS)  : gM l G yJ0_coder_7d493 cJ0_coder_7d493 1 (some .byte) rJ0_coder_7d493 iI [.ref (G.2.2.2 4)] σ (mJ0_coder_7d493 σ ) := by
  refine gM_of (by decide) (Nat.le_of_ble_eq_true rfl) ?_
  intro p e s m args below meth c hC
  unfold mJ0_coder_7d493
  show gT p l e rJ0_coder_7d493 s m args below meth c G 1 iI σ 0 [(0, .ref (G.2.2.2 4))] [] _
  refine g_gets (pc := 0) hC (gZs hC) fl_RJ0_38 dJ0_coder_7d493_0 ?_
  refine g_if_eq (pc := 3) (tgt := 13) hC dJ0_coder_7d493_3 (by decide) ?_ ?_
  · refine g_iconst (pc := 13) (v := 1) hC dJ0_coder_7d493_13 (by decide) ?_
    exact g_bret (pc := 14) hC (by decide) dJ0_coder_7d493_14
  · refine g_aload_n (pc := 6) (q := 0) hC dJ0_coder_7d493_6 rfl rfl ?_
    refine g_scoder (pc := 7) hC fl_RJ0_15 dJ0_coder_7d493_7 ?_
    refine g_goto (pc := 10) (tgt := 14) hC dJ0_coder_7d493_10 (by decide) ?_
    exact g_bret (pc := 14) hC (by decide) dJ0_coder_7d493_14
theorem dJ0_isLatin1_aae02_0 : decode cJ0_isLatin1_aae02 0 = .ok (.getstatic 38, 3) := by decide +kernel
theorem dJ0_isLatin1_aae02_3 : decode cJ0_isLatin1_aae02 3 = .ok (.ifCond .eq 14, 3) := by decide +kernel
theorem dJ0_isLatin1_aae02_6 : decode cJ0_isLatin1_aae02 6 = .ok (.aload_n 0, 1) := by decide +kernel
theorem dJ0_isLatin1_aae02_7 : decode cJ0_isLatin1_aae02 7 = .ok (.getfield 15, 3) := by decide +kernel
theorem dJ0_isLatin1_aae02_10 : decode cJ0_isLatin1_aae02 10 = .ok (.ifCond .ne 7, 3) := by decide +kernel
theorem dJ0_isLatin1_aae02_13 : decode cJ0_isLatin1_aae02 13 = .ok (.iconst 1, 1) := by decide +kernel
theorem dJ0_isLatin1_aae02_14 : decode cJ0_isLatin1_aae02 14 = .ok (.goto 4, 3) := by decide +kernel
theorem dJ0_isLatin1_aae02_17 : decode cJ0_isLatin1_aae02 17 = .ok (.iconst 0, 1) := by decide +kernel
theorem dJ0_isLatin1_aae02_18 : decode cJ0_isLatin1_aae02 18 = .ok (.ireturn, 1) := by decide +kernel
abbrev rJ0_isLatin1_aae02 : Room := { frames := 0, cells := 0, slots := 0, locals := 0 }
def mJ0_isLatin1_aae02 (σ : gS)  : Option (Bool × gS) := if (1 : Int32) = 0 then (some (false, σ)) else (if (0 : Int32) = 0 then (some (true, σ)) else (some (false, σ)))
set_option maxHeartbeats 4000000 in
set_option maxRecDepth 100000 in
theorem tJ0_isLatin1_aae02 (l : Launch) (G : gE) (σ : gS)  : gM l G yJ0_isLatin1_aae02 cJ0_isLatin1_aae02 1 (some .boolean) rJ0_isLatin1_aae02 iZ [.ref (G.2.2.2 4)] σ (mJ0_isLatin1_aae02 σ ) := by
  refine gM_of (by decide) (Nat.le_of_ble_eq_true rfl) ?_
  intro p e s m args below meth c hC
  unfold mJ0_isLatin1_aae02
  show gT p l e rJ0_isLatin1_aae02 s m args below meth c G 1 iZ σ 0 [(0, .ref (G.2.2.2 4))] [] _
  refine g_gets (pc := 0) hC (gZs hC) fl_RJ0_38 dJ0_isLatin1_aae02_0 ?_
  refine g_if_eq (pc := 3) (tgt := 17) hC dJ0_isLatin1_aae02_3 (by decide) ?_ ?_
  · refine g_iconst (pc := 17) (v := 0) hC dJ0_isLatin1_aae02_17 (by decide) ?_
    exact g_zret0 (pc := 18) hC dJ0_isLatin1_aae02_18
  · refine g_aload_n (pc := 6) (q := 0) hC dJ0_isLatin1_aae02_6 rfl rfl ?_
    refine g_scoder (pc := 7) hC fl_RJ0_15 dJ0_isLatin1_aae02_7 ?_
    refine g_if_ne (pc := 10) (tgt := 17) hC dJ0_isLatin1_aae02_10 (by decide) ?_ ?_
    · refine g_iconst (pc := 17) (v := 0) hC dJ0_isLatin1_aae02_17 (by decide) ?_
      exact g_zret0 (pc := 18) hC dJ0_isLatin1_aae02_18
    · refine g_iconst (pc := 13) (v := 1) hC dJ0_isLatin1_aae02_13 (by decide) ?_
      refine g_goto (pc := 14) (tgt := 18) hC dJ0_isLatin1_aae02_14 (by decide) ?_
      exact g_zret1 (pc := 18) hC dJ0_isLatin1_aae02_18
theorem fl_RJ0_9 : Cond.fieldLink RJ0 9 "java/lang/String" "value" "[B" ∈ gBig := (gBig_tab 1594 (by decide +kernel) (by decide +kernel))
theorem lk_RJ0_335 : gLV RJ0 335 "java/lang/String" yJ0_coder_7d493 cJ0_coder_7d493 1 (some .byte) 0 := ⟨(gBig_tab 534 (by decide +kernel) (by decide +kernel)), (gBig_tab 535 (by decide +kernel) (by decide +kernel)), (gBig_tab 536 (by decide +kernel) (by decide +kernel)), (gBig_tab 14 (by decide +kernel) (by decide +kernel)), (gBig_tab 537 (by decide +kernel) (by decide +kernel)), rfl, by decide +kernel, by decide +kernel, by decide +kernel⟩
theorem dJ0_length_8abf5_0 : decode cJ0_length_8abf5 0 = .ok (.aload_n 0, 1) := by decide +kernel
theorem dJ0_length_8abf5_1 : decode cJ0_length_8abf5 1 = .ok (.getfield 9, 3) := by decide +kernel
theorem dJ0_length_8abf5_4 : decode cJ0_length_8abf5 4 = .ok (.arraylength, 1) := by decide +kernel
theorem dJ0_length_8abf5_5 : decode cJ0_length_8abf5 5 = .ok (.aload_n 0, 1) := by decide +kernel
theorem dJ0_length_8abf5_6 : decode cJ0_length_8abf5 6 = .ok (.invokevirtual 335, 3) := by decide +kernel
theorem dJ0_length_8abf5_9 : decode cJ0_length_8abf5 9 = .ok (.ishr, 1) := by decide +kernel
theorem dJ0_length_8abf5_10 : decode cJ0_length_8abf5 10 = .ok (.ireturn, 1) := by decide +kernel
abbrev rJ0_length_8abf5 : Room := { frames := 1, cells := 0, slots := 0, locals := 20 }
def mJ0_length_8abf5 (σ : gS)  : Option (Int32 × gS) := gBind (mJ0_coder_7d493 σ ) (fun r1 s2 => some ((6 >>> (r1 &&& 31)), s2))
set_option maxHeartbeats 4000000 in
set_option maxRecDepth 100000 in
theorem tJ0_length_8abf5 (l : Launch) (G : gE) (σ : gS)  : gM l G yJ0_length_8abf5 cJ0_length_8abf5 1 (some .int) rJ0_length_8abf5 iI [.ref (G.2.2.2 4)] σ (mJ0_length_8abf5 σ ) := by
  refine gM_of (by decide) (Nat.le_of_ble_eq_true rfl) ?_
  intro p e s m args below meth c hC
  unfold mJ0_length_8abf5
  show gT p l e rJ0_length_8abf5 s m args below meth c G 1 iI σ 0 [(0, .ref (G.2.2.2 4))] [] _
  refine g_aload_n (pc := 0) (q := 0) hC dJ0_length_8abf5_0 rfl rfl ?_
  refine g_svalue (pc := 1) hC fl_RJ0_9 dJ0_length_8abf5_1 ?_
  refine g_slen (pc := 4) hC dJ0_length_8abf5_4 ?_
  refine g_aload_n (pc := 5) (q := 0) hC dJ0_length_8abf5_5 rfl rfl ?_
  refine g_callVSi (pc := 6) (As := []) (rest := [.int 6]) hC lk_RJ0_335 (tJ0_coder_7d493 _ _ σ ) rfl rfl (Nat.le_of_ble_eq_true rfl) ⟨rfl, rfl, Nat.le_of_ble_eq_true rfl, Nat.le_of_ble_eq_true rfl⟩ dJ0_length_8abf5_6 (fun r1 s2 => ?_)
  refine g_ishr (pc := 9) hC dJ0_length_8abf5_9 ?_
  exact g_iret (pc := 10) hC dJ0_length_8abf5_10
theorem lk_RJ0_637 : gLS RJ0 637 yJ1_indexOf_4cfef cJ1_indexOf_4cfef 4 (some .int) 4 := ⟨(gBig_tab 538 (by decide +kernel) (by decide +kernel)), (gBig_tab 539 (by decide +kernel) (by decide +kernel)), (gBig_tab 15 (by decide +kernel) (by decide +kernel)), (gBig_tab 540 (by decide +kernel) (by decide +kernel)), by decide +kernel, by decide +kernel, by decide +kernel⟩
theorem lk_RJ0_505 : gLV RJ0 505 "java/lang/String" yJ0_length_8abf5 cJ0_length_8abf5 1 (some .int) 0 := ⟨(gBig_tab 530 (by decide +kernel) (by decide +kernel)), (gBig_tab 531 (by decide +kernel) (by decide +kernel)), (gBig_tab 532 (by decide +kernel) (by decide +kernel)), (gBig_tab 14 (by decide +kernel) (by decide +kernel)), (gBig_tab 533 (by decide +kernel) (by decide +kernel)), rfl, by decide +kernel, by decide +kernel, by decide +kernel⟩
theorem lk_RJ0_492 : gLV RJ0 492 "java/lang/String" yJ0_isLatin1_aae02 cJ0_isLatin1_aae02 1 (some .boolean) 0 := ⟨(gBig_tab 524 (by decide +kernel) (by decide +kernel)), (gBig_tab 525 (by decide +kernel) (by decide +kernel)), (gBig_tab 526 (by decide +kernel) (by decide +kernel)), (gBig_tab 14 (by decide +kernel) (by decide +kernel)), (gBig_tab 527 (by decide +kernel) (by decide +kernel)), rfl, by decide +kernel, by decide +kernel, by decide +kernel⟩
theorem dJ0_indexOf_7cf53_0 : decode cJ0_indexOf_7cf53 0 = .ok (.aload_n 0, 1) := by decide +kernel
theorem dJ0_indexOf_7cf53_1 : decode cJ0_indexOf_7cf53 1 = .ok (.invokevirtual 492, 3) := by decide +kernel
theorem dJ0_indexOf_7cf53_4 : decode cJ0_indexOf_7cf53 4 = .ok (.ifCond .eq 19, 3) := by decide +kernel
theorem dJ0_indexOf_7cf53_7 : decode cJ0_indexOf_7cf53 7 = .ok (.aload_n 0, 1) := by decide +kernel
theorem dJ0_indexOf_7cf53_8 : decode cJ0_indexOf_7cf53 8 = .ok (.getfield 9, 3) := by decide +kernel
theorem dJ0_indexOf_7cf53_11 : decode cJ0_indexOf_7cf53 11 = .ok (.iload_n 1, 1) := by decide +kernel
theorem dJ0_indexOf_7cf53_12 : decode cJ0_indexOf_7cf53 12 = .ok (.iload_n 2, 1) := by decide +kernel
theorem dJ0_indexOf_7cf53_13 : decode cJ0_indexOf_7cf53 13 = .ok (.aload_n 0, 1) := by decide +kernel
theorem dJ0_indexOf_7cf53_14 : decode cJ0_indexOf_7cf53 14 = .ok (.invokevirtual 505, 3) := by decide +kernel
theorem dJ0_indexOf_7cf53_17 : decode cJ0_indexOf_7cf53 17 = .ok (.invokestatic 637, 3) := by decide +kernel
theorem dJ0_indexOf_7cf53_20 : decode cJ0_indexOf_7cf53 20 = .ok (.goto 16, 3) := by decide +kernel
theorem dJ0_indexOf_7cf53_23 : decode cJ0_indexOf_7cf53 23 = .ok (.aload_n 0, 1) := by decide +kernel
theorem dJ0_indexOf_7cf53_24 : decode cJ0_indexOf_7cf53 24 = .ok (.getfield 9, 3) := by decide +kernel
theorem dJ0_indexOf_7cf53_27 : decode cJ0_indexOf_7cf53 27 = .ok (.iload_n 1, 1) := by decide +kernel
theorem dJ0_indexOf_7cf53_28 : decode cJ0_indexOf_7cf53 28 = .ok (.iload_n 2, 1) := by decide +kernel
theorem dJ0_indexOf_7cf53_29 : decode cJ0_indexOf_7cf53 29 = .ok (.aload_n 0, 1) := by decide +kernel
theorem dJ0_indexOf_7cf53_30 : decode cJ0_indexOf_7cf53 30 = .ok (.invokevirtual 505, 3) := by decide +kernel
theorem dJ0_indexOf_7cf53_33 : decode cJ0_indexOf_7cf53 33 = .ok (.invokestatic 640, 3) := by decide +kernel
theorem dJ0_indexOf_7cf53_36 : decode cJ0_indexOf_7cf53 36 = .ok (.ireturn, 1) := by decide +kernel
abbrev rJ0_indexOf_7cf53 : Room := { frames := 2, cells := 0, slots := 0, locals := 48 }
def mJ0_indexOf_7cf53 (σ : gS) (p0 : Int32) (p1 : Int32) : Option (Int32 × gS) := gBind (mJ0_isLatin1_aae02 σ ) (fun r1 s2 => if r1 = true then (gBind (mJ0_length_8abf5 s2 ) (fun r3 s4 => gBind (mJ1_indexOf_4cfef s4 p0 p1 r3) (fun r5 s6 => some (r5, s6)))) else (none))
set_option maxHeartbeats 4000000 in
set_option maxRecDepth 100000 in
theorem tJ0_indexOf_7cf53 (l : Launch) (G : gE) (σ : gS) (p0 : Int32) (p1 : Int32) : gM l G yJ0_indexOf_7cf53 cJ0_indexOf_7cf53 3 (some .int) rJ0_indexOf_7cf53 iI [.ref (G.2.2.2 4), .int p0, .int p1] σ (mJ0_indexOf_7cf53 σ p0 p1) := by
  refine gM_of (by decide) (Nat.le_of_ble_eq_true rfl) ?_
  intro p e s m args below meth c hC
  unfold mJ0_indexOf_7cf53
  show gT p l e rJ0_indexOf_7cf53 s m args below meth c G 3 iI σ 0 [(0, .ref (G.2.2.2 4)), (1, .int p0), (2, .int p1)] [] _
  refine g_aload_n (pc := 0) (q := 0) hC dJ0_indexOf_7cf53_0 rfl rfl ?_
  refine g_callVSz (pc := 1) (As := []) (rest := []) hC lk_RJ0_492 (tJ0_isLatin1_aae02 _ _ σ ) rfl rfl (Nat.le_of_ble_eq_true rfl) ⟨rfl, rfl, Nat.le_of_ble_eq_true rfl, Nat.le_of_ble_eq_true rfl⟩ dJ0_indexOf_7cf53_1 (fun r1 s2 => ?_)
  refine g_bif_eq (pc := 4) (tgt := 23) hC dJ0_indexOf_7cf53_4 (by decide) ?_ ?_
  · exact gT_none
  · refine g_aload_n (pc := 7) (q := 0) hC dJ0_indexOf_7cf53_7 rfl rfl ?_
    refine g_svalue (pc := 8) hC fl_RJ0_9 dJ0_indexOf_7cf53_8 ?_
    refine g_iload_n (pc := 11) (q := 1) hC dJ0_indexOf_7cf53_11 rfl rfl ?_
    refine g_iload_n (pc := 12) (q := 2) hC dJ0_indexOf_7cf53_12 rfl rfl ?_
    refine g_aload_n (pc := 13) (q := 0) hC dJ0_indexOf_7cf53_13 rfl rfl ?_
    refine g_callVSi (pc := 14) (As := []) (rest := [.int p1, .int p0, .ref (G.2.2.2 5)]) hC lk_RJ0_505 (tJ0_length_8abf5 _ _ s2 ) rfl rfl (Nat.le_of_ble_eq_true rfl) ⟨rfl, rfl, Nat.le_of_ble_eq_true rfl, Nat.le_of_ble_eq_true rfl⟩ dJ0_indexOf_7cf53_14 (fun r3 s4 => ?_)
    refine g_callSi (pc := 17) (As := [.ref (G.2.2.2 5), .int p0, .int p1, .int r3]) (rest := []) hC lk_RJ0_637 (tJ1_indexOf_4cfef _ _ s4 p0 p1 r3) rfl rfl (Nat.le_of_ble_eq_true rfl) ⟨rfl, rfl, Nat.le_of_ble_eq_true rfl, Nat.le_of_ble_eq_true rfl⟩ dJ0_indexOf_7cf53_17 (fun r5 s6 => ?_)
    refine g_goto (pc := 20) (tgt := 36) hC dJ0_indexOf_7cf53_20 (by decide) ?_
    exact g_iret (pc := 36) hC dJ0_indexOf_7cf53_36
theorem lk_RJ0_633 : gLV RJ0 633 "java/lang/String" yJ0_indexOf_7cf53 cJ0_indexOf_7cf53 3 (some .int) 2 := ⟨(gBig_tab 520 (by decide +kernel) (by decide +kernel)), (gBig_tab 521 (by decide +kernel) (by decide +kernel)), (gBig_tab 522 (by decide +kernel) (by decide +kernel)), (gBig_tab 14 (by decide +kernel) (by decide +kernel)), (gBig_tab 523 (by decide +kernel) (by decide +kernel)), rfl, by decide +kernel, by decide +kernel, by decide +kernel⟩
theorem dJ0_indexOf_0f7a4_0 : decode cJ0_indexOf_0f7a4 0 = .ok (.aload_n 0, 1) := by decide +kernel
theorem dJ0_indexOf_0f7a4_1 : decode cJ0_indexOf_0f7a4 1 = .ok (.iload_n 1, 1) := by decide +kernel
theorem dJ0_indexOf_0f7a4_2 : decode cJ0_indexOf_0f7a4 2 = .ok (.iconst 0, 1) := by decide +kernel
theorem dJ0_indexOf_0f7a4_3 : decode cJ0_indexOf_0f7a4 3 = .ok (.invokevirtual 633, 3) := by decide +kernel
theorem dJ0_indexOf_0f7a4_6 : decode cJ0_indexOf_0f7a4 6 = .ok (.ireturn, 1) := by decide +kernel
abbrev rJ0_indexOf_0f7a4 : Room := { frames := 3, cells := 0, slots := 0, locals := 70 }
def mJ0_indexOf_0f7a4 (σ : gS) (p0 : Int32) : Option (Int32 × gS) := gBind (mJ0_indexOf_7cf53 σ p0 0) (fun r1 s2 => some (r1, s2))
set_option maxHeartbeats 4000000 in
set_option maxRecDepth 100000 in
theorem tJ0_indexOf_0f7a4 (l : Launch) (G : gE) (σ : gS) (p0 : Int32) : gM l G yJ0_indexOf_0f7a4 cJ0_indexOf_0f7a4 2 (some .int) rJ0_indexOf_0f7a4 iI [.ref (G.2.2.2 4), .int p0] σ (mJ0_indexOf_0f7a4 σ p0) := by
  refine gM_of (by decide) (Nat.le_of_ble_eq_true rfl) ?_
  intro p e s m args below meth c hC
  unfold mJ0_indexOf_0f7a4
  show gT p l e rJ0_indexOf_0f7a4 s m args below meth c G 2 iI σ 0 [(0, .ref (G.2.2.2 4)), (1, .int p0)] [] _
  refine g_aload_n (pc := 0) (q := 0) hC dJ0_indexOf_0f7a4_0 rfl rfl ?_
  refine g_iload_n (pc := 1) (q := 1) hC dJ0_indexOf_0f7a4_1 rfl rfl ?_
  refine g_iconst (pc := 2) (v := 0) hC dJ0_indexOf_0f7a4_2 (by decide) ?_
  refine g_callVSi (pc := 3) (As := [.int p0, .int 0]) (rest := []) hC lk_RJ0_633 (tJ0_indexOf_7cf53 _ _ σ p0 0) rfl rfl (Nat.le_of_ble_eq_true rfl) ⟨rfl, rfl, Nat.le_of_ble_eq_true rfl, Nat.le_of_ble_eq_true rfl⟩ dJ0_indexOf_0f7a4_3 (fun r1 s2 => ?_)
  exact g_iret (pc := 6) hC dJ0_indexOf_0f7a4_6
theorem lk_RX3_94 : gLV RX3 94 RX3 yX3_readLevel cX3_readLevel 5 (some .boolean) 2 := ⟨(gBig_tab 492 (by decide +kernel) (by decide +kernel)), (gBig_tab 494 (by decide +kernel) (by decide +kernel)), (gBig_sel 8 (by decide +kernel) (by decide +kernel)), (gBig_tab 6 (by decide +kernel) (by decide +kernel)), (gBig_tab 495 (by decide +kernel) (by decide +kernel)), rfl, by decide +kernel, by decide +kernel, by decide +kernel⟩
theorem lk_RX3_108 : gLS RX3 108 yX3_joins cX3_joins 2 (some .boolean) 2 := ⟨(gBig_tab 602 (by decide +kernel) (by decide +kernel)), (gBig_tab 603 (by decide +kernel) (by decide +kernel)), (gBig_tab 6 (by decide +kernel) (by decide +kernel)), (gBig_tab 604 (by decide +kernel) (by decide +kernel)), by decide +kernel, by decide +kernel, by decide +kernel⟩
theorem lk_RX3_101 : gLV RX3 101 RX3 yX3_readOperand cX3_readOperand 4 (some .boolean) 1 := ⟨(gBig_tab 496 (by decide +kernel) (by decide +kernel)), (gBig_tab 498 (by decide +kernel) (by decide +kernel)), (gBig_sel 9 (by decide +kernel) (by decide +kernel)), (gBig_tab 6 (by decide +kernel) (by decide +kernel)), (gBig_tab 499 (by decide +kernel) (by decide +kernel)), rfl, by decide +kernel, by decide +kernel, by decide +kernel⟩
theorem dX3_readLevel_0 : decode cX3_readLevel 0 = .ok (.iload_n 1, 1) := by decide +kernel
theorem dX3_readLevel_1 : decode cX3_readLevel 1 = .ok (.iconst 5, 1) := by decide +kernel
theorem dX3_readLevel_2 : decode cX3_readLevel 2 = .ok (.if_icmp .lt 9, 3) := by decide +kernel
theorem dX3_readLevel_5 : decode cX3_readLevel 5 = .ok (.aload_n 0, 1) := by decide +kernel
theorem dX3_readLevel_6 : decode cX3_readLevel 6 = .ok (.iload_n 2, 1) := by decide +kernel
theorem dX3_readLevel_7 : decode cX3_readLevel 7 = .ok (.invokevirtual 101, 3) := by decide +kernel
theorem dX3_readLevel_10 : decode cX3_readLevel 10 = .ok (.ireturn, 1) := by decide +kernel
theorem dX3_readLevel_11 : decode cX3_readLevel 11 = .ok (.aload_n 0, 1) := by decide +kernel
theorem dX3_readLevel_12 : decode cX3_readLevel 12 = .ok (.iload_n 1, 1) := by decide +kernel
theorem dX3_readLevel_13 : decode cX3_readLevel 13 = .ok (.iconst 1, 1) := by decide +kernel
theorem dX3_readLevel_14 : decode cX3_readLevel 14 = .ok (.iadd, 1) := by decide +kernel
theorem dX3_readLevel_15 : decode cX3_readLevel 15 = .ok (.iload_n 2, 1) := by decide +kernel
theorem dX3_readLevel_16 : decode cX3_readLevel 16 = .ok (.invokevirtual 94, 3) := by decide +kernel
theorem dX3_readLevel_19 : decode cX3_readLevel 19 = .ok (.ifCond .ne 5, 3) := by decide +kernel
theorem dX3_readLevel_22 : decode cX3_readLevel 22 = .ok (.iconst 0, 1) := by decide +kernel
theorem dX3_readLevel_23 : decode cX3_readLevel 23 = .ok (.ireturn, 1) := by decide +kernel
theorem dX3_readLevel_24 : decode cX3_readLevel 24 = .ok (.iconst 0, 1) := by decide +kernel
theorem dX3_readLevel_25 : decode cX3_readLevel 25 = .ok (.istore_n 3, 1) := by decide +kernel
theorem dX3_readLevel_26 : decode cX3_readLevel 26 = .ok (.iload_n 3, 1) := by decide +kernel
theorem dX3_readLevel_27 : decode cX3_readLevel 27 = .ok (.bipush 120, 2) := by decide +kernel
theorem dX3_readLevel_29 : decode cX3_readLevel 29 = .ok (.if_icmp .ge 63, 3) := by decide +kernel
theorem dX3_readLevel_32 : decode cX3_readLevel 32 = .ok (.iload_n 1, 1) := by decide +kernel
theorem dX3_readLevel_33 : decode cX3_readLevel 33 = .ok (.aload_n 0, 1) := by decide +kernel
theorem dX3_readLevel_34 : decode cX3_readLevel 34 = .ok (.invokevirtual 105, 3) := by decide +kernel
theorem dX3_readLevel_37 : decode cX3_readLevel 37 = .ok (.invokestatic 108, 3) := by decide +kernel
theorem dX3_readLevel_40 : decode cX3_readLevel 40 = .ok (.ifCond .eq 52, 3) := by decide +kernel
theorem dX3_readLevel_43 : decode cX3_readLevel 43 = .ok (.aload_n 0, 1) := by decide +kernel
theorem dX3_readLevel_44 : decode cX3_readLevel 44 = .ok (.invokevirtual 105, 3) := by decide +kernel
theorem dX3_readLevel_47 : decode cX3_readLevel 47 = .ok (.istore 4, 2) := by decide +kernel
theorem dX3_readLevel_49 : decode cX3_readLevel 49 = .ok (.aload_n 0, 1) := by decide +kernel
theorem dX3_readLevel_50 : decode cX3_readLevel 50 = .ok (.dup, 1) := by decide +kernel
theorem dX3_readLevel_51 : decode cX3_readLevel 51 = .ok (.getfield 37, 3) := by decide +kernel
theorem dX3_readLevel_54 : decode cX3_readLevel 54 = .ok (.iconst 1, 1) := by decide +kernel
theorem dX3_readLevel_55 : decode cX3_readLevel 55 = .ok (.iadd, 1) := by decide +kernel
theorem dX3_readLevel_56 : decode cX3_readLevel 56 = .ok (.putfield 37, 3) := by decide +kernel
theorem dX3_readLevel_59 : decode cX3_readLevel 59 = .ok (.aload_n 0, 1) := by decide +kernel
theorem dX3_readLevel_60 : decode cX3_readLevel 60 = .ok (.iload_n 1, 1) := by decide +kernel
theorem dX3_readLevel_61 : decode cX3_readLevel 61 = .ok (.iconst 1, 1) := by decide +kernel
theorem dX3_readLevel_62 : decode cX3_readLevel 62 = .ok (.iadd, 1) := by decide +kernel
theorem dX3_readLevel_63 : decode cX3_readLevel 63 = .ok (.iload_n 2, 1) := by decide +kernel
theorem dX3_readLevel_64 : decode cX3_readLevel 64 = .ok (.invokevirtual 94, 3) := by decide +kernel
theorem dX3_readLevel_67 : decode cX3_readLevel 67 = .ok (.ifCond .ne 5, 3) := by decide +kernel
theorem dX3_readLevel_70 : decode cX3_readLevel 70 = .ok (.iconst 0, 1) := by decide +kernel
theorem dX3_readLevel_71 : decode cX3_readLevel 71 = .ok (.ireturn, 1) := by decide +kernel
theorem dX3_readLevel_72 : decode cX3_readLevel 72 = .ok (.aload_n 0, 1) := by decide +kernel
theorem dX3_readLevel_73 : decode cX3_readLevel 73 = .ok (.iload 4, 2) := by decide +kernel
theorem dX3_readLevel_75 : decode cX3_readLevel 75 = .ok (.iconst 0, 1) := by decide +kernel
theorem dX3_readLevel_76 : decode cX3_readLevel 76 = .ok (.invokevirtual 98, 3) := by decide +kernel
theorem dX3_readLevel_79 : decode cX3_readLevel 79 = .ok (.iload_n 1, 1) := by decide +kernel
theorem dX3_readLevel_80 : decode cX3_readLevel 80 = .ok (.iconst 2, 1) := by decide +kernel
theorem dX3_readLevel_81 : decode cX3_readLevel 81 = .ok (.if_icmp .ne 5, 3) := by decide +kernel
theorem dX3_readLevel_84 : decode cX3_readLevel 84 = .ok (.iconst 1, 1) := by decide +kernel
theorem dX3_readLevel_85 : decode cX3_readLevel 85 = .ok (.ireturn, 1) := by decide +kernel
theorem dX3_readLevel_86 : decode cX3_readLevel 86 = .ok (.iinc 3 1, 3) := by decide +kernel
theorem dX3_readLevel_89 : decode cX3_readLevel 89 = .ok (.goto (-63), 3) := by decide +kernel
theorem dX3_readLevel_92 : decode cX3_readLevel 92 = .ok (.iconst 1, 1) := by decide +kernel
theorem dX3_readLevel_93 : decode cX3_readLevel 93 = .ok (.ireturn, 1) := by decide +kernel
theorem lk_RX3_90 : gLV RX3 90 RX3 yX3_skip cX3_skip 2 (some .boolean) 1 := ⟨(gBig_tab 598 (by decide +kernel) (by decide +kernel)), (gBig_tab 600 (by decide +kernel) (by decide +kernel)), (gBig_sel 13 (by decide +kernel) (by decide +kernel)), (gBig_tab 6 (by decide +kernel) (by decide +kernel)), (gBig_tab 601 (by decide +kernel) (by decide +kernel)), rfl, by decide +kernel, by decide +kernel, by decide +kernel⟩
theorem lk_RX3_119 : gLV RX3 119 "java/lang/String" yJ0_indexOf_0f7a4 cJ0_indexOf_0f7a4 2 (some .int) 1 := ⟨(gBig_tab 516 (by decide +kernel) (by decide +kernel)), (gBig_tab 517 (by decide +kernel) (by decide +kernel)), (gBig_tab 518 (by decide +kernel) (by decide +kernel)), (gBig_tab 14 (by decide +kernel) (by decide +kernel)), (gBig_tab 519 (by decide +kernel) (by decide +kernel)), rfl, by decide +kernel, by decide +kernel, by decide +kernel⟩
theorem lk_RX3_114 : gLV RX3 114 RX3 yX3_readNumber cX3_readNumber 3 (none) 0 := ⟨(gBig_tab 507 (by decide +kernel) (by decide +kernel)), (gBig_tab 509 (by decide +kernel) (by decide +kernel)), (gBig_sel 11 (by decide +kernel) (by decide +kernel)), (gBig_tab 6 (by decide +kernel) (by decide +kernel)), (gBig_tab 510 (by decide +kernel) (by decide +kernel)), rfl, by decide +kernel, by decide +kernel, by decide +kernel⟩
theorem dX3_readOperand_0 : decode cX3_readOperand 0 = .ok (.aload_n 0, 1) := by decide +kernel
theorem dX3_readOperand_1 : decode cX3_readOperand 1 = .ok (.invokevirtual 105, 3) := by decide +kernel
theorem dX3_readOperand_4 : decode cX3_readOperand 4 = .ok (.istore_n 2, 1) := by decide +kernel
theorem dX3_readOperand_5 : decode cX3_readOperand 5 = .ok (.iload_n 2, 1) := by decide +kernel
theorem dX3_readOperand_6 : decode cX3_readOperand 6 = .ok (.invokestatic 111, 3) := by decide +kernel
theorem dX3_readOperand_9 : decode cX3_readOperand 9 = .ok (.ifCond .eq 9, 3) := by decide +kernel
theorem dX3_readOperand_12 : decode cX3_readOperand 12 = .ok (.aload_n 0, 1) := by decide +kernel
theorem dX3_readOperand_13 : decode cX3_readOperand 13 = .ok (.invokevirtual 114, 3) := by decide +kernel
theorem dX3_readOperand_16 : decode cX3_readOperand 16 = .ok (.iconst 1, 1) := by decide +kernel
theorem dX3_readOperand_17 : decode cX3_readOperand 17 = .ok (.ireturn, 1) := by decide +kernel
theorem dX3_readOperand_18 : decode cX3_readOperand 18 = .ok (.iload_n 2, 1) := by decide +kernel
theorem dX3_readOperand_19 : decode cX3_readOperand 19 = .ok (.ifCond .ge 7, 3) := by decide +kernel
theorem dX3_readOperand_22 : decode cX3_readOperand 22 = .ok (.iconst (-1), 1) := by decide +kernel
theorem dX3_readOperand_23 : decode cX3_readOperand 23 = .ok (.goto 10, 3) := by decide +kernel
theorem dX3_readOperand_26 : decode cX3_readOperand 26 = .ok (.ldc 117, 2) := by decide +kernel
theorem dX3_readOperand_28 : decode cX3_readOperand 28 = .ok (.iload_n 2, 1) := by decide +kernel
theorem dX3_readOperand_29 : decode cX3_readOperand 29 = .ok (.i2c, 1) := by decide +kernel
theorem dX3_readOperand_30 : decode cX3_readOperand 30 = .ok (.invokevirtual 119, 3) := by decide +kernel
theorem dX3_readOperand_33 : decode cX3_readOperand 33 = .ok (.istore_n 3, 1) := by decide +kernel
theorem dX3_readOperand_34 : decode cX3_readOperand 34 = .ok (.iload_n 3, 1) := by decide +kernel
theorem dX3_readOperand_35 : decode cX3_readOperand 35 = .ok (.ifCond .lt 22, 3) := by decide +kernel
theorem dX3_readOperand_38 : decode cX3_readOperand 38 = .ok (.aload_n 0, 1) := by decide +kernel
theorem dX3_readOperand_39 : decode cX3_readOperand 39 = .ok (.dup, 1) := by decide +kernel
theorem dX3_readOperand_40 : decode cX3_readOperand 40 = .ok (.getfield 37, 3) := by decide +kernel
theorem dX3_readOperand_43 : decode cX3_readOperand 43 = .ok (.iconst 1, 1) := by decide +kernel
theorem dX3_readOperand_44 : decode cX3_readOperand 44 = .ok (.iadd, 1) := by decide +kernel
theorem dX3_readOperand_45 : decode cX3_readOperand 45 = .ok (.putfield 37, 3) := by decide +kernel
theorem dX3_readOperand_48 : decode cX3_readOperand 48 = .ok (.aload_n 0, 1) := by decide +kernel
theorem dX3_readOperand_49 : decode cX3_readOperand 49 = .ok (.bipush 118, 2) := by decide +kernel
theorem dX3_readOperand_51 : decode cX3_readOperand 51 = .ok (.iload_n 3, 1) := by decide +kernel
theorem dX3_readOperand_52 : decode cX3_readOperand 52 = .ok (.invokevirtual 98, 3) := by decide +kernel
theorem dX3_readOperand_55 : decode cX3_readOperand 55 = .ok (.iconst 1, 1) := by decide +kernel
theorem dX3_readOperand_56 : decode cX3_readOperand 56 = .ok (.ireturn, 1) := by decide +kernel
theorem dX3_readOperand_57 : decode cX3_readOperand 57 = .ok (.iload_n 1, 1) := by decide +kernel
theorem dX3_readOperand_58 : decode cX3_readOperand 58 = .ok (.bipush 6, 2) := by decide +kernel
theorem dX3_readOperand_60 : decode cX3_readOperand 60 = .ok (.if_icmp .lt 5, 3) := by decide +kernel
theorem dX3_readOperand_63 : decode cX3_readOperand 63 = .ok (.iconst 0, 1) := by decide +kernel
theorem dX3_readOperand_64 : decode cX3_readOperand 64 = .ok (.ireturn, 1) := by decide +kernel
theorem dX3_readOperand_65 : decode cX3_readOperand 65 = .ok (.aload_n 0, 1) := by decide +kernel
theorem dX3_readOperand_66 : decode cX3_readOperand 66 = .ok (.bipush 40, 2) := by decide +kernel
theorem dX3_readOperand_68 : decode cX3_readOperand 68 = .ok (.invokevirtual 90, 3) := by decide +kernel
theorem dX3_readOperand_71 : decode cX3_readOperand 71 = .ok (.ifCond .eq 29, 3) := by decide +kernel
theorem dX3_readOperand_74 : decode cX3_readOperand 74 = .ok (.aload_n 0, 1) := by decide +kernel
theorem dX3_readOperand_75 : decode cX3_readOperand 75 = .ok (.iconst 0, 1) := by decide +kernel
theorem dX3_readOperand_76 : decode cX3_readOperand 76 = .ok (.iload_n 1, 1) := by decide +kernel
theorem dX3_readOperand_77 : decode cX3_readOperand 77 = .ok (.iconst 1, 1) := by decide +kernel
theorem dX3_readOperand_78 : decode cX3_readOperand 78 = .ok (.iadd, 1) := by decide +kernel
theorem dX3_readOperand_79 : decode cX3_readOperand 79 = .ok (.invokevirtual 94, 3) := by decide +kernel
theorem dX3_readOperand_82 : decode cX3_readOperand 82 = .ok (.ifCond .eq 16, 3) := by decide +kernel
theorem dX3_readOperand_85 : decode cX3_readOperand 85 = .ok (.aload_n 0, 1) := by decide +kernel
theorem dX3_readOperand_86 : decode cX3_readOperand 86 = .ok (.bipush 41, 2) := by decide +kernel
theorem dX3_readOperand_88 : decode cX3_readOperand 88 = .ok (.invokevirtual 90, 3) := by decide +kernel
theorem dX3_readOperand_91 : decode cX3_readOperand 91 = .ok (.ifCond .eq 7, 3) := by decide +kernel
theorem dX3_readOperand_94 : decode cX3_readOperand 94 = .ok (.iconst 1, 1) := by decide +kernel
theorem dX3_readOperand_95 : decode cX3_readOperand 95 = .ok (.goto 4, 3) := by decide +kernel
theorem dX3_readOperand_98 : decode cX3_readOperand 98 = .ok (.iconst 0, 1) := by decide +kernel
theorem dX3_readOperand_99 : decode cX3_readOperand 99 = .ok (.ireturn, 1) := by decide +kernel
theorem dX3_readOperand_100 : decode cX3_readOperand 100 = .ok (.aload_n 0, 1) := by decide +kernel
theorem dX3_readOperand_101 : decode cX3_readOperand 101 = .ok (.bipush 33, 2) := by decide +kernel
theorem dX3_readOperand_103 : decode cX3_readOperand 103 = .ok (.invokevirtual 90, 3) := by decide +kernel
theorem dX3_readOperand_106 : decode cX3_readOperand 106 = .ok (.ifCond .ne 14, 3) := by decide +kernel
theorem dX3_readOperand_109 : decode cX3_readOperand 109 = .ok (.aload_n 0, 1) := by decide +kernel
theorem dX3_readOperand_110 : decode cX3_readOperand 110 = .ok (.bipush 45, 2) := by decide +kernel
theorem dX3_readOperand_112 : decode cX3_readOperand 112 = .ok (.invokevirtual 90, 3) := by decide +kernel
theorem dX3_readOperand_115 : decode cX3_readOperand 115 = .ok (.ifCond .ne 5, 3) := by decide +kernel
theorem dX3_readOperand_118 : decode cX3_readOperand 118 = .ok (.iconst 0, 1) := by decide +kernel
theorem dX3_readOperand_119 : decode cX3_readOperand 119 = .ok (.ireturn, 1) := by decide +kernel
theorem dX3_readOperand_120 : decode cX3_readOperand 120 = .ok (.aload_n 0, 1) := by decide +kernel
theorem dX3_readOperand_121 : decode cX3_readOperand 121 = .ok (.iload_n 1, 1) := by decide +kernel
theorem dX3_readOperand_122 : decode cX3_readOperand 122 = .ok (.iconst 1, 1) := by decide +kernel
theorem dX3_readOperand_123 : decode cX3_readOperand 123 = .ok (.iadd, 1) := by decide +kernel
theorem dX3_readOperand_124 : decode cX3_readOperand 124 = .ok (.invokevirtual 101, 3) := by decide +kernel
theorem dX3_readOperand_127 : decode cX3_readOperand 127 = .ok (.ifCond .ne 5, 3) := by decide +kernel
theorem dX3_readOperand_130 : decode cX3_readOperand 130 = .ok (.iconst 0, 1) := by decide +kernel
theorem dX3_readOperand_131 : decode cX3_readOperand 131 = .ok (.ireturn, 1) := by decide +kernel
theorem dX3_readOperand_132 : decode cX3_readOperand 132 = .ok (.aload_n 0, 1) := by decide +kernel
theorem dX3_readOperand_133 : decode cX3_readOperand 133 = .ok (.iload_n 2, 1) := by decide +kernel
theorem dX3_readOperand_134 : decode cX3_readOperand 134 = .ok (.bipush 33, 2) := by decide +kernel
theorem dX3_readOperand_136 : decode cX3_readOperand 136 = .ok (.if_icmp .ne 8, 3) := by decide +kernel
theorem dX3_readOperand_139 : decode cX3_readOperand 139 = .ok (.bipush 33, 2) := by decide +kernel
theorem dX3_readOperand_141 : decode cX3_readOperand 141 = .ok (.goto 5, 3) := by decide +kernel
theorem dX3_readOperand_144 : decode cX3_readOperand 144 = .ok (.bipush 126, 2) := by decide +kernel
theorem dX3_readOperand_146 : decode cX3_readOperand 146 = .ok (.iconst 0, 1) := by decide +kernel
theorem dX3_readOperand_147 : decode cX3_readOperand 147 = .ok (.invokevirtual 98, 3) := by decide +kernel
theorem dX3_readOperand_150 : decode cX3_readOperand 150 = .ok (.iconst 1, 1) := by decide +kernel
theorem dX3_readOperand_151 : decode cX3_readOperand 151 = .ok (.ireturn, 1) := by decide +kernel
abbrev rrX3_readLevel (d : Nat) : Room := { frames := 4 + d, cells := 0, slots := 0, locals := 91 + 24 * d }
abbrev rrX3_readOperand (d : Nat) : Room := { frames := 4 + d, cells := 0, slots := 0, locals := 91 + 24 * d }
def mX3_readLevel_b26 (rec : ((gS → Nat → Int32 → Int32 → Option (Bool × gS)) × (gS → Nat → Int32 → Option (Bool × gS)))) (k0 : Nat)  : Nat → gS → Int32 → Int32 → Int32 → Option (Bool × gS)
  | 0, _, _, _, _ => none
  | n + 1, σ, x4, x5, x6 => if 120 ≤ x6 then (some (true, σ)) else (gBind (mX3_letter σ k0) (fun r7 s8 => gBind (mX3_joins s8 x4 r7) (fun r9 s10 => if r9 = true then (gBind (mX3_letter s10 k0) (fun r11 s12 => gLet r11 (fun v13 => gLet (gUI s12 k0 8 ((s12.1 k0 8) + 1)) (fun s14 => gBind (rec.1 s14 k0 (x4 + 1) x5) (fun r15 s16 => if r15 = true then (gBind (mX3_addStep s16 k0 v13 0) (fun r17 s18 => if x4 = 2 then (some (true, s18)) else (gLet (x6 + 1) (fun v19 => ((mX3_readLevel_b26 rec k0 n) s18 x4 x5 v19))))) else (some (false, s16))))))) else (some (true, s10)))))
set_option maxHeartbeats 4000000 in
set_option maxRecDepth 100000 in
theorem wX3_readLevel_b26 {p : Program} {l : Launch} {e : Env} {s : State} {m : MethodId} {args : Array Value} {below : List Frame} {meth : Method} {c : Code} {G : gE} {d : Nat} (hC : gCx p s m args meth c G RX3 cX3_readLevel 5 (some .boolean)) {rec : ((gS → Nat → Int32 → Int32 → Option (Bool × gS)) × (gS → Nat → Int32 → Option (Bool × gS)))} (hrec : (∀ (σ : gS) (k0 : Nat) (p0 : Int32) (p1 : Int32), gM l G yX3_readLevel cX3_readLevel 5 (some .boolean) (rrX3_readLevel d) iZ [.ref (G.2.1 k0), .int p0, .int p1] σ (rec.1 σ k0 p0 p1)) ∧ (∀ (σ : gS) (k0 : Nat) (p0 : Int32), gM l G yX3_readOperand cX3_readOperand 4 (some .boolean) (rrX3_readOperand d) iZ [.ref (G.2.1 k0), .int p0] σ (rec.2 σ k0 p0))) (k0 : Nat) (hk0 : gk k0 = 3)  (n : Nat) (σ : gS) (x4 : Int32) (x5 : Int32) (x6 : Int32)  : gT p l e (rrX3_readLevel (d + 1)) s m args below meth c G 5 iZ σ 26 [(0, .ref (G.2.1 k0)), (1, .int x4), (2, .int x5), (3, .int x6)] [] (mX3_readLevel_b26 rec k0 n σ x4 x5 x6) := by
  induction n generalizing σ x4 x5 x6 with
  | zero => exact gT_none
  | succ n ih =>
    unfold mX3_readLevel_b26
    refine g_iload_n (pc := 26) (q := 3) hC dX3_readLevel_26 rfl rfl ?_
    refine g_bipush (pc := 27) (v := 120) hC dX3_readLevel_27 (by decide) ?_
    refine g_icmp_ge (pc := 29) (tgt := 92) hC dX3_readLevel_29 (by decide) ?_ ?_
    · refine g_iconst (pc := 92) (v := 1) hC dX3_readLevel_92 (by decide) ?_
      exact g_zret1 (pc := 93) hC dX3_readLevel_93
    · refine g_iload_n (pc := 32) (q := 1) hC dX3_readLevel_32 rfl rfl ?_
      refine g_aload_n (pc := 33) (q := 0) hC dX3_readLevel_33 rfl rfl ?_
      refine g_callVi (pc := 34) (As := []) (rest := [.int x4]) hC lk_RX3_105 kX3 hk0 (tX3_letter _ _ σ k0) rfl rfl (Nat.le_of_ble_eq_true rfl) ⟨rfl, rfl, by simp only [rrX3_readLevel] <;> omega, by simp only [rrX3_readLevel] <;> omega⟩ dX3_readLevel_34 (fun r7 s8 => ?_)
      refine g_callSz (pc := 37) (As := [.int x4, .int r7]) (rest := []) hC lk_RX3_108 (tX3_joins _ _ s8 x4 r7) rfl rfl (Nat.le_of_ble_eq_true rfl) ⟨rfl, rfl, by simp only [rrX3_readLevel] <;> omega, by simp only [rrX3_readLevel] <;> omega⟩ dX3_readLevel_37 (fun r9 s10 => ?_)
      refine g_bif_eq (pc := 40) (tgt := 92) hC dX3_readLevel_40 (by decide) ?_ ?_
      · refine g_iconst (pc := 92) (v := 1) hC dX3_readLevel_92 (by decide) ?_
        exact g_zret1 (pc := 93) hC dX3_readLevel_93
      · refine g_aload_n (pc := 43) (q := 0) hC dX3_readLevel_43 rfl rfl ?_
        refine g_callVi (pc := 44) (As := []) (rest := []) hC lk_RX3_105 kX3 hk0 (tX3_letter _ _ s10 k0) rfl rfl (Nat.le_of_ble_eq_true rfl) ⟨rfl, rfl, by simp only [rrX3_readLevel] <;> omega, by simp only [rrX3_readLevel] <;> omega⟩ dX3_readLevel_44 (fun r11 s12 => ?_)
        refine g_istore (pc := 47) (lv' := fun v13 => [(4, .int v13), (0, .ref (G.2.1 k0)), (1, .int x4), (2, .int x5), (3, .int x6)]) hC dX3_readLevel_47 (by decide) (fun _ => rfl) (fun v13 => ?_)
        refine g_aload_n (pc := 49) (q := 1) hC dX3_readLevel_49 rfl rfl ?_
        refine g_dup (pc := 50) hC dX3_readLevel_50 rfl ?_
        refine g_get (pc := 51) (v := .int (s12.1 k0 8)) hC kX3 hk0 8 (by decide) fl_RX3_37 rfl dX3_readLevel_51 ?_
        refine g_iconst (pc := 54) (v := 1) hC dX3_readLevel_54 (by decide) ?_
        refine g_iadd (pc := 55) hC dX3_readLevel_55 ?_
        refine g_puti (pc := 56) (fty := .int) hC kX3 hk0 8 (by decide) fl_RX3_37 rfl rfl rfl rfl (fun _ _ => Nat.le_of_ble_eq_true rfl) (fun _ _ => rfl) dX3_readLevel_56 (fun s14 => ?_)
        refine g_aload_n (pc := 59) (q := 1) hC dX3_readLevel_59 rfl rfl ?_
        refine g_iload_n (pc := 60) (q := 2) hC dX3_readLevel_60 rfl rfl ?_
        refine g_iconst (pc := 61) (v := 1) hC dX3_readLevel_61 (by decide) ?_
        refine g_iadd (pc := 62) hC dX3_readLevel_62 ?_
        refine g_iload_n (pc := 63) (q := 3) hC dX3_readLevel_63 rfl rfl ?_
        refine g_callVz (pc := 64) (As := [.int (x4 + 1), .int x5]) (rest := []) hC lk_RX3_94 kX3 hk0 (hrec.1 s14 k0 (x4 + 1) x5) rfl rfl (Nat.le_of_ble_eq_true rfl) ⟨rfl, rfl, by simp only [rrX3_readLevel, rrX3_readLevel] <;> omega, by simp only [rrX3_readLevel, rrX3_readLevel] <;> omega⟩ dX3_readLevel_64 (fun r15 s16 => ?_)
        refine g_bif_ne (pc := 67) (tgt := 72) hC dX3_readLevel_67 (by decide) ?_ ?_
        · refine g_aload_n (pc := 72) (q := 1) hC dX3_readLevel_72 rfl rfl ?_
          refine g_iload (pc := 73) (q := 0) hC dX3_readLevel_73 rfl ?_
          refine g_iconst (pc := 75) (v := 0) hC dX3_readLevel_75 (by decide) ?_
          refine g_callVv (pc := 76) (As := [.int v13, .int 0]) (rest := []) hC lk_RX3_98 kX3 hk0 (tX3_addStep _ _ s16 k0 v13 0) rfl rfl (Nat.le_of_ble_eq_true rfl) ⟨rfl, rfl, by simp only [rrX3_readLevel] <;> omega, by simp only [rrX3_readLevel] <;> omega⟩ dX3_readLevel_76 (fun r17 s18 => ?_)
          refine g_iload_n (pc := 79) (q := 2) hC dX3_readLevel_79 rfl rfl ?_
          refine g_iconst (pc := 80) (v := 2) hC dX3_readLevel_80 (by decide) ?_
          refine g_icmp_ne (pc := 81) (tgt := 86) hC dX3_readLevel_81 (by decide) ?_ ?_
          · refine g_iinc (pc := 86) (q := 4) (w := 1) (lv' := fun v19 => [(3, .int v19), (4, .int v13), (0, .ref (G.2.1 k0)), (1, .int x4), (2, .int x5)]) hC dX3_readLevel_86 rfl (by decide) (by decide) (fun _ => rfl) (fun v19 => ?_)
            refine g_goto (pc := 89) (tgt := 26) hC dX3_readLevel_89 (by decide) ?_
            exact gT_sub [2, 3, 4, 0] rfl (ih s18 x4 x5 v19)
          · refine g_iconst (pc := 84) (v := 1) hC dX3_readLevel_84 (by decide) ?_
            exact g_zret1 (pc := 85) hC dX3_readLevel_85
        · refine g_iconst (pc := 70) (v := 0) hC dX3_readLevel_70 (by decide) ?_
          exact g_zret0 (pc := 71) hC dX3_readLevel_71
def mrX3_readLevel (rec : ((gS → Nat → Int32 → Int32 → Option (Bool × gS)) × (gS → Nat → Int32 → Option (Bool × gS)))) (σ : gS) (k0 : Nat) (p0 : Int32) (p1 : Int32) : Option (Bool × gS) := if gk k0 = 3 then (if p0 < 5 then (gBind (rec.1 σ k0 (p0 + 1) p1) (fun r1 s2 => if r1 = true then (gLet 0 (fun v3 => (mX3_readLevel_b26 rec k0 1100 s2 p0 p1 v3))) else (some (false, s2)))) else (gBind (rec.2 σ k0 p1) (fun r20 s21 => some (r20, s21)))) else none
set_option maxHeartbeats 4000000 in
set_option maxRecDepth 100000 in
theorem trX3_readLevel {l : Launch} {G : gE} {d : Nat} {rec : ((gS → Nat → Int32 → Int32 → Option (Bool × gS)) × (gS → Nat → Int32 → Option (Bool × gS)))} (hrec : (∀ (σ : gS) (k0 : Nat) (p0 : Int32) (p1 : Int32), gM l G yX3_readLevel cX3_readLevel 5 (some .boolean) (rrX3_readLevel d) iZ [.ref (G.2.1 k0), .int p0, .int p1] σ (rec.1 σ k0 p0 p1)) ∧ (∀ (σ : gS) (k0 : Nat) (p0 : Int32), gM l G yX3_readOperand cX3_readOperand 4 (some .boolean) (rrX3_readOperand d) iZ [.ref (G.2.1 k0), .int p0] σ (rec.2 σ k0 p0))) : ∀ (σ : gS) (k0 : Nat) (p0 : Int32) (p1 : Int32), gM l G yX3_readLevel cX3_readLevel 5 (some .boolean) (rrX3_readLevel (d + 1)) iZ [.ref (G.2.1 k0), .int p0, .int p1] σ (mrX3_readLevel rec σ k0 p0 p1) := by
  intro σ k0 p0 p1
  refine gM_of (by decide) (Nat.le_of_ble_eq_true rfl) ?_
  intro p e s m args below meth c hC
  unfold mrX3_readLevel
  refine gT_if (fun hk0 => ?_) (fun _ => gT_none)
  show gT p l e (rrX3_readLevel (d + 1)) s m args below meth c G 5 iZ σ 0 [(0, .ref (G.2.1 k0)), (1, .int p0), (2, .int p1)] [] _
  refine g_iload_n (pc := 0) (q := 1) hC dX3_readLevel_0 rfl rfl ?_
  refine g_iconst (pc := 1) (v := 5) hC dX3_readLevel_1 (by decide) ?_
  refine g_icmp_lt (pc := 2) (tgt := 11) hC dX3_readLevel_2 (by decide) ?_ ?_
  · refine g_aload_n (pc := 11) (q := 0) hC dX3_readLevel_11 rfl rfl ?_
    refine g_iload_n (pc := 12) (q := 1) hC dX3_readLevel_12 rfl rfl ?_
    refine g_iconst (pc := 13) (v := 1) hC dX3_readLevel_13 (by decide) ?_
    refine g_iadd (pc := 14) hC dX3_readLevel_14 ?_
    refine g_iload_n (pc := 15) (q := 2) hC dX3_readLevel_15 rfl rfl ?_
    refine g_callVz (pc := 16) (As := [.int (p0 + 1), .int p1]) (rest := []) hC lk_RX3_94 kX3 hk0 (hrec.1 σ k0 (p0 + 1) p1) rfl rfl (Nat.le_of_ble_eq_true rfl) ⟨rfl, rfl, by simp only [rrX3_readLevel, rrX3_readLevel] <;> omega, by simp only [rrX3_readLevel, rrX3_readLevel] <;> omega⟩ dX3_readLevel_16 (fun r1 s2 => ?_)
    refine g_bif_ne (pc := 19) (tgt := 24) hC dX3_readLevel_19 (by decide) ?_ ?_
    · refine g_iconst (pc := 24) (v := 0) hC dX3_readLevel_24 (by decide) ?_
      refine g_istore_n (pc := 25) (lv' := fun v3 => [(3, .int v3), (0, .ref (G.2.1 k0)), (1, .int p0), (2, .int p1)]) hC dX3_readLevel_25 rfl (by decide) (fun _ => rfl) (fun v3 => ?_)
      exact gT_sub [1, 2, 3, 0] rfl (wX3_readLevel_b26 hC hrec k0 hk0 1100 s2 p0 p1 v3)
    · refine g_iconst (pc := 22) (v := 0) hC dX3_readLevel_22 (by decide) ?_
      exact g_zret0 (pc := 23) hC dX3_readLevel_23
  · refine g_aload_n (pc := 5) (q := 0) hC dX3_readLevel_5 rfl rfl ?_
    refine g_iload_n (pc := 6) (q := 2) hC dX3_readLevel_6 rfl rfl ?_
    refine g_callVz (pc := 7) (As := [.int p1]) (rest := []) hC lk_RX3_101 kX3 hk0 (hrec.2 σ k0 p1) rfl rfl (Nat.le_of_ble_eq_true rfl) ⟨rfl, rfl, by simp only [rrX3_readOperand, rrX3_readLevel] <;> omega, by simp only [rrX3_readOperand, rrX3_readLevel] <;> omega⟩ dX3_readLevel_7 (fun r20 s21 => ?_)
    exact g_zret (pc := 10) hC dX3_readLevel_10
def mX3_readOperand_b146 (rec : ((gS → Nat → Int32 → Int32 → Option (Bool × gS)) × (gS → Nat → Int32 → Option (Bool × gS)))) (k0 : Nat)  (σ : gS) (x20 : Int32) : Option (Bool × gS) := gBind (mX3_addStep σ k0 x20 0) (fun r21 s22 => some (true, s22))
set_option maxHeartbeats 4000000 in
set_option maxRecDepth 100000 in
theorem wX3_readOperand_b146 {p : Program} {l : Launch} {e : Env} {s : State} {m : MethodId} {args : Array Value} {below : List Frame} {meth : Method} {c : Code} {G : gE} {d : Nat} (hC : gCx p s m args meth c G RX3 cX3_readOperand 4 (some .boolean)) {rec : ((gS → Nat → Int32 → Int32 → Option (Bool × gS)) × (gS → Nat → Int32 → Option (Bool × gS)))} (hrec : (∀ (σ : gS) (k0 : Nat) (p0 : Int32) (p1 : Int32), gM l G yX3_readLevel cX3_readLevel 5 (some .boolean) (rrX3_readLevel d) iZ [.ref (G.2.1 k0), .int p0, .int p1] σ (rec.1 σ k0 p0 p1)) ∧ (∀ (σ : gS) (k0 : Nat) (p0 : Int32), gM l G yX3_readOperand cX3_readOperand 4 (some .boolean) (rrX3_readOperand d) iZ [.ref (G.2.1 k0), .int p0] σ (rec.2 σ k0 p0))) (k0 : Nat) (hk0 : gk k0 = 3)  (σ : gS) (x20 : Int32)  : gT p l e (rrX3_readOperand (d + 1)) s m args below meth c G 4 iZ σ 146 [] [.int x20, .ref (G.2.1 k0)] (mX3_readOperand_b146 rec k0 σ x20) := by
  unfold mX3_readOperand_b146
  refine g_iconst (pc := 146) (v := 0) hC dX3_readOperand_146 (by decide) ?_
  refine g_callVv (pc := 147) (As := [.int x20, .int 0]) (rest := []) hC lk_RX3_98 kX3 hk0 (tX3_addStep _ _ σ k0 x20 0) rfl rfl (Nat.le_of_ble_eq_true rfl) ⟨rfl, rfl, by simp only [rrX3_readOperand] <;> omega, by simp only [rrX3_readOperand] <;> omega⟩ dX3_readOperand_147 (fun r21 s22 => ?_)
  refine g_iconst (pc := 150) (v := 1) hC dX3_readOperand_150 (by decide) ?_
  exact g_zret1 (pc := 151) hC dX3_readOperand_151
def mX3_readOperand_b120 (rec : ((gS → Nat → Int32 → Int32 → Option (Bool × gS)) × (gS → Nat → Int32 → Option (Bool × gS)))) (k0 : Nat)  (σ : gS) (x16 : Int32) (x17 : Int32) : Option (Bool × gS) := gBind (rec.2 σ k0 (x16 + 1)) (fun r18 s19 => if r18 = true then (if x17 = 33 then ((mX3_readOperand_b146 rec k0 s19 33)) else ((mX3_readOperand_b146 rec k0 s19 126))) else (some (false, s19)))
set_option maxHeartbeats 4000000 in
set_option maxRecDepth 100000 in
theorem wX3_readOperand_b120 {p : Program} {l : Launch} {e : Env} {s : State} {m : MethodId} {args : Array Value} {below : List Frame} {meth : Method} {c : Code} {G : gE} {d : Nat} (hC : gCx p s m args meth c G RX3 cX3_readOperand 4 (some .boolean)) {rec : ((gS → Nat → Int32 → Int32 → Option (Bool × gS)) × (gS → Nat → Int32 → Option (Bool × gS)))} (hrec : (∀ (σ : gS) (k0 : Nat) (p0 : Int32) (p1 : Int32), gM l G yX3_readLevel cX3_readLevel 5 (some .boolean) (rrX3_readLevel d) iZ [.ref (G.2.1 k0), .int p0, .int p1] σ (rec.1 σ k0 p0 p1)) ∧ (∀ (σ : gS) (k0 : Nat) (p0 : Int32), gM l G yX3_readOperand cX3_readOperand 4 (some .boolean) (rrX3_readOperand d) iZ [.ref (G.2.1 k0), .int p0] σ (rec.2 σ k0 p0))) (k0 : Nat) (hk0 : gk k0 = 3)  (σ : gS) (x16 : Int32) (x17 : Int32)  : gT p l e (rrX3_readOperand (d + 1)) s m args below meth c G 4 iZ σ 120 [(0, .ref (G.2.1 k0)), (1, .int x16), (2, .int x17)] [] (mX3_readOperand_b120 rec k0 σ x16 x17) := by
  unfold mX3_readOperand_b120
  refine g_aload_n (pc := 120) (q := 0) hC dX3_readOperand_120 rfl rfl ?_
  refine g_iload_n (pc := 121) (q := 1) hC dX3_readOperand_121 rfl rfl ?_
  refine g_iconst (pc := 122) (v := 1) hC dX3_readOperand_122 (by decide) ?_
  refine g_iadd (pc := 123) hC dX3_readOperand_123 ?_
  refine g_callVz (pc := 124) (As := [.int (x16 + 1)]) (rest := []) hC lk_RX3_101 kX3 hk0 (hrec.2 σ k0 (x16 + 1)) rfl rfl (Nat.le_of_ble_eq_true rfl) ⟨rfl, rfl, by simp only [rrX3_readOperand, rrX3_readOperand] <;> omega, by simp only [rrX3_readOperand, rrX3_readOperand] <;> omega⟩ dX3_readOperand_124 (fun r18 s19 => ?_)
  refine g_bif_ne (pc := 127) (tgt := 132) hC dX3_readOperand_127 (by decide) ?_ ?_
  · refine g_aload_n (pc := 132) (q := 0) hC dX3_readOperand_132 rfl rfl ?_
    refine g_iload_n (pc := 133) (q := 2) hC dX3_readOperand_133 rfl rfl ?_
    refine g_bipush (pc := 134) (v := 33) hC dX3_readOperand_134 (by decide) ?_
    refine g_icmp_ne (pc := 136) (tgt := 144) hC dX3_readOperand_136 (by decide) ?_ ?_
    · refine g_bipush (pc := 144) (v := 126) hC dX3_readOperand_144 (by decide) ?_
      exact gT_sub [] rfl (wX3_readOperand_b146 hC hrec k0 hk0 s19 126)
    · refine g_bipush (pc := 139) (v := 33) hC dX3_readOperand_139 (by decide) ?_
      refine g_goto (pc := 141) (tgt := 146) hC dX3_readOperand_141 (by decide) ?_
      exact gT_sub [] rfl (wX3_readOperand_b146 hC hrec k0 hk0 s19 33)
  · refine g_iconst (pc := 130) (v := 0) hC dX3_readOperand_130 (by decide) ?_
    exact g_zret0 (pc := 131) hC dX3_readOperand_131
def mX3_readOperand_b33 (rec : ((gS → Nat → Int32 → Int32 → Option (Bool × gS)) × (gS → Nat → Int32 → Option (Bool × gS)))) (k0 : Nat)  (σ : gS) (x8 : Int32) (x9 : Int32) (x10 : Int32) : Option (Bool × gS) := gLet x10 (fun v11 => if v11 < 0 then (if x8 < 6 then (gBind (mX3_skip σ k0 40) (fun r12 s13 => if r12 = true then (gBind (rec.1 s13 k0 0 (x8 + 1)) (fun r25 s26 => if r25 = true then (gBind (mX3_skip s26 k0 41) (fun r27 s28 => if r27 = true then (some (true, s28)) else (some (false, s28)))) else (some (false, s26)))) else (gBind (mX3_skip s13 k0 33) (fun r14 s15 => if r14 = true then ((mX3_readOperand_b120 rec k0 s15 x8 x9)) else (gBind (mX3_skip s15 k0 45) (fun r23 s24 => if r23 = true then ((mX3_readOperand_b120 rec k0 s24 x8 x9)) else (some (false, s24)))))))) else (some (false, σ))) else (gLet (gUI σ k0 8 ((σ.1 k0 8) + 1)) (fun s29 => gBind (mX3_addStep s29 k0 118 v11) (fun r30 s31 => some (true, s31)))))
set_option maxHeartbeats 4000000 in
set_option maxRecDepth 100000 in
theorem wX3_readOperand_b33 {p : Program} {l : Launch} {e : Env} {s : State} {m : MethodId} {args : Array Value} {below : List Frame} {meth : Method} {c : Code} {G : gE} {d : Nat} (hC : gCx p s m args meth c G RX3 cX3_readOperand 4 (some .boolean)) {rec : ((gS → Nat → Int32 → Int32 → Option (Bool × gS)) × (gS → Nat → Int32 → Option (Bool × gS)))} (hrec : (∀ (σ : gS) (k0 : Nat) (p0 : Int32) (p1 : Int32), gM l G yX3_readLevel cX3_readLevel 5 (some .boolean) (rrX3_readLevel d) iZ [.ref (G.2.1 k0), .int p0, .int p1] σ (rec.1 σ k0 p0 p1)) ∧ (∀ (σ : gS) (k0 : Nat) (p0 : Int32), gM l G yX3_readOperand cX3_readOperand 4 (some .boolean) (rrX3_readOperand d) iZ [.ref (G.2.1 k0), .int p0] σ (rec.2 σ k0 p0))) (k0 : Nat) (hk0 : gk k0 = 3)  (σ : gS) (x8 : Int32) (x9 : Int32) (x10 : Int32)  : gT p l e (rrX3_readOperand (d + 1)) s m args below meth c G 4 iZ σ 33 [(0, .ref (G.2.1 k0)), (1, .int x8), (2, .int x9)] [.int x10] (mX3_readOperand_b33 rec k0 σ x8 x9 x10) := by
  unfold mX3_readOperand_b33
  refine g_istore_n (pc := 33) (lv' := fun v11 => [(3, .int v11), (0, .ref (G.2.1 k0)), (1, .int x8), (2, .int x9)]) hC dX3_readOperand_33 rfl (by decide) (fun _ => rfl) (fun v11 => ?_)
  refine g_iload_n (pc := 34) (q := 0) hC dX3_readOperand_34 rfl rfl ?_
  refine g_if_lt (pc := 35) (tgt := 57) hC dX3_readOperand_35 (by decide) ?_ ?_
  · refine g_iload_n (pc := 57) (q := 2) hC dX3_readOperand_57 rfl rfl ?_
    refine g_bipush (pc := 58) (v := 6) hC dX3_readOperand_58 (by decide) ?_
    refine g_icmp_lt (pc := 60) (tgt := 65) hC dX3_readOperand_60 (by decide) ?_ ?_
    · refine g_aload_n (pc := 65) (q := 1) hC dX3_readOperand_65 rfl rfl ?_
      refine g_bipush (pc := 66) (v := 40) hC dX3_readOperand_66 (by decide) ?_
      refine g_callVz (pc := 68) (As := [.int 40]) (rest := []) hC lk_RX3_90 kX3 hk0 (tX3_skip _ _ σ k0 40) rfl rfl (Nat.le_of_ble_eq_true rfl) ⟨rfl, rfl, by simp only [rrX3_readOperand] <;> omega, by simp only [rrX3_readOperand] <;> omega⟩ dX3_readOperand_68 (fun r12 s13 => ?_)
      refine g_bif_eq (pc := 71) (tgt := 100) hC dX3_readOperand_71 (by decide) ?_ ?_
      · refine g_aload_n (pc := 100) (q := 1) hC dX3_readOperand_100 rfl rfl ?_
        refine g_bipush (pc := 101) (v := 33) hC dX3_readOperand_101 (by decide) ?_
        refine g_callVz (pc := 103) (As := [.int 33]) (rest := []) hC lk_RX3_90 kX3 hk0 (tX3_skip _ _ s13 k0 33) rfl rfl (Nat.le_of_ble_eq_true rfl) ⟨rfl, rfl, by simp only [rrX3_readOperand] <;> omega, by simp only [rrX3_readOperand] <;> omega⟩ dX3_readOperand_103 (fun r14 s15 => ?_)
        refine g_bif_ne (pc := 106) (tgt := 120) hC dX3_readOperand_106 (by decide) ?_ ?_
        · exact gT_sub [1, 2, 3] rfl (wX3_readOperand_b120 hC hrec k0 hk0 s15 x8 x9)
        · refine g_aload_n (pc := 109) (q := 1) hC dX3_readOperand_109 rfl rfl ?_
          refine g_bipush (pc := 110) (v := 45) hC dX3_readOperand_110 (by decide) ?_
          refine g_callVz (pc := 112) (As := [.int 45]) (rest := []) hC lk_RX3_90 kX3 hk0 (tX3_skip _ _ s15 k0 45) rfl rfl (Nat.le_of_ble_eq_true rfl) ⟨rfl, rfl, by simp only [rrX3_readOperand] <;> omega, by simp only [rrX3_readOperand] <;> omega⟩ dX3_readOperand_112 (fun r23 s24 => ?_)
          refine g_bif_ne (pc := 115) (tgt := 120) hC dX3_readOperand_115 (by decide) ?_ ?_
          · exact gT_sub [1, 2, 3] rfl (wX3_readOperand_b120 hC hrec k0 hk0 s24 x8 x9)
          · refine g_iconst (pc := 118) (v := 0) hC dX3_readOperand_118 (by decide) ?_
            exact g_zret0 (pc := 119) hC dX3_readOperand_119
      · refine g_aload_n (pc := 74) (q := 1) hC dX3_readOperand_74 rfl rfl ?_
        refine g_iconst (pc := 75) (v := 0) hC dX3_readOperand_75 (by decide) ?_
        refine g_iload_n (pc := 76) (q := 2) hC dX3_readOperand_76 rfl rfl ?_
        refine g_iconst (pc := 77) (v := 1) hC dX3_readOperand_77 (by decide) ?_
        refine g_iadd (pc := 78) hC dX3_readOperand_78 ?_
        refine g_callVz (pc := 79) (As := [.int 0, .int (x8 + 1)]) (rest := []) hC lk_RX3_94 kX3 hk0 (hrec.1 s13 k0 0 (x8 + 1)) rfl rfl (Nat.le_of_ble_eq_true rfl) ⟨rfl, rfl, by simp only [rrX3_readLevel, rrX3_readOperand] <;> omega, by simp only [rrX3_readLevel, rrX3_readOperand] <;> omega⟩ dX3_readOperand_79 (fun r25 s26 => ?_)
        refine g_bif_eq (pc := 82) (tgt := 98) hC dX3_readOperand_82 (by decide) ?_ ?_
        · refine g_iconst (pc := 98) (v := 0) hC dX3_readOperand_98 (by decide) ?_
          exact g_zret0 (pc := 99) hC dX3_readOperand_99
        · refine g_aload_n (pc := 85) (q := 1) hC dX3_readOperand_85 rfl rfl ?_
          refine g_bipush (pc := 86) (v := 41) hC dX3_readOperand_86 (by decide) ?_
          refine g_callVz (pc := 88) (As := [.int 41]) (rest := []) hC lk_RX3_90 kX3 hk0 (tX3_skip _ _ s26 k0 41) rfl rfl (Nat.le_of_ble_eq_true rfl) ⟨rfl, rfl, by simp only [rrX3_readOperand] <;> omega, by simp only [rrX3_readOperand] <;> omega⟩ dX3_readOperand_88 (fun r27 s28 => ?_)
          refine g_bif_eq (pc := 91) (tgt := 98) hC dX3_readOperand_91 (by decide) ?_ ?_
          · refine g_iconst (pc := 98) (v := 0) hC dX3_readOperand_98 (by decide) ?_
            exact g_zret0 (pc := 99) hC dX3_readOperand_99
          · refine g_iconst (pc := 94) (v := 1) hC dX3_readOperand_94 (by decide) ?_
            refine g_goto (pc := 95) (tgt := 99) hC dX3_readOperand_95 (by decide) ?_
            exact g_zret1 (pc := 99) hC dX3_readOperand_99
    · refine g_iconst (pc := 63) (v := 0) hC dX3_readOperand_63 (by decide) ?_
      exact g_zret0 (pc := 64) hC dX3_readOperand_64
  · refine g_aload_n (pc := 38) (q := 1) hC dX3_readOperand_38 rfl rfl ?_
    refine g_dup (pc := 39) hC dX3_readOperand_39 rfl ?_
    refine g_get (pc := 40) (v := .int (σ.1 k0 8)) hC kX3 hk0 8 (by decide) fl_RX3_37 rfl dX3_readOperand_40 ?_
    refine g_iconst (pc := 43) (v := 1) hC dX3_readOperand_43 (by decide) ?_
    refine g_iadd (pc := 44) hC dX3_readOperand_44 ?_
    refine g_puti (pc := 45) (fty := .int) hC kX3 hk0 8 (by decide) fl_RX3_37 rfl rfl rfl rfl (fun _ _ => Nat.le_of_ble_eq_true rfl) (fun _ _ => rfl) dX3_readOperand_45 (fun s29 => ?_)
    refine g_aload_n (pc := 48) (q := 1) hC dX3_readOperand_48 rfl rfl ?_
    refine g_bipush (pc := 49) (v := 118) hC dX3_readOperand_49 (by decide) ?_
    refine g_iload_n (pc := 51) (q := 0) hC dX3_readOperand_51 rfl rfl ?_
    refine g_callVv (pc := 52) (As := [.int 118, .int v11]) (rest := []) hC lk_RX3_98 kX3 hk0 (tX3_addStep _ _ s29 k0 118 v11) rfl rfl (Nat.le_of_ble_eq_true rfl) ⟨rfl, rfl, by simp only [rrX3_readOperand] <;> omega, by simp only [rrX3_readOperand] <;> omega⟩ dX3_readOperand_52 (fun r30 s31 => ?_)
    refine g_iconst (pc := 55) (v := 1) hC dX3_readOperand_55 (by decide) ?_
    exact g_zret1 (pc := 56) hC dX3_readOperand_56
def mrX3_readOperand (rec : ((gS → Nat → Int32 → Int32 → Option (Bool × gS)) × (gS → Nat → Int32 → Option (Bool × gS)))) (σ : gS) (k0 : Nat) (p0 : Int32) : Option (Bool × gS) := if gk k0 = 3 then (gBind (mX3_letter σ k0) (fun r1 s2 => gLet r1 (fun v3 => gBind (mX3_isDigit s2 v3) (fun r4 s5 => if r4 = true then (gBind (mX3_readNumber s5 k0) (fun r32 s33 => some (true, s33))) else (if 0 ≤ v3 then (gBind (mJ0_indexOf_0f7a4 s5 (UInt32.toInt32 (Int32.toUInt32 v3 % 65536))) (fun r6 s7 => (mX3_readOperand_b33 rec k0 s7 p0 v3 r6))) else ((mX3_readOperand_b33 rec k0 s5 p0 v3 (-1)))))))) else none
set_option maxHeartbeats 4000000 in
set_option maxRecDepth 100000 in
theorem trX3_readOperand {l : Launch} {G : gE} {d : Nat} {rec : ((gS → Nat → Int32 → Int32 → Option (Bool × gS)) × (gS → Nat → Int32 → Option (Bool × gS)))} (hrec : (∀ (σ : gS) (k0 : Nat) (p0 : Int32) (p1 : Int32), gM l G yX3_readLevel cX3_readLevel 5 (some .boolean) (rrX3_readLevel d) iZ [.ref (G.2.1 k0), .int p0, .int p1] σ (rec.1 σ k0 p0 p1)) ∧ (∀ (σ : gS) (k0 : Nat) (p0 : Int32), gM l G yX3_readOperand cX3_readOperand 4 (some .boolean) (rrX3_readOperand d) iZ [.ref (G.2.1 k0), .int p0] σ (rec.2 σ k0 p0))) : ∀ (σ : gS) (k0 : Nat) (p0 : Int32), gM l G yX3_readOperand cX3_readOperand 4 (some .boolean) (rrX3_readOperand (d + 1)) iZ [.ref (G.2.1 k0), .int p0] σ (mrX3_readOperand rec σ k0 p0) := by
  intro σ k0 p0
  refine gM_of (by decide) (Nat.le_of_ble_eq_true rfl) ?_
  intro p e s m args below meth c hC
  unfold mrX3_readOperand
  refine gT_if (fun hk0 => ?_) (fun _ => gT_none)
  show gT p l e (rrX3_readOperand (d + 1)) s m args below meth c G 4 iZ σ 0 [(0, .ref (G.2.1 k0)), (1, .int p0)] [] _
  refine g_aload_n (pc := 0) (q := 0) hC dX3_readOperand_0 rfl rfl ?_
  refine g_callVi (pc := 1) (As := []) (rest := []) hC lk_RX3_105 kX3 hk0 (tX3_letter _ _ σ k0) rfl rfl (Nat.le_of_ble_eq_true rfl) ⟨rfl, rfl, by simp only [rrX3_readOperand] <;> omega, by simp only [rrX3_readOperand] <;> omega⟩ dX3_readOperand_1 (fun r1 s2 => ?_)
  refine g_istore_n (pc := 4) (lv' := fun v3 => [(2, .int v3), (0, .ref (G.2.1 k0)), (1, .int p0)]) hC dX3_readOperand_4 rfl (by decide) (fun _ => rfl) (fun v3 => ?_)
  refine g_iload_n (pc := 5) (q := 0) hC dX3_readOperand_5 rfl rfl ?_
  refine g_callSz (pc := 6) (As := [.int v3]) (rest := []) hC lk_RX3_111 (tX3_isDigit _ _ s2 v3) rfl rfl (Nat.le_of_ble_eq_true rfl) ⟨rfl, rfl, by simp only [rrX3_readOperand] <;> omega, by simp only [rrX3_readOperand] <;> omega⟩ dX3_readOperand_6 (fun r4 s5 => ?_)
  refine g_bif_eq (pc := 9) (tgt := 18) hC dX3_readOperand_9 (by decide) ?_ ?_
  · refine g_iload_n (pc := 18) (q := 0) hC dX3_readOperand_18 rfl rfl ?_
    refine g_if_ge (pc := 19) (tgt := 26) hC dX3_readOperand_19 (by decide) ?_ ?_
    · refine g_ldcS (pc := 26) hC dX3_readOperand_26 ?_
      refine g_iload_n (pc := 28) (q := 0) hC dX3_readOperand_28 rfl rfl ?_
      refine g_i2c (pc := 29) hC dX3_readOperand_29 ?_
      refine g_callVSi (pc := 30) (As := [.int (UInt32.toInt32 (Int32.toUInt32 v3 % 65536))]) (rest := []) hC lk_RX3_119 (tJ0_indexOf_0f7a4 _ _ s5 (UInt32.toInt32 (Int32.toUInt32 v3 % 65536))) rfl rfl (Nat.le_of_ble_eq_true rfl) ⟨rfl, rfl, by simp only [rrX3_readOperand] <;> omega, by simp only [rrX3_readOperand] <;> omega⟩ dX3_readOperand_30 (fun r6 s7 => ?_)
      exact gT_sub [1, 2, 0] rfl (wX3_readOperand_b33 hC hrec k0 hk0 s7 p0 v3 r6)
    · refine g_iconst (pc := 22) (v := (-1)) hC dX3_readOperand_22 (by decide) ?_
      refine g_goto (pc := 23) (tgt := 33) hC dX3_readOperand_23 (by decide) ?_
      exact gT_sub [1, 2, 0] rfl (wX3_readOperand_b33 hC hrec k0 hk0 s5 p0 v3 (-1))
  · refine g_aload_n (pc := 12) (q := 1) hC dX3_readOperand_12 rfl rfl ?_
    refine g_callVv (pc := 13) (As := []) (rest := []) hC lk_RX3_114 kX3 hk0 (tX3_readNumber _ _ s5 k0) rfl rfl (Nat.le_of_ble_eq_true rfl) ⟨rfl, rfl, by simp only [rrX3_readOperand] <;> omega, by simp only [rrX3_readOperand] <;> omega⟩ dX3_readOperand_13 (fun r32 s33 => ?_)
    refine g_iconst (pc := 16) (v := 1) hC dX3_readOperand_16 (by decide) ?_
    exact g_zret1 (pc := 17) hC dX3_readOperand_17
def mgread : Nat → ((gS → Nat → Int32 → Int32 → Option (Bool × gS)) × (gS → Nat → Int32 → Option (Bool × gS)))
  | 0 => (fun _ _ _ _ => none, fun _ _ _ => none)
  | d + 1 => (mrX3_readLevel (mgread d), mrX3_readOperand (mgread d))
theorem tgread (l : Launch) (G : gE) : ∀ d : Nat, (∀ (σ : gS) (k0 : Nat) (p0 : Int32) (p1 : Int32), gM l G yX3_readLevel cX3_readLevel 5 (some .boolean) (rrX3_readLevel d) iZ [.ref (G.2.1 k0), .int p0, .int p1] σ ((mgread d).1 σ k0 p0 p1)) ∧ (∀ (σ : gS) (k0 : Nat) (p0 : Int32), gM l G yX3_readOperand cX3_readOperand 4 (some .boolean) (rrX3_readOperand d) iZ [.ref (G.2.1 k0), .int p0] σ ((mgread d).2 σ k0 p0)) := by
  intro d
  induction d with
  | zero => exact ⟨fun _ _ _ _ _ _ h => (by cases h), fun _ _ _ _ _ h => (by cases h)⟩
  | succ d ih => exact ⟨trX3_readLevel ih, trX3_readOperand ih⟩
abbrev rX3_readLevel : Room := rrX3_readLevel 64
def mX3_readLevel (σ : gS) (k0 : Nat) (p0 : Int32) (p1 : Int32) : Option (Bool × gS) := (mgread 64).1 σ k0 p0 p1
theorem tX3_readLevel (l : Launch) (G : gE) (σ : gS) (k0 : Nat) (p0 : Int32) (p1 : Int32) : gM l G yX3_readLevel cX3_readLevel 5 (some .boolean) rX3_readLevel iZ [.ref (G.2.1 k0), .int p0, .int p1] σ (mX3_readLevel σ k0 p0 p1) := (tgread l G 64).1 σ k0 p0 p1
abbrev rX3_readOperand : Room := rrX3_readOperand 64
def mX3_readOperand (σ : gS) (k0 : Nat) (p0 : Int32) : Option (Bool × gS) := (mgread 64).2 σ k0 p0
theorem tX3_readOperand (l : Launch) (G : gE) (σ : gS) (k0 : Nat) (p0 : Int32) : gM l G yX3_readOperand cX3_readOperand 4 (some .boolean) rX3_readOperand iZ [.ref (G.2.1 k0), .int p0] σ (mX3_readOperand σ k0 p0) := (tgread l G 64).2 σ k0 p0
theorem dX3_readLine_0 : decode cX3_readLine 0 = .ok (.aload_n 0, 1) := by decide +kernel
theorem dX3_readLine_1 : decode cX3_readLine 1 = .ok (.iconst 0, 1) := by decide +kernel
theorem dX3_readLine_2 : decode cX3_readLine 2 = .ok (.iconst 0, 1) := by decide +kernel
theorem dX3_readLine_3 : decode cX3_readLine 3 = .ok (.invokevirtual 94, 3) := by decide +kernel
theorem dX3_readLine_6 : decode cX3_readLine 6 = .ok (.ifCond .ne 5, 3) := by decide +kernel
theorem dX3_readLine_9 : decode cX3_readLine 9 = .ok (.iconst 0, 1) := by decide +kernel
theorem dX3_readLine_10 : decode cX3_readLine 10 = .ok (.ireturn, 1) := by decide +kernel
theorem dX3_readLine_11 : decode cX3_readLine 11 = .ok (.aload_n 0, 1) := by decide +kernel
theorem dX3_readLine_12 : decode cX3_readLine 12 = .ok (.bipush 63, 2) := by decide +kernel
theorem dX3_readLine_14 : decode cX3_readLine 14 = .ok (.invokevirtual 90, 3) := by decide +kernel
theorem dX3_readLine_17 : decode cX3_readLine 17 = .ok (.ifCond .eq 21, 3) := by decide +kernel
theorem dX3_readLine_20 : decode cX3_readLine 20 = .ok (.aload_n 0, 1) := by decide +kernel
theorem dX3_readLine_21 : decode cX3_readLine 21 = .ok (.bipush 63, 2) := by decide +kernel
theorem dX3_readLine_23 : decode cX3_readLine 23 = .ok (.iconst 0, 1) := by decide +kernel
theorem dX3_readLine_24 : decode cX3_readLine 24 = .ok (.invokevirtual 98, 3) := by decide +kernel
theorem dX3_readLine_27 : decode cX3_readLine 27 = .ok (.aload_n 0, 1) := by decide +kernel
theorem dX3_readLine_28 : decode cX3_readLine 28 = .ok (.iconst 0, 1) := by decide +kernel
theorem dX3_readLine_29 : decode cX3_readLine 29 = .ok (.iconst 0, 1) := by decide +kernel
theorem dX3_readLine_30 : decode cX3_readLine 30 = .ok (.invokevirtual 94, 3) := by decide +kernel
theorem dX3_readLine_33 : decode cX3_readLine 33 = .ok (.ifCond .ne 5, 3) := by decide +kernel
theorem dX3_readLine_36 : decode cX3_readLine 36 = .ok (.iconst 0, 1) := by decide +kernel
theorem dX3_readLine_37 : decode cX3_readLine 37 = .ok (.ireturn, 1) := by decide +kernel
theorem dX3_readLine_38 : decode cX3_readLine 38 = .ok (.aload_n 0, 1) := by decide +kernel
theorem dX3_readLine_39 : decode cX3_readLine 39 = .ok (.bipush 59, 2) := by decide +kernel
theorem dX3_readLine_41 : decode cX3_readLine 41 = .ok (.iconst 0, 1) := by decide +kernel
theorem dX3_readLine_42 : decode cX3_readLine 42 = .ok (.invokevirtual 98, 3) := by decide +kernel
theorem dX3_readLine_45 : decode cX3_readLine 45 = .ok (.iconst 1, 1) := by decide +kernel
theorem dX3_readLine_46 : decode cX3_readLine 46 = .ok (.ireturn, 1) := by decide +kernel
abbrev rX3_readLine : Room := { frames := 69, cells := 0, slots := 0, locals := 1651 }
def mX3_readLine_b38  (k0 : Nat)  (σ : gS)  : Option (Bool × gS) := gBind (mX3_addStep σ k0 59 0) (fun r5 s6 => some (true, s6))
set_option maxHeartbeats 4000000 in
set_option maxRecDepth 100000 in
theorem wX3_readLine_b38 {p : Program} {l : Launch} {e : Env} {s : State} {m : MethodId} {args : Array Value} {below : List Frame} {meth : Method} {c : Code} {G : gE} (hC : gCx p s m args meth c G RX3 cX3_readLine 1 (some .boolean))  (k0 : Nat) (hk0 : gk k0 = 3)  (σ : gS)   : gT p l e rX3_readLine s m args below meth c G 1 iZ σ 38 [(0, .ref (G.2.1 k0))] [] (mX3_readLine_b38 k0 σ ) := by
  unfold mX3_readLine_b38
  refine g_aload_n (pc := 38) (q := 0) hC dX3_readLine_38 rfl rfl ?_
  refine g_bipush (pc := 39) (v := 59) hC dX3_readLine_39 (by decide) ?_
  refine g_iconst (pc := 41) (v := 0) hC dX3_readLine_41 (by decide) ?_
  refine g_callVv (pc := 42) (As := [.int 59, .int 0]) (rest := []) hC lk_RX3_98 kX3 hk0 (tX3_addStep _ _ σ k0 59 0) rfl rfl (Nat.le_of_ble_eq_true rfl) ⟨rfl, rfl, Nat.le_of_ble_eq_true rfl, Nat.le_of_ble_eq_true rfl⟩ dX3_readLine_42 (fun r5 s6 => ?_)
  refine g_iconst (pc := 45) (v := 1) hC dX3_readLine_45 (by decide) ?_
  exact g_zret1 (pc := 46) hC dX3_readLine_46
def mX3_readLine (σ : gS) (k0 : Nat) : Option (Bool × gS) := if gk k0 = 3 then (gBind (mX3_readLevel σ k0 0 0) (fun r1 s2 => if r1 = true then (gBind (mX3_skip s2 k0 63) (fun r3 s4 => if r3 = true then (gBind (mX3_addStep s4 k0 63 0) (fun r7 s8 => gBind (mX3_readLevel s8 k0 0 0) (fun r9 s10 => if r9 = true then ((mX3_readLine_b38 k0 s10 )) else (some (false, s10))))) else ((mX3_readLine_b38 k0 s4 )))) else (some (false, s2)))) else none
set_option maxHeartbeats 4000000 in
set_option maxRecDepth 100000 in
theorem tX3_readLine (l : Launch) (G : gE) (σ : gS) (k0 : Nat) : gM l G yX3_readLine cX3_readLine 1 (some .boolean) rX3_readLine iZ [.ref (G.2.1 k0)] σ (mX3_readLine σ k0) := by
  refine gM_of (by decide) (Nat.le_of_ble_eq_true rfl) ?_
  intro p e s m args below meth c hC
  unfold mX3_readLine
  refine gT_if (fun hk0 => ?_) (fun _ => gT_none)
  show gT p l e rX3_readLine s m args below meth c G 1 iZ σ 0 [(0, .ref (G.2.1 k0))] [] _
  refine g_aload_n (pc := 0) (q := 0) hC dX3_readLine_0 rfl rfl ?_
  refine g_iconst (pc := 1) (v := 0) hC dX3_readLine_1 (by decide) ?_
  refine g_iconst (pc := 2) (v := 0) hC dX3_readLine_2 (by decide) ?_
  refine g_callVz (pc := 3) (As := [.int 0, .int 0]) (rest := []) hC lk_RX3_94 kX3 hk0 (tX3_readLevel _ _ σ k0 0 0) rfl rfl (Nat.le_of_ble_eq_true rfl) ⟨rfl, rfl, Nat.le_of_ble_eq_true rfl, Nat.le_of_ble_eq_true rfl⟩ dX3_readLine_3 (fun r1 s2 => ?_)
  refine g_bif_ne (pc := 6) (tgt := 11) hC dX3_readLine_6 (by decide) ?_ ?_
  · refine g_aload_n (pc := 11) (q := 0) hC dX3_readLine_11 rfl rfl ?_
    refine g_bipush (pc := 12) (v := 63) hC dX3_readLine_12 (by decide) ?_
    refine g_callVz (pc := 14) (As := [.int 63]) (rest := []) hC lk_RX3_90 kX3 hk0 (tX3_skip _ _ s2 k0 63) rfl rfl (Nat.le_of_ble_eq_true rfl) ⟨rfl, rfl, Nat.le_of_ble_eq_true rfl, Nat.le_of_ble_eq_true rfl⟩ dX3_readLine_14 (fun r3 s4 => ?_)
    refine g_bif_eq (pc := 17) (tgt := 38) hC dX3_readLine_17 (by decide) ?_ ?_
    · exact gT_sub [0] rfl (wX3_readLine_b38 hC k0 hk0 s4 )
    · refine g_aload_n (pc := 20) (q := 0) hC dX3_readLine_20 rfl rfl ?_
      refine g_bipush (pc := 21) (v := 63) hC dX3_readLine_21 (by decide) ?_
      refine g_iconst (pc := 23) (v := 0) hC dX3_readLine_23 (by decide) ?_
      refine g_callVv (pc := 24) (As := [.int 63, .int 0]) (rest := []) hC lk_RX3_98 kX3 hk0 (tX3_addStep _ _ s4 k0 63 0) rfl rfl (Nat.le_of_ble_eq_true rfl) ⟨rfl, rfl, Nat.le_of_ble_eq_true rfl, Nat.le_of_ble_eq_true rfl⟩ dX3_readLine_24 (fun r7 s8 => ?_)
      refine g_aload_n (pc := 27) (q := 0) hC dX3_readLine_27 rfl rfl ?_
      refine g_iconst (pc := 28) (v := 0) hC dX3_readLine_28 (by decide) ?_
      refine g_iconst (pc := 29) (v := 0) hC dX3_readLine_29 (by decide) ?_
      refine g_callVz (pc := 30) (As := [.int 0, .int 0]) (rest := []) hC lk_RX3_94 kX3 hk0 (tX3_readLevel _ _ s8 k0 0 0) rfl rfl (Nat.le_of_ble_eq_true rfl) ⟨rfl, rfl, Nat.le_of_ble_eq_true rfl, Nat.le_of_ble_eq_true rfl⟩ dX3_readLine_30 (fun r9 s10 => ?_)
      refine g_bif_ne (pc := 33) (tgt := 38) hC dX3_readLine_33 (by decide) ?_ ?_
      · exact gT_sub [0] rfl (wX3_readLine_b38 hC k0 hk0 s10 )
      · refine g_iconst (pc := 36) (v := 0) hC dX3_readLine_36 (by decide) ?_
        exact g_zret0 (pc := 37) hC dX3_readLine_37
  · refine g_iconst (pc := 9) (v := 0) hC dX3_readLine_9 (by decide) ?_
    exact g_zret0 (pc := 10) hC dX3_readLine_10
theorem lk_RX3_87 : gLV RX3 87 RX3 yX3_readLine cX3_readLine 1 (some .boolean) 0 := ⟨(gBig_tab 488 (by decide +kernel) (by decide +kernel)), (gBig_tab 490 (by decide +kernel) (by decide +kernel)), (gBig_sel 7 (by decide +kernel) (by decide +kernel)), (gBig_tab 6 (by decide +kernel) (by decide +kernel)), (gBig_tab 491 (by decide +kernel) (by decide +kernel)), rfl, by decide +kernel, by decide +kernel, by decide +kernel⟩
theorem dX3_readText_0 : decode cX3_readText 0 = .ok (.iconst 0, 1) := by decide +kernel
theorem dX3_readText_1 : decode cX3_readText 1 = .ok (.istore_n 1, 1) := by decide +kernel
theorem dX3_readText_2 : decode cX3_readText 2 = .ok (.iload_n 1, 1) := by decide +kernel
theorem dX3_readText_3 : decode cX3_readText 3 = .ok (.bipush 120, 2) := by decide +kernel
theorem dX3_readText_5 : decode cX3_readText 5 = .ok (.if_icmp .ge 42, 3) := by decide +kernel
theorem dX3_readText_8 : decode cX3_readText 8 = .ok (.aload_n 0, 1) := by decide +kernel
theorem dX3_readText_9 : decode cX3_readText 9 = .ok (.invokevirtual 87, 3) := by decide +kernel
theorem dX3_readText_12 : decode cX3_readText 12 = .ok (.ifCond .ne 5, 3) := by decide +kernel
theorem dX3_readText_15 : decode cX3_readText 15 = .ok (.iconst 0, 1) := by decide +kernel
theorem dX3_readText_16 : decode cX3_readText 16 = .ok (.ireturn, 1) := by decide +kernel
theorem dX3_readText_17 : decode cX3_readText 17 = .ok (.aload_n 0, 1) := by decide +kernel
theorem dX3_readText_18 : decode cX3_readText 18 = .ok (.getfield 37, 3) := by decide +kernel
theorem dX3_readText_21 : decode cX3_readText 21 = .ok (.aload_n 0, 1) := by decide +kernel
theorem dX3_readText_22 : decode cX3_readText 22 = .ok (.getfield 34, 3) := by decide +kernel
theorem dX3_readText_25 : decode cX3_readText 25 = .ok (.if_icmp .lt 5, 3) := by decide +kernel
theorem dX3_readText_28 : decode cX3_readText 28 = .ok (.iconst 1, 1) := by decide +kernel
theorem dX3_readText_29 : decode cX3_readText 29 = .ok (.ireturn, 1) := by decide +kernel
theorem dX3_readText_30 : decode cX3_readText 30 = .ok (.aload_n 0, 1) := by decide +kernel
theorem dX3_readText_31 : decode cX3_readText 31 = .ok (.bipush 59, 2) := by decide +kernel
theorem dX3_readText_33 : decode cX3_readText 33 = .ok (.invokevirtual 90, 3) := by decide +kernel
theorem dX3_readText_36 : decode cX3_readText 36 = .ok (.ifCond .ne 5, 3) := by decide +kernel
theorem dX3_readText_39 : decode cX3_readText 39 = .ok (.iconst 0, 1) := by decide +kernel
theorem dX3_readText_40 : decode cX3_readText 40 = .ok (.ireturn, 1) := by decide +kernel
theorem dX3_readText_41 : decode cX3_readText 41 = .ok (.iinc 1 1, 3) := by decide +kernel
theorem dX3_readText_44 : decode cX3_readText 44 = .ok (.goto (-42), 3) := by decide +kernel
theorem dX3_readText_47 : decode cX3_readText 47 = .ok (.iconst 0, 1) := by decide +kernel
theorem dX3_readText_48 : decode cX3_readText 48 = .ok (.ireturn, 1) := by decide +kernel
abbrev rX3_readText : Room := { frames := 70, cells := 0, slots := 0, locals := 1671 }
def mX3_readText_b2  (k0 : Nat)  : Nat → gS → Int32 → Option (Bool × gS)
  | 0, _, _ => none
  | n + 1, σ, x2 => if 120 ≤ x2 then (some (false, σ)) else (gBind (mX3_readLine σ k0) (fun r3 s4 => if r3 = true then (if (s4.1 k0 8) < (s4.1 k0 7) then (gBind (mX3_skip s4 k0 59) (fun r5 s6 => if r5 = true then (gLet (x2 + 1) (fun v7 => ((mX3_readText_b2 k0 n) s6 v7))) else (some (false, s6)))) else (some (true, s4))) else (some (false, s4))))
set_option maxHeartbeats 4000000 in
set_option maxRecDepth 100000 in
theorem wX3_readText_b2 {p : Program} {l : Launch} {e : Env} {s : State} {m : MethodId} {args : Array Value} {below : List Frame} {meth : Method} {c : Code} {G : gE} (hC : gCx p s m args meth c G RX3 cX3_readText 2 (some .boolean))  (k0 : Nat) (hk0 : gk k0 = 3)  (n : Nat) (σ : gS) (x2 : Int32)  : gT p l e rX3_readText s m args below meth c G 2 iZ σ 2 [(0, .ref (G.2.1 k0)), (1, .int x2)] [] (mX3_readText_b2 k0 n σ x2) := by
  induction n generalizing σ x2 with
  | zero => exact gT_none
  | succ n ih =>
    unfold mX3_readText_b2
    refine g_iload_n (pc := 2) (q := 1) hC dX3_readText_2 rfl rfl ?_
    refine g_bipush (pc := 3) (v := 120) hC dX3_readText_3 (by decide) ?_
    refine g_icmp_ge (pc := 5) (tgt := 47) hC dX3_readText_5 (by decide) ?_ ?_
    · refine g_iconst (pc := 47) (v := 0) hC dX3_readText_47 (by decide) ?_
      exact g_zret0 (pc := 48) hC dX3_readText_48
    · refine g_aload_n (pc := 8) (q := 0) hC dX3_readText_8 rfl rfl ?_
      refine g_callVz (pc := 9) (As := []) (rest := []) hC lk_RX3_87 kX3 hk0 (tX3_readLine _ _ σ k0) rfl rfl (Nat.le_of_ble_eq_true rfl) ⟨rfl, rfl, Nat.le_of_ble_eq_true rfl, Nat.le_of_ble_eq_true rfl⟩ dX3_readText_9 (fun r3 s4 => ?_)
      refine g_bif_ne (pc := 12) (tgt := 17) hC dX3_readText_12 (by decide) ?_ ?_
      · refine g_aload_n (pc := 17) (q := 0) hC dX3_readText_17 rfl rfl ?_
        refine g_get (pc := 18) (v := .int (s4.1 k0 8)) hC kX3 hk0 8 (by decide) fl_RX3_37 rfl dX3_readText_18 ?_
        refine g_aload_n (pc := 21) (q := 0) hC dX3_readText_21 rfl rfl ?_
        refine g_get (pc := 22) (v := .int (s4.1 k0 7)) hC kX3 hk0 7 (by decide) fl_RX3_34 rfl dX3_readText_22 ?_
        refine g_icmp_lt (pc := 25) (tgt := 30) hC dX3_readText_25 (by decide) ?_ ?_
        · refine g_aload_n (pc := 30) (q := 0) hC dX3_readText_30 rfl rfl ?_
          refine g_bipush (pc := 31) (v := 59) hC dX3_readText_31 (by decide) ?_
          refine g_callVz (pc := 33) (As := [.int 59]) (rest := []) hC lk_RX3_90 kX3 hk0 (tX3_skip _ _ s4 k0 59) rfl rfl (Nat.le_of_ble_eq_true rfl) ⟨rfl, rfl, Nat.le_of_ble_eq_true rfl, Nat.le_of_ble_eq_true rfl⟩ dX3_readText_33 (fun r5 s6 => ?_)
          refine g_bif_ne (pc := 36) (tgt := 41) hC dX3_readText_36 (by decide) ?_ ?_
          · refine g_iinc (pc := 41) (q := 1) (w := 1) (lv' := fun v7 => [(1, .int v7), (0, .ref (G.2.1 k0))]) hC dX3_readText_41 rfl (by decide) (by decide) (fun _ => rfl) (fun v7 => ?_)
            refine g_goto (pc := 44) (tgt := 2) hC dX3_readText_44 (by decide) ?_
            exact gT_sub [1, 0] rfl (ih s6 v7)
          · refine g_iconst (pc := 39) (v := 0) hC dX3_readText_39 (by decide) ?_
            exact g_zret0 (pc := 40) hC dX3_readText_40
        · refine g_iconst (pc := 28) (v := 1) hC dX3_readText_28 (by decide) ?_
          exact g_zret1 (pc := 29) hC dX3_readText_29
      · refine g_iconst (pc := 15) (v := 0) hC dX3_readText_15 (by decide) ?_
        exact g_zret0 (pc := 16) hC dX3_readText_16
def mX3_readText (σ : gS) (k0 : Nat) : Option (Bool × gS) := if gk k0 = 3 then (gLet 0 (fun v1 => (mX3_readText_b2 k0 1100 σ v1))) else none
set_option maxHeartbeats 4000000 in
set_option maxRecDepth 100000 in
theorem tX3_readText (l : Launch) (G : gE) (σ : gS) (k0 : Nat) : gM l G yX3_readText cX3_readText 2 (some .boolean) rX3_readText iZ [.ref (G.2.1 k0)] σ (mX3_readText σ k0) := by
  refine gM_of (by decide) (Nat.le_of_ble_eq_true rfl) ?_
  intro p e s m args below meth c hC
  unfold mX3_readText
  refine gT_if (fun hk0 => ?_) (fun _ => gT_none)
  show gT p l e rX3_readText s m args below meth c G 2 iZ σ 0 [(0, .ref (G.2.1 k0))] [] _
  refine g_iconst (pc := 0) (v := 0) hC dX3_readText_0 (by decide) ?_
  refine g_istore_n (pc := 1) (lv' := fun v1 => [(1, .int v1), (0, .ref (G.2.1 k0))]) hC dX3_readText_1 rfl (by decide) (fun _ => rfl) (fun v1 => ?_)
  exact gT_sub [1, 0] rfl (wX3_readText_b2 hC k0 hk0 1100 σ v1)
theorem lk_RX3_83 : gLV RX3 83 RX3 yX3_readText cX3_readText 2 (some .boolean) 0 := ⟨(gBig_tab 484 (by decide +kernel) (by decide +kernel)), (gBig_tab 486 (by decide +kernel) (by decide +kernel)), (gBig_sel 6 (by decide +kernel) (by decide +kernel)), (gBig_tab 6 (by decide +kernel) (by decide +kernel)), (gBig_tab 487 (by decide +kernel) (by decide +kernel)), rfl, by decide +kernel, by decide +kernel, by decide +kernel⟩
theorem dX3_read_0 : decode cX3_read 0 = .ok (.aload_n 0, 1) := by decide +kernel
theorem dX3_read_1 : decode cX3_read 1 = .ok (.aload_n 1, 1) := by decide +kernel
theorem dX3_read_2 : decode cX3_read 2 = .ok (.putfield 31, 3) := by decide +kernel
theorem dX3_read_5 : decode cX3_read 5 = .ok (.aload_n 0, 1) := by decide +kernel
theorem dX3_read_6 : decode cX3_read 6 = .ok (.iconst 0, 1) := by decide +kernel
theorem dX3_read_7 : decode cX3_read 7 = .ok (.iload_n 2, 1) := by decide +kernel
theorem dX3_read_8 : decode cX3_read 8 = .ok (.aload_n 1, 1) := by decide +kernel
theorem dX3_read_9 : decode cX3_read 9 = .ok (.arraylength, 1) := by decide +kernel
theorem dX3_read_10 : decode cX3_read 10 = .ok (.invokestatic 56, 3) := by decide +kernel
theorem dX3_read_13 : decode cX3_read 13 = .ok (.invokestatic 62, 3) := by decide +kernel
theorem dX3_read_16 : decode cX3_read 16 = .ok (.putfield 34, 3) := by decide +kernel
theorem dX3_read_19 : decode cX3_read 19 = .ok (.aload_n 0, 1) := by decide +kernel
theorem dX3_read_20 : decode cX3_read 20 = .ok (.iconst 0, 1) := by decide +kernel
theorem dX3_read_21 : decode cX3_read 21 = .ok (.putfield 37, 3) := by decide +kernel
theorem dX3_read_24 : decode cX3_read 24 = .ok (.aload_n 0, 1) := by decide +kernel
theorem dX3_read_25 : decode cX3_read 25 = .ok (.iconst 0, 1) := by decide +kernel
theorem dX3_read_26 : decode cX3_read 26 = .ok (.putfield 18, 3) := by decide +kernel
theorem dX3_read_29 : decode cX3_read 29 = .ok (.aload_n 0, 1) := by decide +kernel
theorem dX3_read_30 : decode cX3_read 30 = .ok (.invokevirtual 83, 3) := by decide +kernel
theorem dX3_read_33 : decode cX3_read 33 = .ok (.ifCond .eq 7, 3) := by decide +kernel
theorem dX3_read_36 : decode cX3_read 36 = .ok (.iconst (-1), 1) := by decide +kernel
theorem dX3_read_37 : decode cX3_read 37 = .ok (.goto 7, 3) := by decide +kernel
theorem dX3_read_40 : decode cX3_read 40 = .ok (.aload_n 0, 1) := by decide +kernel
theorem dX3_read_41 : decode cX3_read 41 = .ok (.getfield 37, 3) := by decide +kernel
theorem dX3_read_44 : decode cX3_read 44 = .ok (.ireturn, 1) := by decide +kernel
abbrev rX3_read : Room := { frames := 71, cells := 0, slots := 0, locals := 1692 }
def mX3_read (σ : gS) (k0 : Nat) (q0 : Nat) (p1 : Int32) : Option (Int32 × gS) := if gk k0 = 3 then (if gk q0 = 1120 then (gLet (gUR σ k0 6 (some q0)) (fun s1 => gLet (gUI s1 k0 7 (gMax 0 (gMin p1 120))) (fun s2 => gLet (gUI s2 k0 8 0) (fun s3 => gLet (gUI s3 k0 2 0) (fun s4 => gBind (mX3_readText s4 k0) (fun r5 s6 => if r5 = true then (some ((-1), s6)) else (some ((s6.1 k0 8), s6)))))))) else none) else none
set_option maxHeartbeats 4000000 in
set_option maxRecDepth 100000 in
theorem tX3_read (l : Launch) (G : gE) (σ : gS) (k0 : Nat) (q0 : Nat) (p1 : Int32) : gM l G yX3_read cX3_read 3 (some .int) rX3_read iI [.ref (G.2.1 k0), .ref (G.2.1 q0), .int p1] σ (mX3_read σ k0 q0 p1) := by
  refine gM_of (by decide) (Nat.le_of_ble_eq_true rfl) ?_
  intro p e s m args below meth c hC
  unfold mX3_read
  refine gT_if (fun hk0 => ?_) (fun _ => gT_none)
  refine gT_if (fun hq0 => ?_) (fun _ => gT_none)
  show gT p l e rX3_read s m args below meth c G 3 iI σ 0 [(0, .ref (G.2.1 k0)), (1, .ref (G.2.1 q0)), (2, .int p1)] [] _
  refine g_aload_n (pc := 0) (q := 0) hC dX3_read_0 rfl rfl ?_
  refine g_aload_n (pc := 1) (q := 1) hC dX3_read_1 rfl rfl ?_
  refine g_putr (pc := 2) (fty := .array .int) (v := (some q0)) hC kX3 hk0 6 (by decide) fl_RX3_31 rfl rfl rfl rfl rfl (fun _ _ => Nat.le_of_ble_eq_true rfl) (fun _ _ => rfl) dX3_read_2 (fun s1 => ?_)
  refine g_aload_n (pc := 5) (q := 0) hC dX3_read_5 rfl rfl ?_
  refine g_iconst (pc := 6) (v := 0) hC dX3_read_6 (by decide) ?_
  refine g_iload_n (pc := 7) (q := 2) hC dX3_read_7 rfl rfl ?_
  refine g_aload_n (pc := 8) (q := 1) hC dX3_read_8 rfl rfl ?_
  refine g_alen (pc := 9) (v := 120) hC 120 hq0 (by decide) (by decide) dX3_read_9 ?_
  refine g_min (pc := 10) hC mth_RX3_56 ⟨Nat.le_of_ble_eq_true rfl, Nat.le_of_ble_eq_true rfl⟩ (Nat.le_of_ble_eq_true rfl) dX3_read_10 ?_
  refine g_max (pc := 13) hC mth_RX3_62 ⟨Nat.le_of_ble_eq_true rfl, Nat.le_of_ble_eq_true rfl⟩ (Nat.le_of_ble_eq_true rfl) dX3_read_13 ?_
  refine g_puti (pc := 16) (fty := .int) hC kX3 hk0 7 (by decide) fl_RX3_34 rfl rfl rfl rfl (fun _ _ => Nat.le_of_ble_eq_true rfl) (fun _ _ => rfl) dX3_read_16 (fun s2 => ?_)
  refine g_aload_n (pc := 19) (q := 0) hC dX3_read_19 rfl rfl ?_
  refine g_iconst (pc := 20) (v := 0) hC dX3_read_20 (by decide) ?_
  refine g_puti (pc := 21) (fty := .int) hC kX3 hk0 8 (by decide) fl_RX3_37 rfl rfl rfl rfl (fun _ _ => Nat.le_of_ble_eq_true rfl) (fun _ _ => rfl) dX3_read_21 (fun s3 => ?_)
  refine g_aload_n (pc := 24) (q := 0) hC dX3_read_24 rfl rfl ?_
  refine g_iconst (pc := 25) (v := 0) hC dX3_read_25 (by decide) ?_
  refine g_puti (pc := 26) (fty := .int) hC kX3 hk0 2 (by decide) fl_RX3_18 rfl rfl rfl rfl (fun _ _ => Nat.le_of_ble_eq_true rfl) (fun _ _ => rfl) dX3_read_26 (fun s4 => ?_)
  refine g_aload_n (pc := 29) (q := 0) hC dX3_read_29 rfl rfl ?_
  refine g_callVz (pc := 30) (As := []) (rest := []) hC lk_RX3_83 kX3 hk0 (tX3_readText _ _ s4 k0) rfl rfl (Nat.le_of_ble_eq_true rfl) ⟨rfl, rfl, Nat.le_of_ble_eq_true rfl, Nat.le_of_ble_eq_true rfl⟩ dX3_read_30 (fun r5 s6 => ?_)
  refine g_bif_eq (pc := 33) (tgt := 40) hC dX3_read_33 (by decide) ?_ ?_
  · refine g_aload_n (pc := 40) (q := 0) hC dX3_read_40 rfl rfl ?_
    refine g_get (pc := 41) (v := .int (s6.1 k0 8)) hC kX3 hk0 8 (by decide) fl_RX3_37 rfl dX3_read_41 ?_
    exact g_iret (pc := 44) hC dX3_read_44
  · refine g_iconst (pc := 36) (v := (-1)) hC dX3_read_36 (by decide) ?_
    refine g_goto (pc := 37) (tgt := 44) hC dX3_read_37 (by decide) ?_
    exact g_iret (pc := 44) hC dX3_read_44
theorem lk_RX9_149 : gLV RX9 149 RX3 yX3_read cX3_read 3 (some .int) 2 := ⟨(gBig_tab 474 (by decide +kernel) (by decide +kernel)), (gBig_tab 475 (by decide +kernel) (by decide +kernel)), (gBig_tab 476 (by decide +kernel) (by decide +kernel)), (gBig_tab 6 (by decide +kernel) (by decide +kernel)), (gBig_tab 477 (by decide +kernel) (by decide +kernel)), rfl, by decide +kernel, by decide +kernel, by decide +kernel⟩
theorem dX9_law_0 : decode cX9_law 0 = .ok (.aload_n 0, 1) := by decide +kernel
theorem dX9_law_1 : decode cX9_law 1 = .ok (.getfield 55, 3) := by decide +kernel
theorem dX9_law_4 : decode cX9_law 4 = .ok (.aload_n 0, 1) := by decide +kernel
theorem dX9_law_5 : decode cX9_law 5 = .ok (.getfield 40, 3) := by decide +kernel
theorem dX9_law_8 : decode cX9_law 8 = .ok (.aload_n 0, 1) := by decide +kernel
theorem dX9_law_9 : decode cX9_law 9 = .ok (.getfield 44, 3) := by decide +kernel
theorem dX9_law_12 : decode cX9_law 12 = .ok (.invokevirtual 149, 3) := by decide +kernel
theorem dX9_law_15 : decode cX9_law 15 = .ok (.istore_n 1, 1) := by decide +kernel
theorem dX9_law_16 : decode cX9_law 16 = .ok (.aload_n 0, 1) := by decide +kernel
theorem dX9_law_17 : decode cX9_law 17 = .ok (.iconst 0, 1) := by decide +kernel
theorem dX9_law_18 : decode cX9_law 18 = .ok (.putfield 44, 3) := by decide +kernel
theorem dX9_law_21 : decode cX9_law 21 = .ok (.iload_n 1, 1) := by decide +kernel
theorem dX9_law_22 : decode cX9_law 22 = .ok (.iconst (-1), 1) := by decide +kernel
theorem dX9_law_23 : decode cX9_law 23 = .ok (.if_icmp .eq 8, 3) := by decide +kernel
theorem dX9_law_26 : decode cX9_law 26 = .ok (.bipush (-100), 2) := by decide +kernel
theorem dX9_law_28 : decode cX9_law 28 = .ok (.iload_n 1, 1) := by decide +kernel
theorem dX9_law_29 : decode cX9_law 29 = .ok (.isub, 1) := by decide +kernel
theorem dX9_law_30 : decode cX9_law 30 = .ok (.ireturn, 1) := by decide +kernel
theorem dX9_law_31 : decode cX9_law 31 = .ok (.aload_n 0, 1) := by decide +kernel
theorem dX9_law_32 : decode cX9_law 32 = .ok (.getfield 51, 3) := by decide +kernel
theorem dX9_law_35 : decode cX9_law 35 = .ok (.astore_n 2, 1) := by decide +kernel
theorem dX9_law_36 : decode cX9_law 36 = .ok (.aload_n 0, 1) := by decide +kernel
theorem dX9_law_37 : decode cX9_law 37 = .ok (.aload_n 0, 1) := by decide +kernel
theorem dX9_law_38 : decode cX9_law 38 = .ok (.getfield 55, 3) := by decide +kernel
theorem dX9_law_41 : decode cX9_law 41 = .ok (.putfield 51, 3) := by decide +kernel
theorem dX9_law_44 : decode cX9_law 44 = .ok (.aload_n 0, 1) := by decide +kernel
theorem dX9_law_45 : decode cX9_law 45 = .ok (.aload_n 2, 1) := by decide +kernel
theorem dX9_law_46 : decode cX9_law 46 = .ok (.putfield 55, 3) := by decide +kernel
theorem dX9_law_49 : decode cX9_law 49 = .ok (.iconst 1, 1) := by decide +kernel
theorem dX9_law_50 : decode cX9_law 50 = .ok (.ireturn, 1) := by decide +kernel
abbrev rX9_law : Room := { frames := 72, cells := 0, slots := 0, locals := 1714 }
def mX9_law (σ : gS)  : Option (Int32 × gS) := gOpt (σ.2.2 0 8) (none) (fun k1 => if gk k1 = 3 then (gBind (mX3_read σ k1 17 (σ.1 0 6)) (fun r2 s3 => gLet r2 (fun v4 => gLet (gUI s3 0 6 0) (fun s5 => if v4 = (-1) then (gOpt (s5.2.2 0 7) (none) (fun k6 => if gk k6 = 3 then (gOpt (s5.2.2 0 8) (none) (fun k7 => if gk k7 = 3 then (gLet (gUR s5 0 7 (some k7)) (fun s8 => gLet (gUR s8 0 8 (some k6)) (fun s9 => some (1, s9)))) else none)) else none)) else (some (((-100) - v4), s5)))))) else none)
set_option maxHeartbeats 4000000 in
set_option maxRecDepth 100000 in
theorem tX9_law (l : Launch) (G : gE) (σ : gS)  : gM l G yX9_law cX9_law 3 (some .int) rX9_law iI [.ref (G.2.1 0)] σ (mX9_law σ ) := by
  refine gM_of (by decide) (Nat.le_of_ble_eq_true rfl) ?_
  intro p e s m args below meth c hC
  unfold mX9_law
  show gT p l e rX9_law s m args below meth c G 3 iI σ 0 [(0, .ref (G.2.1 0))] [] _
  refine g_aload_n (pc := 0) (q := 0) hC dX9_law_0 rfl rfl ?_
  refine g_get (pc := 1) (v := va_rf ((σ.2.2 0 8).map G.2.1)) hC kX9 rfl 8 (by decide) fl_RX9_55 rfl dX9_law_1 ?_
  refine gT_opt ?_ (fun k1 => ?_)
  · exact gT_none
  · refine gT_if (fun hk1 => ?_) (fun _ => gT_none)
    refine g_aload_n (pc := 4) (q := 0) hC dX9_law_4 rfl rfl ?_
    refine g_get (pc := 5) (v := .ref (G.2.1 17)) hC kX9 rfl 5 (by decide) fl_RX9_40 rfl dX9_law_5 ?_
    refine g_aload_n (pc := 8) (q := 0) hC dX9_law_8 rfl rfl ?_
    refine g_get (pc := 9) (v := .int (σ.1 0 6)) hC kX9 rfl 6 (by decide) fl_RX9_44 rfl dX9_law_9 ?_
    refine g_callVi (pc := 12) (As := [.ref (G.2.1 17), .int (σ.1 0 6)]) (rest := []) hC lk_RX9_149 kX3 hk1 (tX3_read _ _ σ k1 17 (σ.1 0 6)) rfl rfl (Nat.le_of_ble_eq_true rfl) ⟨rfl, rfl, Nat.le_of_ble_eq_true rfl, Nat.le_of_ble_eq_true rfl⟩ dX9_law_12 (fun r2 s3 => ?_)
    refine g_istore_n (pc := 15) (lv' := fun v4 => [(1, .int v4), (0, .ref (G.2.1 0))]) hC dX9_law_15 rfl (by decide) (fun _ => rfl) (fun v4 => ?_)
    refine g_aload_n (pc := 16) (q := 1) hC dX9_law_16 rfl rfl ?_
    refine g_iconst (pc := 17) (v := 0) hC dX9_law_17 (by decide) ?_
    refine g_puti (pc := 18) (fty := .int) hC kX9 rfl 6 (by decide) fl_RX9_44 rfl rfl rfl rfl (fun _ _ => Nat.le_of_ble_eq_true rfl) (fun _ _ => rfl) dX9_law_18 (fun s5 => ?_)
    refine g_iload_n (pc := 21) (q := 0) hC dX9_law_21 rfl rfl ?_
    refine g_iconst (pc := 22) (v := (-1)) hC dX9_law_22 (by decide) ?_
    refine g_icmp_eq (pc := 23) (tgt := 31) hC dX9_law_23 (by decide) ?_ ?_
    · refine g_aload_n (pc := 31) (q := 1) hC dX9_law_31 rfl rfl ?_
      refine g_get (pc := 32) (v := va_rf ((s5.2.2 0 7).map G.2.1)) hC kX9 rfl 7 (by decide) fl_RX9_51 rfl dX9_law_32 ?_
      refine gT_opt ?_ (fun k6 => ?_)
      · exact gT_none
      · refine gT_if (fun hk6 => ?_) (fun _ => gT_none)
        refine g_astore_n (pc := 35) (lv' := [(2, .ref (G.2.1 k6)), (1, .int v4), (0, .ref (G.2.1 0))]) hC dX9_law_35 rfl (by decide) rfl ?_
        refine g_aload_n (pc := 36) (q := 2) hC dX9_law_36 rfl rfl ?_
        refine g_aload_n (pc := 37) (q := 2) hC dX9_law_37 rfl rfl ?_
        refine g_get (pc := 38) (v := va_rf ((s5.2.2 0 8).map G.2.1)) hC kX9 rfl 8 (by decide) fl_RX9_55 rfl dX9_law_38 ?_
        refine gT_opt ?_ (fun k7 => ?_)
        · exact gT_none
        · refine gT_if (fun hk7 => ?_) (fun _ => gT_none)
          refine g_putr (pc := 41) (fty := .object "WinterShed$Law") (v := (some k7)) hC kX9 rfl 7 (by decide) fl_RX9_51 rfl rfl rfl rfl rfl (fun _ _ => Nat.le_of_ble_eq_true rfl) (fun _ _ => rfl) dX9_law_41 (fun s8 => ?_)
          refine g_aload_n (pc := 44) (q := 2) hC dX9_law_44 rfl rfl ?_
          refine g_aload_n (pc := 45) (q := 0) hC dX9_law_45 rfl rfl ?_
          refine g_putr (pc := 46) (fty := .object "WinterShed$Law") (v := (some k6)) hC kX9 rfl 8 (by decide) fl_RX9_55 rfl rfl rfl rfl rfl (fun _ _ => Nat.le_of_ble_eq_true rfl) (fun _ _ => rfl) dX9_law_46 (fun s9 => ?_)
          refine g_iconst (pc := 49) (v := 1) hC dX9_law_49 (by decide) ?_
          exact g_iret (pc := 50) hC dX9_law_50
    · refine g_bipush (pc := 26) (v := (-100)) hC dX9_law_26 (by decide) ?_
      refine g_iload_n (pc := 28) (q := 0) hC dX9_law_28 rfl rfl ?_
      refine g_isub (pc := 29) hC dX9_law_29 ?_
      exact g_iret (pc := 30) hC dX9_law_30
