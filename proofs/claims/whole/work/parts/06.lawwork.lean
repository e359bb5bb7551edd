theorem fl_RX3_40 : Cond.fieldLink RX3 40 "WinterShed$Shed" "grows" "I" ∈ gBig := (gBig_tab 81 (by decide +kernel) (by decide +kernel))
theorem fl_RX3_45 : Cond.fieldLink RX3 45 "WinterShed$Shed" "leak" "I" ∈ gBig := (gBig_tab 84 (by decide +kernel) (by decide +kernel))
theorem fl_RX3_65 : Cond.fieldLink RX3 65 "WinterShed$Shed" "bears" "I" ∈ gBig := (gBig_tab 78 (by decide +kernel) (by decide +kernel))
theorem dX3_tellNames_0 : decode cX3_tellNames 0 = .ok (.aload_n 0, 1) := by decide +kernel
theorem dX3_tellNames_1 : decode cX3_tellNames 1 = .ok (.getfield 28, 3) := by decide +kernel
theorem dX3_tellNames_4 : decode cX3_tellNames 4 = .ok (.iconst 0, 1) := by decide +kernel
theorem dX3_tellNames_5 : decode cX3_tellNames 5 = .ok (.iload_n 3, 1) := by decide +kernel
theorem dX3_tellNames_6 : decode cX3_tellNames 6 = .ok (.iastore, 1) := by decide +kernel
theorem dX3_tellNames_7 : decode cX3_tellNames 7 = .ok (.aload_n 0, 1) := by decide +kernel
theorem dX3_tellNames_8 : decode cX3_tellNames 8 = .ok (.getfield 28, 3) := by decide +kernel
theorem dX3_tellNames_11 : decode cX3_tellNames 11 = .ok (.iconst 1, 1) := by decide +kernel
theorem dX3_tellNames_12 : decode cX3_tellNames 12 = .ok (.iload 4, 2) := by decide +kernel
theorem dX3_tellNames_14 : decode cX3_tellNames 14 = .ok (.iastore, 1) := by decide +kernel
theorem dX3_tellNames_15 : decode cX3_tellNames 15 = .ok (.aload_n 0, 1) := by decide +kernel
theorem dX3_tellNames_16 : decode cX3_tellNames 16 = .ok (.getfield 28, 3) := by decide +kernel
theorem dX3_tellNames_19 : decode cX3_tellNames 19 = .ok (.iconst 2, 1) := by decide +kernel
theorem dX3_tellNames_20 : decode cX3_tellNames 20 = .ok (.aload_n 1, 1) := by decide +kernel
theorem dX3_tellNames_21 : decode cX3_tellNames 21 = .ok (.getfield 40, 3) := by decide +kernel
theorem dX3_tellNames_24 : decode cX3_tellNames 24 = .ok (.iastore, 1) := by decide +kernel
theorem dX3_tellNames_25 : decode cX3_tellNames 25 = .ok (.aload_n 0, 1) := by decide +kernel
theorem dX3_tellNames_26 : decode cX3_tellNames 26 = .ok (.getfield 28, 3) := by decide +kernel
theorem dX3_tellNames_29 : decode cX3_tellNames 29 = .ok (.iconst 3, 1) := by decide +kernel
theorem dX3_tellNames_30 : decode cX3_tellNames 30 = .ok (.aload_n 1, 1) := by decide +kernel
theorem dX3_tellNames_31 : decode cX3_tellNames 31 = .ok (.getfield 45, 3) := by decide +kernel
theorem dX3_tellNames_34 : decode cX3_tellNames 34 = .ok (.iastore, 1) := by decide +kernel
theorem dX3_tellNames_35 : decode cX3_tellNames 35 = .ok (.aload_n 0, 1) := by decide +kernel
theorem dX3_tellNames_36 : decode cX3_tellNames 36 = .ok (.getfield 28, 3) := by decide +kernel
theorem dX3_tellNames_39 : decode cX3_tellNames 39 = .ok (.iconst 4, 1) := by decide +kernel
theorem dX3_tellNames_40 : decode cX3_tellNames 40 = .ok (.iload_n 2, 1) := by decide +kernel
theorem dX3_tellNames_41 : decode cX3_tellNames 41 = .ok (.iastore, 1) := by decide +kernel
theorem dX3_tellNames_42 : decode cX3_tellNames 42 = .ok (.aload_n 0, 1) := by decide +kernel
theorem dX3_tellNames_43 : decode cX3_tellNames 43 = .ok (.getfield 28, 3) := by decide +kernel
theorem dX3_tellNames_46 : decode cX3_tellNames 46 = .ok (.iconst 5, 1) := by decide +kernel
theorem dX3_tellNames_47 : decode cX3_tellNames 47 = .ok (.aload_n 1, 1) := by decide +kernel
theorem dX3_tellNames_48 : decode cX3_tellNames 48 = .ok (.getfield 65, 3) := by decide +kernel
theorem dX3_tellNames_51 : decode cX3_tellNames 51 = .ok (.iastore, 1) := by decide +kernel
theorem dX3_tellNames_52 : decode cX3_tellNames 52 = .ok (.return_, 1) := by decide +kernel
abbrev rX3_tellNames : Room := { frames := 0, cells := 0, slots := 0, locals := 0 }
def mX3_tellNames (σ : gS) (k0 : Nat) (q0 : Nat) (p1 : Int32) (p2 : Int32) (p3 : Int32) : Option (Unit × gS) := if gk k0 = 3 then (if gk q0 = 5 then (if inbB 0 6 = true then gLet (gUI σ (k0 + 4) (Int32.toNatClampNeg 0) p2) (fun s1 => if inbB 1 6 = true then gLet (gUI s1 (k0 + 4) (Int32.toNatClampNeg 1) p3) (fun s2 => if inbB 2 6 = true then gLet (gUI s2 (k0 + 4) (Int32.toNatClampNeg 2) (s2.1 q0 2)) (fun s3 => if inbB 3 6 = true then gLet (gUI s3 (k0 + 4) (Int32.toNatClampNeg 3) (s3.1 q0 3)) (fun s4 => if inbB 4 6 = true then gLet (gUI s4 (k0 + 4) (Int32.toNatClampNeg 4) p1) (fun s5 => if inbB 5 6 = true then gLet (gUI s5 (k0 + 4) (Int32.toNatClampNeg 5) (s5.1 q0 1)) (fun s6 => some ((), s6)) else none) else none) else none) else none) else none) else none) else none) else none
set_option maxHeartbeats 4000000 in
set_option maxRecDepth 100000 in
theorem tX3_tellNames (l : Launch) (G : gE) (σ : gS) (k0 : Nat) (q0 : Nat) (p1 : Int32) (p2 : Int32) (p3 : Int32) : gM l G yX3_tellNames cX3_tellNames 5 (none) rX3_tellNames iV [.ref (G.2.1 k0), .ref (G.2.1 q0), .int p1, .int p2, .int p3] σ (mX3_tellNames σ k0 q0 p1 p2 p3) := by
  refine gM_of (by decide) (Nat.le_of_ble_eq_true rfl) ?_
  intro p e s m args below meth c hC
  unfold mX3_tellNames
  refine gT_if (fun hk0 => ?_) (fun _ => gT_none)
  refine gT_if (fun hq0 => ?_) (fun _ => gT_none)
  show gT p l e rX3_tellNames s m args below meth c G 5 iV σ 0 [(0, .ref (G.2.1 k0)), (1, .ref (G.2.1 q0)), (2, .int p1), (3, .int p2), (4, .int p3)] [] _
  refine g_aload_n (pc := 0) (q := 0) hC dX3_tellNames_0 rfl rfl ?_
  refine g_get (pc := 1) (v := .ref (G.2.1 (k0 + 4))) hC kX3 hk0 5 (by decide) fl_RX3_28 rfl dX3_tellNames_1 ?_
  refine g_iconst (pc := 4) (v := 0) hC dX3_tellNames_4 (by decide) ?_
  refine g_iload_n (pc := 5) (q := 3) hC dX3_tellNames_5 rfl rfl ?_
  refine g_iast (pc := 6) hC 6 (ck_3_4 hk0) (by decide) dX3_tellNames_6 (fun s1 => ?_)
  refine g_aload_n (pc := 7) (q := 0) hC dX3_tellNames_7 rfl rfl ?_
  refine g_get (pc := 8) (v := .ref (G.2.1 (k0 + 4))) hC kX3 hk0 5 (by decide) fl_RX3_28 rfl dX3_tellNames_8 ?_
  refine g_iconst (pc := 11) (v := 1) hC dX3_tellNames_11 (by decide) ?_
  refine g_iload (pc := 12) (q := 4) hC dX3_tellNames_12 rfl ?_
  refine g_iast (pc := 14) hC 6 (ck_3_4 hk0) (by decide) dX3_tellNames_14 (fun s2 => ?_)
  refine g_aload_n (pc := 15) (q := 0) hC dX3_tellNames_15 rfl rfl ?_
  refine g_get (pc := 16) (v := .ref (G.2.1 (k0 + 4))) hC kX3 hk0 5 (by decide) fl_RX3_28 rfl dX3_tellNames_16 ?_
  refine g_iconst (pc := 19) (v := 2) hC dX3_tellNames_19 (by decide) ?_
  refine g_aload_n (pc := 20) (q := 1) hC dX3_tellNames_20 rfl rfl ?_
  refine g_get (pc := 21) (v := .int (s2.1 q0 2)) hC kX5 hq0 2 (by decide) fl_RX3_40 rfl dX3_tellNames_21 ?_
  refine g_iast (pc := 24) hC 6 (ck_3_4 hk0) (by decide) dX3_tellNames_24 (fun s3 => ?_)
  refine g_aload_n (pc := 25) (q := 0) hC dX3_tellNames_25 rfl rfl ?_
  refine g_get (pc := 26) (v := .ref (G.2.1 (k0 + 4))) hC kX3 hk0 5 (by decide) fl_RX3_28 rfl dX3_tellNames_26 ?_
  refine g_iconst (pc := 29) (v := 3) hC dX3_tellNames_29 (by decide) ?_
  refine g_aload_n (pc := 30) (q := 1) hC dX3_tellNames_30 rfl rfl ?_
  refine g_get (pc := 31) (v := .int (s3.1 q0 3)) hC kX5 hq0 3 (by decide) fl_RX3_45 rfl dX3_tellNames_31 ?_
  refine g_iast (pc := 34) hC 6 (ck_3_4 hk0) (by decide) dX3_tellNames_34 (fun s4 => ?_)
  refine g_aload_n (pc := 35) (q := 0) hC dX3_tellNames_35 rfl rfl ?_
  refine g_get (pc := 36) (v := .ref (G.2.1 (k0 + 4))) hC kX3 hk0 5 (by decide) fl_RX3_28 rfl dX3_tellNames_36 ?_
  refine g_iconst (pc := 39) (v := 4) hC dX3_tellNames_39 (by decide) ?_
  refine g_iload_n (pc := 40) (q := 2) hC dX3_tellNames_40 rfl rfl ?_
  refine g_iast (pc := 41) hC 6 (ck_3_4 hk0) (by decide) dX3_tellNames_41 (fun s5 => ?_)
  refine g_aload_n (pc := 42) (q := 0) hC dX3_tellNames_42 rfl rfl ?_
  refine g_get (pc := 43) (v := .ref (G.2.1 (k0 + 4))) hC kX3 hk0 5 (by decide) fl_RX3_28 rfl dX3_tellNames_43 ?_
  refine g_iconst (pc := 46) (v := 5) hC dX3_tellNames_46 (by decide) ?_
  refine g_aload_n (pc := 47) (q := 1) hC dX3_tellNames_47 rfl rfl ?_
  refine g_get (pc := 48) (v := .int (s5.1 q0 1)) hC kX5 hq0 1 (by decide) fl_RX3_65 rfl dX3_tellNames_48 ?_
  refine g_iast (pc := 51) hC 6 (ck_3_4 hk0) (by decide) dX3_tellNames_51 (fun s6 => ?_)
  exact g_vret (pc := 52) hC dX3_tellNames_52
theorem dX3_push_0 : decode cX3_push 0 = .ok (.aload_n 0, 1) := by decide +kernel
theorem dX3_push_1 : decode cX3_push 1 = .ok (.getfield 25, 3) := by decide +kernel
theorem dX3_push_4 : decode cX3_push 4 = .ok (.aload_n 0, 1) := by decide +kernel
theorem dX3_push_5 : decode cX3_push 5 = .ok (.getfield 22, 3) := by decide +kernel
theorem dX3_push_8 : decode cX3_push 8 = .ok (.arraylength, 1) := by decide +kernel
theorem dX3_push_9 : decode cX3_push 9 = .ok (.if_icmp .ge 23, 3) := by decide +kernel
theorem dX3_push_12 : decode cX3_push 12 = .ok (.aload_n 0, 1) := by decide +kernel
theorem dX3_push_13 : decode cX3_push 13 = .ok (.getfield 22, 3) := by decide +kernel
theorem dX3_push_16 : decode cX3_push 16 = .ok (.aload_n 0, 1) := by decide +kernel
theorem dX3_push_17 : decode cX3_push 17 = .ok (.getfield 25, 3) := by decide +kernel
theorem dX3_push_20 : decode cX3_push 20 = .ok (.iload_n 1, 1) := by decide +kernel
theorem dX3_push_21 : decode cX3_push 21 = .ok (.iastore, 1) := by decide +kernel
theorem dX3_push_22 : decode cX3_push 22 = .ok (.aload_n 0, 1) := by decide +kernel
theorem dX3_push_23 : decode cX3_push 23 = .ok (.dup, 1) := by decide +kernel
theorem dX3_push_24 : decode cX3_push 24 = .ok (.getfield 25, 3) := by decide +kernel
theorem dX3_push_27 : decode cX3_push 27 = .ok (.iconst 1, 1) := by decide +kernel
theorem dX3_push_28 : decode cX3_push 28 = .ok (.iadd, 1) := by decide +kernel
theorem dX3_push_29 : decode cX3_push 29 = .ok (.putfield 25, 3) := by decide +kernel
theorem dX3_push_32 : decode cX3_push 32 = .ok (.return_, 1) := by decide +kernel
abbrev rX3_push : Room := { frames := 0, cells := 0, slots := 0, locals := 0 }
def mX3_push (σ : gS) (k0 : Nat) (p0 : Int32) : Option (Unit × gS) := if gk k0 = 3 then (if 121 ≤ (σ.1 k0 4) then (some ((), σ)) else (if inbB (σ.1 k0 4) 121 = true then gLet (gUI σ (k0 + 3) (Int32.toNatClampNeg (σ.1 k0 4)) p0) (fun s1 => gLet (gUI s1 k0 4 ((s1.1 k0 4) + 1)) (fun s2 => some ((), s2))) else none)) else none
set_option maxHeartbeats 4000000 in
set_option maxRecDepth 100000 in
theorem tX3_push (l : Launch) (G : gE) (σ : gS) (k0 : Nat) (p0 : Int32) : gM l G yX3_push cX3_push 2 (none) rX3_push iV [.ref (G.2.1 k0), .int p0] σ (mX3_push σ k0 p0) := by
  refine gM_of (by decide) (Nat.le_of_ble_eq_true rfl) ?_
  intro p e s m args below meth c hC
  unfold mX3_push
  refine gT_if (fun hk0 => ?_) (fun _ => gT_none)
  show gT p l e rX3_push s m args below meth c G 2 iV σ 0 [(0, .ref (G.2.1 k0)), (1, .int p0)] [] _
  refine g_aload_n (pc := 0) (q := 0) hC dX3_push_0 rfl rfl ?_
  refine g_get (pc := 1) (v := .int (σ.1 k0 4)) hC kX3 hk0 4 (by decide) fl_RX3_25 rfl dX3_push_1 ?_
  refine g_aload_n (pc := 4) (q := 0) hC dX3_push_4 rfl rfl ?_
  refine g_get (pc := 5) (v := .ref (G.2.1 (k0 + 3))) hC kX3 hk0 3 (by decide) fl_RX3_22 rfl dX3_push_5 ?_
  refine g_alen (pc := 8) (v := 121) hC 121 (ck_3_3 hk0) (by decide) (by decide) dX3_push_8 ?_
  refine g_icmp_ge (pc := 9) (tgt := 32) hC dX3_push_9 (by decide) ?_ ?_
  · exact g_vret (pc := 32) hC dX3_push_32
  · refine g_aload_n (pc := 12) (q := 0) hC dX3_push_12 rfl rfl ?_
    refine g_get (pc := 13) (v := .ref (G.2.1 (k0 + 3))) hC kX3 hk0 3 (by decide) fl_RX3_22 rfl dX3_push_13 ?_
    refine g_aload_n (pc := 16) (q := 0) hC dX3_push_16 rfl rfl ?_
    refine g_get (pc := 17) (v := .int (σ.1 k0 4)) hC kX3 hk0 4 (by decide) fl_RX3_25 rfl dX3_push_17 ?_
    refine g_iload_n (pc := 20) (q := 1) hC dX3_push_20 rfl rfl ?_
    refine g_iast (pc := 21) hC 121 (ck_3_3 hk0) (by decide) dX3_push_21 (fun s1 => ?_)
    refine g_aload_n (pc := 22) (q := 0) hC dX3_push_22 rfl rfl ?_
    refine g_dup (pc := 23) hC dX3_push_23 rfl ?_
    refine g_get (pc := 24) (v := .int (s1.1 k0 4)) hC kX3 hk0 4 (by decide) fl_RX3_25 rfl dX3_push_24 ?_
    refine g_iconst (pc := 27) (v := 1) hC dX3_push_27 (by decide) ?_
    refine g_iadd (pc := 28) hC dX3_push_28 ?_
    refine g_puti (pc := 29) (fty := .int) hC kX3 hk0 4 (by decide) fl_RX3_25 rfl rfl rfl rfl (fun _ _ => Nat.le_of_ble_eq_true rfl) (fun _ _ => rfl) dX3_push_29 (fun s2 => ?_)
    exact g_vret (pc := 32) hC dX3_push_32
theorem dX3_pop_0 : decode cX3_pop 0 = .ok (.aload_n 0, 1) := by decide +kernel
theorem dX3_pop_1 : decode cX3_pop 1 = .ok (.getfield 25, 3) := by decide +kernel
theorem dX3_pop_4 : decode cX3_pop 4 = .ok (.ifCond .gt 5, 3) := by decide +kernel
theorem dX3_pop_7 : decode cX3_pop 7 = .ok (.iconst 0, 1) := by decide +kernel
theorem dX3_pop_8 : decode cX3_pop 8 = .ok (.ireturn, 1) := by decide +kernel
theorem dX3_pop_9 : decode cX3_pop 9 = .ok (.aload_n 0, 1) := by decide +kernel
theorem dX3_pop_10 : decode cX3_pop 10 = .ok (.dup, 1) := by decide +kernel
theorem dX3_pop_11 : decode cX3_pop 11 = .ok (.getfield 25, 3) := by decide +kernel
theorem dX3_pop_14 : decode cX3_pop 14 = .ok (.iconst 1, 1) := by decide +kernel
theorem dX3_pop_15 : decode cX3_pop 15 = .ok (.isub, 1) := by decide +kernel
theorem dX3_pop_16 : decode cX3_pop 16 = .ok (.putfield 25, 3) := by decide +kernel
theorem dX3_pop_19 : decode cX3_pop 19 = .ok (.aload_n 0, 1) := by decide +kernel
theorem dX3_pop_20 : decode cX3_pop 20 = .ok (.getfield 22, 3) := by decide +kernel
theorem dX3_pop_23 : decode cX3_pop 23 = .ok (.aload_n 0, 1) := by decide +kernel
theorem dX3_pop_24 : decode cX3_pop 24 = .ok (.getfield 25, 3) := by decide +kernel
theorem dX3_pop_27 : decode cX3_pop 27 = .ok (.iaload, 1) := by decide +kernel
theorem dX3_pop_28 : decode cX3_pop 28 = .ok (.ireturn, 1) := by decide +kernel
abbrev rX3_pop : Room := { frames := 0, cells := 0, slots := 0, locals := 0 }
def mX3_pop (σ : gS) (k0 : Nat) : Option (Int32 × gS) := if gk k0 = 3 then (if 0 < (σ.1 k0 4) then (gLet (gUI σ k0 4 ((σ.1 k0 4) - 1)) (fun s1 => if inbB (s1.1 k0 4) 121 = true then (some ((s1.1 (k0 + 3) (Int32.toNatClampNeg (s1.1 k0 4))), s1)) else none)) else (some (0, σ))) else none
set_option maxHeartbeats 4000000 in
set_option maxRecDepth 100000 in
theorem tX3_pop (l : Launch) (G : gE) (σ : gS) (k0 : Nat) : gM l G yX3_pop cX3_pop 1 (some .int) rX3_pop iI [.ref (G.2.1 k0)] σ (mX3_pop σ k0) := by
  refine gM_of (by decide) (Nat.le_of_ble_eq_true rfl) ?_
  intro p e s m args below meth c hC
  unfold mX3_pop
  refine gT_if (fun hk0 => ?_) (fun _ => gT_none)
  show gT p l e rX3_pop s m args below meth c G 1 iI σ 0 [(0, .ref (G.2.1 k0))] [] _
  refine g_aload_n (pc := 0) (q := 0) hC dX3_pop_0 rfl rfl ?_
  refine g_get (pc := 1) (v := .int (σ.1 k0 4)) hC kX3 hk0 4 (by decide) fl_RX3_25 rfl dX3_pop_1 ?_
  refine g_if_gt (pc := 4) (tgt := 9) hC dX3_pop_4 (by decide) ?_ ?_
  · refine g_aload_n (pc := 9) (q := 0) hC dX3_pop_9 rfl rfl ?_
    refine g_dup (pc := 10) hC dX3_pop_10 rfl ?_
    refine g_get (pc := 11) (v := .int (σ.1 k0 4)) hC kX3 hk0 4 (by decide) fl_RX3_25 rfl dX3_pop_11 ?_
    refine g_iconst (pc := 14) (v := 1) hC dX3_pop_14 (by decide) ?_
    refine g_isub (pc := 15) hC dX3_pop_15 ?_
    refine g_puti (pc := 16) (fty := .int) hC kX3 hk0 4 (by decide) fl_RX3_25 rfl rfl rfl rfl (fun _ _ => Nat.le_of_ble_eq_true rfl) (fun _ _ => rfl) dX3_pop_16 (fun s1 => ?_)
    refine g_aload_n (pc := 19) (q := 0) hC dX3_pop_19 rfl rfl ?_
    refine g_get (pc := 20) (v := .ref (G.2.1 (k0 + 3))) hC kX3 hk0 3 (by decide) fl_RX3_22 rfl dX3_pop_20 ?_
    refine g_aload_n (pc := 23) (q := 0) hC dX3_pop_23 rfl rfl ?_
    refine g_get (pc := 24) (v := .int (s1.1 k0 4)) hC kX3 hk0 4 (by decide) fl_RX3_25 rfl dX3_pop_24 ?_
    refine g_iald (pc := 27) hC 121 (ck_3_3 hk0) (by decide) dX3_pop_27 ?_
    exact g_iret (pc := 28) hC dX3_pop_28
  · refine g_iconst (pc := 7) (v := 0) hC dX3_pop_7 (by decide) ?_
    exact g_iret (pc := 8) hC dX3_pop_8
theorem dX3_joined_0 : decode cX3_joined 0 = .ok (.iload_n 0, 1) := by decide +kernel
theorem dX3_joined_1 : decode cX3_joined 1 = .ok (.lookupswitch 188 #[(37, 176), (38, 105), (42, 160), (43, 152), (45, 156), (47, 164), (60, 119), (61, 130), (62, 141), (124, 91)], 91) := by decide +kernel
theorem dX3_joined_92 : decode cX3_joined 92 = .ok (.iload_n 1, 1) := by decide +kernel
theorem dX3_joined_93 : decode cX3_joined 93 = .ok (.ifCond .ne 7, 3) := by decide +kernel
theorem dX3_joined_96 : decode cX3_joined 96 = .ok (.iload_n 2, 1) := by decide +kernel
theorem dX3_joined_97 : decode cX3_joined 97 = .ok (.ifCond .eq 7, 3) := by decide +kernel
theorem dX3_joined_100 : decode cX3_joined 100 = .ok (.iconst 1, 1) := by decide +kernel
theorem dX3_joined_101 : decode cX3_joined 101 = .ok (.goto 4, 3) := by decide +kernel
theorem dX3_joined_104 : decode cX3_joined 104 = .ok (.iconst 0, 1) := by decide +kernel
theorem dX3_joined_105 : decode cX3_joined 105 = .ok (.ireturn, 1) := by decide +kernel
theorem dX3_joined_106 : decode cX3_joined 106 = .ok (.iload_n 1, 1) := by decide +kernel
theorem dX3_joined_107 : decode cX3_joined 107 = .ok (.ifCond .eq 11, 3) := by decide +kernel
theorem dX3_joined_110 : decode cX3_joined 110 = .ok (.iload_n 2, 1) := by decide +kernel
theorem dX3_joined_111 : decode cX3_joined 111 = .ok (.ifCond .eq 7, 3) := by decide +kernel
theorem dX3_joined_114 : decode cX3_joined 114 = .ok (.iconst 1, 1) := by decide +kernel
theorem dX3_joined_115 : decode cX3_joined 115 = .ok (.goto 4, 3) := by decide +kernel
theorem dX3_joined_118 : decode cX3_joined 118 = .ok (.iconst 0, 1) := by decide +kernel
theorem dX3_joined_119 : decode cX3_joined 119 = .ok (.ireturn, 1) := by decide +kernel
theorem dX3_joined_120 : decode cX3_joined 120 = .ok (.iload_n 1, 1) := by decide +kernel
theorem dX3_joined_121 : decode cX3_joined 121 = .ok (.iload_n 2, 1) := by decide +kernel
theorem dX3_joined_122 : decode cX3_joined 122 = .ok (.if_icmp .ge 7, 3) := by decide +kernel
theorem dX3_joined_125 : decode cX3_joined 125 = .ok (.iconst 1, 1) := by decide +kernel
theorem dX3_joined_126 : decode cX3_joined 126 = .ok (.goto 4, 3) := by decide +kernel
theorem dX3_joined_129 : decode cX3_joined 129 = .ok (.iconst 0, 1) := by decide +kernel
theorem dX3_joined_130 : decode cX3_joined 130 = .ok (.ireturn, 1) := by decide +kernel
theorem dX3_joined_131 : decode cX3_joined 131 = .ok (.iload_n 1, 1) := by decide +kernel
theorem dX3_joined_132 : decode cX3_joined 132 = .ok (.iload_n 2, 1) := by decide +kernel
theorem dX3_joined_133 : decode cX3_joined 133 = .ok (.if_icmp .ne 7, 3) := by decide +kernel
theorem dX3_joined_136 : decode cX3_joined 136 = .ok (.iconst 1, 1) := by decide +kernel
theorem dX3_joined_137 : decode cX3_joined 137 = .ok (.goto 4, 3) := by decide +kernel
theorem dX3_joined_140 : decode cX3_joined 140 = .ok (.iconst 0, 1) := by decide +kernel
theorem dX3_joined_141 : decode cX3_joined 141 = .ok (.ireturn, 1) := by decide +kernel
theorem dX3_joined_142 : decode cX3_joined 142 = .ok (.iload_n 1, 1) := by decide +kernel
theorem dX3_joined_143 : decode cX3_joined 143 = .ok (.iload_n 2, 1) := by decide +kernel
theorem dX3_joined_144 : decode cX3_joined 144 = .ok (.if_icmp .le 7, 3) := by decide +kernel
theorem dX3_joined_147 : decode cX3_joined 147 = .ok (.iconst 1, 1) := by decide +kernel
theorem dX3_joined_148 : decode cX3_joined 148 = .ok (.goto 4, 3) := by decide +kernel
theorem dX3_joined_151 : decode cX3_joined 151 = .ok (.iconst 0, 1) := by decide +kernel
theorem dX3_joined_152 : decode cX3_joined 152 = .ok (.ireturn, 1) := by decide +kernel
theorem dX3_joined_153 : decode cX3_joined 153 = .ok (.iload_n 1, 1) := by decide +kernel
theorem dX3_joined_154 : decode cX3_joined 154 = .ok (.iload_n 2, 1) := by decide +kernel
theorem dX3_joined_155 : decode cX3_joined 155 = .ok (.iadd, 1) := by decide +kernel
theorem dX3_joined_156 : decode cX3_joined 156 = .ok (.ireturn, 1) := by decide +kernel
theorem dX3_joined_157 : decode cX3_joined 157 = .ok (.iload_n 1, 1) := by decide +kernel
theorem dX3_joined_158 : decode cX3_joined 158 = .ok (.iload_n 2, 1) := by decide +kernel
theorem dX3_joined_159 : decode cX3_joined 159 = .ok (.isub, 1) := by decide +kernel
theorem dX3_joined_160 : decode cX3_joined 160 = .ok (.ireturn, 1) := by decide +kernel
theorem dX3_joined_161 : decode cX3_joined 161 = .ok (.iload_n 1, 1) := by decide +kernel
theorem dX3_joined_162 : decode cX3_joined 162 = .ok (.iload_n 2, 1) := by decide +kernel
theorem dX3_joined_163 : decode cX3_joined 163 = .ok (.imul, 1) := by decide +kernel
theorem dX3_joined_164 : decode cX3_joined 164 = .ok (.ireturn, 1) := by decide +kernel
theorem dX3_joined_165 : decode cX3_joined 165 = .ok (.iload_n 2, 1) := by decide +kernel
theorem dX3_joined_166 : decode cX3_joined 166 = .ok (.ifCond .ne 7, 3) := by decide +kernel
theorem dX3_joined_169 : decode cX3_joined 169 = .ok (.iconst 0, 1) := by decide +kernel
theorem dX3_joined_170 : decode cX3_joined 170 = .ok (.goto 6, 3) := by decide +kernel
theorem dX3_joined_173 : decode cX3_joined 173 = .ok (.iload_n 1, 1) := by decide +kernel
theorem dX3_joined_174 : decode cX3_joined 174 = .ok (.iload_n 2, 1) := by decide +kernel
theorem dX3_joined_175 : decode cX3_joined 175 = .ok (.idiv, 1) := by decide +kernel
theorem dX3_joined_176 : decode cX3_joined 176 = .ok (.ireturn, 1) := by decide +kernel
theorem dX3_joined_177 : decode cX3_joined 177 = .ok (.iload_n 2, 1) := by decide +kernel
theorem dX3_joined_178 : decode cX3_joined 178 = .ok (.ifCond .ne 7, 3) := by decide +kernel
theorem dX3_joined_181 : decode cX3_joined 181 = .ok (.iconst 0, 1) := by decide +kernel
theorem dX3_joined_182 : decode cX3_joined 182 = .ok (.goto 6, 3) := by decide +kernel
theorem dX3_joined_185 : decode cX3_joined 185 = .ok (.iload_n 1, 1) := by decide +kernel
theorem dX3_joined_186 : decode cX3_joined 186 = .ok (.iload_n 2, 1) := by decide +kernel
theorem dX3_joined_187 : decode cX3_joined 187 = .ok (.irem, 1) := by decide +kernel
theorem dX3_joined_188 : decode cX3_joined 188 = .ok (.ireturn, 1) := by decide +kernel
theorem dX3_joined_189 : decode cX3_joined 189 = .ok (.iconst 0, 1) := by decide +kernel
theorem dX3_joined_190 : decode cX3_joined 190 = .ok (.ireturn, 1) := by decide +kernel
abbrev rX3_joined : Room := { frames := 0, cells := 0, slots := 0, locals := 0 }
def mX3_joined_b100    (σ : gS)  : Option (Int32 × gS) := some (1, σ)
set_option maxHeartbeats 4000000 in
set_option maxRecDepth 100000 in
theorem wX3_joined_b100 {p : Program} {l : Launch} {e : Env} {s : State} {m : MethodId} {args : Array Value} {below : List Frame} {meth : Method} {c : Code} {G : gE} (hC : gCx p s m args meth c G RX3 cX3_joined 3 (some .int))     (σ : gS)   : gT p l e rX3_joined s m args below meth c G 3 iI σ 100 [] [] (mX3_joined_b100  σ ) := by
  unfold mX3_joined_b100
  refine g_iconst (pc := 100) (v := 1) hC dX3_joined_100 (by decide) ?_
  refine g_goto (pc := 101) (tgt := 105) hC dX3_joined_101 (by decide) ?_
  exact g_iret (pc := 105) hC dX3_joined_105
def mX3_joined (σ : gS) (p0 : Int32) (p1 : Int32) (p2 : Int32) : Option (Int32 × gS) := if p0 = 37 then (if p2 = 0 then (some (0, σ)) else (if p2 = 0 then none else some ((gRem p1 p2), σ))) else (if p0 = 38 then (if p1 = 0 then (some (0, σ)) else (if p2 = 0 then (some (0, σ)) else (some (1, σ)))) else (if p0 = 42 then (some ((p1 * p2), σ)) else (if p0 = 43 then (some ((p1 + p2), σ)) else (if p0 = 45 then (some ((p1 - p2), σ)) else (if p0 = 47 then (if p2 = 0 then (some (0, σ)) else (if p2 = 0 then none else some ((p1 / p2), σ))) else (if p0 = 60 then (if p2 ≤ p1 then (some (0, σ)) else (some (1, σ))) else (if p0 = 61 then (if p1 = p2 then (some (1, σ)) else (some (0, σ))) else (if p0 = 62 then (if p1 ≤ p2 then (some (0, σ)) else (some (1, σ))) else (if p0 = 124 then (if p1 = 0 then (if p2 = 0 then (some (0, σ)) else ((mX3_joined_b100  σ ))) else ((mX3_joined_b100  σ ))) else (some (0, σ)))))))))))
set_option maxHeartbeats 4000000 in
set_option maxRecDepth 100000 in
theorem tX3_joined (l : Launch) (G : gE) (σ : gS) (p0 : Int32) (p1 : Int32) (p2 : Int32) : gM l G yX3_joined cX3_joined 3 (some .int) rX3_joined iI [.int p0, .int p1, .int p2] σ (mX3_joined σ p0 p1 p2) := by
  refine gM_of (by decide) (Nat.le_of_ble_eq_true rfl) ?_
  intro p e s m args below meth c hC
  unfold mX3_joined
  show gT p l e rX3_joined s m args below meth c G 3 iI σ 0 [(0, .int p0), (1, .int p1), (2, .int p2)] [] _
  refine g_iload_n (pc := 0) (q := 0) hC dX3_joined_0 rfl rfl ?_
  refine gT_if (fun c100 => ?_) (fun c100 => ?_)
  · refine g_lookup (tgt := 177) (off := 176) hC dX3_joined_1 (by decide) (by rw [c100]; decide) (by decide) ?_
    refine g_iload_n (pc := 177) (q := 2) hC dX3_joined_177 rfl rfl ?_
    refine g_if_ne (pc := 178) (tgt := 185) hC dX3_joined_178 (by decide) ?_ ?_
    · refine g_iload_n (pc := 185) (q := 1) hC dX3_joined_185 rfl rfl ?_
      refine g_iload_n (pc := 186) (q := 2) hC dX3_joined_186 rfl rfl ?_
      refine g_irem (pc := 187) hC dX3_joined_187 ?_
      exact g_iret (pc := 188) hC dX3_joined_188
    · refine g_iconst (pc := 181) (v := 0) hC dX3_joined_181 (by decide) ?_
      refine g_goto (pc := 182) (tgt := 188) hC dX3_joined_182 (by decide) ?_
      exact g_iret (pc := 188) hC dX3_joined_188
  · refine gT_if (fun c101 => ?_) (fun c101 => ?_)
    · refine g_lookup (tgt := 106) (off := 105) hC dX3_joined_1 (by decide) (by rw [c101]; decide) (by decide) ?_
      refine g_iload_n (pc := 106) (q := 1) hC dX3_joined_106 rfl rfl ?_
      refine g_if_eq (pc := 107) (tgt := 118) hC dX3_joined_107 (by decide) ?_ ?_
      · refine g_iconst (pc := 118) (v := 0) hC dX3_joined_118 (by decide) ?_
        exact g_iret (pc := 119) hC dX3_joined_119
      · refine g_iload_n (pc := 110) (q := 2) hC dX3_joined_110 rfl rfl ?_
        refine g_if_eq (pc := 111) (tgt := 118) hC dX3_joined_111 (by decide) ?_ ?_
        · refine g_iconst (pc := 118) (v := 0) hC dX3_joined_118 (by decide) ?_
          exact g_iret (pc := 119) hC dX3_joined_119
        · refine g_iconst (pc := 114) (v := 1) hC dX3_joined_114 (by decide) ?_
          refine g_goto (pc := 115) (tgt := 119) hC dX3_joined_115 (by decide) ?_
          exact g_iret (pc := 119) hC dX3_joined_119
    · refine gT_if (fun c102 => ?_) (fun c102 => ?_)
      · refine g_lookup (tgt := 161) (off := 160) hC dX3_joined_1 (by decide) (by rw [c102]; decide) (by decide) ?_
        refine g_iload_n (pc := 161) (q := 1) hC dX3_joined_161 rfl rfl ?_
        refine g_iload_n (pc := 162) (q := 2) hC dX3_joined_162 rfl rfl ?_
        refine g_imul (pc := 163) hC dX3_joined_163 ?_
        exact g_iret (pc := 164) hC dX3_joined_164
      · refine gT_if (fun c103 => ?_) (fun c103 => ?_)
        · refine g_lookup (tgt := 153) (off := 152) hC dX3_joined_1 (by decide) (by rw [c103]; decide) (by decide) ?_
          refine g_iload_n (pc := 153) (q := 1) hC dX3_joined_153 rfl rfl ?_
          refine g_iload_n (pc := 154) (q := 2) hC dX3_joined_154 rfl rfl ?_
          refine g_iadd (pc := 155) hC dX3_joined_155 ?_
          exact g_iret (pc := 156) hC dX3_joined_156
        · refine gT_if (fun c104 => ?_) (fun c104 => ?_)
          · refine g_lookup (tgt := 157) (off := 156) hC dX3_joined_1 (by decide) (by rw [c104]; decide) (by decide) ?_
            refine g_iload_n (pc := 157) (q := 1) hC dX3_joined_157 rfl rfl ?_
            refine g_iload_n (pc := 158) (q := 2) hC dX3_joined_158 rfl rfl ?_
            refine g_isub (pc := 159) hC dX3_joined_159 ?_
            exact g_iret (pc := 160) hC dX3_joined_160
          · refine gT_if (fun c105 => ?_) (fun c105 => ?_)
            · refine g_lookup (tgt := 165) (off := 164) hC dX3_joined_1 (by decide) (by rw [c105]; decide) (by decide) ?_
              refine g_iload_n (pc := 165) (q := 2) hC dX3_joined_165 rfl rfl ?_
              refine g_if_ne (pc := 166) (tgt := 173) hC dX3_joined_166 (by decide) ?_ ?_
              · refine g_iload_n (pc := 173) (q := 1) hC dX3_joined_173 rfl rfl ?_
                refine g_iload_n (pc := 174) (q := 2) hC dX3_joined_174 rfl rfl ?_
                refine g_idiv (pc := 175) hC dX3_joined_175 ?_
                exact g_iret (pc := 176) hC dX3_joined_176
              · refine g_iconst (pc := 169) (v := 0) hC dX3_joined_169 (by decide) ?_
                refine g_goto (pc := 170) (tgt := 176) hC dX3_joined_170 (by decide) ?_
                exact g_iret (pc := 176) hC dX3_joined_176
            · refine gT_if (fun c106 => ?_) (fun c106 => ?_)
              · refine g_lookup (tgt := 120) (off := 119) hC dX3_joined_1 (by decide) (by rw [c106]; decide) (by decide) ?_
                refine g_iload_n (pc := 120) (q := 1) hC dX3_joined_120 rfl rfl ?_
                refine g_iload_n (pc := 121) (q := 2) hC dX3_joined_121 rfl rfl ?_
                refine g_icmp_ge (pc := 122) (tgt := 129) hC dX3_joined_122 (by decide) ?_ ?_
                · refine g_iconst (pc := 129) (v := 0) hC dX3_joined_129 (by decide) ?_
                  exact g_iret (pc := 130) hC dX3_joined_130
                · refine g_iconst (pc := 125) (v := 1) hC dX3_joined_125 (by decide) ?_
                  refine g_goto (pc := 126) (tgt := 130) hC dX3_joined_126 (by decide) ?_
                  exact g_iret (pc := 130) hC dX3_joined_130
              · refine gT_if (fun c107 => ?_) (fun c107 => ?_)
                · refine g_lookup (tgt := 131) (off := 130) hC dX3_joined_1 (by decide) (by rw [c107]; decide) (by decide) ?_
                  refine g_iload_n (pc := 131) (q := 1) hC dX3_joined_131 rfl rfl ?_
                  refine g_iload_n (pc := 132) (q := 2) hC dX3_joined_132 rfl rfl ?_
                  refine g_icmp_ne (pc := 133) (tgt := 140) hC dX3_joined_133 (by decide) ?_ ?_
                  · refine g_iconst (pc := 140) (v := 0) hC dX3_joined_140 (by decide) ?_
                    exact g_iret (pc := 141) hC dX3_joined_141
                  · refine g_iconst (pc := 136) (v := 1) hC dX3_joined_136 (by decide) ?_
                    refine g_goto (pc := 137) (tgt := 141) hC dX3_joined_137 (by decide) ?_
                    exact g_iret (pc := 141) hC dX3_joined_141
                · refine gT_if (fun c108 => ?_) (fun c108 => ?_)
                  · refine g_lookup (tgt := 142) (off := 141) hC dX3_joined_1 (by decide) (by rw [c108]; decide) (by decide) ?_
                    refine g_iload_n (pc := 142) (q := 1) hC dX3_joined_142 rfl rfl ?_
                    refine g_iload_n (pc := 143) (q := 2) hC dX3_joined_143 rfl rfl ?_
                    refine g_icmp_le (pc := 144) (tgt := 151) hC dX3_joined_144 (by decide) ?_ ?_
                    · refine g_iconst (pc := 151) (v := 0) hC dX3_joined_151 (by decide) ?_
                      exact g_iret (pc := 152) hC dX3_joined_152
                    · refine g_iconst (pc := 147) (v := 1) hC dX3_joined_147 (by decide) ?_
                      refine g_goto (pc := 148) (tgt := 152) hC dX3_joined_148 (by decide) ?_
                      exact g_iret (pc := 152) hC dX3_joined_152
                  · refine gT_if (fun c109 => ?_) (fun c109 => ?_)
                    · refine g_lookup (tgt := 92) (off := 91) hC dX3_joined_1 (by decide) (by rw [c109]; decide) (by decide) ?_
                      refine g_iload_n (pc := 92) (q := 1) hC dX3_joined_92 rfl rfl ?_
                      refine g_if_ne (pc := 93) (tgt := 100) hC dX3_joined_93 (by decide) ?_ ?_
                      · exact gT_sub [] rfl (wX3_joined_b100 hC  σ )
                      · refine g_iload_n (pc := 96) (q := 2) hC dX3_joined_96 rfl rfl ?_
                        refine g_if_eq (pc := 97) (tgt := 104) hC dX3_joined_97 (by decide) ?_ ?_
                        · refine g_iconst (pc := 104) (v := 0) hC dX3_joined_104 (by decide) ?_
                          exact g_iret (pc := 105) hC dX3_joined_105
                        · exact gT_sub [] rfl (wX3_joined_b100 hC  σ )
                    · refine g_lookup (tgt := 189) (off := 188) hC dX3_joined_1 (by decide) ((lv_osw c100 rfl).trans ((lv_osw c101 rfl).trans ((lv_osw c102 rfl).trans ((lv_osw c103 rfl).trans ((lv_osw c104 rfl).trans ((lv_osw c105 rfl).trans ((lv_osw c106 rfl).trans ((lv_osw c107 rfl).trans ((lv_osw c108 rfl).trans ((lv_osw c109 rfl).trans rfl)))))))))) (by decide) ?_
                      refine g_iconst (pc := 189) (v := 0) hC dX3_joined_189 (by decide) ?_
                      exact g_iret (pc := 190) hC dX3_joined_190
theorem lk_RX3_75 : gLV RX3 75 RX3 yX3_push cX3_push 2 (none) 1 := ⟨(gBig_tab 664 (by decide +kernel) (by decide +kernel)), (gBig_tab 666 (by decide +kernel) (by decide +kernel)), (gBig_sel 20 (by decide +kernel) (by decide +kernel)), (gBig_tab 6 (by decide +kernel) (by decide +kernel)), (gBig_tab 667 (by decide +kernel) (by decide +kernel)), rfl, by decide +kernel, by decide +kernel, by decide +kernel⟩
theorem lk_RX3_79 : gLS RX3 79 yX3_joined cX3_joined 3 (some .int) 3 := ⟨(gBig_tab 668 (by decide +kernel) (by decide +kernel)), (gBig_tab 669 (by decide +kernel) (by decide +kernel)), (gBig_tab 6 (by decide +kernel) (by decide +kernel)), (gBig_tab 670 (by decide +kernel) (by decide +kernel)), by decide +kernel, by decide +kernel, by decide +kernel⟩
theorem lk_RX3_68 : gLV RX3 68 RX3 yX3_pop cX3_pop 1 (some .int) 0 := ⟨(gBig_tab 656 (by decide +kernel) (by decide +kernel)), (gBig_tab 658 (by decide +kernel) (by decide +kernel)), (gBig_sel 18 (by decide +kernel) (by decide +kernel)), (gBig_tab 6 (by decide +kernel) (by decide +kernel)), (gBig_tab 659 (by decide +kernel) (by decide +kernel)), rfl, by decide +kernel, by decide +kernel, by decide +kernel⟩
theorem dX3_workStep_0 : decode cX3_workStep 0 = .ok (.iload_n 1, 1) := by decide +kernel
theorem dX3_workStep_1 : decode cX3_workStep 1 = .ok (.bipush 110, 2) := by decide +kernel
theorem dX3_workStep_3 : decode cX3_workStep 3 = .ok (.if_icmp .ne 11, 3) := by decide +kernel
theorem dX3_workStep_6 : decode cX3_workStep 6 = .ok (.aload_n 0, 1) := by decide +kernel
theorem dX3_workStep_7 : decode cX3_workStep 7 = .ok (.iload_n 2, 1) := by decide +kernel
theorem dX3_workStep_8 : decode cX3_workStep 8 = .ok (.invokevirtual 75, 3) := by decide +kernel
theorem dX3_workStep_11 : decode cX3_workStep 11 = .ok (.goto 104, 3) := by decide +kernel
theorem dX3_workStep_14 : decode cX3_workStep 14 = .ok (.iload_n 1, 1) := by decide +kernel
theorem dX3_workStep_15 : decode cX3_workStep 15 = .ok (.bipush 118, 2) := by decide +kernel
theorem dX3_workStep_17 : decode cX3_workStep 17 = .ok (.if_icmp .ne 33, 3) := by decide +kernel
theorem dX3_workStep_20 : decode cX3_workStep 20 = .ok (.aload_n 0, 1) := by decide +kernel
theorem dX3_workStep_21 : decode cX3_workStep 21 = .ok (.iload_n 2, 1) := by decide +kernel
theorem dX3_workStep_22 : decode cX3_workStep 22 = .ok (.ifCond .lt 21, 3) := by decide +kernel
theorem dX3_workStep_25 : decode cX3_workStep 25 = .ok (.iload_n 2, 1) := by decide +kernel
theorem dX3_workStep_26 : decode cX3_workStep 26 = .ok (.aload_n 0, 1) := by decide +kernel
theorem dX3_workStep_27 : decode cX3_workStep 27 = .ok (.getfield 28, 3) := by decide +kernel
theorem dX3_workStep_30 : decode cX3_workStep 30 = .ok (.arraylength, 1) := by decide +kernel
theorem dX3_workStep_31 : decode cX3_workStep 31 = .ok (.if_icmp .ge 12, 3) := by decide +kernel
theorem dX3_workStep_34 : decode cX3_workStep 34 = .ok (.aload_n 0, 1) := by decide +kernel
theorem dX3_workStep_35 : decode cX3_workStep 35 = .ok (.getfield 28, 3) := by decide +kernel
theorem dX3_workStep_38 : decode cX3_workStep 38 = .ok (.iload_n 2, 1) := by decide +kernel
theorem dX3_workStep_39 : decode cX3_workStep 39 = .ok (.iaload, 1) := by decide +kernel
theorem dX3_workStep_40 : decode cX3_workStep 40 = .ok (.goto 4, 3) := by decide +kernel
theorem dX3_workStep_43 : decode cX3_workStep 43 = .ok (.iconst 0, 1) := by decide +kernel
theorem dX3_workStep_44 : decode cX3_workStep 44 = .ok (.invokevirtual 75, 3) := by decide +kernel
theorem dX3_workStep_47 : decode cX3_workStep 47 = .ok (.goto 68, 3) := by decide +kernel
theorem dX3_workStep_50 : decode cX3_workStep 50 = .ok (.iload_n 1, 1) := by decide +kernel
theorem dX3_workStep_51 : decode cX3_workStep 51 = .ok (.bipush 126, 2) := by decide +kernel
theorem dX3_workStep_53 : decode cX3_workStep 53 = .ok (.if_icmp .ne 15, 3) := by decide +kernel
theorem dX3_workStep_56 : decode cX3_workStep 56 = .ok (.aload_n 0, 1) := by decide +kernel
theorem dX3_workStep_57 : decode cX3_workStep 57 = .ok (.aload_n 0, 1) := by decide +kernel
theorem dX3_workStep_58 : decode cX3_workStep 58 = .ok (.invokevirtual 68, 3) := by decide +kernel
theorem dX3_workStep_61 : decode cX3_workStep 61 = .ok (.ineg, 1) := by decide +kernel
theorem dX3_workStep_62 : decode cX3_workStep 62 = .ok (.invokevirtual 75, 3) := by decide +kernel
theorem dX3_workStep_65 : decode cX3_workStep 65 = .ok (.goto 50, 3) := by decide +kernel
theorem dX3_workStep_68 : decode cX3_workStep 68 = .ok (.iload_n 1, 1) := by decide +kernel
theorem dX3_workStep_69 : decode cX3_workStep 69 = .ok (.bipush 33, 2) := by decide +kernel
theorem dX3_workStep_71 : decode cX3_workStep 71 = .ok (.if_icmp .ne 22, 3) := by decide +kernel
theorem dX3_workStep_74 : decode cX3_workStep 74 = .ok (.aload_n 0, 1) := by decide +kernel
theorem dX3_workStep_75 : decode cX3_workStep 75 = .ok (.aload_n 0, 1) := by decide +kernel
theorem dX3_workStep_76 : decode cX3_workStep 76 = .ok (.invokevirtual 68, 3) := by decide +kernel
theorem dX3_workStep_79 : decode cX3_workStep 79 = .ok (.ifCond .ne 7, 3) := by decide +kernel
theorem dX3_workStep_82 : decode cX3_workStep 82 = .ok (.iconst 1, 1) := by decide +kernel
theorem dX3_workStep_83 : decode cX3_workStep 83 = .ok (.goto 4, 3) := by decide +kernel
theorem dX3_workStep_86 : decode cX3_workStep 86 = .ok (.iconst 0, 1) := by decide +kernel
theorem dX3_workStep_87 : decode cX3_workStep 87 = .ok (.invokevirtual 75, 3) := by decide +kernel
theorem dX3_workStep_90 : decode cX3_workStep 90 = .ok (.goto 25, 3) := by decide +kernel
theorem dX3_workStep_93 : decode cX3_workStep 93 = .ok (.aload_n 0, 1) := by decide +kernel
theorem dX3_workStep_94 : decode cX3_workStep 94 = .ok (.invokevirtual 68, 3) := by decide +kernel
theorem dX3_workStep_97 : decode cX3_workStep 97 = .ok (.istore_n 3, 1) := by decide +kernel
theorem dX3_workStep_98 : decode cX3_workStep 98 = .ok (.aload_n 0, 1) := by decide +kernel
theorem dX3_workStep_99 : decode cX3_workStep 99 = .ok (.invokevirtual 68, 3) := by decide +kernel
theorem dX3_workStep_102 : decode cX3_workStep 102 = .ok (.istore 4, 2) := by decide +kernel
theorem dX3_workStep_104 : decode cX3_workStep 104 = .ok (.aload_n 0, 1) := by decide +kernel
theorem dX3_workStep_105 : decode cX3_workStep 105 = .ok (.iload_n 1, 1) := by decide +kernel
theorem dX3_workStep_106 : decode cX3_workStep 106 = .ok (.iload 4, 2) := by decide +kernel
theorem dX3_workStep_108 : decode cX3_workStep 108 = .ok (.iload_n 3, 1) := by decide +kernel
theorem dX3_workStep_109 : decode cX3_workStep 109 = .ok (.invokestatic 79, 3) := by decide +kernel
theorem dX3_workStep_112 : decode cX3_workStep 112 = .ok (.invokevirtual 75, 3) := by decide +kernel
theorem dX3_workStep_115 : decode cX3_workStep 115 = .ok (.return_, 1) := by decide +kernel
abbrev rX3_workStep : Room := { frames := 1, cells := 0, slots := 0, locals := 22 }
def mX3_workStep_b87  (k0 : Nat)  (σ : gS) (x13 : Int32) : Option (Unit × gS) := gBind (mX3_push σ k0 x13) (fun r14 s15 => some ((), s15))
set_option maxHeartbeats 4000000 in
set_option maxRecDepth 100000 in
theorem wX3_workStep_b87 {p : Program} {l : Launch} {e : Env} {s : State} {m : MethodId} {args : Array Value} {below : List Frame} {meth : Method} {c : Code} {G : gE} (hC : gCx p s m args meth c G RX3 cX3_workStep 5 (none))  (k0 : Nat) (hk0 : gk k0 = 3)  (σ : gS) (x13 : Int32)  : gT p l e rX3_workStep s m args below meth c G 5 iV σ 87 [] [.int x13, .ref (G.2.1 k0)] (mX3_workStep_b87 k0 σ x13) := by
  unfold mX3_workStep_b87
  refine g_callVv (pc := 87) (As := [.int x13]) (rest := []) hC lk_RX3_75 kX3 hk0 (tX3_push _ _ σ k0 x13) rfl rfl (Nat.le_of_ble_eq_true rfl) ⟨rfl, rfl, Nat.le_of_ble_eq_true rfl, Nat.le_of_ble_eq_true rfl⟩ dX3_workStep_87 (fun r14 s15 => ?_)
  refine g_goto (pc := 90) (tgt := 115) hC dX3_workStep_90 (by decide) ?_
  exact g_vret (pc := 115) hC dX3_workStep_115
def mX3_workStep_b44  (k0 : Nat)  (σ : gS) (x20 : Int32) : Option (Unit × gS) := gBind (mX3_push σ k0 x20) (fun r21 s22 => some ((), s22))
set_option maxHeartbeats 4000000 in
set_option maxRecDepth 100000 in
theorem wX3_workStep_b44 {p : Program} {l : Launch} {e : Env} {s : State} {m : MethodId} {args : Array Value} {below : List Frame} {meth : Method} {c : Code} {G : gE} (hC : gCx p s m args meth c G RX3 cX3_workStep 5 (none))  (k0 : Nat) (hk0 : gk k0 = 3)  (σ : gS) (x20 : Int32)  : gT p l e rX3_workStep s m args below meth c G 5 iV σ 44 [] [.int x20, .ref (G.2.1 k0)] (mX3_workStep_b44 k0 σ x20) := by
  unfold mX3_workStep_b44
  refine g_callVv (pc := 44) (As := [.int x20]) (rest := []) hC lk_RX3_75 kX3 hk0 (tX3_push _ _ σ k0 x20) rfl rfl (Nat.le_of_ble_eq_true rfl) ⟨rfl, rfl, Nat.le_of_ble_eq_true rfl, Nat.le_of_ble_eq_true rfl⟩ dX3_workStep_44 (fun r21 s22 => ?_)
  refine g_goto (pc := 47) (tgt := 115) hC dX3_workStep_47 (by decide) ?_
  exact g_vret (pc := 115) hC dX3_workStep_115
def mX3_workStep_b43  (k0 : Nat)  (σ : gS)  : Option (Unit × gS) := (mX3_workStep_b44 k0 σ 0)
set_option maxHeartbeats 4000000 in
set_option maxRecDepth 100000 in
theorem wX3_workStep_b43 {p : Program} {l : Launch} {e : Env} {s : State} {m : MethodId} {args : Array Value} {below : List Frame} {meth : Method} {c : Code} {G : gE} (hC : gCx p s m args meth c G RX3 cX3_workStep 5 (none))  (k0 : Nat) (hk0 : gk k0 = 3)  (σ : gS)   : gT p l e rX3_workStep s m args below meth c G 5 iV σ 43 [] [.ref (G.2.1 k0)] (mX3_workStep_b43 k0 σ ) := by
  unfold mX3_workStep_b43
  refine g_iconst (pc := 43) (v := 0) hC dX3_workStep_43 (by decide) ?_
  exact gT_sub [] rfl (wX3_workStep_b44 hC k0 hk0 σ 0)
def mX3_workStep (σ : gS) (k0 : Nat) (p0 : Int32) (p1 : Int32) : Option (Unit × gS) := if gk k0 = 3 then (if p0 = 110 then (gBind (mX3_push σ k0 p1) (fun r23 s24 => some ((), s24))) else (if p0 = 118 then (if p1 < 0 then ((mX3_workStep_b43 k0 σ )) else (if 6 ≤ p1 then ((mX3_workStep_b43 k0 σ )) else (if inbB p1 6 = true then ((mX3_workStep_b44 k0 σ (σ.1 (k0 + 4) (Int32.toNatClampNeg p1)))) else none))) else (if p0 = 126 then (gBind (mX3_pop σ k0) (fun r16 s17 => gBind (mX3_push s17 k0 (-r16)) (fun r18 s19 => some ((), s19)))) else (if p0 = 33 then (gBind (mX3_pop σ k0) (fun r11 s12 => if r11 = 0 then ((mX3_workStep_b87 k0 s12 1)) else ((mX3_workStep_b87 k0 s12 0)))) else (gBind (mX3_pop σ k0) (fun r1 s2 => gLet r1 (fun v3 => gBind (mX3_pop s2 k0) (fun r4 s5 => gLet r4 (fun v6 => gBind (mX3_joined s5 p0 v6 v3) (fun r7 s8 => gBind (mX3_push s8 k0 r7) (fun r9 s10 => some ((), s10)))))))))))) else none
set_option maxHeartbeats 4000000 in
set_option maxRecDepth 100000 in
theorem tX3_workStep (l : Launch) (G : gE) (σ : gS) (k0 : Nat) (p0 : Int32) (p1 : Int32) : gM l G yX3_workStep cX3_workStep 5 (none) rX3_workStep iV [.ref (G.2.1 k0), .int p0, .int p1] σ (mX3_workStep σ k0 p0 p1) := by
  refine gM_of (by decide) (Nat.le_of_ble_eq_true rfl) ?_
  intro p e s m args below meth c hC
  unfold mX3_workStep
  refine gT_if (fun hk0 => ?_) (fun _ => gT_none)
  show gT p l e rX3_workStep s m args below meth c G 5 iV σ 0 [(0, .ref (G.2.1 k0)), (1, .int p0), (2, .int p1)] [] _
  refine g_iload_n (pc := 0) (q := 1) hC dX3_workStep_0 rfl rfl ?_
  refine g_bipush (pc := 1) (v := 110) hC dX3_workStep_1 (by decide) ?_
  refine g_icmp_ne (pc := 3) (tgt := 14) hC dX3_workStep_3 (by decide) ?_ ?_
  · refine g_iload_n (pc := 14) (q := 1) hC dX3_workStep_14 rfl rfl ?_
    refine g_bipush (pc := 15) (v := 118) hC dX3_workStep_15 (by decide) ?_
    refine g_icmp_ne (pc := 17) (tgt := 50) hC dX3_workStep_17 (by decide) ?_ ?_
    · refine g_iload_n (pc := 50) (q := 1) hC dX3_workStep_50 rfl rfl ?_
      refine g_bipush (pc := 51) (v := 126) hC dX3_workStep_51 (by decide) ?_
      refine g_icmp_ne (pc := 53) (tgt := 68) hC dX3_workStep_53 (by decide) ?_ ?_
      · refine g_iload_n (pc := 68) (q := 1) hC dX3_workStep_68 rfl rfl ?_
        refine g_bipush (pc := 69) (v := 33) hC dX3_workStep_69 (by decide) ?_
        refine g_icmp_ne (pc := 71) (tgt := 93) hC dX3_workStep_71 (by decide) ?_ ?_
        · refine g_aload_n (pc := 93) (q := 0) hC dX3_workStep_93 rfl rfl ?_
          refine g_callVi (pc := 94) (As := []) (rest := []) hC lk_RX3_68 kX3 hk0 (tX3_pop _ _ σ k0) rfl rfl (Nat.le_of_ble_eq_true rfl) ⟨rfl, rfl, Nat.le_of_ble_eq_true rfl, Nat.le_of_ble_eq_true rfl⟩ dX3_workStep_94 (fun r1 s2 => ?_)
          refine g_istore_n (pc := 97) (lv' := fun v3 => [(3, .int v3), (0, .ref (G.2.1 k0)), (1, .int p0), (2, .int p1)]) hC dX3_workStep_97 rfl (by decide) (fun _ => rfl) (fun v3 => ?_)
          refine g_aload_n (pc := 98) (q := 1) hC dX3_workStep_98 rfl rfl ?_
          refine g_callVi (pc := 99) (As := []) (rest := []) hC lk_RX3_68 kX3 hk0 (tX3_pop _ _ s2 k0) rfl rfl (Nat.le_of_ble_eq_true rfl) ⟨rfl, rfl, Nat.le_of_ble_eq_true rfl, Nat.le_of_ble_eq_true rfl⟩ dX3_workStep_99 (fun r4 s5 => ?_)
          refine g_istore (pc := 102) (lv' := fun v6 => [(4, .int v6), (3, .int v3), (0, .ref (G.2.1 k0)), (1, .int p0), (2, .int p1)]) hC dX3_workStep_102 (by decide) (fun _ => rfl) (fun v6 => ?_)
          refine g_aload_n (pc := 104) (q := 2) hC dX3_workStep_104 rfl rfl ?_
          refine g_iload_n (pc := 105) (q := 3) hC dX3_workStep_105 rfl rfl ?_
          refine g_iload (pc := 106) (q := 0) hC dX3_workStep_106 rfl ?_
          refine g_iload_n (pc := 108) (q := 1) hC dX3_workStep_108 rfl rfl ?_
          refine g_callSi (pc := 109) (As := [.int p0, .int v6, .int v3]) (rest := [.ref (G.2.1 k0)]) hC lk_RX3_79 (tX3_joined _ _ s5 p0 v6 v3) rfl rfl (Nat.le_of_ble_eq_true rfl) ⟨rfl, rfl, Nat.le_of_ble_eq_true rfl, Nat.le_of_ble_eq_true rfl⟩ dX3_workStep_109 (fun r7 s8 => ?_)
          refine g_callVv (pc := 112) (As := [.int r7]) (rest := []) hC lk_RX3_75 kX3 hk0 (tX3_push _ _ s8 k0 r7) rfl rfl (Nat.le_of_ble_eq_true rfl) ⟨rfl, rfl, Nat.le_of_ble_eq_true rfl, Nat.le_of_ble_eq_true rfl⟩ dX3_workStep_112 (fun r9 s10 => ?_)
          exact g_vret (pc := 115) hC dX3_workStep_115
        · refine g_aload_n (pc := 74) (q := 0) hC dX3_workStep_74 rfl rfl ?_
          refine g_aload_n (pc := 75) (q := 0) hC dX3_workStep_75 rfl rfl ?_
          refine g_callVi (pc := 76) (As := []) (rest := [.ref (G.2.1 k0)]) hC lk_RX3_68 kX3 hk0 (tX3_pop _ _ σ k0) rfl rfl (Nat.le_of_ble_eq_true rfl) ⟨rfl, rfl, Nat.le_of_ble_eq_true rfl, Nat.le_of_ble_eq_true rfl⟩ dX3_workStep_76 (fun r11 s12 => ?_)
          refine g_if_ne (pc := 79) (tgt := 86) hC dX3_workStep_79 (by decide) ?_ ?_
          · refine g_iconst (pc := 86) (v := 0) hC dX3_workStep_86 (by decide) ?_
            exact gT_sub [] rfl (wX3_workStep_b87 hC k0 hk0 s12 0)
          · refine g_iconst (pc := 82) (v := 1) hC dX3_workStep_82 (by decide) ?_
            refine g_goto (pc := 83) (tgt := 87) hC dX3_workStep_83 (by decide) ?_
            exact gT_sub [] rfl (wX3_workStep_b87 hC k0 hk0 s12 1)
      · refine g_aload_n (pc := 56) (q := 0) hC dX3_workStep_56 rfl rfl ?_
        refine g_aload_n (pc := 57) (q := 0) hC dX3_workStep_57 rfl rfl ?_
        refine g_callVi (pc := 58) (As := []) (rest := [.ref (G.2.1 k0)]) hC lk_RX3_68 kX3 hk0 (tX3_pop _ _ σ k0) rfl rfl (Nat.le_of_ble_eq_true rfl) ⟨rfl, rfl, Nat.le_of_ble_eq_true rfl, Nat.le_of_ble_eq_true rfl⟩ dX3_workStep_58 (fun r16 s17 => ?_)
        refine g_ineg (pc := 61) hC dX3_workStep_61 ?_
        refine g_callVv (pc := 62) (As := [.int (-r16)]) (rest := []) hC lk_RX3_75 kX3 hk0 (tX3_push _ _ s17 k0 (-r16)) rfl rfl (Nat.le_of_ble_eq_true rfl) ⟨rfl, rfl, Nat.le_of_ble_eq_true rfl, Nat.le_of_ble_eq_true rfl⟩ dX3_workStep_62 (fun r18 s19 => ?_)
        refine g_goto (pc := 65) (tgt := 115) hC dX3_workStep_65 (by decide) ?_
        exact g_vret (pc := 115) hC dX3_workStep_115
    · refine g_aload_n (pc := 20) (q := 0) hC dX3_workStep_20 rfl rfl ?_
      refine g_iload_n (pc := 21) (q := 2) hC dX3_workStep_21 rfl rfl ?_
      refine g_if_lt (pc := 22) (tgt := 43) hC dX3_workStep_22 (by decide) ?_ ?_
      · exact gT_sub [] rfl (wX3_workStep_b43 hC k0 hk0 σ )
      · refine g_iload_n (pc := 25) (q := 2) hC dX3_workStep_25 rfl rfl ?_
        refine g_aload_n (pc := 26) (q := 0) hC dX3_workStep_26 rfl rfl ?_
        refine g_get (pc := 27) (v := .ref (G.2.1 (k0 + 4))) hC kX3 hk0 5 (by decide) fl_RX3_28 rfl dX3_workStep_27 ?_
        refine g_alen (pc := 30) (v := 6) hC 6 (ck_3_4 hk0) (by decide) (by decide) dX3_workStep_30 ?_
        refine g_icmp_ge (pc := 31) (tgt := 43) hC dX3_workStep_31 (by decide) ?_ ?_
        · exact gT_sub [] rfl (wX3_workStep_b43 hC k0 hk0 σ )
        · refine g_aload_n (pc := 34) (q := 0) hC dX3_workStep_34 rfl rfl ?_
          refine g_get (pc := 35) (v := .ref (G.2.1 (k0 + 4))) hC kX3 hk0 5 (by decide) fl_RX3_28 rfl dX3_workStep_35 ?_
          refine g_iload_n (pc := 38) (q := 2) hC dX3_workStep_38 rfl rfl ?_
          refine g_iald (pc := 39) hC 6 (ck_3_4 hk0) (by decide) dX3_workStep_39 ?_
          refine g_goto (pc := 40) (tgt := 44) hC dX3_workStep_40 (by decide) ?_
          exact gT_sub [] rfl (wX3_workStep_b44 hC k0 hk0 σ (σ.1 (k0 + 4) (Int32.toNatClampNeg p1)))
  · refine g_aload_n (pc := 6) (q := 0) hC dX3_workStep_6 rfl rfl ?_
    refine g_iload_n (pc := 7) (q := 2) hC dX3_workStep_7 rfl rfl ?_
    refine g_callVv (pc := 8) (As := [.int p1]) (rest := []) hC lk_RX3_75 kX3 hk0 (tX3_push _ _ σ k0 p1) rfl rfl (Nat.le_of_ble_eq_true rfl) ⟨rfl, rfl, Nat.le_of_ble_eq_true rfl, Nat.le_of_ble_eq_true rfl⟩ dX3_workStep_8 (fun r23 s24 => ?_)
    refine g_goto (pc := 11) (tgt := 115) hC dX3_workStep_11 (by decide) ?_
    exact g_vret (pc := 115) hC dX3_workStep_115
theorem lk_RX3_71 : gLV RX3 71 RX3 yX3_workStep cX3_workStep 5 (none) 2 := ⟨(gBig_tab 660 (by decide +kernel) (by decide +kernel)), (gBig_tab 662 (by decide +kernel) (by decide +kernel)), (gBig_sel 19 (by decide +kernel) (by decide +kernel)), (gBig_tab 6 (by decide +kernel) (by decide +kernel)), (gBig_tab 663 (by decide +kernel) (by decide +kernel)), rfl, by decide +kernel, by decide +kernel, by decide +kernel⟩
theorem dX3_workOut_0 : decode cX3_workOut 0 = .ok (.iconst 1, 1) := by decide +kernel
theorem dX3_workOut_1 : decode cX3_workOut 1 = .ok (.istore_n 1, 1) := by decide +kernel
theorem dX3_workOut_2 : decode cX3_workOut 2 = .ok (.aload_n 0, 1) := by decide +kernel
theorem dX3_workOut_3 : decode cX3_workOut 3 = .ok (.iconst 0, 1) := by decide +kernel
theorem dX3_workOut_4 : decode cX3_workOut 4 = .ok (.putfield 25, 3) := by decide +kernel
theorem dX3_workOut_7 : decode cX3_workOut 7 = .ok (.iconst 0, 1) := by decide +kernel
theorem dX3_workOut_8 : decode cX3_workOut 8 = .ok (.istore_n 2, 1) := by decide +kernel
theorem dX3_workOut_9 : decode cX3_workOut 9 = .ok (.iload_n 2, 1) := by decide +kernel
theorem dX3_workOut_10 : decode cX3_workOut 10 = .ok (.aload_n 0, 1) := by decide +kernel
theorem dX3_workOut_11 : decode cX3_workOut 11 = .ok (.getfield 18, 3) := by decide +kernel
theorem dX3_workOut_14 : decode cX3_workOut 14 = .ok (.if_icmp .ge 73, 3) := by decide +kernel
theorem dX3_workOut_17 : decode cX3_workOut 17 = .ok (.aload_n 0, 1) := by decide +kernel
theorem dX3_workOut_18 : decode cX3_workOut 18 = .ok (.getfield 11, 3) := by decide +kernel
theorem dX3_workOut_21 : decode cX3_workOut 21 = .ok (.iload_n 2, 1) := by decide +kernel
theorem dX3_workOut_22 : decode cX3_workOut 22 = .ok (.iaload, 1) := by decide +kernel
theorem dX3_workOut_23 : decode cX3_workOut 23 = .ok (.istore_n 3, 1) := by decide +kernel
theorem dX3_workOut_24 : decode cX3_workOut 24 = .ok (.iload_n 3, 1) := by decide +kernel
theorem dX3_workOut_25 : decode cX3_workOut 25 = .ok (.bipush 63, 2) := by decide +kernel
theorem dX3_workOut_27 : decode cX3_workOut 27 = .ok (.if_icmp .ne 19, 3) := by decide +kernel
theorem dX3_workOut_30 : decode cX3_workOut 30 = .ok (.aload_n 0, 1) := by decide +kernel
theorem dX3_workOut_31 : decode cX3_workOut 31 = .ok (.invokevirtual 68, 3) := by decide +kernel
theorem dX3_workOut_34 : decode cX3_workOut 34 = .ok (.ifCond .eq 7, 3) := by decide +kernel
theorem dX3_workOut_37 : decode cX3_workOut 37 = .ok (.iconst 1, 1) := by decide +kernel
theorem dX3_workOut_38 : decode cX3_workOut 38 = .ok (.goto 4, 3) := by decide +kernel
theorem dX3_workOut_41 : decode cX3_workOut 41 = .ok (.iconst 0, 1) := by decide +kernel
theorem dX3_workOut_42 : decode cX3_workOut 42 = .ok (.istore_n 1, 1) := by decide +kernel
theorem dX3_workOut_43 : decode cX3_workOut 43 = .ok (.goto 38, 3) := by decide +kernel
theorem dX3_workOut_46 : decode cX3_workOut 46 = .ok (.iload_n 3, 1) := by decide +kernel
theorem dX3_workOut_47 : decode cX3_workOut 47 = .ok (.bipush 59, 2) := by decide +kernel
theorem dX3_workOut_49 : decode cX3_workOut 49 = .ok (.if_icmp .ne 21, 3) := by decide +kernel
theorem dX3_workOut_52 : decode cX3_workOut 52 = .ok (.aload_n 0, 1) := by decide +kernel
theorem dX3_workOut_53 : decode cX3_workOut 53 = .ok (.invokevirtual 68, 3) := by decide +kernel
theorem dX3_workOut_56 : decode cX3_workOut 56 = .ok (.istore 4, 2) := by decide +kernel
theorem dX3_workOut_58 : decode cX3_workOut 58 = .ok (.iload_n 1, 1) := by decide +kernel
theorem dX3_workOut_59 : decode cX3_workOut 59 = .ok (.ifCond .eq 6, 3) := by decide +kernel
theorem dX3_workOut_62 : decode cX3_workOut 62 = .ok (.iload 4, 2) := by decide +kernel
theorem dX3_workOut_64 : decode cX3_workOut 64 = .ok (.ireturn, 1) := by decide +kernel
theorem dX3_workOut_65 : decode cX3_workOut 65 = .ok (.iconst 1, 1) := by decide +kernel
theorem dX3_workOut_66 : decode cX3_workOut 66 = .ok (.istore_n 1, 1) := by decide +kernel
theorem dX3_workOut_67 : decode cX3_workOut 67 = .ok (.goto 14, 3) := by decide +kernel
theorem dX3_workOut_70 : decode cX3_workOut 70 = .ok (.aload_n 0, 1) := by decide +kernel
theorem dX3_workOut_71 : decode cX3_workOut 71 = .ok (.iload_n 3, 1) := by decide +kernel
theorem dX3_workOut_72 : decode cX3_workOut 72 = .ok (.aload_n 0, 1) := by decide +kernel
theorem dX3_workOut_73 : decode cX3_workOut 73 = .ok (.getfield 15, 3) := by decide +kernel
theorem dX3_workOut_76 : decode cX3_workOut 76 = .ok (.iload_n 2, 1) := by decide +kernel
theorem dX3_workOut_77 : decode cX3_workOut 77 = .ok (.iaload, 1) := by decide +kernel
theorem dX3_workOut_78 : decode cX3_workOut 78 = .ok (.invokevirtual 71, 3) := by decide +kernel
theorem dX3_workOut_81 : decode cX3_workOut 81 = .ok (.iinc 2 1, 3) := by decide +kernel
theorem dX3_workOut_84 : decode cX3_workOut 84 = .ok (.goto (-75), 3) := by decide +kernel
theorem dX3_workOut_87 : decode cX3_workOut 87 = .ok (.iconst 0, 1) := by decide +kernel
theorem dX3_workOut_88 : decode cX3_workOut 88 = .ok (.ireturn, 1) := by decide +kernel
abbrev rX3_workOut : Room := { frames := 2, cells := 0, slots := 0, locals := 46 }
def mX3_workOut_b81  (k0 : Nat) (k9 : gS → Int32 → Int32 → Option (Int32 × gS)) (σ : gS) (x9 : Int32) (x10 : Int32) : Option (Int32 × gS) := gLet (x10 + 1) (fun v11 => (k9 σ x9 v11))
set_option maxHeartbeats 4000000 in
set_option maxRecDepth 100000 in
theorem wX3_workOut_b81 {p : Program} {l : Launch} {e : Env} {s : State} {m : MethodId} {args : Array Value} {below : List Frame} {meth : Method} {c : Code} {G : gE} (hC : gCx p s m args meth c G RX3 cX3_workOut 5 (some .int))  (k0 : Nat) (hk0 : gk k0 = 3) {k9 : gS → Int32 → Int32 → Option (Int32 × gS)} (hk9 : ∀ (σ : gS) (x4 : Int32) (x5 : Int32), gT p l e rX3_workOut s m args below meth c G 5 iI σ 9 [(0, .ref (G.2.1 k0)), (1, .int x4), (2, .int x5)] [] (k9 σ x4 x5)) (σ : gS) (x9 : Int32) (x10 : Int32)  : gT p l e rX3_workOut s m args below meth c G 5 iI σ 81 [(0, .ref (G.2.1 k0)), (1, .int x9), (2, .int x10)] [] (mX3_workOut_b81 k0 k9 σ x9 x10) := by
  unfold mX3_workOut_b81
  refine g_iinc (pc := 81) (q := 2) (w := 1) (lv' := fun v11 => [(2, .int v11), (0, .ref (G.2.1 k0)), (1, .int x9)]) hC dX3_workOut_81 rfl (by decide) (by decide) (fun _ => rfl) (fun v11 => ?_)
  refine g_goto (pc := 84) (tgt := 9) hC dX3_workOut_84 (by decide) ?_
  exact gT_sub [1, 2, 0] rfl (hk9 σ x9 v11)
def mX3_workOut_b42  (k0 : Nat) (k9 : gS → Int32 → Int32 → Option (Int32 × gS)) (σ : gS) (x18 : Int32) (x19 : Int32) : Option (Int32 × gS) := gLet x19 (fun v20 => (mX3_workOut_b81 k0 k9 σ v20 x18))
set_option maxHeartbeats 4000000 in
set_option maxRecDepth 100000 in
theorem wX3_workOut_b42 {p : Program} {l : Launch} {e : Env} {s : State} {m : MethodId} {args : Array Value} {below : List Frame} {meth : Method} {c : Code} {G : gE} (hC : gCx p s m args meth c G RX3 cX3_workOut 5 (some .int))  (k0 : Nat) (hk0 : gk k0 = 3) {k9 : gS → Int32 → Int32 → Option (Int32 × gS)} (hk9 : ∀ (σ : gS) (x4 : Int32) (x5 : Int32), gT p l e rX3_workOut s m args below meth c G 5 iI σ 9 [(0, .ref (G.2.1 k0)), (1, .int x4), (2, .int x5)] [] (k9 σ x4 x5)) (σ : gS) (x18 : Int32) (x19 : Int32)  : gT p l e rX3_workOut s m args below meth c G 5 iI σ 42 [(0, .ref (G.2.1 k0)), (2, .int x18)] [.int x19] (mX3_workOut_b42 k0 k9 σ x18 x19) := by
  unfold mX3_workOut_b42
  refine g_istore_n (pc := 42) (lv' := fun v20 => [(1, .int v20), (0, .ref (G.2.1 k0)), (2, .int x18)]) hC dX3_workOut_42 rfl (by decide) (fun _ => rfl) (fun v20 => ?_)
  refine g_goto (pc := 43) (tgt := 81) hC dX3_workOut_43 (by decide) ?_
  exact gT_sub [1, 0, 2] rfl (wX3_workOut_b81 hC k0 hk0 hk9 σ v20 x18)
def mX3_workOut_b9  (k0 : Nat)  : Nat → gS → Int32 → Int32 → Option (Int32 × gS)
  | 0, _, _, _ => none
  | n + 1, σ, x4, x5 => if (σ.1 k0 2) ≤ x5 then (some (0, σ)) else (if inbB x5 121 = true then (gLet (σ.1 (k0 + 1) (Int32.toNatClampNeg x5)) (fun v6 => if v6 = 63 then (gBind (mX3_pop σ k0) (fun r16 s17 => if r16 = 0 then ((mX3_workOut_b42 k0 (mX3_workOut_b9 k0 n) s17 x5 0)) else ((mX3_workOut_b42 k0 (mX3_workOut_b9 k0 n) s17 x5 1)))) else (if v6 = 59 then (gBind (mX3_pop σ k0) (fun r12 s13 => gLet r12 (fun v14 => if x4 = 0 then (gLet 1 (fun v15 => (mX3_workOut_b81 k0 (mX3_workOut_b9 k0 n) s13 v15 x5))) else (some (v14, s13))))) else (if inbB x5 121 = true then (gBind (mX3_workStep σ k0 v6 (σ.1 (k0 + 2) (Int32.toNatClampNeg x5))) (fun r7 s8 => (mX3_workOut_b81 k0 (mX3_workOut_b9 k0 n) s8 x4 x5))) else none)))) else none)
set_option maxHeartbeats 4000000 in
set_option maxRecDepth 100000 in
theorem wX3_workOut_b9 {p : Program} {l : Launch} {e : Env} {s : State} {m : MethodId} {args : Array Value} {below : List Frame} {meth : Method} {c : Code} {G : gE} (hC : gCx p s m args meth c G RX3 cX3_workOut 5 (some .int))  (k0 : Nat) (hk0 : gk k0 = 3)  (n : Nat) (σ : gS) (x4 : Int32) (x5 : Int32)  : gT p l e rX3_workOut s m args below meth c G 5 iI σ 9 [(0, .ref (G.2.1 k0)), (1, .int x4), (2, .int x5)] [] (mX3_workOut_b9 k0 n σ x4 x5) := by
  induction n generalizing σ x4 x5 with
  | zero => exact gT_none
  | succ n ih =>
    unfold mX3_workOut_b9
    refine g_iload_n (pc := 9) (q := 2) hC dX3_workOut_9 rfl rfl ?_
    refine g_aload_n (pc := 10) (q := 0) hC dX3_workOut_10 rfl rfl ?_
    refine g_get (pc := 11) (v := .int (σ.1 k0 2)) hC kX3 hk0 2 (by decide) fl_RX3_18 rfl dX3_workOut_11 ?_
    refine g_icmp_ge (pc := 14) (tgt := 87) hC dX3_workOut_14 (by decide) ?_ ?_
    · refine g_iconst (pc := 87) (v := 0) hC dX3_workOut_87 (by decide) ?_
      exact g_iret (pc := 88) hC dX3_workOut_88
    · refine g_aload_n (pc := 17) (q := 0) hC dX3_workOut_17 rfl rfl ?_
      refine g_get (pc := 18) (v := .ref (G.2.1 (k0 + 1))) hC kX3 hk0 0 (by decide) fl_RX3_11 rfl dX3_workOut_18 ?_
      refine g_iload_n (pc := 21) (q := 2) hC dX3_workOut_21 rfl rfl ?_
      refine g_iald (pc := 22) hC 121 (ck_3_1 hk0) (by decide) dX3_workOut_22 ?_
      refine g_istore_n (pc := 23) (lv' := fun v6 => [(3, .int v6), (0, .ref (G.2.1 k0)), (1, .int x4), (2, .int x5)]) hC dX3_workOut_23 rfl (by decide) (fun _ => rfl) (fun v6 => ?_)
      refine g_iload_n (pc := 24) (q := 0) hC dX3_workOut_24 rfl rfl ?_
      refine g_bipush (pc := 25) (v := 63) hC dX3_workOut_25 (by decide) ?_
      refine g_icmp_ne (pc := 27) (tgt := 46) hC dX3_workOut_27 (by decide) ?_ ?_
      · refine g_iload_n (pc := 46) (q := 0) hC dX3_workOut_46 rfl rfl ?_
        refine g_bipush (pc := 47) (v := 59) hC dX3_workOut_47 (by decide) ?_
        refine g_icmp_ne (pc := 49) (tgt := 70) hC dX3_workOut_49 (by decide) ?_ ?_
        · refine g_aload_n (pc := 70) (q := 1) hC dX3_workOut_70 rfl rfl ?_
          refine g_iload_n (pc := 71) (q := 0) hC dX3_workOut_71 rfl rfl ?_
          refine g_aload_n (pc := 72) (q := 1) hC dX3_workOut_72 rfl rfl ?_
          refine g_get (pc := 73) (v := .ref (G.2.1 (k0 + 2))) hC kX3 hk0 1 (by decide) fl_RX3_15 rfl dX3_workOut_73 ?_
          refine g_iload_n (pc := 76) (q := 3) hC dX3_workOut_76 rfl rfl ?_
          refine g_iald (pc := 77) hC 121 (ck_3_2 hk0) (by decide) dX3_workOut_77 ?_
          refine g_callVv (pc := 78) (As := [.int v6, .int (σ.1 (k0 + 2) (Int32.toNatClampNeg x5))]) (rest := []) hC lk_RX3_71 kX3 hk0 (tX3_workStep _ _ σ k0 v6 (σ.1 (k0 + 2) (Int32.toNatClampNeg x5))) rfl rfl (Nat.le_of_ble_eq_true rfl) ⟨rfl, rfl, Nat.le_of_ble_eq_true rfl, Nat.le_of_ble_eq_true rfl⟩ dX3_workOut_78 (fun r7 s8 => ?_)
          exact gT_sub [1, 2, 3] rfl (wX3_workOut_b81 hC k0 hk0 ih s8 x4 x5)
        · refine g_aload_n (pc := 52) (q := 1) hC dX3_workOut_52 rfl rfl ?_
          refine g_callVi (pc := 53) (As := []) (rest := []) hC lk_RX3_68 kX3 hk0 (tX3_pop _ _ σ k0) rfl rfl (Nat.le_of_ble_eq_true rfl) ⟨rfl, rfl, Nat.le_of_ble_eq_true rfl, Nat.le_of_ble_eq_true rfl⟩ dX3_workOut_53 (fun r12 s13 => ?_)
          refine g_istore (pc := 56) (lv' := fun v14 => [(4, .int v14), (3, .int v6), (0, .ref (G.2.1 k0)), (1, .int x4), (2, .int x5)]) hC dX3_workOut_56 (by decide) (fun _ => rfl) (fun v14 => ?_)
          refine g_iload_n (pc := 58) (q := 3) hC dX3_workOut_58 rfl rfl ?_
          refine g_if_eq (pc := 59) (tgt := 65) hC dX3_workOut_59 (by decide) ?_ ?_
          · refine g_iconst (pc := 65) (v := 1) hC dX3_workOut_65 (by decide) ?_
            refine g_istore_n (pc := 66) (lv' := fun v15 => [(1, .int v15), (4, .int v14), (3, .int v6), (0, .ref (G.2.1 k0)), (2, .int x5)]) hC dX3_workOut_66 rfl (by decide) (fun _ => rfl) (fun v15 => ?_)
            refine g_goto (pc := 67) (tgt := 81) hC dX3_workOut_67 (by decide) ?_
            exact gT_sub [3, 0, 4] rfl (wX3_workOut_b81 hC k0 hk0 ih s13 v15 x5)
          · refine g_iload (pc := 62) (q := 0) hC dX3_workOut_62 rfl ?_
            exact g_iret (pc := 64) hC dX3_workOut_64
      · refine g_aload_n (pc := 30) (q := 1) hC dX3_workOut_30 rfl rfl ?_
        refine g_callVi (pc := 31) (As := []) (rest := []) hC lk_RX3_68 kX3 hk0 (tX3_pop _ _ σ k0) rfl rfl (Nat.le_of_ble_eq_true rfl) ⟨rfl, rfl, Nat.le_of_ble_eq_true rfl, Nat.le_of_ble_eq_true rfl⟩ dX3_workOut_31 (fun r16 s17 => ?_)
        refine g_if_eq (pc := 34) (tgt := 41) hC dX3_workOut_34 (by decide) ?_ ?_
        · refine g_iconst (pc := 41) (v := 0) hC dX3_workOut_41 (by decide) ?_
          exact gT_sub [1, 3] rfl (wX3_workOut_b42 hC k0 hk0 ih s17 x5 0)
        · refine g_iconst (pc := 37) (v := 1) hC dX3_workOut_37 (by decide) ?_
          refine g_goto (pc := 38) (tgt := 42) hC dX3_workOut_38 (by decide) ?_
          exact gT_sub [1, 3] rfl (wX3_workOut_b42 hC k0 hk0 ih s17 x5 1)
def mX3_workOut (σ : gS) (k0 : Nat) : Option (Int32 × gS) := if gk k0 = 3 then (gLet 1 (fun v1 => gLet (gUI σ k0 4 0) (fun s2 => gLet 0 (fun v3 => (mX3_workOut_b9 k0 1100 s2 v1 v3))))) else none
set_option maxHeartbeats 4000000 in
set_option maxRecDepth 100000 in
theorem tX3_workOut (l : Launch) (G : gE) (σ : gS) (k0 : Nat) : gM l G yX3_workOut cX3_workOut 5 (some .int) rX3_workOut iI [.ref (G.2.1 k0)] σ (mX3_workOut σ k0) := by
  refine gM_of (by decide) (Nat.le_of_ble_eq_true rfl) ?_
  intro p e s m args below meth c hC
  unfold mX3_workOut
  refine gT_if (fun hk0 => ?_) (fun _ => gT_none)
  show gT p l e rX3_workOut s m args below meth c G 5 iI σ 0 [(0, .ref (G.2.1 k0))] [] _
  refine g_iconst (pc := 0) (v := 1) hC dX3_workOut_0 (by decide) ?_
  refine g_istore_n (pc := 1) (lv' := fun v1 => [(1, .int v1), (0, .ref (G.2.1 k0))]) hC dX3_workOut_1 rfl (by decide) (fun _ => rfl) (fun v1 => ?_)
  refine g_aload_n (pc := 2) (q := 1) hC dX3_workOut_2 rfl rfl ?_
  refine g_iconst (pc := 3) (v := 0) hC dX3_workOut_3 (by decide) ?_
  refine g_puti (pc := 4) (fty := .int) hC kX3 hk0 4 (by decide) fl_RX3_25 rfl rfl rfl rfl (fun _ _ => Nat.le_of_ble_eq_true rfl) (fun _ _ => rfl) dX3_workOut_4 (fun s2 => ?_)
  refine g_iconst (pc := 7) (v := 0) hC dX3_workOut_7 (by decide) ?_
  refine g_istore_n (pc := 8) (lv' := fun v3 => [(2, .int v3), (1, .int v1), (0, .ref (G.2.1 k0))]) hC dX3_workOut_8 rfl (by decide) (fun _ => rfl) (fun v3 => ?_)
  exact gT_sub [2, 1, 0] rfl (wX3_workOut_b9 hC k0 hk0 1100 s2 v1 v3)
theorem mth_RX3_56 : gMn RX3 56 := ⟨(gBig_tab 478 (by decide +kernel) (by decide +kernel)), (gBig_tab 479 (by decide +kernel) (by decide +kernel)), (gBig_tab 13 (by decide +kernel) (by decide +kernel)), (gBig_tab 480 (by decide +kernel) (by decide +kernel))⟩
theorem mth_RX3_62 : gMx RX3 62 := ⟨(gBig_tab 481 (by decide +kernel) (by decide +kernel)), (gBig_tab 482 (by decide +kernel) (by decide +kernel)), (gBig_tab 13 (by decide +kernel) (by decide +kernel)), (gBig_tab 483 (by decide +kernel) (by decide +kernel))⟩
theorem lk_RX3_52 : gLV RX3 52 RX3 yX3_workOut cX3_workOut 5 (some .int) 0 := ⟨(gBig_tab 652 (by decide +kernel) (by decide +kernel)), (gBig_tab 654 (by decide +kernel) (by decide +kernel)), (gBig_sel 17 (by decide +kernel) (by decide +kernel)), (gBig_tab 6 (by decide +kernel) (by decide +kernel)), (gBig_tab 655 (by decide +kernel) (by decide +kernel)), rfl, by decide +kernel, by decide +kernel, by decide +kernel⟩
theorem lk_RX3_48 : gLV RX3 48 RX3 yX3_tellNames cX3_tellNames 5 (none) 4 := ⟨(gBig_tab 648 (by decide +kernel) (by decide +kernel)), (gBig_tab 650 (by decide +kernel) (by decide +kernel)), (gBig_sel 16 (by decide +kernel) (by decide +kernel)), (gBig_tab 6 (by decide +kernel) (by decide +kernel)), (gBig_tab 651 (by decide +kernel) (by decide +kernel)), rfl, by decide +kernel, by decide +kernel, by decide +kernel⟩
theorem dX3_overnight_0 : decode cX3_overnight 0 = .ok (.aload_n 0, 1) := by decide +kernel
theorem dX3_overnight_1 : decode cX3_overnight 1 = .ok (.getfield 18, 3) := by decide +kernel
theorem dX3_overnight_4 : decode cX3_overnight 4 = .ok (.ifCond .ne 28, 3) := by decide +kernel
theorem dX3_overnight_7 : decode cX3_overnight 7 = .ok (.iload 4, 2) := by decide +kernel
theorem dX3_overnight_9 : decode cX3_overnight 9 = .ok (.ifCond .ne 10, 3) := by decide +kernel
theorem dX3_overnight_12 : decode cX3_overnight 12 = .ok (.aload_n 1, 1) := by decide +kernel
theorem dX3_overnight_13 : decode cX3_overnight 13 = .ok (.getfield 40, 3) := by decide +kernel
theorem dX3_overnight_16 : decode cX3_overnight 16 = .ok (.goto 4, 3) := by decide +kernel
theorem dX3_overnight_19 : decode cX3_overnight 19 = .ok (.iconst 0, 1) := by decide +kernel
theorem dX3_overnight_20 : decode cX3_overnight 20 = .ok (.aload_n 1, 1) := by decide +kernel
theorem dX3_overnight_21 : decode cX3_overnight 21 = .ok (.getfield 45, 3) := by decide +kernel
theorem dX3_overnight_24 : decode cX3_overnight 24 = .ok (.iconst 2, 1) := by decide +kernel
theorem dX3_overnight_25 : decode cX3_overnight 25 = .ok (.idiv, 1) := by decide +kernel
theorem dX3_overnight_26 : decode cX3_overnight 26 = .ok (.isub, 1) := by decide +kernel
theorem dX3_overnight_27 : decode cX3_overnight 27 = .ok (.istore 5, 2) := by decide +kernel
theorem dX3_overnight_29 : decode cX3_overnight 29 = .ok (.goto 18, 3) := by decide +kernel
theorem dX3_overnight_32 : decode cX3_overnight 32 = .ok (.aload_n 0, 1) := by decide +kernel
theorem dX3_overnight_33 : decode cX3_overnight 33 = .ok (.aload_n 1, 1) := by decide +kernel
theorem dX3_overnight_34 : decode cX3_overnight 34 = .ok (.iload_n 2, 1) := by decide +kernel
theorem dX3_overnight_35 : decode cX3_overnight 35 = .ok (.iload_n 3, 1) := by decide +kernel
theorem dX3_overnight_36 : decode cX3_overnight 36 = .ok (.iload 4, 2) := by decide +kernel
theorem dX3_overnight_38 : decode cX3_overnight 38 = .ok (.invokevirtual 48, 3) := by decide +kernel
theorem dX3_overnight_41 : decode cX3_overnight 41 = .ok (.aload_n 0, 1) := by decide +kernel
theorem dX3_overnight_42 : decode cX3_overnight 42 = .ok (.invokevirtual 52, 3) := by decide +kernel
theorem dX3_overnight_45 : decode cX3_overnight 45 = .ok (.istore 5, 2) := by decide +kernel
theorem dX3_overnight_47 : decode cX3_overnight 47 = .ok (.bipush (-99), 2) := by decide +kernel
theorem dX3_overnight_49 : decode cX3_overnight 49 = .ok (.iload 5, 2) := by decide +kernel
theorem dX3_overnight_51 : decode cX3_overnight 51 = .ok (.bipush 99, 2) := by decide +kernel
theorem dX3_overnight_53 : decode cX3_overnight 53 = .ok (.invokestatic 56, 3) := by decide +kernel
theorem dX3_overnight_56 : decode cX3_overnight 56 = .ok (.invokestatic 62, 3) := by decide +kernel
theorem dX3_overnight_59 : decode cX3_overnight 59 = .ok (.istore 6, 2) := by decide +kernel
theorem dX3_overnight_61 : decode cX3_overnight 61 = .ok (.iconst 0, 1) := by decide +kernel
theorem dX3_overnight_62 : decode cX3_overnight 62 = .ok (.iload_n 3, 1) := by decide +kernel
theorem dX3_overnight_63 : decode cX3_overnight 63 = .ok (.iload 6, 2) := by decide +kernel
theorem dX3_overnight_65 : decode cX3_overnight 65 = .ok (.iadd, 1) := by decide +kernel
theorem dX3_overnight_66 : decode cX3_overnight 66 = .ok (.sipush 999, 3) := by decide +kernel
theorem dX3_overnight_69 : decode cX3_overnight 69 = .ok (.invokestatic 56, 3) := by decide +kernel
theorem dX3_overnight_72 : decode cX3_overnight 72 = .ok (.invokestatic 62, 3) := by decide +kernel
theorem dX3_overnight_75 : decode cX3_overnight 75 = .ok (.ireturn, 1) := by decide +kernel
abbrev rX3_overnight : Room := { frames := 3, cells := 0, slots := 0, locals := 70 }
def mX3_overnight_b47  (k0 : Nat) (q0 : Nat)  (σ : gS) (x6 : Int32) (x7 : Int32) : Option (Int32 × gS) := gLet (gMax (-99) (gMin x7 99)) (fun v8 => some ((gMax 0 (gMin (x6 + v8) 999)), σ))
set_option maxHeartbeats 4000000 in
set_option maxRecDepth 100000 in
theorem wX3_overnight_b47 {p : Program} {l : Launch} {e : Env} {s : State} {m : MethodId} {args : Array Value} {below : List Frame} {meth : Method} {c : Code} {G : gE} (hC : gCx p s m args meth c G RX3 cX3_overnight 7 (some .int))  (k0 : Nat) (q0 : Nat) (hk0 : gk k0 = 3) (hq0 : gk q0 = 5)  (σ : gS) (x6 : Int32) (x7 : Int32)  : gT p l e rX3_overnight s m args below meth c G 7 iI σ 47 [(3, .int x6), (5, .int x7)] [] (mX3_overnight_b47 k0 q0 σ x6 x7) := by
  unfold mX3_overnight_b47
  refine g_bipush (pc := 47) (v := (-99)) hC dX3_overnight_47 (by decide) ?_
  refine g_iload (pc := 49) (q := 1) hC dX3_overnight_49 rfl ?_
  refine g_bipush (pc := 51) (v := 99) hC dX3_overnight_51 (by decide) ?_
  refine g_min (pc := 53) hC mth_RX3_56 ⟨Nat.le_of_ble_eq_true rfl, Nat.le_of_ble_eq_true rfl⟩ (Nat.le_of_ble_eq_true rfl) dX3_overnight_53 ?_
  refine g_max (pc := 56) hC mth_RX3_62 ⟨Nat.le_of_ble_eq_true rfl, Nat.le_of_ble_eq_true rfl⟩ (Nat.le_of_ble_eq_true rfl) dX3_overnight_56 ?_
  refine g_istore (pc := 59) (lv' := fun v8 => [(6, .int v8), (3, .int x6), (5, .int x7)]) hC dX3_overnight_59 (by decide) (fun _ => rfl) (fun v8 => ?_)
  refine g_iconst (pc := 61) (v := 0) hC dX3_overnight_61 (by decide) ?_
  refine g_iload_n (pc := 62) (q := 1) hC dX3_overnight_62 rfl rfl ?_
  refine g_iload (pc := 63) (q := 0) hC dX3_overnight_63 rfl ?_
  refine g_iadd (pc := 65) hC dX3_overnight_65 ?_
  refine g_sipush (pc := 66) (v := 999) hC dX3_overnight_66 (by decide) ?_
  refine g_min (pc := 69) hC mth_RX3_56 ⟨Nat.le_of_ble_eq_true rfl, Nat.le_of_ble_eq_true rfl⟩ (Nat.le_of_ble_eq_true rfl) dX3_overnight_69 ?_
  refine g_max (pc := 72) hC mth_RX3_62 ⟨Nat.le_of_ble_eq_true rfl, Nat.le_of_ble_eq_true rfl⟩ (Nat.le_of_ble_eq_true rfl) dX3_overnight_72 ?_
  exact g_iret (pc := 75) hC dX3_overnight_75
def mX3_overnight_b20  (k0 : Nat) (q0 : Nat)  (σ : gS) (x9 : Int32) (x10 : Int32) : Option (Int32 × gS) := gLet (x10 - ((σ.1 q0 3) / 2)) (fun v11 => (mX3_overnight_b47 k0 q0 σ x9 v11))
set_option maxHeartbeats 4000000 in
set_option maxRecDepth 100000 in
theorem wX3_overnight_b20 {p : Program} {l : Launch} {e : Env} {s : State} {m : MethodId} {args : Array Value} {below : List Frame} {meth : Method} {c : Code} {G : gE} (hC : gCx p s m args meth c G RX3 cX3_overnight 7 (some .int))  (k0 : Nat) (q0 : Nat) (hk0 : gk k0 = 3) (hq0 : gk q0 = 5)  (σ : gS) (x9 : Int32) (x10 : Int32)  : gT p l e rX3_overnight s m args below meth c G 7 iI σ 20 [(1, .ref (G.2.1 q0)), (3, .int x9)] [.int x10] (mX3_overnight_b20 k0 q0 σ x9 x10) := by
  unfold mX3_overnight_b20
  refine g_aload_n (pc := 20) (q := 0) hC dX3_overnight_20 rfl rfl ?_
  refine g_get (pc := 21) (v := .int (σ.1 q0 3)) hC kX5 hq0 3 (by decide) fl_RX3_45 rfl dX3_overnight_21 ?_
  refine g_iconst (pc := 24) (v := 2) hC dX3_overnight_24 (by decide) ?_
  refine g_idivL (pc := 25) hC dX3_overnight_25 (by decide) ?_
  refine g_isub (pc := 26) hC dX3_overnight_26 ?_
  refine g_istore (pc := 27) (lv' := fun v11 => [(5, .int v11), (1, .ref (G.2.1 q0)), (3, .int x9)]) hC dX3_overnight_27 (by decide) (fun _ => rfl) (fun v11 => ?_)
  refine g_goto (pc := 29) (tgt := 47) hC dX3_overnight_29 (by decide) ?_
  exact gT_sub [2, 0] rfl (wX3_overnight_b47 hC k0 q0 hk0 hq0 σ x9 v11)
def mX3_overnight (σ : gS) (k0 : Nat) (q0 : Nat) (p1 : Int32) (p2 : Int32) (p3 : Int32) : Option (Int32 × gS) := if gk k0 = 3 then (if gk q0 = 5 then (if (σ.1 k0 2) = 0 then (if p3 = 0 then ((mX3_overnight_b20 k0 q0 σ p2 (σ.1 q0 2))) else ((mX3_overnight_b20 k0 q0 σ p2 0))) else (gBind (mX3_tellNames σ k0 q0 p1 p2 p3) (fun r1 s2 => gBind (mX3_workOut s2 k0) (fun r3 s4 => gLet r3 (fun v5 => (mX3_overnight_b47 k0 q0 s4 p2 v5)))))) else none) else none
set_option maxHeartbeats 4000000 in
set_option maxRecDepth 100000 in
theorem tX3_overnight (l : Launch) (G : gE) (σ : gS) (k0 : Nat) (q0 : Nat) (p1 : Int32) (p2 : Int32) (p3 : Int32) : gM l G yX3_overnight cX3_overnight 7 (some .int) rX3_overnight iI [.ref (G.2.1 k0), .ref (G.2.1 q0), .int p1, .int p2, .int p3] σ (mX3_overnight σ k0 q0 p1 p2 p3) := by
  refine gM_of (by decide) (Nat.le_of_ble_eq_true rfl) ?_
  intro p e s m args below meth c hC
  unfold mX3_overnight
  refine gT_if (fun hk0 => ?_) (fun _ => gT_none)
  refine gT_if (fun hq0 => ?_) (fun _ => gT_none)
  show gT p l e rX3_overnight s m args below meth c G 7 iI σ 0 [(0, .ref (G.2.1 k0)), (1, .ref (G.2.1 q0)), (2, .int p1), (3, .int p2), (4, .int p3)] [] _
  refine g_aload_n (pc := 0) (q := 0) hC dX3_overnight_0 rfl rfl ?_
  refine g_get (pc := 1) (v := .int (σ.1 k0 2)) hC kX3 hk0 2 (by decide) fl_RX3_18 rfl dX3_overnight_1 ?_
  refine g_if_ne (pc := 4) (tgt := 32) hC dX3_overnight_4 (by decide) ?_ ?_
  · refine g_aload_n (pc := 32) (q := 0) hC dX3_overnight_32 rfl rfl ?_
    refine g_aload_n (pc := 33) (q := 1) hC dX3_overnight_33 rfl rfl ?_
    refine g_iload_n (pc := 34) (q := 2) hC dX3_overnight_34 rfl rfl ?_
    refine g_iload_n (pc := 35) (q := 3) hC dX3_overnight_35 rfl rfl ?_
    refine g_iload (pc := 36) (q := 4) hC dX3_overnight_36 rfl ?_
    refine g_callVv (pc := 38) (As := [.ref (G.2.1 q0), .int p1, .int p2, .int p3]) (rest := []) hC lk_RX3_48 kX3 hk0 (tX3_tellNames _ _ σ k0 q0 p1 p2 p3) rfl rfl (Nat.le_of_ble_eq_true rfl) ⟨rfl, rfl, Nat.le_of_ble_eq_true rfl, Nat.le_of_ble_eq_true rfl⟩ dX3_overnight_38 (fun r1 s2 => ?_)
    refine g_aload_n (pc := 41) (q := 0) hC dX3_overnight_41 rfl rfl ?_
    refine g_callVi (pc := 42) (As := []) (rest := []) hC lk_RX3_52 kX3 hk0 (tX3_workOut _ _ s2 k0) rfl rfl (Nat.le_of_ble_eq_true rfl) ⟨rfl, rfl, Nat.le_of_ble_eq_true rfl, Nat.le_of_ble_eq_true rfl⟩ dX3_overnight_42 (fun r3 s4 => ?_)
    refine g_istore (pc := 45) (lv' := fun v5 => [(5, .int v5), (0, .ref (G.2.1 k0)), (1, .ref (G.2.1 q0)), (2, .int p1), (3, .int p2), (4, .int p3)]) hC dX3_overnight_45 (by decide) (fun _ => rfl) (fun v5 => ?_)
    exact gT_sub [4, 0] rfl (wX3_overnight_b47 hC k0 q0 hk0 hq0 s4 p2 v5)
  · refine g_iload (pc := 7) (q := 4) hC dX3_overnight_7 rfl ?_
    refine g_if_ne (pc := 9) (tgt := 19) hC dX3_overnight_9 (by decide) ?_ ?_
    · refine g_iconst (pc := 19) (v := 0) hC dX3_overnight_19 (by decide) ?_
      exact gT_sub [1, 3] rfl (wX3_overnight_b20 hC k0 q0 hk0 hq0 σ p2 0)
    · refine g_aload_n (pc := 12) (q := 1) hC dX3_overnight_12 rfl rfl ?_
      refine g_get (pc := 13) (v := .int (σ.1 q0 2)) hC kX5 hq0 2 (by decide) fl_RX3_40 rfl dX3_overnight_13 ?_
      refine g_goto (pc := 16) (tgt := 20) hC dX3_overnight_16 (by decide) ?_
      exact gT_sub [1, 3] rfl (wX3_overnight_b20 hC k0 q0 hk0 hq0 σ p2 (σ.1 q0 2))
theorem dX3_letter_0 : decode cX3_letter 0 = .ok (.aload_n 0, 1) := by decide +kernel
theorem dX3_letter_1 : decode cX3_letter 1 = .ok (.getfield 31, 3) := by decide +kernel
theorem dX3_letter_4 : decode cX3_letter 4 = .ok (.ifnull 33, 3) := by decide +kernel
theorem dX3_letter_7 : decode cX3_letter 7 = .ok (.aload_n 0, 1) := by decide +kernel
theorem dX3_letter_8 : decode cX3_letter 8 = .ok (.getfield 37, 3) := by decide +kernel
theorem dX3_letter_11 : decode cX3_letter 11 = .ok (.ifCond .lt 26, 3) := by decide +kernel
theorem dX3_letter_14 : decode cX3_letter 14 = .ok (.aload_n 0, 1) := by decide +kernel
theorem dX3_letter_15 : decode cX3_letter 15 = .ok (.getfield 37, 3) := by decide +kernel
theorem dX3_letter_18 : decode cX3_letter 18 = .ok (.aload_n 0, 1) := by decide +kernel
theorem dX3_letter_19 : decode cX3_letter 19 = .ok (.getfield 34, 3) := by decide +kernel
theorem dX3_letter_22 : decode cX3_letter 22 = .ok (.if_icmp .ge 15, 3) := by decide +kernel
theorem dX3_letter_25 : decode cX3_letter 25 = .ok (.aload_n 0, 1) := by decide +kernel
theorem dX3_letter_26 : decode cX3_letter 26 = .ok (.getfield 31, 3) := by decide +kernel
theorem dX3_letter_29 : decode cX3_letter 29 = .ok (.aload_n 0, 1) := by decide +kernel
theorem dX3_letter_30 : decode cX3_letter 30 = .ok (.getfield 37, 3) := by decide +kernel
theorem dX3_letter_33 : decode cX3_letter 33 = .ok (.iaload, 1) := by decide +kernel
theorem dX3_letter_34 : decode cX3_letter 34 = .ok (.goto 4, 3) := by decide +kernel
theorem dX3_letter_37 : decode cX3_letter 37 = .ok (.iconst (-1), 1) := by decide +kernel
theorem dX3_letter_38 : decode cX3_letter 38 = .ok (.ireturn, 1) := by decide +kernel
abbrev rX3_letter : Room := { frames := 0, cells := 0, slots := 0, locals := 0 }
def mX3_letter (σ : gS) (k0 : Nat) : Option (Int32 × gS) := if gk k0 = 3 then (gOpt (σ.2.2 k0 6) (some ((-1), σ)) (fun k1 => if gk k1 = 1120 then (if (σ.1 k0 8) < 0 then (some ((-1), σ)) else (if (σ.1 k0 7) ≤ (σ.1 k0 8) then (some ((-1), σ)) else (gOpt (σ.2.2 k0 6) (none) (fun k2 => if gk k2 = 1120 then (if inbB (σ.1 k0 8) 120 = true then (some ((σ.1 k2 (Int32.toNatClampNeg (σ.1 k0 8))), σ)) else none) else none)))) else none)) else none
set_option maxHeartbeats 4000000 in
set_option maxRecDepth 100000 in
theorem tX3_letter (l : Launch) (G : gE) (σ : gS) (k0 : Nat) : gM l G yX3_letter cX3_letter 1 (some .int) rX3_letter iI [.ref (G.2.1 k0)] σ (mX3_letter σ k0) := by
  refine gM_of (by decide) (Nat.le_of_ble_eq_true rfl) ?_
  intro p e s m args below meth c hC
  unfold mX3_letter
  refine gT_if (fun hk0 => ?_) (fun _ => gT_none)
  show gT p l e rX3_letter s m args below meth c G 1 iI σ 0 [(0, .ref (G.2.1 k0))] [] _
  refine g_aload_n (pc := 0) (q := 0) hC dX3_letter_0 rfl rfl ?_
  refine g_get (pc := 1) (v := va_rf ((σ.2.2 k0 6).map G.2.1)) hC kX3 hk0 6 (by decide) fl_RX3_31 rfl dX3_letter_1 ?_
  refine gT_opt ?_ (fun k1 => ?_)
  · refine g_ifnullN (pc := 4) (tgt := 37) hC dX3_letter_4 (by decide) ?_
    refine g_iconst (pc := 37) (v := (-1)) hC dX3_letter_37 (by decide) ?_
    exact g_iret (pc := 38) hC dX3_letter_38
  · refine gT_if (fun hk1 => ?_) (fun _ => gT_none)
    refine g_ifnullR (pc := 4) hC dX3_letter_4 ?_
    refine g_aload_n (pc := 7) (q := 0) hC dX3_letter_7 rfl rfl ?_
    refine g_get (pc := 8) (v := .int (σ.1 k0 8)) hC kX3 hk0 8 (by decide) fl_RX3_37 rfl dX3_letter_8 ?_
    refine g_if_lt (pc := 11) (tgt := 37) hC dX3_letter_11 (by decide) ?_ ?_
    · refine g_iconst (pc := 37) (v := (-1)) hC dX3_letter_37 (by decide) ?_
      exact g_iret (pc := 38) hC dX3_letter_38
    · refine g_aload_n (pc := 14) (q := 0) hC dX3_letter_14 rfl rfl ?_
      refine g_get (pc := 15) (v := .int (σ.1 k0 8)) hC kX3 hk0 8 (by decide) fl_RX3_37 rfl dX3_letter_15 ?_
      refine g_aload_n (pc := 18) (q := 0) hC dX3_letter_18 rfl rfl ?_
      refine g_get (pc := 19) (v := .int (σ.1 k0 7)) hC kX3 hk0 7 (by decide) fl_RX3_34 rfl dX3_letter_19 ?_
      refine g_icmp_ge (pc := 22) (tgt := 37) hC dX3_letter_22 (by decide) ?_ ?_
      · refine g_iconst (pc := 37) (v := (-1)) hC dX3_letter_37 (by decide) ?_
        exact g_iret (pc := 38) hC dX3_letter_38
      · refine g_aload_n (pc := 25) (q := 0) hC dX3_letter_25 rfl rfl ?_
        refine g_get (pc := 26) (v := va_rf ((σ.2.2 k0 6).map G.2.1)) hC kX3 hk0 6 (by decide) fl_RX3_31 rfl dX3_letter_26 ?_
        refine gT_opt ?_ (fun k2 => ?_)
        · refine g_aload_n (pc := 29) (q := 0) hC dX3_letter_29 rfl rfl ?_
          refine g_get (pc := 30) (v := .int (σ.1 k0 8)) hC kX3 hk0 8 (by decide) fl_RX3_37 rfl dX3_letter_30 ?_
          exact gT_none
        · refine gT_if (fun hk2 => ?_) (fun _ => gT_none)
          refine g_aload_n (pc := 29) (q := 0) hC dX3_letter_29 rfl rfl ?_
          refine g_get (pc := 30) (v := .int (σ.1 k0 8)) hC kX3 hk0 8 (by decide) fl_RX3_37 rfl dX3_letter_30 ?_
          refine g_iald (pc := 33) hC 120 hk2 (by decide) dX3_letter_33 ?_
          refine g_goto (pc := 34) (tgt := 38) hC dX3_letter_34 (by decide) ?_
          exact g_iret (pc := 38) hC dX3_letter_38
theorem dX3_isDigit_0 : decode cX3_isDigit 0 = .ok (.iload_n 0, 1) := by decide +kernel
theorem dX3_isDigit_1 : decode cX3_isDigit 1 = .ok (.bipush 48, 2) := by decide +kernel
theorem dX3_isDigit_3 : decode cX3_isDigit 3 = .ok (.if_icmp .lt 13, 3) := by decide +kernel
theorem dX3_isDigit_6 : decode cX3_isDigit 6 = .ok (.iload_n 0, 1) := by decide +kernel
theorem dX3_isDigit_7 : decode cX3_isDigit 7 = .ok (.bipush 57, 2) := by decide +kernel
theorem dX3_isDigit_9 : decode cX3_isDigit 9 = .ok (.if_icmp .gt 7, 3) := by decide +kernel
theorem dX3_isDigit_12 : decode cX3_isDigit 12 = .ok (.iconst 1, 1) := by decide +kernel
theorem dX3_isDigit_13 : decode cX3_isDigit 13 = .ok (.goto 4, 3) := by decide +kernel
theorem dX3_isDigit_16 : decode cX3_isDigit 16 = .ok (.iconst 0, 1) := by decide +kernel
theorem dX3_isDigit_17 : decode cX3_isDigit 17 = .ok (.ireturn, 1) := by decide +kernel
abbrev rX3_isDigit : Room := { frames := 0, cells := 0, slots := 0, locals := 0 }
def mX3_isDigit (σ : gS) (p0 : Int32) : Option (Bool × gS) := if p0 < 48 then (some (false, σ)) else (if 57 < p0 then (some (false, σ)) else (some (true, σ)))
set_option maxHeartbeats 4000000 in
set_option maxRecDepth 100000 in
theorem tX3_isDigit (l : Launch) (G : gE) (σ : gS) (p0 : Int32) : gM l G yX3_isDigit cX3_isDigit 1 (some .boolean) rX3_isDigit iZ [.int p0] σ (mX3_isDigit σ p0) := by
  refine gM_of (by decide) (Nat.le_of_ble_eq_true rfl) ?_
  intro p e s m args below meth c hC
  unfold mX3_isDigit
  show gT p l e rX3_isDigit s m args below meth c G 1 iZ σ 0 [(0, .int p0)] [] _
  refine g_iload_n (pc := 0) (q := 0) hC dX3_isDigit_0 rfl rfl ?_
  refine g_bipush (pc := 1) (v := 48) hC dX3_isDigit_1 (by decide) ?_
  refine g_icmp_lt (pc := 3) (tgt := 16) hC dX3_isDigit_3 (by decide) ?_ ?_
  · refine g_iconst (pc := 16) (v := 0) hC dX3_isDigit_16 (by decide) ?_
    exact g_zret0 (pc := 17) hC dX3_isDigit_17
  · refine g_iload_n (pc := 6) (q := 0) hC dX3_isDigit_6 rfl rfl ?_
    refine g_bipush (pc := 7) (v := 57) hC dX3_isDigit_7 (by decide) ?_
    refine g_icmp_gt (pc := 9) (tgt := 16) hC dX3_isDigit_9 (by decide) ?_ ?_
    · refine g_iconst (pc := 16) (v := 0) hC dX3_isDigit_16 (by decide) ?_
      exact g_zret0 (pc := 17) hC dX3_isDigit_17
    · refine g_iconst (pc := 12) (v := 1) hC dX3_isDigit_12 (by decide) ?_
      refine g_goto (pc := 13) (tgt := 17) hC dX3_isDigit_13 (by decide) ?_
      exact g_zret1 (pc := 17) hC dX3_isDigit_17
theorem lk_RX3_105 : gLV RX3 105 RX3 yX3_letter cX3_letter 1 (some .int) 0 := ⟨(gBig_tab 500 (by decide +kernel) (by decide +kernel)), (gBig_tab 502 (by decide +kernel) (by decide +kernel)), (gBig_sel 10 (by decide +kernel) (by decide +kernel)), (gBig_tab 6 (by decide +kernel) (by decide +kernel)), (gBig_tab 503 (by decide +kernel) (by decide +kernel)), rfl, by decide +kernel, by decide +kernel, by decide +kernel⟩
theorem dX3_skip_0 : decode cX3_skip 0 = .ok (.aload_n 0, 1) := by decide +kernel
theorem dX3_skip_1 : decode cX3_skip 1 = .ok (.invokevirtual 105, 3) := by decide +kernel
theorem dX3_skip_4 : decode cX3_skip 4 = .ok (.iload_n 1, 1) := by decide +kernel
theorem dX3_skip_5 : decode cX3_skip 5 = .ok (.if_icmp .eq 5, 3) := by decide +kernel
theorem dX3_skip_8 : decode cX3_skip 8 = .ok (.iconst 0, 1) := by decide +kernel
theorem dX3_skip_9 : decode cX3_skip 9 = .ok (.ireturn, 1) := by decide +kernel
theorem dX3_skip_10 : decode cX3_skip 10 = .ok (.aload_n 0, 1) := by decide +kernel
theorem dX3_skip_11 : decode cX3_skip 11 = .ok (.dup, 1) := by decide +kernel
theorem dX3_skip_12 : decode cX3_skip 12 = .ok (.getfield 37, 3) := by decide +kernel
theorem dX3_skip_15 : decode cX3_skip 15 = .ok (.iconst 1, 1) := by decide +kernel
theorem dX3_skip_16 : decode cX3_skip 16 = .ok (.iadd, 1) := by decide +kernel
theorem dX3_skip_17 : decode cX3_skip 17 = .ok (.putfield 37, 3) := by decide +kernel
theorem dX3_skip_20 : decode cX3_skip 20 = .ok (.iconst 1, 1) := by decide +kernel
theorem dX3_skip_21 : decode cX3_skip 21 = .ok (.ireturn, 1) := by decide +kernel
abbrev rX3_skip : Room := { frames := 1, cells := 0, slots := 0, locals := 20 }
def mX3_skip (σ : gS) (k0 : Nat) (p0 : Int32) : Option (Bool × gS) := if gk k0 = 3 then (gBind (mX3_letter σ k0) (fun r1 s2 => if r1 = p0 then (gLet (gUI s2 k0 8 ((s2.1 k0 8) + 1)) (fun s3 => some (true, s3))) else (some (false, s2)))) else none
set_option maxHeartbeats 4000000 in
set_option maxRecDepth 100000 in
theorem tX3_skip (l : Launch) (G : gE) (σ : gS) (k0 : Nat) (p0 : Int32) : gM l G yX3_skip cX3_skip 2 (some .boolean) rX3_skip iZ [.ref (G.2.1 k0), .int p0] σ (mX3_skip σ k0 p0) := by
  refine gM_of (by decide) (Nat.le_of_ble_eq_true rfl) ?_
  intro p e s m args below meth c hC
  unfold mX3_skip
  refine gT_if (fun hk0 => ?_) (fun _ => gT_none)
  show gT p l e rX3_skip s m args below meth c G 2 iZ σ 0 [(0, .ref (G.2.1 k0)), (1, .int p0)] [] _
  refine g_aload_n (pc := 0) (q := 0) hC dX3_skip_0 rfl rfl ?_
  refine g_callVi (pc := 1) (As := []) (rest := []) hC lk_RX3_105 kX3 hk0 (tX3_letter _ _ σ k0) rfl rfl (Nat.le_of_ble_eq_true rfl) ⟨rfl, rfl, Nat.le_of_ble_eq_true rfl, Nat.le_of_ble_eq_true rfl⟩ dX3_skip_1 (fun r1 s2 => ?_)
  refine g_iload_n (pc := 4) (q := 1) hC dX3_skip_4 rfl rfl ?_
  refine g_icmp_eq (pc := 5) (tgt := 10) hC dX3_skip_5 (by decide) ?_ ?_
  · refine g_aload_n (pc := 10) (q := 0) hC dX3_skip_10 rfl rfl ?_
    refine g_dup (pc := 11) hC dX3_skip_11 rfl ?_
    refine g_get (pc := 12) (v := .int (s2.1 k0 8)) hC kX3 hk0 8 (by decide) fl_RX3_37 rfl dX3_skip_12 ?_
    refine g_iconst (pc := 15) (v := 1) hC dX3_skip_15 (by decide) ?_
    refine g_iadd (pc := 16) hC dX3_skip_16 ?_
    refine g_puti (pc := 17) (fty := .int) hC kX3 hk0 8 (by decide) fl_RX3_37 rfl rfl rfl rfl (fun _ _ => Nat.le_of_ble_eq_true rfl) (fun _ _ => rfl) dX3_skip_17 (fun s3 => ?_)
    refine g_iconst (pc := 20) (v := 1) hC dX3_skip_20 (by decide) ?_
    exact g_zret1 (pc := 21) hC dX3_skip_21
  · refine g_iconst (pc := 8) (v := 0) hC dX3_skip_8 (by decide) ?_
    exact g_zret0 (pc := 9) hC dX3_skip_9
theorem dX3_addStep_0 : decode cX3_addStep 0 = .ok (.aload_n 0, 1) := by decide +kernel
theorem dX3_addStep_1 : decode cX3_addStep 1 = .ok (.getfield 18, 3) := by decide +kernel
theorem dX3_addStep_4 : decode cX3_addStep 4 = .ok (.aload_n 0, 1) := by decide +kernel
theorem dX3_addStep_5 : decode cX3_addStep 5 = .ok (.getfield 11, 3) := by decide +kernel
theorem dX3_addStep_8 : decode cX3_addStep 8 = .ok (.arraylength, 1) := by decide +kernel
theorem dX3_addStep_9 : decode cX3_addStep 9 = .ok (.if_icmp .ge 33, 3) := by decide +kernel
theorem dX3_addStep_12 : decode cX3_addStep 12 = .ok (.aload_n 0, 1) := by decide +kernel
theorem dX3_addStep_13 : decode cX3_addStep 13 = .ok (.getfield 11, 3) := by decide +kernel
theorem dX3_addStep_16 : decode cX3_addStep 16 = .ok (.aload_n 0, 1) := by decide +kernel
theorem dX3_addStep_17 : decode cX3_addStep 17 = .ok (.getfield 18, 3) := by decide +kernel
theorem dX3_addStep_20 : decode cX3_addStep 20 = .ok (.iload_n 1, 1) := by decide +kernel
theorem dX3_addStep_21 : decode cX3_addStep 21 = .ok (.iastore, 1) := by decide +kernel
theorem dX3_addStep_22 : decode cX3_addStep 22 = .ok (.aload_n 0, 1) := by decide +kernel
theorem dX3_addStep_23 : decode cX3_addStep 23 = .ok (.getfield 15, 3) := by decide +kernel
theorem dX3_addStep_26 : decode cX3_addStep 26 = .ok (.aload_n 0, 1) := by decide +kernel
theorem dX3_addStep_27 : decode cX3_addStep 27 = .ok (.getfield 18, 3) := by decide +kernel
theorem dX3_addStep_30 : decode cX3_addStep 30 = .ok (.iload_n 2, 1) := by decide +kernel
theorem dX3_addStep_31 : decode cX3_addStep 31 = .ok (.iastore, 1) := by decide +kernel
theorem dX3_addStep_32 : decode cX3_addStep 32 = .ok (.aload_n 0, 1) := by decide +kernel
theorem dX3_addStep_33 : decode cX3_addStep 33 = .ok (.dup, 1) := by decide +kernel
theorem dX3_addStep_34 : decode cX3_addStep 34 = .ok (.getfield 18, 3) := by decide +kernel
theorem dX3_addStep_37 : decode cX3_addStep 37 = .ok (.iconst 1, 1) := by decide +kernel
theorem dX3_addStep_38 : decode cX3_addStep 38 = .ok (.iadd, 1) := by decide +kernel
theorem dX3_addStep_39 : decode cX3_addStep 39 = .ok (.putfield 18, 3) := by decide +kernel
theorem dX3_addStep_42 : decode cX3_addStep 42 = .ok (.return_, 1) := by decide +kernel
abbrev rX3_addStep : Room := { frames := 0, cells := 0, slots := 0, locals := 0 }
def mX3_addStep (σ : gS) (k0 : Nat) (p0 : Int32) (p1 : Int32) : Option (Unit × gS) := if gk k0 = 3 then (if 121 ≤ (σ.1 k0 2) then (some ((), σ)) else (if inbB (σ.1 k0 2) 121 = true then gLet (gUI σ (k0 + 1) (Int32.toNatClampNeg (σ.1 k0 2)) p0) (fun s1 => if inbB (s1.1 k0 2) 121 = true then gLet (gUI s1 (k0 + 2) (Int32.toNatClampNeg (s1.1 k0 2)) p1) (fun s2 => gLet (gUI s2 k0 2 ((s2.1 k0 2) + 1)) (fun s3 => some ((), s3))) else none) else none)) else none
set_option maxHeartbeats 4000000 in
set_option maxRecDepth 100000 in
theorem tX3_addStep (l : Launch) (G : gE) (σ : gS) (k0 : Nat) (p0 : Int32) (p1 : Int32) : gM l G yX3_addStep cX3_addStep 3 (none) rX3_addStep iV [.ref (G.2.1 k0), .int p0, .int p1] σ (mX3_addStep σ k0 p0 p1) := by
  refine gM_of (by decide) (Nat.le_of_ble_eq_true rfl) ?_
  intro p e s m args below meth c hC
  unfold mX3_addStep
  refine gT_if (fun hk0 => ?_) (fun _ => gT_none)
  show gT p l e rX3_addStep s m args below meth c G 3 iV σ 0 [(0, .ref (G.2.1 k0)), (1, .int p0), (2, .int p1)] [] _
  refine g_aload_n (pc := 0) (q := 0) hC dX3_addStep_0 rfl rfl ?_
  refine g_get (pc := 1) (v := .int (σ.1 k0 2)) hC kX3 hk0 2 (by decide) fl_RX3_18 rfl dX3_addStep_1 ?_
  refine g_aload_n (pc := 4) (q := 0) hC dX3_addStep_4 rfl rfl ?_
  refine g_get (pc := 5) (v := .ref (G.2.1 (k0 + 1))) hC kX3 hk0 0 (by decide) fl_RX3_11 rfl dX3_addStep_5 ?_
  refine g_alen (pc := 8) (v := 121) hC 121 (ck_3_1 hk0) (by decide) (by decide) dX3_addStep_8 ?_
  refine g_icmp_ge (pc := 9) (tgt := 42) hC dX3_addStep_9 (by decide) ?_ ?_
  · exact g_vret (pc := 42) hC dX3_addStep_42
  · refine g_aload_n (pc := 12) (q := 0) hC dX3_addStep_12 rfl rfl ?_
    refine g_get (pc := 13) (v := .ref (G.2.1 (k0 + 1))) hC kX3 hk0 0 (by decide) fl_RX3_11 rfl dX3_addStep_13 ?_
    refine g_aload_n (pc := 16) (q := 0) hC dX3_addStep_16 rfl rfl ?_
    refine g_get (pc := 17) (v := .int (σ.1 k0 2)) hC kX3 hk0 2 (by decide) fl_RX3_18 rfl dX3_addStep_17 ?_
    refine g_iload_n (pc := 20) (q := 1) hC dX3_addStep_20 rfl rfl ?_
    refine g_iast (pc := 21) hC 121 (ck_3_1 hk0) (by decide) dX3_addStep_21 (fun s1 => ?_)
    refine g_aload_n (pc := 22) (q := 0) hC dX3_addStep_22 rfl rfl ?_
    refine g_get (pc := 23) (v := .ref (G.2.1 (k0 + 2))) hC kX3 hk0 1 (by decide) fl_RX3_15 rfl dX3_addStep_23 ?_
    refine g_aload_n (pc := 26) (q := 0) hC dX3_addStep_26 rfl rfl ?_
    refine g_get (pc := 27) (v := .int (s1.1 k0 2)) hC kX3 hk0 2 (by decide) fl_RX3_18 rfl dX3_addStep_27 ?_
    refine g_iload_n (pc := 30) (q := 2) hC dX3_addStep_30 rfl rfl ?_
    refine g_iast (pc := 31) hC 121 (ck_3_2 hk0) (by decide) dX3_addStep_31 (fun s2 => ?_)
    refine g_aload_n (pc := 32) (q := 0) hC dX3_addStep_32 rfl rfl ?_
    refine g_dup (pc := 33) hC dX3_addStep_33 rfl ?_
    refine g_get (pc := 34) (v := .int (s2.1 k0 2)) hC kX3 hk0 2 (by decide) fl_RX3_18 rfl dX3_addStep_34 ?_
    refine g_iconst (pc := 37) (v := 1) hC dX3_addStep_37 (by decide) ?_
    refine g_iadd (pc := 38) hC dX3_addStep_38 ?_
    refine g_puti (pc := 39) (fty := .int) hC kX3 hk0 2 (by decide) fl_RX3_18 rfl rfl rfl rfl (fun _ _ => Nat.le_of_ble_eq_true rfl) (fun _ _ => rfl) dX3_addStep_39 (fun s3 => ?_)
    exact g_vret (pc := 42) hC dX3_addStep_42
theorem dX3_joins_0 : decode cX3_joins 0 = .ok (.iload_n 0, 1) := by decide +kernel
theorem dX3_joins_1 : decode cX3_joins 1 = .ok (.tableswitch 125 0 4 #[35, 47, 59, 83, 101], 35) := by decide +kernel
theorem dX3_joins_36 : decode cX3_joins 36 = .ok (.iload_n 1, 1) := by decide +kernel
theorem dX3_joins_37 : decode cX3_joins 37 = .ok (.bipush 124, 2) := by decide +kernel
theorem dX3_joins_39 : decode cX3_joins 39 = .ok (.if_icmp .ne 7, 3) := by decide +kernel
theorem dX3_joins_42 : decode cX3_joins 42 = .ok (.iconst 1, 1) := by decide +kernel
theorem dX3_joins_43 : decode cX3_joins 43 = .ok (.goto 4, 3) := by decide +kernel
theorem dX3_joins_46 : decode cX3_joins 46 = .ok (.iconst 0, 1) := by decide +kernel
theorem dX3_joins_47 : decode cX3_joins 47 = .ok (.ireturn, 1) := by decide +kernel
theorem dX3_joins_48 : decode cX3_joins 48 = .ok (.iload_n 1, 1) := by decide +kernel
theorem dX3_joins_49 : decode cX3_joins 49 = .ok (.bipush 38, 2) := by decide +kernel
theorem dX3_joins_51 : decode cX3_joins 51 = .ok (.if_icmp .ne 7, 3) := by decide +kernel
theorem dX3_joins_54 : decode cX3_joins 54 = .ok (.iconst 1, 1) := by decide +kernel
theorem dX3_joins_55 : decode cX3_joins 55 = .ok (.goto 4, 3) := by decide +kernel
theorem dX3_joins_58 : decode cX3_joins 58 = .ok (.iconst 0, 1) := by decide +kernel
theorem dX3_joins_59 : decode cX3_joins 59 = .ok (.ireturn, 1) := by decide +kernel
theorem dX3_joins_60 : decode cX3_joins 60 = .ok (.iload_n 1, 1) := by decide +kernel
theorem dX3_joins_61 : decode cX3_joins 61 = .ok (.bipush 60, 2) := by decide +kernel
theorem dX3_joins_63 : decode cX3_joins 63 = .ok (.if_icmp .eq 15, 3) := by decide +kernel
theorem dX3_joins_66 : decode cX3_joins 66 = .ok (.iload_n 1, 1) := by decide +kernel
theorem dX3_joins_67 : decode cX3_joins 67 = .ok (.bipush 61, 2) := by decide +kernel
theorem dX3_joins_69 : decode cX3_joins 69 = .ok (.if_icmp .eq 9, 3) := by decide +kernel
theorem dX3_joins_72 : decode cX3_joins 72 = .ok (.iload_n 1, 1) := by decide +kernel
theorem dX3_joins_73 : decode cX3_joins 73 = .ok (.bipush 62, 2) := by decide +kernel
theorem dX3_joins_75 : decode cX3_joins 75 = .ok (.if_icmp .ne 7, 3) := by decide +kernel
theorem dX3_joins_78 : decode cX3_joins 78 = .ok (.iconst 1, 1) := by decide +kernel
theorem dX3_joins_79 : decode cX3_joins 79 = .ok (.goto 4, 3) := by decide +kernel
theorem dX3_joins_82 : decode cX3_joins 82 = .ok (.iconst 0, 1) := by decide +kernel
theorem dX3_joins_83 : decode cX3_joins 83 = .ok (.ireturn, 1) := by decide +kernel
theorem dX3_joins_84 : decode cX3_joins 84 = .ok (.iload_n 1, 1) := by decide +kernel
theorem dX3_joins_85 : decode cX3_joins 85 = .ok (.bipush 43, 2) := by decide +kernel
theorem dX3_joins_87 : decode cX3_joins 87 = .ok (.if_icmp .eq 9, 3) := by decide +kernel
theorem dX3_joins_90 : decode cX3_joins 90 = .ok (.iload_n 1, 1) := by decide +kernel
theorem dX3_joins_91 : decode cX3_joins 91 = .ok (.bipush 45, 2) := by decide +kernel
theorem dX3_joins_93 : decode cX3_joins 93 = .ok (.if_icmp .ne 7, 3) := by decide +kernel
theorem dX3_joins_96 : decode cX3_joins 96 = .ok (.iconst 1, 1) := by decide +kernel
theorem dX3_joins_97 : decode cX3_joins 97 = .ok (.goto 4, 3) := by decide +kernel
theorem dX3_joins_100 : decode cX3_joins 100 = .ok (.iconst 0, 1) := by decide +kernel
theorem dX3_joins_101 : decode cX3_joins 101 = .ok (.ireturn, 1) := by decide +kernel
theorem dX3_joins_102 : decode cX3_joins 102 = .ok (.iload_n 1, 1) := by decide +kernel
theorem dX3_joins_103 : decode cX3_joins 103 = .ok (.bipush 42, 2) := by decide +kernel
theorem dX3_joins_105 : decode cX3_joins 105 = .ok (.if_icmp .eq 15, 3) := by decide +kernel
theorem dX3_joins_108 : decode cX3_joins 108 = .ok (.iload_n 1, 1) := by decide +kernel
theorem dX3_joins_109 : decode cX3_joins 109 = .ok (.bipush 47, 2) := by decide +kernel
theorem dX3_joins_111 : decode cX3_joins 111 = .ok (.if_icmp .eq 9, 3) := by decide +kernel
theorem dX3_joins_114 : decode cX3_joins 114 = .ok (.iload_n 1, 1) := by decide +kernel
theorem dX3_joins_115 : decode cX3_joins 115 = .ok (.bipush 37, 2) := by decide +kernel
theorem dX3_joins_117 : decode cX3_joins 117 = .ok (.if_icmp .ne 7, 3) := by decide +kernel
theorem dX3_joins_120 : decode cX3_joins 120 = .ok (.iconst 1, 1) := by decide +kernel
theorem dX3_joins_121 : decode cX3_joins 121 = .ok (.goto 4, 3) := by decide +kernel
theorem dX3_joins_124 : decode cX3_joins 124 = .ok (.iconst 0, 1) := by decide +kernel
theorem dX3_joins_125 : decode cX3_joins 125 = .ok (.ireturn, 1) := by decide +kernel
theorem dX3_joins_126 : decode cX3_joins 126 = .ok (.iconst 0, 1) := by decide +kernel
theorem dX3_joins_127 : decode cX3_joins 127 = .ok (.ireturn, 1) := by decide +kernel
abbrev rX3_joins : Room := { frames := 0, cells := 0, slots := 0, locals := 0 }
def mX3_joins_b78    (σ : gS)  : Option (Bool × gS) := some (true, σ)
set_option maxHeartbeats 4000000 in
set_option maxRecDepth 100000 in
theorem wX3_joins_b78 {p : Program} {l : Launch} {e : Env} {s : State} {m : MethodId} {args : Array Value} {below : List Frame} {meth : Method} {c : Code} {G : gE} (hC : gCx p s m args meth c G RX3 cX3_joins 2 (some .boolean))     (σ : gS)   : gT p l e rX3_joins s m args below meth c G 2 iZ σ 78 [] [] (mX3_joins_b78  σ ) := by
  unfold mX3_joins_b78
  refine g_iconst (pc := 78) (v := 1) hC dX3_joins_78 (by decide) ?_
  refine g_goto (pc := 79) (tgt := 83) hC dX3_joins_79 (by decide) ?_
  exact g_zret1 (pc := 83) hC dX3_joins_83
def mX3_joins_b96    (σ : gS)  : Option (Bool × gS) := some (true, σ)
set_option maxHeartbeats 4000000 in
set_option maxRecDepth 100000 in
theorem wX3_joins_b96 {p : Program} {l : Launch} {e : Env} {s : State} {m : MethodId} {args : Array Value} {below : List Frame} {meth : Method} {c : Code} {G : gE} (hC : gCx p s m args meth c G RX3 cX3_joins 2 (some .boolean))     (σ : gS)   : gT p l e rX3_joins s m args below meth c G 2 iZ σ 96 [] [] (mX3_joins_b96  σ ) := by
  unfold mX3_joins_b96
  refine g_iconst (pc := 96) (v := 1) hC dX3_joins_96 (by decide) ?_
  refine g_goto (pc := 97) (tgt := 101) hC dX3_joins_97 (by decide) ?_
  exact g_zret1 (pc := 101) hC dX3_joins_101
def mX3_joins_b120    (σ : gS)  : Option (Bool × gS) := some (true, σ)
set_option maxHeartbeats 4000000 in
set_option maxRecDepth 100000 in
theorem wX3_joins_b120 {p : Program} {l : Launch} {e : Env} {s : State} {m : MethodId} {args : Array Value} {below : List Frame} {meth : Method} {c : Code} {G : gE} (hC : gCx p s m args meth c G RX3 cX3_joins 2 (some .boolean))     (σ : gS)   : gT p l e rX3_joins s m args below meth c G 2 iZ σ 120 [] [] (mX3_joins_b120  σ ) := by
  unfold mX3_joins_b120
  refine g_iconst (pc := 120) (v := 1) hC dX3_joins_120 (by decide) ?_
  refine g_goto (pc := 121) (tgt := 125) hC dX3_joins_121 (by decide) ?_
  exact g_zret1 (pc := 125) hC dX3_joins_125
def mX3_joins (σ : gS) (p0 : Int32) (p1 : Int32) : Option (Bool × gS) := if p0 = 0 then (if p1 = 124 then (some (true, σ)) else (some (false, σ))) else (if p0 = 1 then (if p1 = 38 then (some (true, σ)) else (some (false, σ))) else (if p0 = 2 then (if p1 = 60 then ((mX3_joins_b78  σ )) else (if p1 = 61 then ((mX3_joins_b78  σ )) else (if p1 = 62 then ((mX3_joins_b78  σ )) else (some (false, σ))))) else (if p0 = 3 then (if p1 = 43 then ((mX3_joins_b96  σ )) else (if p1 = 45 then ((mX3_joins_b96  σ )) else (some (false, σ)))) else (if p0 = 4 then (if p1 = 42 then ((mX3_joins_b120  σ )) else (if p1 = 47 then ((mX3_joins_b120  σ )) else (if p1 = 37 then ((mX3_joins_b120  σ )) else (some (false, σ))))) else (some (false, σ))))))
set_option maxHeartbeats 4000000 in
set_option maxRecDepth 100000 in
theorem tX3_joins (l : Launch) (G : gE) (σ : gS) (p0 : Int32) (p1 : Int32) : gM l G yX3_joins cX3_joins 2 (some .boolean) rX3_joins iZ [.int p0, .int p1] σ (mX3_joins σ p0 p1) := by
  refine gM_of (by decide) (Nat.le_of_ble_eq_true rfl) ?_
  intro p e s m args below meth c hC
  unfold mX3_joins
  show gT p l e rX3_joins s m args below meth c G 2 iZ σ 0 [(0, .int p0), (1, .int p1)] [] _
  refine g_iload_n (pc := 0) (q := 0) hC dX3_joins_0 rfl rfl ?_
  refine gT_if (fun c100 => ?_) (fun c100 => ?_)
  · refine g_tabIn (tgt := 36) (off := 35) hC dX3_joins_1 c100 (by decide) (by decide) (by decide) (by decide) ?_
    refine g_iload_n (pc := 36) (q := 1) hC dX3_joins_36 rfl rfl ?_
    refine g_bipush (pc := 37) (v := 124) hC dX3_joins_37 (by decide) ?_
    refine g_icmp_ne (pc := 39) (tgt := 46) hC dX3_joins_39 (by decide) ?_ ?_
    · refine g_iconst (pc := 46) (v := 0) hC dX3_joins_46 (by decide) ?_
      exact g_zret0 (pc := 47) hC dX3_joins_47
    · refine g_iconst (pc := 42) (v := 1) hC dX3_joins_42 (by decide) ?_
      refine g_goto (pc := 43) (tgt := 47) hC dX3_joins_43 (by decide) ?_
      exact g_zret1 (pc := 47) hC dX3_joins_47
  · refine gT_if (fun c101 => ?_) (fun c101 => ?_)
    · refine g_tabIn (tgt := 48) (off := 47) hC dX3_joins_1 c101 (by decide) (by decide) (by decide) (by decide) ?_
      refine g_iload_n (pc := 48) (q := 1) hC dX3_joins_48 rfl rfl ?_
      refine g_bipush (pc := 49) (v := 38) hC dX3_joins_49 (by decide) ?_
      refine g_icmp_ne (pc := 51) (tgt := 58) hC dX3_joins_51 (by decide) ?_ ?_
      · refine g_iconst (pc := 58) (v := 0) hC dX3_joins_58 (by decide) ?_
        exact g_zret0 (pc := 59) hC dX3_joins_59
      · refine g_iconst (pc := 54) (v := 1) hC dX3_joins_54 (by decide) ?_
        refine g_goto (pc := 55) (tgt := 59) hC dX3_joins_55 (by decide) ?_
        exact g_zret1 (pc := 59) hC dX3_joins_59
    · refine gT_if (fun c102 => ?_) (fun c102 => ?_)
      · refine g_tabIn (tgt := 60) (off := 59) hC dX3_joins_1 c102 (by decide) (by decide) (by decide) (by decide) ?_
        refine g_iload_n (pc := 60) (q := 1) hC dX3_joins_60 rfl rfl ?_
        refine g_bipush (pc := 61) (v := 60) hC dX3_joins_61 (by decide) ?_
        refine g_icmp_eq (pc := 63) (tgt := 78) hC dX3_joins_63 (by decide) ?_ ?_
        · exact gT_sub [] rfl (wX3_joins_b78 hC  σ )
        · refine g_iload_n (pc := 66) (q := 1) hC dX3_joins_66 rfl rfl ?_
          refine g_bipush (pc := 67) (v := 61) hC dX3_joins_67 (by decide) ?_
          refine g_icmp_eq (pc := 69) (tgt := 78) hC dX3_joins_69 (by decide) ?_ ?_
          · exact gT_sub [] rfl (wX3_joins_b78 hC  σ )
          · refine g_iload_n (pc := 72) (q := 1) hC dX3_joins_72 rfl rfl ?_
            refine g_bipush (pc := 73) (v := 62) hC dX3_joins_73 (by decide) ?_
            refine g_icmp_ne (pc := 75) (tgt := 82) hC dX3_joins_75 (by decide) ?_ ?_
            · refine g_iconst (pc := 82) (v := 0) hC dX3_joins_82 (by decide) ?_
              exact g_zret0 (pc := 83) hC dX3_joins_83
            · exact gT_sub [] rfl (wX3_joins_b78 hC  σ )
      · refine gT_if (fun c103 => ?_) (fun c103 => ?_)
        · refine g_tabIn (tgt := 84) (off := 83) hC dX3_joins_1 c103 (by decide) (by decide) (by decide) (by decide) ?_
          refine g_iload_n (pc := 84) (q := 1) hC dX3_joins_84 rfl rfl ?_
          refine g_bipush (pc := 85) (v := 43) hC dX3_joins_85 (by decide) ?_
          refine g_icmp_eq (pc := 87) (tgt := 96) hC dX3_joins_87 (by decide) ?_ ?_
          · exact gT_sub [] rfl (wX3_joins_b96 hC  σ )
          · refine g_iload_n (pc := 90) (q := 1) hC dX3_joins_90 rfl rfl ?_
            refine g_bipush (pc := 91) (v := 45) hC dX3_joins_91 (by decide) ?_
            refine g_icmp_ne (pc := 93) (tgt := 100) hC dX3_joins_93 (by decide) ?_ ?_
            · refine g_iconst (pc := 100) (v := 0) hC dX3_joins_100 (by decide) ?_
              exact g_zret0 (pc := 101) hC dX3_joins_101
            · exact gT_sub [] rfl (wX3_joins_b96 hC  σ )
        · refine gT_if (fun c104 => ?_) (fun c104 => ?_)
          · refine g_tabIn (tgt := 102) (off := 101) hC dX3_joins_1 c104 (by decide) (by decide) (by decide) (by decide) ?_
            refine g_iload_n (pc := 102) (q := 1) hC dX3_joins_102 rfl rfl ?_
            refine g_bipush (pc := 103) (v := 42) hC dX3_joins_103 (by decide) ?_
            refine g_icmp_eq (pc := 105) (tgt := 120) hC dX3_joins_105 (by decide) ?_ ?_
            · exact gT_sub [] rfl (wX3_joins_b120 hC  σ )
            · refine g_iload_n (pc := 108) (q := 1) hC dX3_joins_108 rfl rfl ?_
              refine g_bipush (pc := 109) (v := 47) hC dX3_joins_109 (by decide) ?_
              refine g_icmp_eq (pc := 111) (tgt := 120) hC dX3_joins_111 (by decide) ?_ ?_
              · exact gT_sub [] rfl (wX3_joins_b120 hC  σ )
              · refine g_iload_n (pc := 114) (q := 1) hC dX3_joins_114 rfl rfl ?_
                refine g_bipush (pc := 115) (v := 37) hC dX3_joins_115 (by decide) ?_
                refine g_icmp_ne (pc := 117) (tgt := 124) hC dX3_joins_117 (by decide) ?_ ?_
                · refine g_iconst (pc := 124) (v := 0) hC dX3_joins_124 (by decide) ?_
                  exact g_zret0 (pc := 125) hC dX3_joins_125
                · exact gT_sub [] rfl (wX3_joins_b120 hC  σ )
          · refine g_tabOut (tgt := 126) hC dX3_joins_1 (by have q0 := gne c100 (n := 0) rfl; have q1 := gne c101 (n := 1) rfl; have q2 := gne c102 (n := 2) rfl; have q3 := gne c103 (n := 3) rfl; have q4 := gne c104 (n := 4) rfl; omega) (by decide) ?_
            refine g_iconst (pc := 126) (v := 0) hC dX3_joins_126 (by decide) ?_
            exact g_zret0 (pc := 127) hC dX3_joins_127
theorem lk_RX3_98 : gLV RX3 98 RX3 yX3_addStep cX3_addStep 3 (none) 2 := ⟨(gBig_tab 511 (by decide +kernel) (by decide +kernel)), (gBig_tab 513 (by decide +kernel) (by decide +kernel)), (gBig_sel 12 (by decide +kernel) (by decide +kernel)), (gBig_tab 6 (by decide +kernel) (by decide +kernel)), (gBig_tab 514 (by decide +kernel) (by decide +kernel)), rfl, by decide +kernel, by decide +kernel, by decide +kernel⟩
theorem lk_RX3_111 : gLS RX3 111 yX3_isDigit cX3_isDigit 1 (some .boolean) 1 := ⟨(gBig_tab 504 (by decide +kernel) (by decide +kernel)), (gBig_tab 505 (by decide +kernel) (by decide +kernel)), (gBig_tab 6 (by decide +kernel) (by decide +kernel)), (gBig_tab 506 (by decide +kernel) (by decide +kernel)), by decide +kernel, by decide +kernel, by decide +kernel⟩
theorem dX3_readNumber_0 : decode cX3_readNumber 0 = .ok (.iconst 0, 1) := by decide +kernel
theorem dX3_readNumber_1 : decode cX3_readNumber 1 = .ok (.istore_n 1, 1) := by decide +kernel
theorem dX3_readNumber_2 : decode cX3_readNumber 2 = .ok (.iconst 0, 1) := by decide +kernel
theorem dX3_readNumber_3 : decode cX3_readNumber 3 = .ok (.istore_n 2, 1) := by decide +kernel
theorem dX3_readNumber_4 : decode cX3_readNumber 4 = .ok (.iload_n 2, 1) := by decide +kernel
theorem dX3_readNumber_5 : decode cX3_readNumber 5 = .ok (.iconst 4, 1) := by decide +kernel
theorem dX3_readNumber_6 : decode cX3_readNumber 6 = .ok (.if_icmp .ge 42, 3) := by decide +kernel
theorem dX3_readNumber_9 : decode cX3_readNumber 9 = .ok (.aload_n 0, 1) := by decide +kernel
theorem dX3_readNumber_10 : decode cX3_readNumber 10 = .ok (.invokevirtual 105, 3) := by decide +kernel
theorem dX3_readNumber_13 : decode cX3_readNumber 13 = .ok (.invokestatic 111, 3) := by decide +kernel
theorem dX3_readNumber_16 : decode cX3_readNumber 16 = .ok (.ifCond .eq 32, 3) := by decide +kernel
theorem dX3_readNumber_19 : decode cX3_readNumber 19 = .ok (.iload_n 1, 1) := by decide +kernel
theorem dX3_readNumber_20 : decode cX3_readNumber 20 = .ok (.bipush 10, 2) := by decide +kernel
theorem dX3_readNumber_22 : decode cX3_readNumber 22 = .ok (.imul, 1) := by decide +kernel
theorem dX3_readNumber_23 : decode cX3_readNumber 23 = .ok (.aload_n 0, 1) := by decide +kernel
theorem dX3_readNumber_24 : decode cX3_readNumber 24 = .ok (.invokevirtual 105, 3) := by decide +kernel
theorem dX3_readNumber_27 : decode cX3_readNumber 27 = .ok (.iadd, 1) := by decide +kernel
theorem dX3_readNumber_28 : decode cX3_readNumber 28 = .ok (.bipush 48, 2) := by decide +kernel
theorem dX3_readNumber_30 : decode cX3_readNumber 30 = .ok (.isub, 1) := by decide +kernel
theorem dX3_readNumber_31 : decode cX3_readNumber 31 = .ok (.istore_n 1, 1) := by decide +kernel
theorem dX3_readNumber_32 : decode cX3_readNumber 32 = .ok (.aload_n 0, 1) := by decide +kernel
theorem dX3_readNumber_33 : decode cX3_readNumber 33 = .ok (.dup, 1) := by decide +kernel
theorem dX3_readNumber_34 : decode cX3_readNumber 34 = .ok (.getfield 37, 3) := by decide +kernel
theorem dX3_readNumber_37 : decode cX3_readNumber 37 = .ok (.iconst 1, 1) := by decide +kernel
theorem dX3_readNumber_38 : decode cX3_readNumber 38 = .ok (.iadd, 1) := by decide +kernel
theorem dX3_readNumber_39 : decode cX3_readNumber 39 = .ok (.putfield 37, 3) := by decide +kernel
theorem dX3_readNumber_42 : decode cX3_readNumber 42 = .ok (.iinc 2 1, 3) := by decide +kernel
theorem dX3_readNumber_45 : decode cX3_readNumber 45 = .ok (.goto (-41), 3) := by decide +kernel
theorem dX3_readNumber_48 : decode cX3_readNumber 48 = .ok (.aload_n 0, 1) := by decide +kernel
theorem dX3_readNumber_49 : decode cX3_readNumber 49 = .ok (.bipush 110, 2) := by decide +kernel
theorem dX3_readNumber_51 : decode cX3_readNumber 51 = .ok (.iload_n 1, 1) := by decide +kernel
theorem dX3_readNumber_52 : decode cX3_readNumber 52 = .ok (.invokevirtual 98, 3) := by decide +kernel
theorem dX3_readNumber_55 : decode cX3_readNumber 55 = .ok (.return_, 1) := by decide +kernel
abbrev rX3_readNumber : Room := { frames := 1, cells := 0, slots := 0, locals := 22 }
def mX3_readNumber_b48  (k0 : Nat)  (σ : gS) (x5 : Int32) : Option (Unit × gS) := gBind (mX3_addStep σ k0 110 x5) (fun r6 s7 => some ((), s7))
set_option maxHeartbeats 4000000 in
set_option maxRecDepth 100000 in
theorem wX3_readNumber_b48 {p : Program} {l : Launch} {e : Env} {s : State} {m : MethodId} {args : Array Value} {below : List Frame} {meth : Method} {c : Code} {G : gE} (hC : gCx p s m args meth c G RX3 cX3_readNumber 3 (none))  (k0 : Nat) (hk0 : gk k0 = 3)  (σ : gS) (x5 : Int32)  : gT p l e rX3_readNumber s m args below meth c G 3 iV σ 48 [(0, .ref (G.2.1 k0)), (1, .int x5)] [] (mX3_readNumber_b48 k0 σ x5) := by
  unfold mX3_readNumber_b48
  refine g_aload_n (pc := 48) (q := 0) hC dX3_readNumber_48 rfl rfl ?_
  refine g_bipush (pc := 49) (v := 110) hC dX3_readNumber_49 (by decide) ?_
  refine g_iload_n (pc := 51) (q := 1) hC dX3_readNumber_51 rfl rfl ?_
  refine g_callVv (pc := 52) (As := [.int 110, .int x5]) (rest := []) hC lk_RX3_98 kX3 hk0 (tX3_addStep _ _ σ k0 110 x5) rfl rfl (Nat.le_of_ble_eq_true rfl) ⟨rfl, rfl, Nat.le_of_ble_eq_true rfl, Nat.le_of_ble_eq_true rfl⟩ dX3_readNumber_52 (fun r6 s7 => ?_)
  exact g_vret (pc := 55) hC dX3_readNumber_55
def mX3_readNumber_b4  (k0 : Nat)  : Nat → gS → Int32 → Int32 → Option (Unit × gS)
  | 0, _, _, _ => none
  | n + 1, σ, x3, x4 => if 4 ≤ x4 then ((mX3_readNumber_b48 k0 σ x3)) else (gBind (mX3_letter σ k0) (fun r8 s9 => gBind (mX3_isDigit s9 r8) (fun r10 s11 => if r10 = true then (gBind (mX3_letter s11 k0) (fun r12 s13 => gLet (((x3 * 10) + r12) - 48) (fun v14 => gLet (gUI s13 k0 8 ((s13.1 k0 8) + 1)) (fun s15 => gLet (x4 + 1) (fun v16 => ((mX3_readNumber_b4 k0 n) s15 v14 v16)))))) else ((mX3_readNumber_b48 k0 s11 x3)))))
set_option maxHeartbeats 4000000 in
set_option maxRecDepth 100000 in
theorem wX3_readNumber_b4 {p : Program} {l : Launch} {e : Env} {s : State} {m : MethodId} {args : Array Value} {below : List Frame} {meth : Method} {c : Code} {G : gE} (hC : gCx p s m args meth c G RX3 cX3_readNumber 3 (none))  (k0 : Nat) (hk0 : gk k0 = 3)  (n : Nat) (σ : gS) (x3 : Int32) (x4 : Int32)  : gT p l e rX3_readNumber s m args below meth c G 3 iV σ 4 [(0, .ref (G.2.1 k0)), (1, .int x3), (2, .int x4)] [] (mX3_readNumber_b4 k0 n σ x3 x4) := by
  induction n generalizing σ x3 x4 with
  | zero => exact gT_none
  | succ n ih =>
    unfold mX3_readNumber_b4
    refine g_iload_n (pc := 4) (q := 2) hC dX3_readNumber_4 rfl rfl ?_
    refine g_iconst (pc := 5) (v := 4) hC dX3_readNumber_5 (by decide) ?_
    refine g_icmp_ge (pc := 6) (tgt := 48) hC dX3_readNumber_6 (by decide) ?_ ?_
    · exact gT_sub [0, 1] rfl (wX3_readNumber_b48 hC k0 hk0 σ x3)
    · refine g_aload_n (pc := 9) (q := 0) hC dX3_readNumber_9 rfl rfl ?_
      refine g_callVi (pc := 10) (As := []) (rest := []) hC lk_RX3_105 kX3 hk0 (tX3_letter _ _ σ k0) rfl rfl (Nat.le_of_ble_eq_true rfl) ⟨rfl, rfl, Nat.le_of_ble_eq_true rfl, Nat.le_of_ble_eq_true rfl⟩ dX3_readNumber_10 (fun r8 s9 => ?_)
      refine g_callSz (pc := 13) (As := [.int r8]) (rest := []) hC lk_RX3_111 (tX3_isDigit _ _ s9 r8) rfl rfl (Nat.le_of_ble_eq_true rfl) ⟨rfl, rfl, Nat.le_of_ble_eq_true rfl, Nat.le_of_ble_eq_true rfl⟩ dX3_readNumber_13 (fun r10 s11 => ?_)
      refine g_bif_eq (pc := 16) (tgt := 48) hC dX3_readNumber_16 (by decide) ?_ ?_
      · exact gT_sub [0, 1] rfl (wX3_readNumber_b48 hC k0 hk0 s11 x3)
      · refine g_iload_n (pc := 19) (q := 1) hC dX3_readNumber_19 rfl rfl ?_
        refine g_bipush (pc := 20) (v := 10) hC dX3_readNumber_20 (by decide) ?_
        refine g_imul (pc := 22) hC dX3_readNumber_22 ?_
        refine g_aload_n (pc := 23) (q := 0) hC dX3_readNumber_23 rfl rfl ?_
        refine g_callVi (pc := 24) (As := []) (rest := [.int (x3 * 10)]) hC lk_RX3_105 kX3 hk0 (tX3_letter _ _ s11 k0) rfl rfl (Nat.le_of_ble_eq_true rfl) ⟨rfl, rfl, Nat.le_of_ble_eq_true rfl, Nat.le_of_ble_eq_true rfl⟩ dX3_readNumber_24 (fun r12 s13 => ?_)
        refine g_iadd (pc := 27) hC dX3_readNumber_27 ?_
        refine g_bipush (pc := 28) (v := 48) hC dX3_readNumber_28 (by decide) ?_
        refine g_isub (pc := 30) hC dX3_readNumber_30 ?_
        refine g_istore_n (pc := 31) (lv' := fun v14 => [(1, .int v14), (0, .ref (G.2.1 k0)), (2, .int x4)]) hC dX3_readNumber_31 rfl (by decide) (fun _ => rfl) (fun v14 => ?_)
        refine g_aload_n (pc := 32) (q := 1) hC dX3_readNumber_32 rfl rfl ?_
        refine g_dup (pc := 33) hC dX3_readNumber_33 rfl ?_
        refine g_get (pc := 34) (v := .int (s13.1 k0 8)) hC kX3 hk0 8 (by decide) fl_RX3_37 rfl dX3_readNumber_34 ?_
        refine g_iconst (pc := 37) (v := 1) hC dX3_readNumber_37 (by decide) ?_
        refine g_iadd (pc := 38) hC dX3_readNumber_38 ?_
        refine g_puti (pc := 39) (fty := .int) hC kX3 hk0 8 (by decide) fl_RX3_37 rfl rfl rfl rfl (fun _ _ => Nat.le_of_ble_eq_true rfl) (fun _ _ => rfl) dX3_readNumber_39 (fun s15 => ?_)
        refine g_iinc (pc := 42) (q := 2) (w := 1) (lv' := fun v16 => [(2, .int v16), (1, .int v14), (0, .ref (G.2.1 k0))]) hC dX3_readNumber_42 rfl (by decide) (by decide) (fun _ => rfl) (fun v16 => ?_)
        refine g_goto (pc := 45) (tgt := 4) hC dX3_readNumber_45 (by decide) ?_
        exact gT_sub [2, 1, 0] rfl (ih s15 v14 v16)
def mX3_readNumber (σ : gS) (k0 : Nat) : Option (Unit × gS) := if gk k0 = 3 then (gLet 0 (fun v1 => gLet 0 (fun v2 => (mX3_readNumber_b4 k0 1100 σ v1 v2)))) else none
set_option maxHeartbeats 4000000 in
set_option maxRecDepth 100000 in
theorem tX3_readNumber (l : Launch) (G : gE) (σ : gS) (k0 : Nat) : gM l G yX3_readNumber cX3_readNumber 3 (none) rX3_readNumber iV [.ref (G.2.1 k0)] σ (mX3_readNumber σ k0) := by
  refine gM_of (by decide) (Nat.le_of_ble_eq_true rfl) ?_
  intro p e s m args below meth c hC
  unfold mX3_readNumber
  refine gT_if (fun hk0 => ?_) (fun _ => gT_none)
  show gT p l e rX3_readNumber s m args below meth c G 3 iV σ 0 [(0, .ref (G.2.1 k0))] [] _
  refine g_iconst (pc := 0) (v := 0) hC dX3_readNumber_0 (by decide) ?_
  refine g_istore_n (pc := 1) (lv' := fun v1 => [(1, .int v1), (0, .ref (G.2.1 k0))]) hC dX3_readNumber_1 rfl (by decide) (fun _ => rfl) (fun v1 => ?_)
  refine g_iconst (pc := 2) (v := 0) hC dX3_readNumber_2 (by decide) ?_
  refine g_istore_n (pc := 3) (lv' := fun v2 => [(2, .int v2), (1, .int v1), (0, .ref (G.2.1 k0))]) hC dX3_readNumber_3 rfl (by decide) (fun _ => rfl) (fun v2 => ?_)
  exact gT_sub [2, 1, 0] rfl (wX3_readNumber_b4 hC k0 hk0 1100 σ v1 v2)
