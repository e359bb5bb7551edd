theorem dX9_within_0 : decode cX9_within 0 = .ok (.iload_n 0, 1) := by decide +kernel
theorem dX9_within_1 : decode cX9_within 1 = .ok (.iload_n 1, 1) := by decide +kernel
theorem dX9_within_2 : decode cX9_within 2 = .ok (.if_icmp .lt 12, 3) := by decide +kernel
theorem dX9_within_5 : decode cX9_within 5 = .ok (.iload_n 0, 1) := by decide +kernel
theorem dX9_within_6 : decode cX9_within 6 = .ok (.iload_n 2, 1) := by decide +kernel
theorem dX9_within_7 : decode cX9_within 7 = .ok (.if_icmp .gt 7, 3) := by decide +kernel
theorem dX9_within_10 : decode cX9_within 10 = .ok (.iconst 1, 1) := by decide +kernel
theorem dX9_within_11 : decode cX9_within 11 = .ok (.goto 4, 3) := by decide +kernel
theorem dX9_within_14 : decode cX9_within 14 = .ok (.iconst 0, 1) := by decide +kernel
theorem dX9_within_15 : decode cX9_within 15 = .ok (.ireturn, 1) := by decide +kernel
abbrev rX9_within : Room := { frames := 0, cells := 0, slots := 0, locals := 0 }
def mX9_within (σ : gS) (p0 : Int32) (p1 : Int32) (p2 : Int32) : Option (Bool × gS) := if p0 < p1 then (some (false, σ)) else (if p2 < p0 then (some (false, σ)) else (some (true, σ)))
set_option maxHeartbeats 4000000 in
set_option maxRecDepth 100000 in
theorem tX9_within (l : Launch) (G : gE) (σ : gS) (p0 : Int32) (p1 : Int32) (p2 : Int32) : gM l G yX9_within cX9_within 3 (some .boolean) rX9_within iZ [.int p0, .int p1, .int p2] σ (mX9_within σ p0 p1 p2) := by
  refine gM_of (by decide) (Nat.le_of_ble_eq_true rfl) ?_
  intro p e s m args below meth c hC
  unfold mX9_within
  show gT p l e rX9_within s m args below meth c G 3 iZ σ 0 [(0, .int p0), (1, .int p1), (2, .int p2)] [] _
  refine g_iload_n (pc := 0) (q := 0) hC dX9_within_0 rfl rfl ?_
  refine g_iload_n (pc := 1) (q := 1) hC dX9_within_1 rfl rfl ?_
  refine g_icmp_lt (pc := 2) (tgt := 14) hC dX9_within_2 (by decide) ?_ ?_
  · refine g_iconst (pc := 14) (v := 0) hC dX9_within_14 (by decide) ?_
    exact g_zret0 (pc := 15) hC dX9_within_15
  · refine g_iload_n (pc := 5) (q := 0) hC dX9_within_5 rfl rfl ?_
    refine g_iload_n (pc := 6) (q := 2) hC dX9_within_6 rfl rfl ?_
    refine g_icmp_gt (pc := 7) (tgt := 14) hC dX9_within_7 (by decide) ?_ ?_
    · refine g_iconst (pc := 14) (v := 0) hC dX9_within_14 (by decide) ?_
      exact g_zret0 (pc := 15) hC dX9_within_15
    · refine g_iconst (pc := 10) (v := 1) hC dX9_within_10 (by decide) ?_
      refine g_goto (pc := 11) (tgt := 15) hC dX9_within_11 (by decide) ?_
      exact g_zret1 (pc := 15) hC dX9_within_15
theorem dX8_hasFarm_0 : decode cX8_hasFarm 0 = .ok (.iload_n 1, 1) := by decide +kernel
theorem dX8_hasFarm_1 : decode cX8_hasFarm 1 = .ok (.ifCond .lt 15, 3) := by decide +kernel
theorem dX8_hasFarm_4 : decode cX8_hasFarm 4 = .ok (.iload_n 1, 1) := by decide +kernel
theorem dX8_hasFarm_5 : decode cX8_hasFarm 5 = .ok (.aload_n 0, 1) := by decide +kernel
theorem dX8_hasFarm_6 : decode cX8_hasFarm 6 = .ok (.getfield 9, 3) := by decide +kernel
theorem dX8_hasFarm_9 : decode cX8_hasFarm 9 = .ok (.if_icmp .ge 7, 3) := by decide +kernel
theorem dX8_hasFarm_12 : decode cX8_hasFarm 12 = .ok (.iconst 1, 1) := by decide +kernel
theorem dX8_hasFarm_13 : decode cX8_hasFarm 13 = .ok (.goto 4, 3) := by decide +kernel
theorem dX8_hasFarm_16 : decode cX8_hasFarm 16 = .ok (.iconst 0, 1) := by decide +kernel
theorem dX8_hasFarm_17 : decode cX8_hasFarm 17 = .ok (.ireturn, 1) := by decide +kernel
abbrev rX8_hasFarm : Room := { frames := 0, cells := 0, slots := 0, locals := 0 }
def mX8_hasFarm (σ : gS) (p0 : Int32) : Option (Bool × gS) := if p0 < 0 then (some (false, σ)) else (if (σ.1 1 0) ≤ p0 then (some (false, σ)) else (some (true, σ)))
set_option maxHeartbeats 4000000 in
set_option maxRecDepth 100000 in
theorem tX8_hasFarm (l : Launch) (G : gE) (σ : gS) (p0 : Int32) : gM l G yX8_hasFarm cX8_hasFarm 2 (some .boolean) rX8_hasFarm iZ [.ref (G.2.1 1), .int p0] σ (mX8_hasFarm σ p0) := by
  refine gM_of (by decide) (Nat.le_of_ble_eq_true rfl) ?_
  intro p e s m args below meth c hC
  unfold mX8_hasFarm
  show gT p l e rX8_hasFarm s m args below meth c G 2 iZ σ 0 [(0, .ref (G.2.1 1)), (1, .int p0)] [] _
  refine g_iload_n (pc := 0) (q := 1) hC dX8_hasFarm_0 rfl rfl ?_
  refine g_if_lt (pc := 1) (tgt := 16) hC dX8_hasFarm_1 (by decide) ?_ ?_
  · refine g_iconst (pc := 16) (v := 0) hC dX8_hasFarm_16 (by decide) ?_
    exact g_zret0 (pc := 17) hC dX8_hasFarm_17
  · refine g_iload_n (pc := 4) (q := 1) hC dX8_hasFarm_4 rfl rfl ?_
    refine g_aload_n (pc := 5) (q := 0) hC dX8_hasFarm_5 rfl rfl ?_
    refine g_get (pc := 6) (v := .int (σ.1 1 0)) hC kX8 rfl 0 (by decide) fl_RX8_9 rfl dX8_hasFarm_6 ?_
    refine g_icmp_ge (pc := 9) (tgt := 16) hC dX8_hasFarm_9 (by decide) ?_ ?_
    · refine g_iconst (pc := 16) (v := 0) hC dX8_hasFarm_16 (by decide) ?_
      exact g_zret0 (pc := 17) hC dX8_hasFarm_17
    · refine g_iconst (pc := 12) (v := 1) hC dX8_hasFarm_12 (by decide) ?_
      refine g_goto (pc := 13) (tgt := 17) hC dX8_hasFarm_13 (by decide) ?_
      exact g_zret1 (pc := 17) hC dX8_hasFarm_17
theorem dX8_hasWant_0 : decode cX8_hasWant 0 = .ok (.iload_n 1, 1) := by decide +kernel
theorem dX8_hasWant_1 : decode cX8_hasWant 1 = .ok (.ifCond .lt 15, 3) := by decide +kernel
theorem dX8_hasWant_4 : decode cX8_hasWant 4 = .ok (.iload_n 1, 1) := by decide +kernel
theorem dX8_hasWant_5 : decode cX8_hasWant 5 = .ok (.aload_n 0, 1) := by decide +kernel
theorem dX8_hasWant_6 : decode cX8_hasWant 6 = .ok (.getfield 22, 3) := by decide +kernel
theorem dX8_hasWant_9 : decode cX8_hasWant 9 = .ok (.if_icmp .ge 7, 3) := by decide +kernel
theorem dX8_hasWant_12 : decode cX8_hasWant 12 = .ok (.iconst 1, 1) := by decide +kernel
theorem dX8_hasWant_13 : decode cX8_hasWant 13 = .ok (.goto 4, 3) := by decide +kernel
theorem dX8_hasWant_16 : decode cX8_hasWant 16 = .ok (.iconst 0, 1) := by decide +kernel
theorem dX8_hasWant_17 : decode cX8_hasWant 17 = .ok (.ireturn, 1) := by decide +kernel
abbrev rX8_hasWant : Room := { frames := 0, cells := 0, slots := 0, locals := 0 }
def mX8_hasWant (σ : gS) (p0 : Int32) : Option (Bool × gS) := if p0 < 0 then (some (false, σ)) else (if (σ.1 1 3) ≤ p0 then (some (false, σ)) else (some (true, σ)))
set_option maxHeartbeats 4000000 in
set_option maxRecDepth 100000 in
theorem tX8_hasWant (l : Launch) (G : gE) (σ : gS) (p0 : Int32) : gM l G yX8_hasWant cX8_hasWant 2 (some .boolean) rX8_hasWant iZ [.ref (G.2.1 1), .int p0] σ (mX8_hasWant σ p0) := by
  refine gM_of (by decide) (Nat.le_of_ble_eq_true rfl) ?_
  intro p e s m args below meth c hC
  unfold mX8_hasWant
  show gT p l e rX8_hasWant s m args below meth c G 2 iZ σ 0 [(0, .ref (G.2.1 1)), (1, .int p0)] [] _
  refine g_iload_n (pc := 0) (q := 1) hC dX8_hasWant_0 rfl rfl ?_
  refine g_if_lt (pc := 1) (tgt := 16) hC dX8_hasWant_1 (by decide) ?_ ?_
  · refine g_iconst (pc := 16) (v := 0) hC dX8_hasWant_16 (by decide) ?_
    exact g_zret0 (pc := 17) hC dX8_hasWant_17
  · refine g_iload_n (pc := 4) (q := 1) hC dX8_hasWant_4 rfl rfl ?_
    refine g_aload_n (pc := 5) (q := 0) hC dX8_hasWant_5 rfl rfl ?_
    refine g_get (pc := 6) (v := .int (σ.1 1 3)) hC kX8 rfl 3 (by decide) fl_RX8_22 rfl dX8_hasWant_6 ?_
    refine g_icmp_ge (pc := 9) (tgt := 16) hC dX8_hasWant_9 (by decide) ?_ ?_
    · refine g_iconst (pc := 16) (v := 0) hC dX8_hasWant_16 (by decide) ?_
      exact g_zret0 (pc := 17) hC dX8_hasWant_17
    · refine g_iconst (pc := 12) (v := 1) hC dX8_hasWant_12 (by decide) ?_
      refine g_goto (pc := 13) (tgt := 17) hC dX8_hasWant_13 (by decide) ?_
      exact g_zret1 (pc := 17) hC dX8_hasWant_17
theorem dX8_addFarm_0 : decode cX8_addFarm 0 = .ok (.aload_n 0, 1) := by decide +kernel
theorem dX8_addFarm_1 : decode cX8_addFarm 1 = .ok (.getfield 9, 3) := by decide +kernel
theorem dX8_addFarm_4 : decode cX8_addFarm 4 = .ok (.bipush 6, 2) := by decide +kernel
theorem dX8_addFarm_6 : decode cX8_addFarm 6 = .ok (.if_icmp .lt 6, 3) := by decide +kernel
theorem dX8_addFarm_9 : decode cX8_addFarm 9 = .ok (.bipush (-3), 2) := by decide +kernel
theorem dX8_addFarm_11 : decode cX8_addFarm 11 = .ok (.ireturn, 1) := by decide +kernel
theorem dX8_addFarm_12 : decode cX8_addFarm 12 = .ok (.aload_n 0, 1) := by decide +kernel
theorem dX8_addFarm_13 : decode cX8_addFarm 13 = .ok (.getfield 15, 3) := by decide +kernel
theorem dX8_addFarm_16 : decode cX8_addFarm 16 = .ok (.aload_n 0, 1) := by decide +kernel
theorem dX8_addFarm_17 : decode cX8_addFarm 17 = .ok (.getfield 9, 3) := by decide +kernel
theorem dX8_addFarm_20 : decode cX8_addFarm 20 = .ok (.iload_n 1, 1) := by decide +kernel
theorem dX8_addFarm_21 : decode cX8_addFarm 21 = .ok (.iastore, 1) := by decide +kernel
theorem dX8_addFarm_22 : decode cX8_addFarm 22 = .ok (.aload_n 0, 1) := by decide +kernel
theorem dX8_addFarm_23 : decode cX8_addFarm 23 = .ok (.getfield 19, 3) := by decide +kernel
theorem dX8_addFarm_26 : decode cX8_addFarm 26 = .ok (.aload_n 0, 1) := by decide +kernel
theorem dX8_addFarm_27 : decode cX8_addFarm 27 = .ok (.getfield 9, 3) := by decide +kernel
theorem dX8_addFarm_30 : decode cX8_addFarm 30 = .ok (.iconst 1, 1) := by decide +kernel
theorem dX8_addFarm_31 : decode cX8_addFarm 31 = .ok (.iastore, 1) := by decide +kernel
theorem dX8_addFarm_32 : decode cX8_addFarm 32 = .ok (.aload_n 0, 1) := by decide +kernel
theorem dX8_addFarm_33 : decode cX8_addFarm 33 = .ok (.dup, 1) := by decide +kernel
theorem dX8_addFarm_34 : decode cX8_addFarm 34 = .ok (.getfield 9, 3) := by decide +kernel
theorem dX8_addFarm_37 : decode cX8_addFarm 37 = .ok (.iconst 1, 1) := by decide +kernel
theorem dX8_addFarm_38 : decode cX8_addFarm 38 = .ok (.iadd, 1) := by decide +kernel
theorem dX8_addFarm_39 : decode cX8_addFarm 39 = .ok (.putfield 9, 3) := by decide +kernel
theorem dX8_addFarm_42 : decode cX8_addFarm 42 = .ok (.aload_n 0, 1) := by decide +kernel
theorem dX8_addFarm_43 : decode cX8_addFarm 43 = .ok (.getfield 9, 3) := by decide +kernel
theorem dX8_addFarm_46 : decode cX8_addFarm 46 = .ok (.iconst 1, 1) := by decide +kernel
theorem dX8_addFarm_47 : decode cX8_addFarm 47 = .ok (.isub, 1) := by decide +kernel
theorem dX8_addFarm_48 : decode cX8_addFarm 48 = .ok (.ireturn, 1) := by decide +kernel
abbrev rX8_addFarm : Room := { frames := 0, cells := 0, slots := 0, locals := 0 }
def mX8_addFarm (σ : gS) (p0 : Int32) : Option (Int32 × gS) := if (σ.1 1 0) < 6 then (if inbB (σ.1 1 0) 6 = true then gLet (gUI σ 2 (Int32.toNatClampNeg (σ.1 1 0)) p0) (fun s1 => if inbB (s1.1 1 0) 6 = true then gLet (gUI s1 3 (Int32.toNatClampNeg (s1.1 1 0)) 1) (fun s2 => gLet (gUI s2 1 0 ((s2.1 1 0) + 1)) (fun s3 => some (((s3.1 1 0) - 1), s3))) else none) else none) else (some ((-3), σ))
set_option maxHeartbeats 4000000 in
set_option maxRecDepth 100000 in
theorem tX8_addFarm (l : Launch) (G : gE) (σ : gS) (p0 : Int32) : gM l G yX8_addFarm cX8_addFarm 2 (some .int) rX8_addFarm iI [.ref (G.2.1 1), .int p0] σ (mX8_addFarm σ p0) := by
  refine gM_of (by decide) (Nat.le_of_ble_eq_true rfl) ?_
  intro p e s m args below meth c hC
  unfold mX8_addFarm
  show gT p l e rX8_addFarm s m args below meth c G 2 iI σ 0 [(0, .ref (G.2.1 1)), (1, .int p0)] [] _
  refine g_aload_n (pc := 0) (q := 0) hC dX8_addFarm_0 rfl rfl ?_
  refine g_get (pc := 1) (v := .int (σ.1 1 0)) hC kX8 rfl 0 (by decide) fl_RX8_9 rfl dX8_addFarm_1 ?_
  refine g_bipush (pc := 4) (v := 6) hC dX8_addFarm_4 (by decide) ?_
  refine g_icmp_lt (pc := 6) (tgt := 12) hC dX8_addFarm_6 (by decide) ?_ ?_
  · refine g_aload_n (pc := 12) (q := 0) hC dX8_addFarm_12 rfl rfl ?_
    refine g_get (pc := 13) (v := .ref (G.2.1 2)) hC kX8 rfl 1 (by decide) fl_RX8_15 rfl dX8_addFarm_13 ?_
    refine g_aload_n (pc := 16) (q := 0) hC dX8_addFarm_16 rfl rfl ?_
    refine g_get (pc := 17) (v := .int (σ.1 1 0)) hC kX8 rfl 0 (by decide) fl_RX8_9 rfl dX8_addFarm_17 ?_
    refine g_iload_n (pc := 20) (q := 1) hC dX8_addFarm_20 rfl rfl ?_
    refine g_iast (pc := 21) hC 6 rfl (by decide) dX8_addFarm_21 (fun s1 => ?_)
    refine g_aload_n (pc := 22) (q := 0) hC dX8_addFarm_22 rfl rfl ?_
    refine g_get (pc := 23) (v := .ref (G.2.1 3)) hC kX8 rfl 2 (by decide) fl_RX8_19 rfl dX8_addFarm_23 ?_
    refine g_aload_n (pc := 26) (q := 0) hC dX8_addFarm_26 rfl rfl ?_
    refine g_get (pc := 27) (v := .int (s1.1 1 0)) hC kX8 rfl 0 (by decide) fl_RX8_9 rfl dX8_addFarm_27 ?_
    refine g_iconst (pc := 30) (v := 1) hC dX8_addFarm_30 (by decide) ?_
    refine g_iast (pc := 31) hC 6 rfl (by decide) dX8_addFarm_31 (fun s2 => ?_)
    refine g_aload_n (pc := 32) (q := 0) hC dX8_addFarm_32 rfl rfl ?_
    refine g_dup (pc := 33) hC dX8_addFarm_33 rfl ?_
    refine g_get (pc := 34) (v := .int (s2.1 1 0)) hC kX8 rfl 0 (by decide) fl_RX8_9 rfl dX8_addFarm_34 ?_
    refine g_iconst (pc := 37) (v := 1) hC dX8_addFarm_37 (by decide) ?_
    refine g_iadd (pc := 38) hC dX8_addFarm_38 ?_
    refine g_puti (pc := 39) (fty := .int) hC kX8 rfl 0 (by decide) fl_RX8_9 rfl rfl rfl rfl (fun _ _ => Nat.le_of_ble_eq_true rfl) (fun _ _ => rfl) dX8_addFarm_39 (fun s3 => ?_)
    refine g_aload_n (pc := 42) (q := 0) hC dX8_addFarm_42 rfl rfl ?_
    refine g_get (pc := 43) (v := .int (s3.1 1 0)) hC kX8 rfl 0 (by decide) fl_RX8_9 rfl dX8_addFarm_43 ?_
    refine g_iconst (pc := 46) (v := 1) hC dX8_addFarm_46 (by decide) ?_
    refine g_isub (pc := 47) hC dX8_addFarm_47 ?_
    exact g_iret (pc := 48) hC dX8_addFarm_48
  · refine g_bipush (pc := 9) (v := (-3)) hC dX8_addFarm_9 (by decide) ?_
    exact g_iret (pc := 11) hC dX8_addFarm_11
theorem lkn_RX8_47 : Cond.static yX9_within ∈ gBig ∧ Cond.initialized yX9_within.cls ∈ gBig ∧ Cond.code yX9_within cX9_within 3 (some .boolean) ∈ gBig ∧ (yX9_within.cls ≠ "java/lang/invoke/MethodHandle" ∧ yX9_within.cls ≠ "java/lang/invoke/VarHandle" ∧ (parseMethodDescriptor yX9_within.desc).map (fun d => d.parameters.length) = some 3) := ⟨(gBig_tab 385 (by decide +kernel) (by decide +kernel)), (gBig_tab 1 (by decide +kernel) (by decide +kernel)), (gBig_tab 386 (by decide +kernel) (by decide +kernel)), by decide +kernel, by decide +kernel, by decide +kernel⟩
theorem lk_RX8_37 : gLV RX8 37 RX8 yX8_hasFarm cX8_hasFarm 2 (some .boolean) 1 := ⟨(gBig_tab 399 (by decide +kernel) (by decide +kernel)), (gBig_tab 400 (by decide +kernel) (by decide +kernel)), (gBig_tab 401 (by decide +kernel) (by decide +kernel)), (gBig_tab 2 (by decide +kernel) (by decide +kernel)), (gBig_tab 402 (by decide +kernel) (by decide +kernel)), rfl, by decide +kernel, by decide +kernel, by decide +kernel⟩
theorem dX8_mayWant_0 : decode cX8_mayWant 0 = .ok (.aload_n 0, 1) := by decide +kernel
theorem dX8_mayWant_1 : decode cX8_mayWant 1 = .ok (.iload_n 1, 1) := by decide +kernel
theorem dX8_mayWant_2 : decode cX8_mayWant 2 = .ok (.invokevirtual 37, 3) := by decide +kernel
theorem dX8_mayWant_5 : decode cX8_mayWant 5 = .ok (.ifCond .eq 59, 3) := by decide +kernel
theorem dX8_mayWant_8 : decode cX8_mayWant 8 = .ok (.iload_n 2, 1) := by decide +kernel
theorem dX8_mayWant_9 : decode cX8_mayWant 9 = .ok (.getstatic 41, 3) := by decide +kernel
theorem dX8_mayWant_12 : decode cX8_mayWant 12 = .ok (.iconst 2, 1) := by decide +kernel
theorem dX8_mayWant_13 : decode cX8_mayWant 13 = .ok (.iaload, 1) := by decide +kernel
theorem dX8_mayWant_14 : decode cX8_mayWant 14 = .ok (.getstatic 44, 3) := by decide +kernel
theorem dX8_mayWant_17 : decode cX8_mayWant 17 = .ok (.iconst 2, 1) := by decide +kernel
theorem dX8_mayWant_18 : decode cX8_mayWant 18 = .ok (.iaload, 1) := by decide +kernel
theorem dX8_mayWant_19 : decode cX8_mayWant 19 = .ok (.invokestatic 47, 3) := by decide +kernel
theorem dX8_mayWant_22 : decode cX8_mayWant 22 = .ok (.ifCond .eq 42, 3) := by decide +kernel
theorem dX8_mayWant_25 : decode cX8_mayWant 25 = .ok (.iload_n 3, 1) := by decide +kernel
theorem dX8_mayWant_26 : decode cX8_mayWant 26 = .ok (.getstatic 41, 3) := by decide +kernel
theorem dX8_mayWant_29 : decode cX8_mayWant 29 = .ok (.iconst 3, 1) := by decide +kernel
theorem dX8_mayWant_30 : decode cX8_mayWant 30 = .ok (.iaload, 1) := by decide +kernel
theorem dX8_mayWant_31 : decode cX8_mayWant 31 = .ok (.getstatic 44, 3) := by decide +kernel
theorem dX8_mayWant_34 : decode cX8_mayWant 34 = .ok (.iconst 3, 1) := by decide +kernel
theorem dX8_mayWant_35 : decode cX8_mayWant 35 = .ok (.iaload, 1) := by decide +kernel
theorem dX8_mayWant_36 : decode cX8_mayWant 36 = .ok (.invokestatic 47, 3) := by decide +kernel
theorem dX8_mayWant_39 : decode cX8_mayWant 39 = .ok (.ifCond .eq 25, 3) := by decide +kernel
theorem dX8_mayWant_42 : decode cX8_mayWant 42 = .ok (.iload 4, 2) := by decide +kernel
theorem dX8_mayWant_44 : decode cX8_mayWant 44 = .ok (.getstatic 41, 3) := by decide +kernel
theorem dX8_mayWant_47 : decode cX8_mayWant 47 = .ok (.iconst 4, 1) := by decide +kernel
theorem dX8_mayWant_48 : decode cX8_mayWant 48 = .ok (.iaload, 1) := by decide +kernel
theorem dX8_mayWant_49 : decode cX8_mayWant 49 = .ok (.getstatic 44, 3) := by decide +kernel
theorem dX8_mayWant_52 : decode cX8_mayWant 52 = .ok (.iconst 4, 1) := by decide +kernel
theorem dX8_mayWant_53 : decode cX8_mayWant 53 = .ok (.iaload, 1) := by decide +kernel
theorem dX8_mayWant_54 : decode cX8_mayWant 54 = .ok (.invokestatic 47, 3) := by decide +kernel
theorem dX8_mayWant_57 : decode cX8_mayWant 57 = .ok (.ifCond .eq 7, 3) := by decide +kernel
theorem dX8_mayWant_60 : decode cX8_mayWant 60 = .ok (.iconst 1, 1) := by decide +kernel
theorem dX8_mayWant_61 : decode cX8_mayWant 61 = .ok (.goto 4, 3) := by decide +kernel
theorem dX8_mayWant_64 : decode cX8_mayWant 64 = .ok (.iconst 0, 1) := by decide +kernel
theorem dX8_mayWant_65 : decode cX8_mayWant 65 = .ok (.ireturn, 1) := by decide +kernel
abbrev rX8_mayWant : Room := { frames := 1, cells := 0, slots := 0, locals := 22 }
def mX8_mayWant (σ : gS) (p0 : Int32) (p1 : Int32) (p2 : Int32) (p3 : Int32) : Option (Bool × gS) := gBind (mX8_hasFarm σ p0) (fun r1 s2 => if r1 = true then (if inbB 2 10 = true then (if inbB 2 10 = true then (gBind (mX9_within s2 p1 (gTb 0 (Int32.toNatClampNeg 2)) (gTb 1 (Int32.toNatClampNeg 2))) (fun r3 s4 => if r3 = true then (if inbB 3 10 = true then (if inbB 3 10 = true then (gBind (mX9_within s4 p2 (gTb 0 (Int32.toNatClampNeg 3)) (gTb 1 (Int32.toNatClampNeg 3))) (fun r5 s6 => if r5 = true then (if inbB 4 10 = true then (if inbB 4 10 = true then (gBind (mX9_within s6 p3 (gTb 0 (Int32.toNatClampNeg 4)) (gTb 1 (Int32.toNatClampNeg 4))) (fun r7 s8 => if r7 = true then (some (true, s8)) else (some (false, s8)))) else none) else none) else (some (false, s6)))) else none) else none) else (some (false, s4)))) else none) else none) else (some (false, s2)))
set_option maxHeartbeats 4000000 in
set_option maxRecDepth 100000 in
theorem tX8_mayWant (l : Launch) (G : gE) (σ : gS) (p0 : Int32) (p1 : Int32) (p2 : Int32) (p3 : Int32) : gM l G yX8_mayWant cX8_mayWant 5 (some .boolean) rX8_mayWant iZ [.ref (G.2.1 1), .int p0, .int p1, .int p2, .int p3] σ (mX8_mayWant σ p0 p1 p2 p3) := by
  refine gM_of (by decide) (Nat.le_of_ble_eq_true rfl) ?_
  intro p e s m args below meth c hC
  unfold mX8_mayWant
  show gT p l e rX8_mayWant s m args below meth c G 5 iZ σ 0 [(0, .ref (G.2.1 1)), (1, .int p0), (2, .int p1), (3, .int p2), (4, .int p3)] [] _
  refine g_aload_n (pc := 0) (q := 0) hC dX8_mayWant_0 rfl rfl ?_
  refine g_iload_n (pc := 1) (q := 1) hC dX8_mayWant_1 rfl rfl ?_
  refine g_callVz (pc := 2) (As := [.int p0]) (rest := []) hC lk_RX8_37 kX8 rfl (tX8_hasFarm _ _ σ p0) rfl rfl (Nat.le_of_ble_eq_true rfl) ⟨rfl, rfl, Nat.le_of_ble_eq_true rfl, Nat.le_of_ble_eq_true rfl⟩ dX8_mayWant_2 (fun r1 s2 => ?_)
  refine g_bif_eq (pc := 5) (tgt := 64) hC dX8_mayWant_5 (by decide) ?_ ?_
  · refine g_iconst (pc := 64) (v := 0) hC dX8_mayWant_64 (by decide) ?_
    exact g_zret0 (pc := 65) hC dX8_mayWant_65
  · refine g_iload_n (pc := 8) (q := 2) hC dX8_mayWant_8 rfl rfl ?_
    refine g_getsN (pc := 9) hC hC.2.2.2.2.2.2.2.1.1 hC.2.2.2.2.2.2.2.1.2.2.2.2.2.2.2.2.1 dX8_mayWant_9 ?_
    refine g_iconst (pc := 12) (v := 2) hC dX8_mayWant_12 (by decide) ?_
    refine g_tald (pc := 13) hC 0 10 hC.2.2.2.2.2.2.2.1.2.1 dX8_mayWant_13 ?_
    refine g_getsN (pc := 14) hC hC.2.2.2.2.2.2.2.1.2.2.1 hC.2.2.2.2.2.2.2.1.2.2.2.2.2.2.2.2.2.1 dX8_mayWant_14 ?_
    refine g_iconst (pc := 17) (v := 2) hC dX8_mayWant_17 (by decide) ?_
    refine g_tald (pc := 18) hC 1 10 hC.2.2.2.2.2.2.2.1.2.2.2.1 dX8_mayWant_18 ?_
    refine g_callSNz (pc := 19) (As := [.int p1, .int (gTb 0 (Int32.toNatClampNeg 2)), .int (gTb 1 (Int32.toNatClampNeg 2))]) (rest := []) hC hC.2.2.2.2.2.2.2.1.2.2.2.2.2.2.2.2.2.2.1 lkn_RX8_47 (tX9_within _ _ s2 p1 (gTb 0 (Int32.toNatClampNeg 2)) (gTb 1 (Int32.toNatClampNeg 2))) rfl rfl (Nat.le_of_ble_eq_true rfl) ⟨rfl, rfl, Nat.le_of_ble_eq_true rfl, Nat.le_of_ble_eq_true rfl⟩ dX8_mayWant_19 (fun r3 s4 => ?_)
    refine g_bif_eq (pc := 22) (tgt := 64) hC dX8_mayWant_22 (by decide) ?_ ?_
    · refine g_iconst (pc := 64) (v := 0) hC dX8_mayWant_64 (by decide) ?_
      exact g_zret0 (pc := 65) hC dX8_mayWant_65
    · refine g_iload_n (pc := 25) (q := 3) hC dX8_mayWant_25 rfl rfl ?_
      refine g_getsN (pc := 26) hC hC.2.2.2.2.2.2.2.1.1 hC.2.2.2.2.2.2.2.1.2.2.2.2.2.2.2.2.1 dX8_mayWant_26 ?_
      refine g_iconst (pc := 29) (v := 3) hC dX8_mayWant_29 (by decide) ?_
      refine g_tald (pc := 30) hC 0 10 hC.2.2.2.2.2.2.2.1.2.1 dX8_mayWant_30 ?_
      refine g_getsN (pc := 31) hC hC.2.2.2.2.2.2.2.1.2.2.1 hC.2.2.2.2.2.2.2.1.2.2.2.2.2.2.2.2.2.1 dX8_mayWant_31 ?_
      refine g_iconst (pc := 34) (v := 3) hC dX8_mayWant_34 (by decide) ?_
      refine g_tald (pc := 35) hC 1 10 hC.2.2.2.2.2.2.2.1.2.2.2.1 dX8_mayWant_35 ?_
      refine g_callSNz (pc := 36) (As := [.int p2, .int (gTb 0 (Int32.toNatClampNeg 3)), .int (gTb 1 (Int32.toNatClampNeg 3))]) (rest := []) hC hC.2.2.2.2.2.2.2.1.2.2.2.2.2.2.2.2.2.2.1 lkn_RX8_47 (tX9_within _ _ s4 p2 (gTb 0 (Int32.toNatClampNeg 3)) (gTb 1 (Int32.toNatClampNeg 3))) rfl rfl (Nat.le_of_ble_eq_true rfl) ⟨rfl, rfl, Nat.le_of_ble_eq_true rfl, Nat.le_of_ble_eq_true rfl⟩ dX8_mayWant_36 (fun r5 s6 => ?_)
      refine g_bif_eq (pc := 39) (tgt := 64) hC dX8_mayWant_39 (by decide) ?_ ?_
      · refine g_iconst (pc := 64) (v := 0) hC dX8_mayWant_64 (by decide) ?_
        exact g_zret0 (pc := 65) hC dX8_mayWant_65
      · refine g_iload (pc := 42) (q := 4) hC dX8_mayWant_42 rfl ?_
        refine g_getsN (pc := 44) hC hC.2.2.2.2.2.2.2.1.1 hC.2.2.2.2.2.2.2.1.2.2.2.2.2.2.2.2.1 dX8_mayWant_44 ?_
        refine g_iconst (pc := 47) (v := 4) hC dX8_mayWant_47 (by decide) ?_
        refine g_tald (pc := 48) hC 0 10 hC.2.2.2.2.2.2.2.1.2.1 dX8_mayWant_48 ?_
        refine g_getsN (pc := 49) hC hC.2.2.2.2.2.2.2.1.2.2.1 hC.2.2.2.2.2.2.2.1.2.2.2.2.2.2.2.2.2.1 dX8_mayWant_49 ?_
        refine g_iconst (pc := 52) (v := 4) hC dX8_mayWant_52 (by decide) ?_
        refine g_tald (pc := 53) hC 1 10 hC.2.2.2.2.2.2.2.1.2.2.2.1 dX8_mayWant_53 ?_
        refine g_callSNz (pc := 54) (As := [.int p3, .int (gTb 0 (Int32.toNatClampNeg 4)), .int (gTb 1 (Int32.toNatClampNeg 4))]) (rest := []) hC hC.2.2.2.2.2.2.2.1.2.2.2.2.2.2.2.2.2.2.1 lkn_RX8_47 (tX9_within _ _ s6 p3 (gTb 0 (Int32.toNatClampNeg 4)) (gTb 1 (Int32.toNatClampNeg 4))) rfl rfl (Nat.le_of_ble_eq_true rfl) ⟨rfl, rfl, Nat.le_of_ble_eq_true rfl, Nat.le_of_ble_eq_true rfl⟩ dX8_mayWant_54 (fun r7 s8 => ?_)
        refine g_bif_eq (pc := 57) (tgt := 64) hC dX8_mayWant_57 (by decide) ?_ ?_
        · refine g_iconst (pc := 64) (v := 0) hC dX8_mayWant_64 (by decide) ?_
          exact g_zret0 (pc := 65) hC dX8_mayWant_65
        · refine g_iconst (pc := 60) (v := 1) hC dX8_mayWant_60 (by decide) ?_
          refine g_goto (pc := 61) (tgt := 65) hC dX8_mayWant_61 (by decide) ?_
          exact g_zret1 (pc := 65) hC dX8_mayWant_65
theorem dX8_addWant_0 : decode cX8_addWant 0 = .ok (.aload_n 0, 1) := by decide +kernel
theorem dX8_addWant_1 : decode cX8_addWant 1 = .ok (.getfield 22, 3) := by decide +kernel
theorem dX8_addWant_4 : decode cX8_addWant 4 = .ok (.bipush 12, 2) := by decide +kernel
theorem dX8_addWant_6 : decode cX8_addWant 6 = .ok (.if_icmp .lt 6, 3) := by decide +kernel
theorem dX8_addWant_9 : decode cX8_addWant 9 = .ok (.bipush (-3), 2) := by decide +kernel
theorem dX8_addWant_11 : decode cX8_addWant 11 = .ok (.ireturn, 1) := by decide +kernel
theorem dX8_addWant_12 : decode cX8_addWant 12 = .ok (.aload_n 0, 1) := by decide +kernel
theorem dX8_addWant_13 : decode cX8_addWant 13 = .ok (.getfield 25, 3) := by decide +kernel
theorem dX8_addWant_16 : decode cX8_addWant 16 = .ok (.aload_n 0, 1) := by decide +kernel
theorem dX8_addWant_17 : decode cX8_addWant 17 = .ok (.getfield 22, 3) := by decide +kernel
theorem dX8_addWant_20 : decode cX8_addWant 20 = .ok (.iload_n 1, 1) := by decide +kernel
theorem dX8_addWant_21 : decode cX8_addWant 21 = .ok (.iastore, 1) := by decide +kernel
theorem dX8_addWant_22 : decode cX8_addWant 22 = .ok (.aload_n 0, 1) := by decide +kernel
theorem dX8_addWant_23 : decode cX8_addWant 23 = .ok (.getfield 28, 3) := by decide +kernel
theorem dX8_addWant_26 : decode cX8_addWant 26 = .ok (.aload_n 0, 1) := by decide +kernel
theorem dX8_addWant_27 : decode cX8_addWant 27 = .ok (.getfield 22, 3) := by decide +kernel
theorem dX8_addWant_30 : decode cX8_addWant 30 = .ok (.iload_n 2, 1) := by decide +kernel
theorem dX8_addWant_31 : decode cX8_addWant 31 = .ok (.iastore, 1) := by decide +kernel
theorem dX8_addWant_32 : decode cX8_addWant 32 = .ok (.aload_n 0, 1) := by decide +kernel
theorem dX8_addWant_33 : decode cX8_addWant 33 = .ok (.getfield 31, 3) := by decide +kernel
theorem dX8_addWant_36 : decode cX8_addWant 36 = .ok (.aload_n 0, 1) := by decide +kernel
theorem dX8_addWant_37 : decode cX8_addWant 37 = .ok (.getfield 22, 3) := by decide +kernel
theorem dX8_addWant_40 : decode cX8_addWant 40 = .ok (.iload_n 3, 1) := by decide +kernel
theorem dX8_addWant_41 : decode cX8_addWant 41 = .ok (.iastore, 1) := by decide +kernel
theorem dX8_addWant_42 : decode cX8_addWant 42 = .ok (.aload_n 0, 1) := by decide +kernel
theorem dX8_addWant_43 : decode cX8_addWant 43 = .ok (.getfield 34, 3) := by decide +kernel
theorem dX8_addWant_46 : decode cX8_addWant 46 = .ok (.aload_n 0, 1) := by decide +kernel
theorem dX8_addWant_47 : decode cX8_addWant 47 = .ok (.getfield 22, 3) := by decide +kernel
theorem dX8_addWant_50 : decode cX8_addWant 50 = .ok (.iload 4, 2) := by decide +kernel
theorem dX8_addWant_52 : decode cX8_addWant 52 = .ok (.iastore, 1) := by decide +kernel
theorem dX8_addWant_53 : decode cX8_addWant 53 = .ok (.aload_n 0, 1) := by decide +kernel
theorem dX8_addWant_54 : decode cX8_addWant 54 = .ok (.dup, 1) := by decide +kernel
theorem dX8_addWant_55 : decode cX8_addWant 55 = .ok (.getfield 22, 3) := by decide +kernel
theorem dX8_addWant_58 : decode cX8_addWant 58 = .ok (.iconst 1, 1) := by decide +kernel
theorem dX8_addWant_59 : decode cX8_addWant 59 = .ok (.iadd, 1) := by decide +kernel
theorem dX8_addWant_60 : decode cX8_addWant 60 = .ok (.putfield 22, 3) := by decide +kernel
theorem dX8_addWant_63 : decode cX8_addWant 63 = .ok (.aload_n 0, 1) := by decide +kernel
theorem dX8_addWant_64 : decode cX8_addWant 64 = .ok (.getfield 22, 3) := by decide +kernel
theorem dX8_addWant_67 : decode cX8_addWant 67 = .ok (.iconst 1, 1) := by decide +kernel
theorem dX8_addWant_68 : decode cX8_addWant 68 = .ok (.isub, 1) := by decide +kernel
theorem dX8_addWant_69 : decode cX8_addWant 69 = .ok (.ireturn, 1) := by decide +kernel
abbrev rX8_addWant : Room := { frames := 0, cells := 0, slots := 0, locals := 0 }
def mX8_addWant (σ : gS) (p0 : Int32) (p1 : Int32) (p2 : Int32) (p3 : Int32) : Option (Int32 × gS) := if (σ.1 1 3) < 12 then (if inbB (σ.1 1 3) 12 = true then gLet (gUI σ 4 (Int32.toNatClampNeg (σ.1 1 3)) p0) (fun s1 => if inbB (s1.1 1 3) 12 = true then gLet (gUI s1 5 (Int32.toNatClampNeg (s1.1 1 3)) p1) (fun s2 => if inbB (s2.1 1 3) 12 = true then gLet (gUI s2 6 (Int32.toNatClampNeg (s2.1 1 3)) p2) (fun s3 => if inbB (s3.1 1 3) 12 = true then gLet (gUI s3 7 (Int32.toNatClampNeg (s3.1 1 3)) p3) (fun s4 => gLet (gUI s4 1 3 ((s4.1 1 3) + 1)) (fun s5 => some (((s5.1 1 3) - 1), s5))) else none) else none) else none) else none) else (some ((-3), σ))
set_option maxHeartbeats 4000000 in
set_option maxRecDepth 100000 in
theorem tX8_addWant (l : Launch) (G : gE) (σ : gS) (p0 : Int32) (p1 : Int32) (p2 : Int32) (p3 : Int32) : gM l G yX8_addWant cX8_addWant 5 (some .int) rX8_addWant iI [.ref (G.2.1 1), .int p0, .int p1, .int p2, .int p3] σ (mX8_addWant σ p0 p1 p2 p3) := by
  refine gM_of (by decide) (Nat.le_of_ble_eq_true rfl) ?_
  intro p e s m args below meth c hC
  unfold mX8_addWant
  show gT p l e rX8_addWant s m args below meth c G 5 iI σ 0 [(0, .ref (G.2.1 1)), (1, .int p0), (2, .int p1), (3, .int p2), (4, .int p3)] [] _
  refine g_aload_n (pc := 0) (q := 0) hC dX8_addWant_0 rfl rfl ?_
  refine g_get (pc := 1) (v := .int (σ.1 1 3)) hC kX8 rfl 3 (by decide) fl_RX8_22 rfl dX8_addWant_1 ?_
  refine g_bipush (pc := 4) (v := 12) hC dX8_addWant_4 (by decide) ?_
  refine g_icmp_lt (pc := 6) (tgt := 12) hC dX8_addWant_6 (by decide) ?_ ?_
  · refine g_aload_n (pc := 12) (q := 0) hC dX8_addWant_12 rfl rfl ?_
    refine g_get (pc := 13) (v := .ref (G.2.1 4)) hC kX8 rfl 4 (by decide) fl_RX8_25 rfl dX8_addWant_13 ?_
    refine g_aload_n (pc := 16) (q := 0) hC dX8_addWant_16 rfl rfl ?_
    refine g_get (pc := 17) (v := .int (σ.1 1 3)) hC kX8 rfl 3 (by decide) fl_RX8_22 rfl dX8_addWant_17 ?_
    refine g_iload_n (pc := 20) (q := 1) hC dX8_addWant_20 rfl rfl ?_
    refine g_iast (pc := 21) hC 12 rfl (by decide) dX8_addWant_21 (fun s1 => ?_)
    refine g_aload_n (pc := 22) (q := 0) hC dX8_addWant_22 rfl rfl ?_
    refine g_get (pc := 23) (v := .ref (G.2.1 5)) hC kX8 rfl 5 (by decide) fl_RX8_28 rfl dX8_addWant_23 ?_
    refine g_aload_n (pc := 26) (q := 0) hC dX8_addWant_26 rfl rfl ?_
    refine g_get (pc := 27) (v := .int (s1.1 1 3)) hC kX8 rfl 3 (by decide) fl_RX8_22 rfl dX8_addWant_27 ?_
    refine g_iload_n (pc := 30) (q := 2) hC dX8_addWant_30 rfl rfl ?_
    refine g_iast (pc := 31) hC 12 rfl (by decide) dX8_addWant_31 (fun s2 => ?_)
    refine g_aload_n (pc := 32) (q := 0) hC dX8_addWant_32 rfl rfl ?_
    refine g_get (pc := 33) (v := .ref (G.2.1 6)) hC kX8 rfl 6 (by decide) fl_RX8_31 rfl dX8_addWant_33 ?_
    refine g_aload_n (pc := 36) (q := 0) hC dX8_addWant_36 rfl rfl ?_
    refine g_get (pc := 37) (v := .int (s2.1 1 3)) hC kX8 rfl 3 (by decide) fl_RX8_22 rfl dX8_addWant_37 ?_
    refine g_iload_n (pc := 40) (q := 3) hC dX8_addWant_40 rfl rfl ?_
    refine g_iast (pc := 41) hC 12 rfl (by decide) dX8_addWant_41 (fun s3 => ?_)
    refine g_aload_n (pc := 42) (q := 0) hC dX8_addWant_42 rfl rfl ?_
    refine g_get (pc := 43) (v := .ref (G.2.1 7)) hC kX8 rfl 7 (by decide) fl_RX8_34 rfl dX8_addWant_43 ?_
    refine g_aload_n (pc := 46) (q := 0) hC dX8_addWant_46 rfl rfl ?_
    refine g_get (pc := 47) (v := .int (s3.1 1 3)) hC kX8 rfl 3 (by decide) fl_RX8_22 rfl dX8_addWant_47 ?_
    refine g_iload (pc := 50) (q := 4) hC dX8_addWant_50 rfl ?_
    refine g_iast (pc := 52) hC 12 rfl (by decide) dX8_addWant_52 (fun s4 => ?_)
    refine g_aload_n (pc := 53) (q := 0) hC dX8_addWant_53 rfl rfl ?_
    refine g_dup (pc := 54) hC dX8_addWant_54 rfl ?_
    refine g_get (pc := 55) (v := .int (s4.1 1 3)) hC kX8 rfl 3 (by decide) fl_RX8_22 rfl dX8_addWant_55 ?_
    refine g_iconst (pc := 58) (v := 1) hC dX8_addWant_58 (by decide) ?_
    refine g_iadd (pc := 59) hC dX8_addWant_59 ?_
    refine g_puti (pc := 60) (fty := .int) hC kX8 rfl 3 (by decide) fl_RX8_22 rfl rfl rfl rfl (fun _ _ => Nat.le_of_ble_eq_true rfl) (fun _ _ => rfl) dX8_addWant_60 (fun s5 => ?_)
    refine g_aload_n (pc := 63) (q := 0) hC dX8_addWant_63 rfl rfl ?_
    refine g_get (pc := 64) (v := .int (s5.1 1 3)) hC kX8 rfl 3 (by decide) fl_RX8_22 rfl dX8_addWant_64 ?_
    refine g_iconst (pc := 67) (v := 1) hC dX8_addWant_67 (by decide) ?_
    refine g_isub (pc := 68) hC dX8_addWant_68 ?_
    exact g_iret (pc := 69) hC dX8_addWant_69
  · refine g_bipush (pc := 9) (v := (-3)) hC dX8_addWant_9 (by decide) ?_
    exact g_iret (pc := 11) hC dX8_addWant_11
theorem dX8_isMet_0 : decode cX8_isMet 0 = .ok (.aload_n 0, 1) := by decide +kernel
theorem dX8_isMet_1 : decode cX8_isMet 1 = .ok (.getfield 28, 3) := by decide +kernel
theorem dX8_isMet_4 : decode cX8_isMet 4 = .ok (.iload_n 1, 1) := by decide +kernel
theorem dX8_isMet_5 : decode cX8_isMet 5 = .ok (.iaload, 1) := by decide +kernel
theorem dX8_isMet_6 : decode cX8_isMet 6 = .ok (.iload_n 2, 1) := by decide +kernel
theorem dX8_isMet_7 : decode cX8_isMet 7 = .ok (.if_icmp .ne 17, 3) := by decide +kernel
theorem dX8_isMet_10 : decode cX8_isMet 10 = .ok (.aload_n 0, 1) := by decide +kernel
theorem dX8_isMet_11 : decode cX8_isMet 11 = .ok (.getfield 31, 3) := by decide +kernel
theorem dX8_isMet_14 : decode cX8_isMet 14 = .ok (.iload_n 1, 1) := by decide +kernel
theorem dX8_isMet_15 : decode cX8_isMet 15 = .ok (.iaload, 1) := by decide +kernel
theorem dX8_isMet_16 : decode cX8_isMet 16 = .ok (.iload_n 3, 1) := by decide +kernel
theorem dX8_isMet_17 : decode cX8_isMet 17 = .ok (.if_icmp .gt 7, 3) := by decide +kernel
theorem dX8_isMet_20 : decode cX8_isMet 20 = .ok (.iconst 1, 1) := by decide +kernel
theorem dX8_isMet_21 : decode cX8_isMet 21 = .ok (.goto 4, 3) := by decide +kernel
theorem dX8_isMet_24 : decode cX8_isMet 24 = .ok (.iconst 0, 1) := by decide +kernel
theorem dX8_isMet_25 : decode cX8_isMet 25 = .ok (.ireturn, 1) := by decide +kernel
abbrev rX8_isMet : Room := { frames := 0, cells := 0, slots := 0, locals := 0 }
def mX8_isMet (σ : gS) (p0 : Int32) (p1 : Int32) (p2 : Int32) : Option (Bool × gS) := if inbB p0 12 = true then (if (σ.1 5 (Int32.toNatClampNeg p0)) = p1 then (if inbB p0 12 = true then (if p2 < (σ.1 6 (Int32.toNatClampNeg p0)) then (some (false, σ)) else (some (true, σ))) else none) else (some (false, σ))) else none
set_option maxHeartbeats 4000000 in
set_option maxRecDepth 100000 in
theorem tX8_isMet (l : Launch) (G : gE) (σ : gS) (p0 : Int32) (p1 : Int32) (p2 : Int32) : gM l G yX8_isMet cX8_isMet 4 (some .boolean) rX8_isMet iZ [.ref (G.2.1 1), .int p0, .int p1, .int p2] σ (mX8_isMet σ p0 p1 p2) := by
  refine gM_of (by decide) (Nat.le_of_ble_eq_true rfl) ?_
  intro p e s m args below meth c hC
  unfold mX8_isMet
  show gT p l e rX8_isMet s m args below meth c G 4 iZ σ 0 [(0, .ref (G.2.1 1)), (1, .int p0), (2, .int p1), (3, .int p2)] [] _
  refine g_aload_n (pc := 0) (q := 0) hC dX8_isMet_0 rfl rfl ?_
  refine g_get (pc := 1) (v := .ref (G.2.1 5)) hC kX8 rfl 5 (by decide) fl_RX8_28 rfl dX8_isMet_1 ?_
  refine g_iload_n (pc := 4) (q := 1) hC dX8_isMet_4 rfl rfl ?_
  refine g_iald (pc := 5) hC 12 rfl (by decide) dX8_isMet_5 ?_
  refine g_iload_n (pc := 6) (q := 2) hC dX8_isMet_6 rfl rfl ?_
  refine g_icmp_ne (pc := 7) (tgt := 24) hC dX8_isMet_7 (by decide) ?_ ?_
  · refine g_iconst (pc := 24) (v := 0) hC dX8_isMet_24 (by decide) ?_
    exact g_zret0 (pc := 25) hC dX8_isMet_25
  · refine g_aload_n (pc := 10) (q := 0) hC dX8_isMet_10 rfl rfl ?_
    refine g_get (pc := 11) (v := .ref (G.2.1 6)) hC kX8 rfl 6 (by decide) fl_RX8_31 rfl dX8_isMet_11 ?_
    refine g_iload_n (pc := 14) (q := 1) hC dX8_isMet_14 rfl rfl ?_
    refine g_iald (pc := 15) hC 12 rfl (by decide) dX8_isMet_15 ?_
    refine g_iload_n (pc := 16) (q := 3) hC dX8_isMet_16 rfl rfl ?_
    refine g_icmp_gt (pc := 17) (tgt := 24) hC dX8_isMet_17 (by decide) ?_ ?_
    · refine g_iconst (pc := 24) (v := 0) hC dX8_isMet_24 (by decide) ?_
      exact g_zret0 (pc := 25) hC dX8_isMet_25
    · refine g_iconst (pc := 20) (v := 1) hC dX8_isMet_20 (by decide) ?_
      refine g_goto (pc := 21) (tgt := 25) hC dX8_isMet_21 (by decide) ?_
      exact g_zret1 (pc := 25) hC dX8_isMet_25
theorem lk_RX8_51 : gLV RX8 51 RX8 yX8_isMet cX8_isMet 4 (some .boolean) 3 := ⟨(gBig_tab 683 (by decide +kernel) (by decide +kernel)), (gBig_tab 685 (by decide +kernel) (by decide +kernel)), (gBig_sel 22 (by decide +kernel) (by decide +kernel)), (gBig_tab 2 (by decide +kernel) (by decide +kernel)), (gBig_tab 686 (by decide +kernel) (by decide +kernel)), rfl, by decide +kernel, by decide +kernel, by decide +kernel⟩
theorem dX8_met_0 : decode cX8_met 0 = .ok (.iconst 0, 1) := by decide +kernel
theorem dX8_met_1 : decode cX8_met 1 = .ok (.istore_n 3, 1) := by decide +kernel
theorem dX8_met_2 : decode cX8_met 2 = .ok (.iconst 0, 1) := by decide +kernel
theorem dX8_met_3 : decode cX8_met 3 = .ok (.istore 4, 2) := by decide +kernel
theorem dX8_met_5 : decode cX8_met 5 = .ok (.iload 4, 2) := by decide +kernel
theorem dX8_met_7 : decode cX8_met 7 = .ok (.aload_n 0, 1) := by decide +kernel
theorem dX8_met_8 : decode cX8_met 8 = .ok (.getfield 22, 3) := by decide +kernel
theorem dX8_met_11 : decode cX8_met 11 = .ok (.if_icmp .ge 27, 3) := by decide +kernel
theorem dX8_met_14 : decode cX8_met 14 = .ok (.aload_n 0, 1) := by decide +kernel
theorem dX8_met_15 : decode cX8_met 15 = .ok (.iload 4, 2) := by decide +kernel
theorem dX8_met_17 : decode cX8_met 17 = .ok (.iload_n 1, 1) := by decide +kernel
theorem dX8_met_18 : decode cX8_met 18 = .ok (.iload_n 2, 1) := by decide +kernel
theorem dX8_met_19 : decode cX8_met 19 = .ok (.invokevirtual 51, 3) := by decide +kernel
theorem dX8_met_22 : decode cX8_met 22 = .ok (.ifCond .eq 10, 3) := by decide +kernel
theorem dX8_met_25 : decode cX8_met 25 = .ok (.iload_n 3, 1) := by decide +kernel
theorem dX8_met_26 : decode cX8_met 26 = .ok (.iconst 1, 1) := by decide +kernel
theorem dX8_met_27 : decode cX8_met 27 = .ok (.iload 4, 2) := by decide +kernel
theorem dX8_met_29 : decode cX8_met 29 = .ok (.ishl, 1) := by decide +kernel
theorem dX8_met_30 : decode cX8_met 30 = .ok (.ior, 1) := by decide +kernel
theorem dX8_met_31 : decode cX8_met 31 = .ok (.istore_n 3, 1) := by decide +kernel
theorem dX8_met_32 : decode cX8_met 32 = .ok (.iinc 4 1, 3) := by decide +kernel
theorem dX8_met_35 : decode cX8_met 35 = .ok (.goto (-30), 3) := by decide +kernel
theorem dX8_met_38 : decode cX8_met 38 = .ok (.iload_n 3, 1) := by decide +kernel
theorem dX8_met_39 : decode cX8_met 39 = .ok (.ireturn, 1) := by decide +kernel
abbrev rX8_met : Room := { frames := 1, cells := 0, slots := 0, locals := 23 }
def mX8_met_b32   (k5 : gS → Int32 → Int32 → Int32 → Int32 → Option (Int32 × gS)) (σ : gS) (x9 : Int32) (x10 : Int32) (x11 : Int32) (x12 : Int32) : Option (Int32 × gS) := gLet (x12 + 1) (fun v13 => (k5 σ x9 x10 x11 v13))
set_option maxHeartbeats 4000000 in
set_option maxRecDepth 100000 in
theorem wX8_met_b32 {p : Program} {l : Launch} {e : Env} {s : State} {m : MethodId} {args : Array Value} {below : List Frame} {meth : Method} {c : Code} {G : gE} (hC : gCx p s m args meth c G RX8 cX8_met 5 (some .int))    {k5 : gS → Int32 → Int32 → Int32 → Int32 → Option (Int32 × gS)} (hk5 : ∀ (σ : gS) (x3 : Int32) (x4 : Int32) (x5 : Int32) (x6 : Int32), gT p l e rX8_met s m args below meth c G 5 iI σ 5 [(0, .ref (G.2.1 1)), (1, .int x3), (2, .int x4), (3, .int x5), (4, .int x6)] [] (k5 σ x3 x4 x5 x6)) (σ : gS) (x9 : Int32) (x10 : Int32) (x11 : Int32) (x12 : Int32)  : gT p l e rX8_met s m args below meth c G 5 iI σ 32 [(0, .ref (G.2.1 1)), (1, .int x9), (2, .int x10), (3, .int x11), (4, .int x12)] [] (mX8_met_b32 k5 σ x9 x10 x11 x12) := by
  unfold mX8_met_b32
  refine g_iinc (pc := 32) (q := 4) (w := 1) (lv' := fun v13 => [(4, .int v13), (0, .ref (G.2.1 1)), (1, .int x9), (2, .int x10), (3, .int x11)]) hC dX8_met_32 rfl (by decide) (by decide) (fun _ => rfl) (fun v13 => ?_)
  refine g_goto (pc := 35) (tgt := 5) hC dX8_met_35 (by decide) ?_
  exact gT_sub [1, 2, 3, 4, 0] rfl (hk5 σ x9 x10 x11 v13)
def mX8_met_b5    : Nat → gS → Int32 → Int32 → Int32 → Int32 → Option (Int32 × gS)
  | 0, _, _, _, _, _ => none
  | n + 1, σ, x3, x4, x5, x6 => if (σ.1 1 3) ≤ x6 then (some (x5, σ)) else (gBind (mX8_isMet σ x6 x3 x4) (fun r7 s8 => if r7 = true then (gLet (x5 ||| (1 <<< (x6 &&& 31))) (fun v14 => (mX8_met_b32 (mX8_met_b5  n) s8 x3 x4 v14 x6))) else ((mX8_met_b32 (mX8_met_b5  n) s8 x3 x4 x5 x6))))
set_option maxHeartbeats 4000000 in
set_option maxRecDepth 100000 in
theorem wX8_met_b5 {p : Program} {l : Launch} {e : Env} {s : State} {m : MethodId} {args : Array Value} {below : List Frame} {meth : Method} {c : Code} {G : gE} (hC : gCx p s m args meth c G RX8 cX8_met 5 (some .int))     (n : Nat) (σ : gS) (x3 : Int32) (x4 : Int32) (x5 : Int32) (x6 : Int32)  : gT p l e rX8_met s m args below meth c G 5 iI σ 5 [(0, .ref (G.2.1 1)), (1, .int x3), (2, .int x4), (3, .int x5), (4, .int x6)] [] (mX8_met_b5  n σ x3 x4 x5 x6) := by
  induction n generalizing σ x3 x4 x5 x6 with
  | zero => exact gT_none
  | succ n ih =>
    unfold mX8_met_b5
    refine g_iload (pc := 5) (q := 4) hC dX8_met_5 rfl ?_
    refine g_aload_n (pc := 7) (q := 0) hC dX8_met_7 rfl rfl ?_
    refine g_get (pc := 8) (v := .int (σ.1 1 3)) hC kX8 rfl 3 (by decide) fl_RX8_22 rfl dX8_met_8 ?_
    refine g_icmp_ge (pc := 11) (tgt := 38) hC dX8_met_11 (by decide) ?_ ?_
    · refine g_iload_n (pc := 38) (q := 3) hC dX8_met_38 rfl rfl ?_
      exact g_iret (pc := 39) hC dX8_met_39
    · refine g_aload_n (pc := 14) (q := 0) hC dX8_met_14 rfl rfl ?_
      refine g_iload (pc := 15) (q := 4) hC dX8_met_15 rfl ?_
      refine g_iload_n (pc := 17) (q := 1) hC dX8_met_17 rfl rfl ?_
      refine g_iload_n (pc := 18) (q := 2) hC dX8_met_18 rfl rfl ?_
      refine g_callVz (pc := 19) (As := [.int x6, .int x3, .int x4]) (rest := []) hC lk_RX8_51 kX8 rfl (tX8_isMet _ _ σ x6 x3 x4) rfl rfl (Nat.le_of_ble_eq_true rfl) ⟨rfl, rfl, Nat.le_of_ble_eq_true rfl, Nat.le_of_ble_eq_true rfl⟩ dX8_met_19 (fun r7 s8 => ?_)
      refine g_bif_eq (pc := 22) (tgt := 32) hC dX8_met_22 (by decide) ?_ ?_
      · exact gT_sub [0, 1, 2, 3, 4] rfl (wX8_met_b32 hC ih s8 x3 x4 x5 x6)
      · refine g_iload_n (pc := 25) (q := 3) hC dX8_met_25 rfl rfl ?_
        refine g_iconst (pc := 26) (v := 1) hC dX8_met_26 (by decide) ?_
        refine g_iload (pc := 27) (q := 4) hC dX8_met_27 rfl ?_
        refine g_ishl (pc := 29) hC dX8_met_29 ?_
        refine g_ior (pc := 30) hC dX8_met_30 ?_
        refine g_istore_n (pc := 31) (lv' := fun v14 => [(3, .int v14), (0, .ref (G.2.1 1)), (1, .int x3), (2, .int x4), (4, .int x6)]) hC dX8_met_31 rfl (by decide) (fun _ => rfl) (fun v14 => ?_)
        exact gT_sub [1, 2, 3, 0, 4] rfl (wX8_met_b32 hC ih s8 x3 x4 v14 x6)
def mX8_met (σ : gS) (p0 : Int32) (p1 : Int32) : Option (Int32 × gS) := gLet 0 (fun v1 => gLet 0 (fun v2 => (mX8_met_b5  1100 σ p0 p1 v1 v2)))
set_option maxHeartbeats 4000000 in
set_option maxRecDepth 100000 in
theorem tX8_met (l : Launch) (G : gE) (σ : gS) (p0 : Int32) (p1 : Int32) : gM l G yX8_met cX8_met 5 (some .int) rX8_met iI [.ref (G.2.1 1), .int p0, .int p1] σ (mX8_met σ p0 p1) := by
  refine gM_of (by decide) (Nat.le_of_ble_eq_true rfl) ?_
  intro p e s m args below meth c hC
  unfold mX8_met
  show gT p l e rX8_met s m args below meth c G 5 iI σ 0 [(0, .ref (G.2.1 1)), (1, .int p0), (2, .int p1)] [] _
  refine g_iconst (pc := 0) (v := 0) hC dX8_met_0 (by decide) ?_
  refine g_istore_n (pc := 1) (lv' := fun v1 => [(3, .int v1), (0, .ref (G.2.1 1)), (1, .int p0), (2, .int p1)]) hC dX8_met_1 rfl (by decide) (fun _ => rfl) (fun v1 => ?_)
  refine g_iconst (pc := 2) (v := 0) hC dX8_met_2 (by decide) ?_
  refine g_istore (pc := 3) (lv' := fun v2 => [(4, .int v2), (3, .int v1), (0, .ref (G.2.1 1)), (1, .int p0), (2, .int p1)]) hC dX8_met_3 (by decide) (fun _ => rfl) (fun v2 => ?_)
  exact gT_sub [2, 3, 4, 1, 0] rfl (wX8_met_b5 hC  1100 σ p0 p1 v1 v2)
theorem dX8_gain_0 : decode cX8_gain 0 = .ok (.iconst 0, 1) := by decide +kernel
theorem dX8_gain_1 : decode cX8_gain 1 = .ok (.istore_n 3, 1) := by decide +kernel
theorem dX8_gain_2 : decode cX8_gain 2 = .ok (.iconst 0, 1) := by decide +kernel
theorem dX8_gain_3 : decode cX8_gain 3 = .ok (.istore 4, 2) := by decide +kernel
theorem dX8_gain_5 : decode cX8_gain 5 = .ok (.iload 4, 2) := by decide +kernel
theorem dX8_gain_7 : decode cX8_gain 7 = .ok (.aload_n 0, 1) := by decide +kernel
theorem dX8_gain_8 : decode cX8_gain 8 = .ok (.getfield 22, 3) := by decide +kernel
theorem dX8_gain_11 : decode cX8_gain 11 = .ok (.if_icmp .ge 30, 3) := by decide +kernel
theorem dX8_gain_14 : decode cX8_gain 14 = .ok (.aload_n 0, 1) := by decide +kernel
theorem dX8_gain_15 : decode cX8_gain 15 = .ok (.iload 4, 2) := by decide +kernel
theorem dX8_gain_17 : decode cX8_gain 17 = .ok (.iload_n 1, 1) := by decide +kernel
theorem dX8_gain_18 : decode cX8_gain 18 = .ok (.iload_n 2, 1) := by decide +kernel
theorem dX8_gain_19 : decode cX8_gain 19 = .ok (.invokevirtual 51, 3) := by decide +kernel
theorem dX8_gain_22 : decode cX8_gain 22 = .ok (.ifCond .eq 13, 3) := by decide +kernel
theorem dX8_gain_25 : decode cX8_gain 25 = .ok (.iload_n 3, 1) := by decide +kernel
theorem dX8_gain_26 : decode cX8_gain 26 = .ok (.aload_n 0, 1) := by decide +kernel
theorem dX8_gain_27 : decode cX8_gain 27 = .ok (.getfield 34, 3) := by decide +kernel
theorem dX8_gain_30 : decode cX8_gain 30 = .ok (.iload 4, 2) := by decide +kernel
theorem dX8_gain_32 : decode cX8_gain 32 = .ok (.iaload, 1) := by decide +kernel
theorem dX8_gain_33 : decode cX8_gain 33 = .ok (.iadd, 1) := by decide +kernel
theorem dX8_gain_34 : decode cX8_gain 34 = .ok (.istore_n 3, 1) := by decide +kernel
theorem dX8_gain_35 : decode cX8_gain 35 = .ok (.iinc 4 1, 3) := by decide +kernel
theorem dX8_gain_38 : decode cX8_gain 38 = .ok (.goto (-33), 3) := by decide +kernel
theorem dX8_gain_41 : decode cX8_gain 41 = .ok (.iload_n 3, 1) := by decide +kernel
theorem dX8_gain_42 : decode cX8_gain 42 = .ok (.ireturn, 1) := by decide +kernel
abbrev rX8_gain : Room := { frames := 1, cells := 0, slots := 0, locals := 23 }
def mX8_gain_b35   (k5 : gS → Int32 → Int32 → Int32 → Int32 → Option (Int32 × gS)) (σ : gS) (x9 : Int32) (x10 : Int32) (x11 : Int32) (x12 : Int32) : Option (Int32 × gS) := gLet (x12 + 1) (fun v13 => (k5 σ x9 x10 x11 v13))
set_option maxHeartbeats 4000000 in
set_option maxRecDepth 100000 in
theorem wX8_gain_b35 {p : Program} {l : Launch} {e : Env} {s : State} {m : MethodId} {args : Array Value} {below : List Frame} {meth : Method} {c : Code} {G : gE} (hC : gCx p s m args meth c G RX8 cX8_gain 5 (some .int))    {k5 : gS → Int32 → Int32 → Int32 → Int32 → Option (Int32 × gS)} (hk5 : ∀ (σ : gS) (x3 : Int32) (x4 : Int32) (x5 : Int32) (x6 : Int32), gT p l e rX8_gain s m args below meth c G 5 iI σ 5 [(0, .ref (G.2.1 1)), (1, .int x3), (2, .int x4), (3, .int x5), (4, .int x6)] [] (k5 σ x3 x4 x5 x6)) (σ : gS) (x9 : Int32) (x10 : Int32) (x11 : Int32) (x12 : Int32)  : gT p l e rX8_gain s m args below meth c G 5 iI σ 35 [(0, .ref (G.2.1 1)), (1, .int x9), (2, .int x10), (3, .int x11), (4, .int x12)] [] (mX8_gain_b35 k5 σ x9 x10 x11 x12) := by
  unfold mX8_gain_b35
  refine g_iinc (pc := 35) (q := 4) (w := 1) (lv' := fun v13 => [(4, .int v13), (0, .ref (G.2.1 1)), (1, .int x9), (2, .int x10), (3, .int x11)]) hC dX8_gain_35 rfl (by decide) (by decide) (fun _ => rfl) (fun v13 => ?_)
  refine g_goto (pc := 38) (tgt := 5) hC dX8_gain_38 (by decide) ?_
  exact gT_sub [1, 2, 3, 4, 0] rfl (hk5 σ x9 x10 x11 v13)
def mX8_gain_b5    : Nat → gS → Int32 → Int32 → Int32 → Int32 → Option (Int32 × gS)
  | 0, _, _, _, _, _ => none
  | n + 1, σ, x3, x4, x5, x6 => if (σ.1 1 3) ≤ x6 then (some (x5, σ)) else (gBind (mX8_isMet σ x6 x3 x4) (fun r7 s8 => if r7 = true then (if inbB x6 12 = true then (gLet (x5 + (s8.1 7 (Int32.toNatClampNeg x6))) (fun v14 => (mX8_gain_b35 (mX8_gain_b5  n) s8 x3 x4 v14 x6))) else none) else ((mX8_gain_b35 (mX8_gain_b5  n) s8 x3 x4 x5 x6))))
set_option maxHeartbeats 4000000 in
set_option maxRecDepth 100000 in
theorem wX8_gain_b5 {p : Program} {l : Launch} {e : Env} {s : State} {m : MethodId} {args : Array Value} {below : List Frame} {meth : Method} {c : Code} {G : gE} (hC : gCx p s m args meth c G RX8 cX8_gain 5 (some .int))     (n : Nat) (σ : gS) (x3 : Int32) (x4 : Int32) (x5 : Int32) (x6 : Int32)  : gT p l e rX8_gain s m args below meth c G 5 iI σ 5 [(0, .ref (G.2.1 1)), (1, .int x3), (2, .int x4), (3, .int x5), (4, .int x6)] [] (mX8_gain_b5  n σ x3 x4 x5 x6) := by
  induction n generalizing σ x3 x4 x5 x6 with
  | zero => exact gT_none
  | succ n ih =>
    unfold mX8_gain_b5
    refine g_iload (pc := 5) (q := 4) hC dX8_gain_5 rfl ?_
    refine g_aload_n (pc := 7) (q := 0) hC dX8_gain_7 rfl rfl ?_
    refine g_get (pc := 8) (v := .int (σ.1 1 3)) hC kX8 rfl 3 (by decide) fl_RX8_22 rfl dX8_gain_8 ?_
    refine g_icmp_ge (pc := 11) (tgt := 41) hC dX8_gain_11 (by decide) ?_ ?_
    · refine g_iload_n (pc := 41) (q := 3) hC dX8_gain_41 rfl rfl ?_
      exact g_iret (pc := 42) hC dX8_gain_42
    · refine g_aload_n (pc := 14) (q := 0) hC dX8_gain_14 rfl rfl ?_
      refine g_iload (pc := 15) (q := 4) hC dX8_gain_15 rfl ?_
      refine g_iload_n (pc := 17) (q := 1) hC dX8_gain_17 rfl rfl ?_
      refine g_iload_n (pc := 18) (q := 2) hC dX8_gain_18 rfl rfl ?_
      refine g_callVz (pc := 19) (As := [.int x6, .int x3, .int x4]) (rest := []) hC lk_RX8_51 kX8 rfl (tX8_isMet _ _ σ x6 x3 x4) rfl rfl (Nat.le_of_ble_eq_true rfl) ⟨rfl, rfl, Nat.le_of_ble_eq_true rfl, Nat.le_of_ble_eq_true rfl⟩ dX8_gain_19 (fun r7 s8 => ?_)
      refine g_bif_eq (pc := 22) (tgt := 35) hC dX8_gain_22 (by decide) ?_ ?_
      · exact gT_sub [0, 1, 2, 3, 4] rfl (wX8_gain_b35 hC ih s8 x3 x4 x5 x6)
      · refine g_iload_n (pc := 25) (q := 3) hC dX8_gain_25 rfl rfl ?_
        refine g_aload_n (pc := 26) (q := 0) hC dX8_gain_26 rfl rfl ?_
        refine g_get (pc := 27) (v := .ref (G.2.1 7)) hC kX8 rfl 7 (by decide) fl_RX8_34 rfl dX8_gain_27 ?_
        refine g_iload (pc := 30) (q := 4) hC dX8_gain_30 rfl ?_
        refine g_iald (pc := 32) hC 12 rfl (by decide) dX8_gain_32 ?_
        refine g_iadd (pc := 33) hC dX8_gain_33 ?_
        refine g_istore_n (pc := 34) (lv' := fun v14 => [(3, .int v14), (0, .ref (G.2.1 1)), (1, .int x3), (2, .int x4), (4, .int x6)]) hC dX8_gain_34 rfl (by decide) (fun _ => rfl) (fun v14 => ?_)
        exact gT_sub [1, 2, 3, 0, 4] rfl (wX8_gain_b35 hC ih s8 x3 x4 v14 x6)
def mX8_gain (σ : gS) (p0 : Int32) (p1 : Int32) : Option (Int32 × gS) := gLet 0 (fun v1 => gLet 0 (fun v2 => (mX8_gain_b5  1100 σ p0 p1 v1 v2)))
set_option maxHeartbeats 4000000 in
set_option maxRecDepth 100000 in
theorem tX8_gain (l : Launch) (G : gE) (σ : gS) (p0 : Int32) (p1 : Int32) : gM l G yX8_gain cX8_gain 5 (some .int) rX8_gain iI [.ref (G.2.1 1), .int p0, .int p1] σ (mX8_gain σ p0 p1) := by
  refine gM_of (by decide) (Nat.le_of_ble_eq_true rfl) ?_
  intro p e s m args below meth c hC
  unfold mX8_gain
  show gT p l e rX8_gain s m args below meth c G 5 iI σ 0 [(0, .ref (G.2.1 1)), (1, .int p0), (2, .int p1)] [] _
  refine g_iconst (pc := 0) (v := 0) hC dX8_gain_0 (by decide) ?_
  refine g_istore_n (pc := 1) (lv' := fun v1 => [(3, .int v1), (0, .ref (G.2.1 1)), (1, .int p0), (2, .int p1)]) hC dX8_gain_1 rfl (by decide) (fun _ => rfl) (fun v1 => ?_)
  refine g_iconst (pc := 2) (v := 0) hC dX8_gain_2 (by decide) ?_
  refine g_istore (pc := 3) (lv' := fun v2 => [(4, .int v2), (3, .int v1), (0, .ref (G.2.1 1)), (1, .int p0), (2, .int p1)]) hC dX8_gain_3 (by decide) (fun _ => rfl) (fun v2 => ?_)
  exact gT_sub [2, 3, 4, 1, 0] rfl (wX8_gain_b5 hC  1100 σ p0 p1 v1 v2)
theorem dX8_harm_0 : decode cX8_harm 0 = .ok (.iconst 0, 1) := by decide +kernel
theorem dX8_harm_1 : decode cX8_harm 1 = .ok (.istore 4, 2) := by decide +kernel
theorem dX8_harm_3 : decode cX8_harm 3 = .ok (.iload 4, 2) := by decide +kernel
theorem dX8_harm_5 : decode cX8_harm 5 = .ok (.aload_n 0, 1) := by decide +kernel
theorem dX8_harm_6 : decode cX8_harm 6 = .ok (.getfield 22, 3) := by decide +kernel
theorem dX8_harm_9 : decode cX8_harm 9 = .ok (.if_icmp .ge 33, 3) := by decide +kernel
theorem dX8_harm_12 : decode cX8_harm 12 = .ok (.aload_n 0, 1) := by decide +kernel
theorem dX8_harm_13 : decode cX8_harm 13 = .ok (.getfield 25, 3) := by decide +kernel
theorem dX8_harm_16 : decode cX8_harm 16 = .ok (.iload 4, 2) := by decide +kernel
theorem dX8_harm_18 : decode cX8_harm 18 = .ok (.iaload, 1) := by decide +kernel
theorem dX8_harm_19 : decode cX8_harm 19 = .ok (.iload_n 1, 1) := by decide +kernel
theorem dX8_harm_20 : decode cX8_harm 20 = .ok (.if_icmp .ne 16, 3) := by decide +kernel
theorem dX8_harm_23 : decode cX8_harm 23 = .ok (.aload_n 0, 1) := by decide +kernel
theorem dX8_harm_24 : decode cX8_harm 24 = .ok (.iload 4, 2) := by decide +kernel
theorem dX8_harm_26 : decode cX8_harm 26 = .ok (.iload_n 2, 1) := by decide +kernel
theorem dX8_harm_27 : decode cX8_harm 27 = .ok (.iload_n 3, 1) := by decide +kernel
theorem dX8_harm_28 : decode cX8_harm 28 = .ok (.invokevirtual 51, 3) := by decide +kernel
theorem dX8_harm_31 : decode cX8_harm 31 = .ok (.ifCond .eq 5, 3) := by decide +kernel
theorem dX8_harm_34 : decode cX8_harm 34 = .ok (.iconst 0, 1) := by decide +kernel
theorem dX8_harm_35 : decode cX8_harm 35 = .ok (.ireturn, 1) := by decide +kernel
theorem dX8_harm_36 : decode cX8_harm 36 = .ok (.iinc 4 1, 3) := by decide +kernel
theorem dX8_harm_39 : decode cX8_harm 39 = .ok (.goto (-36), 3) := by decide +kernel
theorem dX8_harm_42 : decode cX8_harm 42 = .ok (.aload_n 0, 1) := by decide +kernel
theorem dX8_harm_43 : decode cX8_harm 43 = .ok (.getfield 15, 3) := by decide +kernel
theorem dX8_harm_46 : decode cX8_harm 46 = .ok (.iload_n 1, 1) := by decide +kernel
theorem dX8_harm_47 : decode cX8_harm 47 = .ok (.iaload, 1) := by decide +kernel
theorem dX8_harm_48 : decode cX8_harm 48 = .ok (.iload_n 3, 1) := by decide +kernel
theorem dX8_harm_49 : decode cX8_harm 49 = .ok (.imul, 1) := by decide +kernel
theorem dX8_harm_50 : decode cX8_harm 50 = .ok (.ireturn, 1) := by decide +kernel
abbrev rX8_harm : Room := { frames := 1, cells := 0, slots := 0, locals := 23 }
def mX8_harm_b36   (k3 : gS → Int32 → Int32 → Int32 → Int32 → Option (Int32 × gS)) (σ : gS) (x6 : Int32) (x7 : Int32) (x8 : Int32) (x9 : Int32) : Option (Int32 × gS) := gLet (x9 + 1) (fun v10 => (k3 σ x6 x7 x8 v10))
set_option maxHeartbeats 4000000 in
set_option maxRecDepth 100000 in
theorem wX8_harm_b36 {p : Program} {l : Launch} {e : Env} {s : State} {m : MethodId} {args : Array Value} {below : List Frame} {meth : Method} {c : Code} {G : gE} (hC : gCx p s m args meth c G RX8 cX8_harm 5 (some .int))    {k3 : gS → Int32 → Int32 → Int32 → Int32 → Option (Int32 × gS)} (hk3 : ∀ (σ : gS) (x2 : Int32) (x3 : Int32) (x4 : Int32) (x5 : Int32), gT p l e rX8_harm s m args below meth c G 5 iI σ 3 [(0, .ref (G.2.1 1)), (1, .int x2), (2, .int x3), (3, .int x4), (4, .int x5)] [] (k3 σ x2 x3 x4 x5)) (σ : gS) (x6 : Int32) (x7 : Int32) (x8 : Int32) (x9 : Int32)  : gT p l e rX8_harm s m args below meth c G 5 iI σ 36 [(0, .ref (G.2.1 1)), (1, .int x6), (2, .int x7), (3, .int x8), (4, .int x9)] [] (mX8_harm_b36 k3 σ x6 x7 x8 x9) := by
  unfold mX8_harm_b36
  refine g_iinc (pc := 36) (q := 4) (w := 1) (lv' := fun v10 => [(4, .int v10), (0, .ref (G.2.1 1)), (1, .int x6), (2, .int x7), (3, .int x8)]) hC dX8_harm_36 rfl (by decide) (by decide) (fun _ => rfl) (fun v10 => ?_)
  refine g_goto (pc := 39) (tgt := 3) hC dX8_harm_39 (by decide) ?_
  exact gT_sub [1, 2, 3, 4, 0] rfl (hk3 σ x6 x7 x8 v10)
def mX8_harm_b3    : Nat → gS → Int32 → Int32 → Int32 → Int32 → Option (Int32 × gS)
  | 0, _, _, _, _, _ => none
  | n + 1, σ, x2, x3, x4, x5 => if (σ.1 1 3) ≤ x5 then (if inbB x2 6 = true then (some (((σ.1 2 (Int32.toNatClampNeg x2)) * x4), σ)) else none) else (if inbB x5 12 = true then (if (σ.1 4 (Int32.toNatClampNeg x5)) = x2 then (gBind (mX8_isMet σ x5 x3 x4) (fun r11 s12 => if r11 = true then (some (0, s12)) else ((mX8_harm_b36 (mX8_harm_b3  n) s12 x2 x3 x4 x5)))) else ((mX8_harm_b36 (mX8_harm_b3  n) σ x2 x3 x4 x5))) else none)
set_option maxHeartbeats 4000000 in
set_option maxRecDepth 100000 in
theorem wX8_harm_b3 {p : Program} {l : Launch} {e : Env} {s : State} {m : MethodId} {args : Array Value} {below : List Frame} {meth : Method} {c : Code} {G : gE} (hC : gCx p s m args meth c G RX8 cX8_harm 5 (some .int))     (n : Nat) (σ : gS) (x2 : Int32) (x3 : Int32) (x4 : Int32) (x5 : Int32)  : gT p l e rX8_harm s m args below meth c G 5 iI σ 3 [(0, .ref (G.2.1 1)), (1, .int x2), (2, .int x3), (3, .int x4), (4, .int x5)] [] (mX8_harm_b3  n σ x2 x3 x4 x5) := by
  induction n generalizing σ x2 x3 x4 x5 with
  | zero => exact gT_none
  | succ n ih =>
    unfold mX8_harm_b3
    refine g_iload (pc := 3) (q := 4) hC dX8_harm_3 rfl ?_
    refine g_aload_n (pc := 5) (q := 0) hC dX8_harm_5 rfl rfl ?_
    refine g_get (pc := 6) (v := .int (σ.1 1 3)) hC kX8 rfl 3 (by decide) fl_RX8_22 rfl dX8_harm_6 ?_
    refine g_icmp_ge (pc := 9) (tgt := 42) hC dX8_harm_9 (by decide) ?_ ?_
    · refine g_aload_n (pc := 42) (q := 0) hC dX8_harm_42 rfl rfl ?_
      refine g_get (pc := 43) (v := .ref (G.2.1 2)) hC kX8 rfl 1 (by decide) fl_RX8_15 rfl dX8_harm_43 ?_
      refine g_iload_n (pc := 46) (q := 1) hC dX8_harm_46 rfl rfl ?_
      refine g_iald (pc := 47) hC 6 rfl (by decide) dX8_harm_47 ?_
      refine g_iload_n (pc := 48) (q := 3) hC dX8_harm_48 rfl rfl ?_
      refine g_imul (pc := 49) hC dX8_harm_49 ?_
      exact g_iret (pc := 50) hC dX8_harm_50
    · refine g_aload_n (pc := 12) (q := 0) hC dX8_harm_12 rfl rfl ?_
      refine g_get (pc := 13) (v := .ref (G.2.1 4)) hC kX8 rfl 4 (by decide) fl_RX8_25 rfl dX8_harm_13 ?_
      refine g_iload (pc := 16) (q := 4) hC dX8_harm_16 rfl ?_
      refine g_iald (pc := 18) hC 12 rfl (by decide) dX8_harm_18 ?_
      refine g_iload_n (pc := 19) (q := 1) hC dX8_harm_19 rfl rfl ?_
      refine g_icmp_ne (pc := 20) (tgt := 36) hC dX8_harm_20 (by decide) ?_ ?_
      · exact gT_sub [0, 1, 2, 3, 4] rfl (wX8_harm_b36 hC ih σ x2 x3 x4 x5)
      · refine g_aload_n (pc := 23) (q := 0) hC dX8_harm_23 rfl rfl ?_
        refine g_iload (pc := 24) (q := 4) hC dX8_harm_24 rfl ?_
        refine g_iload_n (pc := 26) (q := 2) hC dX8_harm_26 rfl rfl ?_
        refine g_iload_n (pc := 27) (q := 3) hC dX8_harm_27 rfl rfl ?_
        refine g_callVz (pc := 28) (As := [.int x5, .int x3, .int x4]) (rest := []) hC lk_RX8_51 kX8 rfl (tX8_isMet _ _ σ x5 x3 x4) rfl rfl (Nat.le_of_ble_eq_true rfl) ⟨rfl, rfl, Nat.le_of_ble_eq_true rfl, Nat.le_of_ble_eq_true rfl⟩ dX8_harm_28 (fun r11 s12 => ?_)
        refine g_bif_eq (pc := 31) (tgt := 36) hC dX8_harm_31 (by decide) ?_ ?_
        · exact gT_sub [0, 1, 2, 3, 4] rfl (wX8_harm_b36 hC ih s12 x2 x3 x4 x5)
        · refine g_iconst (pc := 34) (v := 0) hC dX8_harm_34 (by decide) ?_
          exact g_iret (pc := 35) hC dX8_harm_35
def mX8_harm (σ : gS) (p0 : Int32) (p1 : Int32) (p2 : Int32) : Option (Int32 × gS) := gLet 0 (fun v1 => (mX8_harm_b3  1100 σ p0 p1 p2 v1))
set_option maxHeartbeats 4000000 in
set_option maxRecDepth 100000 in
theorem tX8_harm (l : Launch) (G : gE) (σ : gS) (p0 : Int32) (p1 : Int32) (p2 : Int32) : gM l G yX8_harm cX8_harm 5 (some .int) rX8_harm iI [.ref (G.2.1 1), .int p0, .int p1, .int p2] σ (mX8_harm σ p0 p1 p2) := by
  refine gM_of (by decide) (Nat.le_of_ble_eq_true rfl) ?_
  intro p e s m args below meth c hC
  unfold mX8_harm
  show gT p l e rX8_harm s m args below meth c G 5 iI σ 0 [(0, .ref (G.2.1 1)), (1, .int p0), (2, .int p1), (3, .int p2)] [] _
  refine g_iconst (pc := 0) (v := 0) hC dX8_harm_0 (by decide) ?_
  refine g_istore (pc := 1) (lv' := fun v1 => [(4, .int v1), (0, .ref (G.2.1 1)), (1, .int p0), (2, .int p1), (3, .int p2)]) hC dX8_harm_1 (by decide) (fun _ => rfl) (fun v1 => ?_)
  exact gT_sub [1, 2, 3, 4, 0] rfl (wX8_harm_b3 hC  1100 σ p0 p1 p2 v1)
theorem lk_RX8_54 : gLV RX8 54 RX8 yX8_harm cX8_harm 5 (some .int) 3 := ⟨(gBig_tab 699 (by decide +kernel) (by decide +kernel)), (gBig_tab 700 (by decide +kernel) (by decide +kernel)), (gBig_tab 701 (by decide +kernel) (by decide +kernel)), (gBig_tab 2 (by decide +kernel) (by decide +kernel)), (gBig_tab 702 (by decide +kernel) (by decide +kernel)), rfl, by decide +kernel, by decide +kernel, by decide +kernel⟩
theorem dX8_harmOfAll_0 : decode cX8_harmOfAll 0 = .ok (.iconst 0, 1) := by decide +kernel
theorem dX8_harmOfAll_1 : decode cX8_harmOfAll 1 = .ok (.istore_n 3, 1) := by decide +kernel
theorem dX8_harmOfAll_2 : decode cX8_harmOfAll 2 = .ok (.iconst 0, 1) := by decide +kernel
theorem dX8_harmOfAll_3 : decode cX8_harmOfAll 3 = .ok (.istore 4, 2) := by decide +kernel
theorem dX8_harmOfAll_5 : decode cX8_harmOfAll 5 = .ok (.iload 4, 2) := by decide +kernel
theorem dX8_harmOfAll_7 : decode cX8_harmOfAll 7 = .ok (.aload_n 0, 1) := by decide +kernel
theorem dX8_harmOfAll_8 : decode cX8_harmOfAll 8 = .ok (.getfield 9, 3) := by decide +kernel
theorem dX8_harmOfAll_11 : decode cX8_harmOfAll 11 = .ok (.if_icmp .ge 20, 3) := by decide +kernel
theorem dX8_harmOfAll_14 : decode cX8_harmOfAll 14 = .ok (.iload_n 3, 1) := by decide +kernel
theorem dX8_harmOfAll_15 : decode cX8_harmOfAll 15 = .ok (.aload_n 0, 1) := by decide +kernel
theorem dX8_harmOfAll_16 : decode cX8_harmOfAll 16 = .ok (.iload 4, 2) := by decide +kernel
theorem dX8_harmOfAll_18 : decode cX8_harmOfAll 18 = .ok (.iload_n 1, 1) := by decide +kernel
theorem dX8_harmOfAll_19 : decode cX8_harmOfAll 19 = .ok (.iload_n 2, 1) := by decide +kernel
theorem dX8_harmOfAll_20 : decode cX8_harmOfAll 20 = .ok (.invokevirtual 54, 3) := by decide +kernel
theorem dX8_harmOfAll_23 : decode cX8_harmOfAll 23 = .ok (.iadd, 1) := by decide +kernel
theorem dX8_harmOfAll_24 : decode cX8_harmOfAll 24 = .ok (.istore_n 3, 1) := by decide +kernel
theorem dX8_harmOfAll_25 : decode cX8_harmOfAll 25 = .ok (.iinc 4 1, 3) := by decide +kernel
theorem dX8_harmOfAll_28 : decode cX8_harmOfAll 28 = .ok (.goto (-23), 3) := by decide +kernel
theorem dX8_harmOfAll_31 : decode cX8_harmOfAll 31 = .ok (.iload_n 3, 1) := by decide +kernel
theorem dX8_harmOfAll_32 : decode cX8_harmOfAll 32 = .ok (.ireturn, 1) := by decide +kernel
abbrev rX8_harmOfAll : Room := { frames := 2, cells := 0, slots := 0, locals := 47 }
def mX8_harmOfAll_b5    : Nat → gS → Int32 → Int32 → Int32 → Int32 → Option (Int32 × gS)
  | 0, _, _, _, _, _ => none
  | n + 1, σ, x3, x4, x5, x6 => if (σ.1 1 0) ≤ x6 then (some (x5, σ)) else (gBind (mX8_harm σ x6 x3 x4) (fun r7 s8 => gLet (x5 + r7) (fun v9 => gLet (x6 + 1) (fun v10 => ((mX8_harmOfAll_b5  n) s8 x3 x4 v9 v10)))))
set_option maxHeartbeats 4000000 in
set_option maxRecDepth 100000 in
theorem wX8_harmOfAll_b5 {p : Program} {l : Launch} {e : Env} {s : State} {m : MethodId} {args : Array Value} {below : List Frame} {meth : Method} {c : Code} {G : gE} (hC : gCx p s m args meth c G RX8 cX8_harmOfAll 5 (some .int))     (n : Nat) (σ : gS) (x3 : Int32) (x4 : Int32) (x5 : Int32) (x6 : Int32)  : gT p l e rX8_harmOfAll s m args below meth c G 5 iI σ 5 [(0, .ref (G.2.1 1)), (1, .int x3), (2, .int x4), (3, .int x5), (4, .int x6)] [] (mX8_harmOfAll_b5  n σ x3 x4 x5 x6) := by
  induction n generalizing σ x3 x4 x5 x6 with
  | zero => exact gT_none
  | succ n ih =>
    unfold mX8_harmOfAll_b5
    refine g_iload (pc := 5) (q := 4) hC dX8_harmOfAll_5 rfl ?_
    refine g_aload_n (pc := 7) (q := 0) hC dX8_harmOfAll_7 rfl rfl ?_
    refine g_get (pc := 8) (v := .int (σ.1 1 0)) hC kX8 rfl 0 (by decide) fl_RX8_9 rfl dX8_harmOfAll_8 ?_
    refine g_icmp_ge (pc := 11) (tgt := 31) hC dX8_harmOfAll_11 (by decide) ?_ ?_
    · refine g_iload_n (pc := 31) (q := 3) hC dX8_harmOfAll_31 rfl rfl ?_
      exact g_iret (pc := 32) hC dX8_harmOfAll_32
    · refine g_iload_n (pc := 14) (q := 3) hC dX8_harmOfAll_14 rfl rfl ?_
      refine g_aload_n (pc := 15) (q := 0) hC dX8_harmOfAll_15 rfl rfl ?_
      refine g_iload (pc := 16) (q := 4) hC dX8_harmOfAll_16 rfl ?_
      refine g_iload_n (pc := 18) (q := 1) hC dX8_harmOfAll_18 rfl rfl ?_
      refine g_iload_n (pc := 19) (q := 2) hC dX8_harmOfAll_19 rfl rfl ?_
      refine g_callVi (pc := 20) (As := [.int x6, .int x3, .int x4]) (rest := [.int x5]) hC lk_RX8_54 kX8 rfl (tX8_harm _ _ σ x6 x3 x4) rfl rfl (Nat.le_of_ble_eq_true rfl) ⟨rfl, rfl, Nat.le_of_ble_eq_true rfl, Nat.le_of_ble_eq_true rfl⟩ dX8_harmOfAll_20 (fun r7 s8 => ?_)
      refine g_iadd (pc := 23) hC dX8_harmOfAll_23 ?_
      refine g_istore_n (pc := 24) (lv' := fun v9 => [(3, .int v9), (0, .ref (G.2.1 1)), (1, .int x3), (2, .int x4), (4, .int x6)]) hC dX8_harmOfAll_24 rfl (by decide) (fun _ => rfl) (fun v9 => ?_)
      refine g_iinc (pc := 25) (q := 4) (w := 1) (lv' := fun v10 => [(4, .int v10), (3, .int v9), (0, .ref (G.2.1 1)), (1, .int x3), (2, .int x4)]) hC dX8_harmOfAll_25 rfl (by decide) (by decide) (fun _ => rfl) (fun v10 => ?_)
      refine g_goto (pc := 28) (tgt := 5) hC dX8_harmOfAll_28 (by decide) ?_
      exact gT_sub [2, 3, 4, 1, 0] rfl (ih s8 x3 x4 v9 v10)
def mX8_harmOfAll (σ : gS) (p0 : Int32) (p1 : Int32) : Option (Int32 × gS) := gLet 0 (fun v1 => gLet 0 (fun v2 => (mX8_harmOfAll_b5  1100 σ p0 p1 v1 v2)))
set_option maxHeartbeats 4000000 in
set_option maxRecDepth 100000 in
theorem tX8_harmOfAll (l : Launch) (G : gE) (σ : gS) (p0 : Int32) (p1 : Int32) : gM l G yX8_harmOfAll cX8_harmOfAll 5 (some .int) rX8_harmOfAll iI [.ref (G.2.1 1), .int p0, .int p1] σ (mX8_harmOfAll σ p0 p1) := by
  refine gM_of (by decide) (Nat.le_of_ble_eq_true rfl) ?_
  intro p e s m args below meth c hC
  unfold mX8_harmOfAll
  show gT p l e rX8_harmOfAll s m args below meth c G 5 iI σ 0 [(0, .ref (G.2.1 1)), (1, .int p0), (2, .int p1)] [] _
  refine g_iconst (pc := 0) (v := 0) hC dX8_harmOfAll_0 (by decide) ?_
  refine g_istore_n (pc := 1) (lv' := fun v1 => [(3, .int v1), (0, .ref (G.2.1 1)), (1, .int p0), (2, .int p1)]) hC dX8_harmOfAll_1 rfl (by decide) (fun _ => rfl) (fun v1 => ?_)
  refine g_iconst (pc := 2) (v := 0) hC dX8_harmOfAll_2 (by decide) ?_
  refine g_istore (pc := 3) (lv' := fun v2 => [(4, .int v2), (3, .int v1), (0, .ref (G.2.1 1)), (1, .int p0), (2, .int p1)]) hC dX8_harmOfAll_3 (by decide) (fun _ => rfl) (fun v2 => ?_)
  exact gT_sub [2, 3, 4, 1, 0] rfl (wX8_harmOfAll_b5 hC  1100 σ p0 p1 v1 v2)
theorem dX8_share_0 : decode cX8_share 0 = .ok (.aload_n 0, 1) := by decide +kernel
theorem dX8_share_1 : decode cX8_share 1 = .ok (.iload_n 1, 1) := by decide +kernel
theorem dX8_share_2 : decode cX8_share 2 = .ok (.iload_n 2, 1) := by decide +kernel
theorem dX8_share_3 : decode cX8_share 3 = .ok (.iload_n 3, 1) := by decide +kernel
theorem dX8_share_4 : decode cX8_share 4 = .ok (.invokevirtual 54, 3) := by decide +kernel
theorem dX8_share_7 : decode cX8_share 7 = .ok (.ineg, 1) := by decide +kernel
theorem dX8_share_8 : decode cX8_share 8 = .ok (.istore 4, 2) := by decide +kernel
theorem dX8_share_10 : decode cX8_share 10 = .ok (.iconst 0, 1) := by decide +kernel
theorem dX8_share_11 : decode cX8_share 11 = .ok (.istore 5, 2) := by decide +kernel
theorem dX8_share_13 : decode cX8_share 13 = .ok (.iload 5, 2) := by decide +kernel
theorem dX8_share_15 : decode cX8_share 15 = .ok (.aload_n 0, 1) := by decide +kernel
theorem dX8_share_16 : decode cX8_share 16 = .ok (.getfield 22, 3) := by decide +kernel
theorem dX8_share_19 : decode cX8_share 19 = .ok (.if_icmp .ge 43, 3) := by decide +kernel
theorem dX8_share_22 : decode cX8_share 22 = .ok (.aload_n 0, 1) := by decide +kernel
theorem dX8_share_23 : decode cX8_share 23 = .ok (.getfield 25, 3) := by decide +kernel
theorem dX8_share_26 : decode cX8_share 26 = .ok (.iload 5, 2) := by decide +kernel
theorem dX8_share_28 : decode cX8_share 28 = .ok (.iaload, 1) := by decide +kernel
theorem dX8_share_29 : decode cX8_share 29 = .ok (.iload_n 1, 1) := by decide +kernel
theorem dX8_share_30 : decode cX8_share 30 = .ok (.if_icmp .ne 26, 3) := by decide +kernel
theorem dX8_share_33 : decode cX8_share 33 = .ok (.aload_n 0, 1) := by decide +kernel
theorem dX8_share_34 : decode cX8_share 34 = .ok (.iload 5, 2) := by decide +kernel
theorem dX8_share_36 : decode cX8_share 36 = .ok (.iload_n 2, 1) := by decide +kernel
theorem dX8_share_37 : decode cX8_share 37 = .ok (.iload_n 3, 1) := by decide +kernel
theorem dX8_share_38 : decode cX8_share 38 = .ok (.invokevirtual 51, 3) := by decide +kernel
theorem dX8_share_41 : decode cX8_share 41 = .ok (.ifCond .eq 15, 3) := by decide +kernel
theorem dX8_share_44 : decode cX8_share 44 = .ok (.iload 4, 2) := by decide +kernel
theorem dX8_share_46 : decode cX8_share 46 = .ok (.aload_n 0, 1) := by decide +kernel
theorem dX8_share_47 : decode cX8_share 47 = .ok (.getfield 34, 3) := by decide +kernel
theorem dX8_share_50 : decode cX8_share 50 = .ok (.iload 5, 2) := by decide +kernel
theorem dX8_share_52 : decode cX8_share 52 = .ok (.iaload, 1) := by decide +kernel
theorem dX8_share_53 : decode cX8_share 53 = .ok (.iadd, 1) := by decide +kernel
theorem dX8_share_54 : decode cX8_share 54 = .ok (.istore 4, 2) := by decide +kernel
theorem dX8_share_56 : decode cX8_share 56 = .ok (.iinc 5 1, 3) := by decide +kernel
theorem dX8_share_59 : decode cX8_share 59 = .ok (.goto (-46), 3) := by decide +kernel
theorem dX8_share_62 : decode cX8_share 62 = .ok (.iload 4, 2) := by decide +kernel
theorem dX8_share_64 : decode cX8_share 64 = .ok (.ireturn, 1) := by decide +kernel
abbrev rX8_share : Room := { frames := 2, cells := 0, slots := 0, locals := 47 }
def mX8_share_b56   (k13 : gS → Int32 → Int32 → Int32 → Int32 → Int32 → Option (Int32 × gS)) (σ : gS) (x10 : Int32) (x11 : Int32) (x12 : Int32) (x13 : Int32) (x14 : Int32) : Option (Int32 × gS) := gLet (x14 + 1) (fun v15 => (k13 σ x10 x11 x12 x13 v15))
set_option maxHeartbeats 4000000 in
set_option maxRecDepth 100000 in
theorem wX8_share_b56 {p : Program} {l : Launch} {e : Env} {s : State} {m : MethodId} {args : Array Value} {below : List Frame} {meth : Method} {c : Code} {G : gE} (hC : gCx p s m args meth c G RX8 cX8_share 6 (some .int))    {k13 : gS → Int32 → Int32 → Int32 → Int32 → Int32 → Option (Int32 × gS)} (hk13 : ∀ (σ : gS) (x5 : Int32) (x6 : Int32) (x7 : Int32) (x8 : Int32) (x9 : Int32), gT p l e rX8_share s m args below meth c G 6 iI σ 13 [(0, .ref (G.2.1 1)), (1, .int x5), (2, .int x6), (3, .int x7), (4, .int x8), (5, .int x9)] [] (k13 σ x5 x6 x7 x8 x9)) (σ : gS) (x10 : Int32) (x11 : Int32) (x12 : Int32) (x13 : Int32) (x14 : Int32)  : gT p l e rX8_share s m args below meth c G 6 iI σ 56 [(0, .ref (G.2.1 1)), (1, .int x10), (2, .int x11), (3, .int x12), (4, .int x13), (5, .int x14)] [] (mX8_share_b56 k13 σ x10 x11 x12 x13 x14) := by
  unfold mX8_share_b56
  refine g_iinc (pc := 56) (q := 5) (w := 1) (lv' := fun v15 => [(5, .int v15), (0, .ref (G.2.1 1)), (1, .int x10), (2, .int x11), (3, .int x12), (4, .int x13)]) hC dX8_share_56 rfl (by decide) (by decide) (fun _ => rfl) (fun v15 => ?_)
  refine g_goto (pc := 59) (tgt := 13) hC dX8_share_59 (by decide) ?_
  exact gT_sub [1, 2, 3, 4, 5, 0] rfl (hk13 σ x10 x11 x12 x13 v15)
def mX8_share_b13    : Nat → gS → Int32 → Int32 → Int32 → Int32 → Int32 → Option (Int32 × gS)
  | 0, _, _, _, _, _, _ => none
  | n + 1, σ, x5, x6, x7, x8, x9 => if (σ.1 1 3) ≤ x9 then (some (x8, σ)) else (if inbB x9 12 = true then (if (σ.1 4 (Int32.toNatClampNeg x9)) = x5 then (gBind (mX8_isMet σ x9 x6 x7) (fun r16 s17 => if r16 = true then (if inbB x9 12 = true then (gLet (x8 + (s17.1 7 (Int32.toNatClampNeg x9))) (fun v18 => (mX8_share_b56 (mX8_share_b13  n) s17 x5 x6 x7 v18 x9))) else none) else ((mX8_share_b56 (mX8_share_b13  n) s17 x5 x6 x7 x8 x9)))) else ((mX8_share_b56 (mX8_share_b13  n) σ x5 x6 x7 x8 x9))) else none)
set_option maxHeartbeats 4000000 in
set_option maxRecDepth 100000 in
theorem wX8_share_b13 {p : Program} {l : Launch} {e : Env} {s : State} {m : MethodId} {args : Array Value} {below : List Frame} {meth : Method} {c : Code} {G : gE} (hC : gCx p s m args meth c G RX8 cX8_share 6 (some .int))     (n : Nat) (σ : gS) (x5 : Int32) (x6 : Int32) (x7 : Int32) (x8 : Int32) (x9 : Int32)  : gT p l e rX8_share s m args below meth c G 6 iI σ 13 [(0, .ref (G.2.1 1)), (1, .int x5), (2, .int x6), (3, .int x7), (4, .int x8), (5, .int x9)] [] (mX8_share_b13  n σ x5 x6 x7 x8 x9) := by
  induction n generalizing σ x5 x6 x7 x8 x9 with
  | zero => exact gT_none
  | succ n ih =>
    unfold mX8_share_b13
    refine g_iload (pc := 13) (q := 5) hC dX8_share_13 rfl ?_
    refine g_aload_n (pc := 15) (q := 0) hC dX8_share_15 rfl rfl ?_
    refine g_get (pc := 16) (v := .int (σ.1 1 3)) hC kX8 rfl 3 (by decide) fl_RX8_22 rfl dX8_share_16 ?_
    refine g_icmp_ge (pc := 19) (tgt := 62) hC dX8_share_19 (by decide) ?_ ?_
    · refine g_iload (pc := 62) (q := 4) hC dX8_share_62 rfl ?_
      exact g_iret (pc := 64) hC dX8_share_64
    · refine g_aload_n (pc := 22) (q := 0) hC dX8_share_22 rfl rfl ?_
      refine g_get (pc := 23) (v := .ref (G.2.1 4)) hC kX8 rfl 4 (by decide) fl_RX8_25 rfl dX8_share_23 ?_
      refine g_iload (pc := 26) (q := 5) hC dX8_share_26 rfl ?_
      refine g_iald (pc := 28) hC 12 rfl (by decide) dX8_share_28 ?_
      refine g_iload_n (pc := 29) (q := 1) hC dX8_share_29 rfl rfl ?_
      refine g_icmp_ne (pc := 30) (tgt := 56) hC dX8_share_30 (by decide) ?_ ?_
      · exact gT_sub [0, 1, 2, 3, 4, 5] rfl (wX8_share_b56 hC ih σ x5 x6 x7 x8 x9)
      · refine g_aload_n (pc := 33) (q := 0) hC dX8_share_33 rfl rfl ?_
        refine g_iload (pc := 34) (q := 5) hC dX8_share_34 rfl ?_
        refine g_iload_n (pc := 36) (q := 2) hC dX8_share_36 rfl rfl ?_
        refine g_iload_n (pc := 37) (q := 3) hC dX8_share_37 rfl rfl ?_
        refine g_callVz (pc := 38) (As := [.int x9, .int x6, .int x7]) (rest := []) hC lk_RX8_51 kX8 rfl (tX8_isMet _ _ σ x9 x6 x7) rfl rfl (Nat.le_of_ble_eq_true rfl) ⟨rfl, rfl, Nat.le_of_ble_eq_true rfl, Nat.le_of_ble_eq_true rfl⟩ dX8_share_38 (fun r16 s17 => ?_)
        refine g_bif_eq (pc := 41) (tgt := 56) hC dX8_share_41 (by decide) ?_ ?_
        · exact gT_sub [0, 1, 2, 3, 4, 5] rfl (wX8_share_b56 hC ih s17 x5 x6 x7 x8 x9)
        · refine g_iload (pc := 44) (q := 4) hC dX8_share_44 rfl ?_
          refine g_aload_n (pc := 46) (q := 0) hC dX8_share_46 rfl rfl ?_
          refine g_get (pc := 47) (v := .ref (G.2.1 7)) hC kX8 rfl 7 (by decide) fl_RX8_34 rfl dX8_share_47 ?_
          refine g_iload (pc := 50) (q := 5) hC dX8_share_50 rfl ?_
          refine g_iald (pc := 52) hC 12 rfl (by decide) dX8_share_52 ?_
          refine g_iadd (pc := 53) hC dX8_share_53 ?_
          refine g_istore (pc := 54) (lv' := fun v18 => [(4, .int v18), (0, .ref (G.2.1 1)), (1, .int x5), (2, .int x6), (3, .int x7), (5, .int x9)]) hC dX8_share_54 (by decide) (fun _ => rfl) (fun v18 => ?_)
          exact gT_sub [1, 2, 3, 4, 0, 5] rfl (wX8_share_b56 hC ih s17 x5 x6 x7 v18 x9)
def mX8_share (σ : gS) (p0 : Int32) (p1 : Int32) (p2 : Int32) : Option (Int32 × gS) := gBind (mX8_harm σ p0 p1 p2) (fun r1 s2 => gLet (-r1) (fun v3 => gLet 0 (fun v4 => (mX8_share_b13  1100 s2 p0 p1 p2 v3 v4))))
set_option maxHeartbeats 4000000 in
set_option maxRecDepth 100000 in
theorem tX8_share (l : Launch) (G : gE) (σ : gS) (p0 : Int32) (p1 : Int32) (p2 : Int32) : gM l G yX8_share cX8_share 6 (some .int) rX8_share iI [.ref (G.2.1 1), .int p0, .int p1, .int p2] σ (mX8_share σ p0 p1 p2) := by
  refine gM_of (by decide) (Nat.le_of_ble_eq_true rfl) ?_
  intro p e s m args below meth c hC
  unfold mX8_share
  show gT p l e rX8_share s m args below meth c G 6 iI σ 0 [(0, .ref (G.2.1 1)), (1, .int p0), (2, .int p1), (3, .int p2)] [] _
  refine g_aload_n (pc := 0) (q := 0) hC dX8_share_0 rfl rfl ?_
  refine g_iload_n (pc := 1) (q := 1) hC dX8_share_1 rfl rfl ?_
  refine g_iload_n (pc := 2) (q := 2) hC dX8_share_2 rfl rfl ?_
  refine g_iload_n (pc := 3) (q := 3) hC dX8_share_3 rfl rfl ?_
  refine g_callVi (pc := 4) (As := [.int p0, .int p1, .int p2]) (rest := []) hC lk_RX8_54 kX8 rfl (tX8_harm _ _ σ p0 p1 p2) rfl rfl (Nat.le_of_ble_eq_true rfl) ⟨rfl, rfl, Nat.le_of_ble_eq_true rfl, Nat.le_of_ble_eq_true rfl⟩ dX8_share_4 (fun r1 s2 => ?_)
  refine g_ineg (pc := 7) hC dX8_share_7 ?_
  refine g_istore (pc := 8) (lv' := fun v3 => [(4, .int v3), (0, .ref (G.2.1 1)), (1, .int p0), (2, .int p1), (3, .int p2)]) hC dX8_share_8 (by decide) (fun _ => rfl) (fun v3 => ?_)
  refine g_iconst (pc := 10) (v := 0) hC dX8_share_10 (by decide) ?_
  refine g_istore (pc := 11) (lv' := fun v4 => [(5, .int v4), (4, .int v3), (0, .ref (G.2.1 1)), (1, .int p0), (2, .int p1), (3, .int p2)]) hC dX8_share_11 (by decide) (fun _ => rfl) (fun v4 => ?_)
  exact gT_sub [2, 3, 4, 5, 1, 0] rfl (wX8_share_b13 hC  1100 s2 p0 p1 p2 v3 v4)
theorem dX8_wantsExactly_0 : decode cX8_wantsExactly 0 = .ok (.iconst 0, 1) := by decide +kernel
theorem dX8_wantsExactly_1 : decode cX8_wantsExactly 1 = .ok (.istore_n 3, 1) := by decide +kernel
theorem dX8_wantsExactly_2 : decode cX8_wantsExactly 2 = .ok (.iload_n 3, 1) := by decide +kernel
theorem dX8_wantsExactly_3 : decode cX8_wantsExactly 3 = .ok (.aload_n 0, 1) := by decide +kernel
theorem dX8_wantsExactly_4 : decode cX8_wantsExactly 4 = .ok (.getfield 22, 3) := by decide +kernel
theorem dX8_wantsExactly_7 : decode cX8_wantsExactly 7 = .ok (.if_icmp .ge 31, 3) := by decide +kernel
theorem dX8_wantsExactly_10 : decode cX8_wantsExactly 10 = .ok (.aload_n 0, 1) := by decide +kernel
theorem dX8_wantsExactly_11 : decode cX8_wantsExactly 11 = .ok (.getfield 28, 3) := by decide +kernel
theorem dX8_wantsExactly_14 : decode cX8_wantsExactly 14 = .ok (.iload_n 3, 1) := by decide +kernel
theorem dX8_wantsExactly_15 : decode cX8_wantsExactly 15 = .ok (.iaload, 1) := by decide +kernel
theorem dX8_wantsExactly_16 : decode cX8_wantsExactly 16 = .ok (.iload_n 1, 1) := by decide +kernel
theorem dX8_wantsExactly_17 : decode cX8_wantsExactly 17 = .ok (.if_icmp .ne 15, 3) := by decide +kernel
theorem dX8_wantsExactly_20 : decode cX8_wantsExactly 20 = .ok (.aload_n 0, 1) := by decide +kernel
theorem dX8_wantsExactly_21 : decode cX8_wantsExactly 21 = .ok (.getfield 31, 3) := by decide +kernel
theorem dX8_wantsExactly_24 : decode cX8_wantsExactly 24 = .ok (.iload_n 3, 1) := by decide +kernel
theorem dX8_wantsExactly_25 : decode cX8_wantsExactly 25 = .ok (.iaload, 1) := by decide +kernel
theorem dX8_wantsExactly_26 : decode cX8_wantsExactly 26 = .ok (.iload_n 2, 1) := by decide +kernel
theorem dX8_wantsExactly_27 : decode cX8_wantsExactly 27 = .ok (.if_icmp .ne 5, 3) := by decide +kernel
theorem dX8_wantsExactly_30 : decode cX8_wantsExactly 30 = .ok (.iconst 1, 1) := by decide +kernel
theorem dX8_wantsExactly_31 : decode cX8_wantsExactly 31 = .ok (.ireturn, 1) := by decide +kernel
theorem dX8_wantsExactly_32 : decode cX8_wantsExactly 32 = .ok (.iinc 3 1, 3) := by decide +kernel
theorem dX8_wantsExactly_35 : decode cX8_wantsExactly 35 = .ok (.goto (-33), 3) := by decide +kernel
theorem dX8_wantsExactly_38 : decode cX8_wantsExactly 38 = .ok (.iconst 0, 1) := by decide +kernel
theorem dX8_wantsExactly_39 : decode cX8_wantsExactly 39 = .ok (.ireturn, 1) := by decide +kernel
abbrev rX8_wantsExactly : Room := { frames := 0, cells := 0, slots := 0, locals := 0 }
def mX8_wantsExactly_b32   (k2 : gS → Int32 → Int32 → Int32 → Option (Bool × gS)) (σ : gS) (x5 : Int32) (x6 : Int32) (x7 : Int32) : Option (Bool × gS) := gLet (x7 + 1) (fun v8 => (k2 σ x5 x6 v8))
set_option maxHeartbeats 4000000 in
set_option maxRecDepth 100000 in
theorem wX8_wantsExactly_b32 {p : Program} {l : Launch} {e : Env} {s : State} {m : MethodId} {args : Array Value} {below : List Frame} {meth : Method} {c : Code} {G : gE} (hC : gCx p s m args meth c G RX8 cX8_wantsExactly 4 (some .boolean))    {k2 : gS → Int32 → Int32 → Int32 → Option (Bool × gS)} (hk2 : ∀ (σ : gS) (x2 : Int32) (x3 : Int32) (x4 : Int32), gT p l e rX8_wantsExactly s m args below meth c G 4 iZ σ 2 [(0, .ref (G.2.1 1)), (1, .int x2), (2, .int x3), (3, .int x4)] [] (k2 σ x2 x3 x4)) (σ : gS) (x5 : Int32) (x6 : Int32) (x7 : Int32)  : gT p l e rX8_wantsExactly s m args below meth c G 4 iZ σ 32 [(0, .ref (G.2.1 1)), (1, .int x5), (2, .int x6), (3, .int x7)] [] (mX8_wantsExactly_b32 k2 σ x5 x6 x7) := by
  unfold mX8_wantsExactly_b32
  refine g_iinc (pc := 32) (q := 3) (w := 1) (lv' := fun v8 => [(3, .int v8), (0, .ref (G.2.1 1)), (1, .int x5), (2, .int x6)]) hC dX8_wantsExactly_32 rfl (by decide) (by decide) (fun _ => rfl) (fun v8 => ?_)
  refine g_goto (pc := 35) (tgt := 2) hC dX8_wantsExactly_35 (by decide) ?_
  exact gT_sub [1, 2, 3, 0] rfl (hk2 σ x5 x6 v8)
def mX8_wantsExactly_b2    : Nat → gS → Int32 → Int32 → Int32 → Option (Bool × gS)
  | 0, _, _, _, _ => none
  | n + 1, σ, x2, x3, x4 => if (σ.1 1 3) ≤ x4 then (some (false, σ)) else (if inbB x4 12 = true then (if (σ.1 5 (Int32.toNatClampNeg x4)) = x2 then (if inbB x4 12 = true then (if (σ.1 6 (Int32.toNatClampNeg x4)) = x3 then (some (true, σ)) else ((mX8_wantsExactly_b32 (mX8_wantsExactly_b2  n) σ x2 x3 x4))) else none) else ((mX8_wantsExactly_b32 (mX8_wantsExactly_b2  n) σ x2 x3 x4))) else none)
set_option maxHeartbeats 4000000 in
set_option maxRecDepth 100000 in
theorem wX8_wantsExactly_b2 {p : Program} {l : Launch} {e : Env} {s : State} {m : MethodId} {args : Array Value} {below : List Frame} {meth : Method} {c : Code} {G : gE} (hC : gCx p s m args meth c G RX8 cX8_wantsExactly 4 (some .boolean))     (n : Nat) (σ : gS) (x2 : Int32) (x3 : Int32) (x4 : Int32)  : gT p l e rX8_wantsExactly s m args below meth c G 4 iZ σ 2 [(0, .ref (G.2.1 1)), (1, .int x2), (2, .int x3), (3, .int x4)] [] (mX8_wantsExactly_b2  n σ x2 x3 x4) := by
  induction n generalizing σ x2 x3 x4 with
  | zero => exact gT_none
  | succ n ih =>
    unfold mX8_wantsExactly_b2
    refine g_iload_n (pc := 2) (q := 3) hC dX8_wantsExactly_2 rfl rfl ?_
    refine g_aload_n (pc := 3) (q := 0) hC dX8_wantsExactly_3 rfl rfl ?_
    refine g_get (pc := 4) (v := .int (σ.1 1 3)) hC kX8 rfl 3 (by decide) fl_RX8_22 rfl dX8_wantsExactly_4 ?_
    refine g_icmp_ge (pc := 7) (tgt := 38) hC dX8_wantsExactly_7 (by decide) ?_ ?_
    · refine g_iconst (pc := 38) (v := 0) hC dX8_wantsExactly_38 (by decide) ?_
      exact g_zret0 (pc := 39) hC dX8_wantsExactly_39
    · refine g_aload_n (pc := 10) (q := 0) hC dX8_wantsExactly_10 rfl rfl ?_
      refine g_get (pc := 11) (v := .ref (G.2.1 5)) hC kX8 rfl 5 (by decide) fl_RX8_28 rfl dX8_wantsExactly_11 ?_
      refine g_iload_n (pc := 14) (q := 3) hC dX8_wantsExactly_14 rfl rfl ?_
      refine g_iald (pc := 15) hC 12 rfl (by decide) dX8_wantsExactly_15 ?_
      refine g_iload_n (pc := 16) (q := 1) hC dX8_wantsExactly_16 rfl rfl ?_
      refine g_icmp_ne (pc := 17) (tgt := 32) hC dX8_wantsExactly_17 (by decide) ?_ ?_
      · exact gT_sub [0, 1, 2, 3] rfl (wX8_wantsExactly_b32 hC ih σ x2 x3 x4)
      · refine g_aload_n (pc := 20) (q := 0) hC dX8_wantsExactly_20 rfl rfl ?_
        refine g_get (pc := 21) (v := .ref (G.2.1 6)) hC kX8 rfl 6 (by decide) fl_RX8_31 rfl dX8_wantsExactly_21 ?_
        refine g_iload_n (pc := 24) (q := 3) hC dX8_wantsExactly_24 rfl rfl ?_
        refine g_iald (pc := 25) hC 12 rfl (by decide) dX8_wantsExactly_25 ?_
        refine g_iload_n (pc := 26) (q := 2) hC dX8_wantsExactly_26 rfl rfl ?_
        refine g_icmp_ne (pc := 27) (tgt := 32) hC dX8_wantsExactly_27 (by decide) ?_ ?_
        · exact gT_sub [0, 1, 2, 3] rfl (wX8_wantsExactly_b32 hC ih σ x2 x3 x4)
        · refine g_iconst (pc := 30) (v := 1) hC dX8_wantsExactly_30 (by decide) ?_
          exact g_zret1 (pc := 31) hC dX8_wantsExactly_31
def mX8_wantsExactly (σ : gS) (p0 : Int32) (p1 : Int32) : Option (Bool × gS) := gLet 0 (fun v1 => (mX8_wantsExactly_b2  1100 σ p0 p1 v1))
set_option maxHeartbeats 4000000 in
set_option maxRecDepth 100000 in
theorem tX8_wantsExactly (l : Launch) (G : gE) (σ : gS) (p0 : Int32) (p1 : Int32) : gM l G yX8_wantsExactly cX8_wantsExactly 4 (some .boolean) rX8_wantsExactly iZ [.ref (G.2.1 1), .int p0, .int p1] σ (mX8_wantsExactly σ p0 p1) := by
  refine gM_of (by decide) (Nat.le_of_ble_eq_true rfl) ?_
  intro p e s m args below meth c hC
  unfold mX8_wantsExactly
  show gT p l e rX8_wantsExactly s m args below meth c G 4 iZ σ 0 [(0, .ref (G.2.1 1)), (1, .int p0), (2, .int p1)] [] _
  refine g_iconst (pc := 0) (v := 0) hC dX8_wantsExactly_0 (by decide) ?_
  refine g_istore_n (pc := 1) (lv' := fun v1 => [(3, .int v1), (0, .ref (G.2.1 1)), (1, .int p0), (2, .int p1)]) hC dX8_wantsExactly_1 rfl (by decide) (fun _ => rfl) (fun v1 => ?_)
  exact gT_sub [1, 2, 3, 0] rfl (wX8_wantsExactly_b2 hC  1100 σ p0 p1 v1)
theorem mth_RX8_58 : gMx RX8 58 := ⟨(gBig_tab 754 (by decide +kernel) (by decide +kernel)), (gBig_tab 482 (by decide +kernel) (by decide +kernel)), (gBig_tab 13 (by decide +kernel) (by decide +kernel)), (gBig_tab 483 (by decide +kernel) (by decide +kernel))⟩
theorem dX8_greatest_0 : decode cX8_greatest 0 = .ok (.iconst 0, 1) := by decide +kernel
theorem dX8_greatest_1 : decode cX8_greatest 1 = .ok (.istore_n 2, 1) := by decide +kernel
theorem dX8_greatest_2 : decode cX8_greatest 2 = .ok (.iconst 0, 1) := by decide +kernel
theorem dX8_greatest_3 : decode cX8_greatest 3 = .ok (.istore_n 3, 1) := by decide +kernel
theorem dX8_greatest_4 : decode cX8_greatest 4 = .ok (.iload_n 3, 1) := by decide +kernel
theorem dX8_greatest_5 : decode cX8_greatest 5 = .ok (.aload_n 0, 1) := by decide +kernel
theorem dX8_greatest_6 : decode cX8_greatest 6 = .ok (.getfield 22, 3) := by decide +kernel
theorem dX8_greatest_9 : decode cX8_greatest 9 = .ok (.if_icmp .ge 30, 3) := by decide +kernel
theorem dX8_greatest_12 : decode cX8_greatest 12 = .ok (.aload_n 0, 1) := by decide +kernel
theorem dX8_greatest_13 : decode cX8_greatest 13 = .ok (.getfield 28, 3) := by decide +kernel
theorem dX8_greatest_16 : decode cX8_greatest 16 = .ok (.iload_n 3, 1) := by decide +kernel
theorem dX8_greatest_17 : decode cX8_greatest 17 = .ok (.iaload, 1) := by decide +kernel
theorem dX8_greatest_18 : decode cX8_greatest 18 = .ok (.iload_n 1, 1) := by decide +kernel
theorem dX8_greatest_19 : decode cX8_greatest 19 = .ok (.if_icmp .ne 14, 3) := by decide +kernel
theorem dX8_greatest_22 : decode cX8_greatest 22 = .ok (.iload_n 2, 1) := by decide +kernel
theorem dX8_greatest_23 : decode cX8_greatest 23 = .ok (.aload_n 0, 1) := by decide +kernel
theorem dX8_greatest_24 : decode cX8_greatest 24 = .ok (.getfield 31, 3) := by decide +kernel
theorem dX8_greatest_27 : decode cX8_greatest 27 = .ok (.iload_n 3, 1) := by decide +kernel
theorem dX8_greatest_28 : decode cX8_greatest 28 = .ok (.iaload, 1) := by decide +kernel
theorem dX8_greatest_29 : decode cX8_greatest 29 = .ok (.invokestatic 58, 3) := by decide +kernel
theorem dX8_greatest_32 : decode cX8_greatest 32 = .ok (.istore_n 2, 1) := by decide +kernel
theorem dX8_greatest_33 : decode cX8_greatest 33 = .ok (.iinc 3 1, 3) := by decide +kernel
theorem dX8_greatest_36 : decode cX8_greatest 36 = .ok (.goto (-32), 3) := by decide +kernel
theorem dX8_greatest_39 : decode cX8_greatest 39 = .ok (.iload_n 2, 1) := by decide +kernel
theorem dX8_greatest_40 : decode cX8_greatest 40 = .ok (.ireturn, 1) := by decide +kernel
abbrev rX8_greatest : Room := { frames := 1, cells := 0, slots := 0, locals := 21 }
def mX8_greatest_b33   (k4 : gS → Int32 → Int32 → Int32 → Option (Int32 × gS)) (σ : gS) (x6 : Int32) (x7 : Int32) (x8 : Int32) : Option (Int32 × gS) := gLet (x8 + 1) (fun v9 => (k4 σ x6 x7 v9))
set_option maxHeartbeats 4000000 in
set_option maxRecDepth 100000 in
theorem wX8_greatest_b33 {p : Program} {l : Launch} {e : Env} {s : State} {m : MethodId} {args : Array Value} {below : List Frame} {meth : Method} {c : Code} {G : gE} (hC : gCx p s m args meth c G RX8 cX8_greatest 4 (some .int))    {k4 : gS → Int32 → Int32 → Int32 → Option (Int32 × gS)} (hk4 : ∀ (σ : gS) (x3 : Int32) (x4 : Int32) (x5 : Int32), gT p l e rX8_greatest s m args below meth c G 4 iI σ 4 [(0, .ref (G.2.1 1)), (1, .int x3), (2, .int x4), (3, .int x5)] [] (k4 σ x3 x4 x5)) (σ : gS) (x6 : Int32) (x7 : Int32) (x8 : Int32)  : gT p l e rX8_greatest s m args below meth c G 4 iI σ 33 [(0, .ref (G.2.1 1)), (1, .int x6), (2, .int x7), (3, .int x8)] [] (mX8_greatest_b33 k4 σ x6 x7 x8) := by
  unfold mX8_greatest_b33
  refine g_iinc (pc := 33) (q := 3) (w := 1) (lv' := fun v9 => [(3, .int v9), (0, .ref (G.2.1 1)), (1, .int x6), (2, .int x7)]) hC dX8_greatest_33 rfl (by decide) (by decide) (fun _ => rfl) (fun v9 => ?_)
  refine g_goto (pc := 36) (tgt := 4) hC dX8_greatest_36 (by decide) ?_
  exact gT_sub [1, 2, 3, 0] rfl (hk4 σ x6 x7 v9)
def mX8_greatest_b4    : Nat → gS → Int32 → Int32 → Int32 → Option (Int32 × gS)
  | 0, _, _, _, _ => none
  | n + 1, σ, x3, x4, x5 => if (σ.1 1 3) ≤ x5 then (some (x4, σ)) else (if inbB x5 12 = true then (if (σ.1 5 (Int32.toNatClampNeg x5)) = x3 then (if inbB x5 12 = true then (gLet (gMax x4 (σ.1 6 (Int32.toNatClampNeg x5))) (fun v10 => (mX8_greatest_b33 (mX8_greatest_b4  n) σ x3 v10 x5))) else none) else ((mX8_greatest_b33 (mX8_greatest_b4  n) σ x3 x4 x5))) else none)
set_option maxHeartbeats 4000000 in
set_option maxRecDepth 100000 in
theorem wX8_greatest_b4 {p : Program} {l : Launch} {e : Env} {s : State} {m : MethodId} {args : Array Value} {below : List Frame} {meth : Method} {c : Code} {G : gE} (hC : gCx p s m args meth c G RX8 cX8_greatest 4 (some .int))     (n : Nat) (σ : gS) (x3 : Int32) (x4 : Int32) (x5 : Int32)  : gT p l e rX8_greatest s m args below meth c G 4 iI σ 4 [(0, .ref (G.2.1 1)), (1, .int x3), (2, .int x4), (3, .int x5)] [] (mX8_greatest_b4  n σ x3 x4 x5) := by
  induction n generalizing σ x3 x4 x5 with
  | zero => exact gT_none
  | succ n ih =>
    unfold mX8_greatest_b4
    refine g_iload_n (pc := 4) (q := 3) hC dX8_greatest_4 rfl rfl ?_
    refine g_aload_n (pc := 5) (q := 0) hC dX8_greatest_5 rfl rfl ?_
    refine g_get (pc := 6) (v := .int (σ.1 1 3)) hC kX8 rfl 3 (by decide) fl_RX8_22 rfl dX8_greatest_6 ?_
    refine g_icmp_ge (pc := 9) (tgt := 39) hC dX8_greatest_9 (by decide) ?_ ?_
    · refine g_iload_n (pc := 39) (q := 2) hC dX8_greatest_39 rfl rfl ?_
      exact g_iret (pc := 40) hC dX8_greatest_40
    · refine g_aload_n (pc := 12) (q := 0) hC dX8_greatest_12 rfl rfl ?_
      refine g_get (pc := 13) (v := .ref (G.2.1 5)) hC kX8 rfl 5 (by decide) fl_RX8_28 rfl dX8_greatest_13 ?_
      refine g_iload_n (pc := 16) (q := 3) hC dX8_greatest_16 rfl rfl ?_
      refine g_iald (pc := 17) hC 12 rfl (by decide) dX8_greatest_17 ?_
      refine g_iload_n (pc := 18) (q := 1) hC dX8_greatest_18 rfl rfl ?_
      refine g_icmp_ne (pc := 19) (tgt := 33) hC dX8_greatest_19 (by decide) ?_ ?_
      · exact gT_sub [0, 1, 2, 3] rfl (wX8_greatest_b33 hC ih σ x3 x4 x5)
      · refine g_iload_n (pc := 22) (q := 2) hC dX8_greatest_22 rfl rfl ?_
        refine g_aload_n (pc := 23) (q := 0) hC dX8_greatest_23 rfl rfl ?_
        refine g_get (pc := 24) (v := .ref (G.2.1 6)) hC kX8 rfl 6 (by decide) fl_RX8_31 rfl dX8_greatest_24 ?_
        refine g_iload_n (pc := 27) (q := 3) hC dX8_greatest_27 rfl rfl ?_
        refine g_iald (pc := 28) hC 12 rfl (by decide) dX8_greatest_28 ?_
        refine g_max (pc := 29) hC mth_RX8_58 ⟨Nat.le_of_ble_eq_true rfl, Nat.le_of_ble_eq_true rfl⟩ (Nat.le_of_ble_eq_true rfl) dX8_greatest_29 ?_
        refine g_istore_n (pc := 32) (lv' := fun v10 => [(2, .int v10), (0, .ref (G.2.1 1)), (1, .int x3), (3, .int x5)]) hC dX8_greatest_32 rfl (by decide) (fun _ => rfl) (fun v10 => ?_)
        exact gT_sub [1, 2, 0, 3] rfl (wX8_greatest_b33 hC ih σ x3 v10 x5)
def mX8_greatest (σ : gS) (p0 : Int32) : Option (Int32 × gS) := gLet 0 (fun v1 => gLet 0 (fun v2 => (mX8_greatest_b4  1100 σ p0 v1 v2)))
set_option maxHeartbeats 4000000 in
set_option maxRecDepth 100000 in
theorem tX8_greatest (l : Launch) (G : gE) (σ : gS) (p0 : Int32) : gM l G yX8_greatest cX8_greatest 4 (some .int) rX8_greatest iI [.ref (G.2.1 1), .int p0] σ (mX8_greatest σ p0) := by
  refine gM_of (by decide) (Nat.le_of_ble_eq_true rfl) ?_
  intro p e s m args below meth c hC
  unfold mX8_greatest
  show gT p l e rX8_greatest s m args below meth c G 4 iI σ 0 [(0, .ref (G.2.1 1)), (1, .int p0)] [] _
  refine g_iconst (pc := 0) (v := 0) hC dX8_greatest_0 (by decide) ?_
  refine g_istore_n (pc := 1) (lv' := fun v1 => [(2, .int v1), (0, .ref (G.2.1 1)), (1, .int p0)]) hC dX8_greatest_1 rfl (by decide) (fun _ => rfl) (fun v1 => ?_)
  refine g_iconst (pc := 2) (v := 0) hC dX8_greatest_2 (by decide) ?_
  refine g_istore_n (pc := 3) (lv' := fun v2 => [(3, .int v2), (2, .int v1), (0, .ref (G.2.1 1)), (1, .int p0)]) hC dX8_greatest_3 rfl (by decide) (fun _ => rfl) (fun v2 => ?_)
  exact gT_sub [2, 3, 1, 0] rfl (wX8_greatest_b4 hC  1100 σ p0 v1 v2)
theorem dX8_greatestWorth_0 : decode cX8_greatestWorth 0 = .ok (.iconst 0, 1) := by decide +kernel
theorem dX8_greatestWorth_1 : decode cX8_greatestWorth 1 = .ok (.istore_n 3, 1) := by decide +kernel
theorem dX8_greatestWorth_2 : decode cX8_greatestWorth 2 = .ok (.iconst 0, 1) := by decide +kernel
theorem dX8_greatestWorth_3 : decode cX8_greatestWorth 3 = .ok (.istore 4, 2) := by decide +kernel
theorem dX8_greatestWorth_5 : decode cX8_greatestWorth 5 = .ok (.iload 4, 2) := by decide +kernel
theorem dX8_greatestWorth_7 : decode cX8_greatestWorth 7 = .ok (.aload_n 0, 1) := by decide +kernel
theorem dX8_greatestWorth_8 : decode cX8_greatestWorth 8 = .ok (.getfield 22, 3) := by decide +kernel
theorem dX8_greatestWorth_11 : decode cX8_greatestWorth 11 = .ok (.if_icmp .ge 61, 3) := by decide +kernel
theorem dX8_greatestWorth_14 : decode cX8_greatestWorth 14 = .ok (.aload_n 0, 1) := by decide +kernel
theorem dX8_greatestWorth_15 : decode cX8_greatestWorth 15 = .ok (.getfield 28, 3) := by decide +kernel
theorem dX8_greatestWorth_18 : decode cX8_greatestWorth 18 = .ok (.iload 4, 2) := by decide +kernel
theorem dX8_greatestWorth_20 : decode cX8_greatestWorth 20 = .ok (.iaload, 1) := by decide +kernel
theorem dX8_greatestWorth_21 : decode cX8_greatestWorth 21 = .ok (.iload_n 1, 1) := by decide +kernel
theorem dX8_greatestWorth_22 : decode cX8_greatestWorth 22 = .ok (.if_icmp .ne 44, 3) := by decide +kernel
theorem dX8_greatestWorth_25 : decode cX8_greatestWorth 25 = .ok (.aload_n 0, 1) := by decide +kernel
theorem dX8_greatestWorth_26 : decode cX8_greatestWorth 26 = .ok (.getfield 31, 3) := by decide +kernel
theorem dX8_greatestWorth_29 : decode cX8_greatestWorth 29 = .ok (.iload 4, 2) := by decide +kernel
theorem dX8_greatestWorth_31 : decode cX8_greatestWorth 31 = .ok (.iaload, 1) := by decide +kernel
theorem dX8_greatestWorth_32 : decode cX8_greatestWorth 32 = .ok (.ifCond .le 34, 3) := by decide +kernel
theorem dX8_greatestWorth_35 : decode cX8_greatestWorth 35 = .ok (.aload_n 0, 1) := by decide +kernel
theorem dX8_greatestWorth_36 : decode cX8_greatestWorth 36 = .ok (.getfield 34, 3) := by decide +kernel
theorem dX8_greatestWorth_39 : decode cX8_greatestWorth 39 = .ok (.iload 4, 2) := by decide +kernel
theorem dX8_greatestWorth_41 : decode cX8_greatestWorth 41 = .ok (.iaload, 1) := by decide +kernel
theorem dX8_greatestWorth_42 : decode cX8_greatestWorth 42 = .ok (.aload_n 0, 1) := by decide +kernel
theorem dX8_greatestWorth_43 : decode cX8_greatestWorth 43 = .ok (.getfield 31, 3) := by decide +kernel
theorem dX8_greatestWorth_46 : decode cX8_greatestWorth 46 = .ok (.iload 4, 2) := by decide +kernel
theorem dX8_greatestWorth_48 : decode cX8_greatestWorth 48 = .ok (.iaload, 1) := by decide +kernel
theorem dX8_greatestWorth_49 : decode cX8_greatestWorth 49 = .ok (.idiv, 1) := by decide +kernel
theorem dX8_greatestWorth_50 : decode cX8_greatestWorth 50 = .ok (.iload_n 2, 1) := by decide +kernel
theorem dX8_greatestWorth_51 : decode cX8_greatestWorth 51 = .ok (.if_icmp .lt 15, 3) := by decide +kernel
theorem dX8_greatestWorth_54 : decode cX8_greatestWorth 54 = .ok (.iload_n 3, 1) := by decide +kernel
theorem dX8_greatestWorth_55 : decode cX8_greatestWorth 55 = .ok (.aload_n 0, 1) := by decide +kernel
theorem dX8_greatestWorth_56 : decode cX8_greatestWorth 56 = .ok (.getfield 31, 3) := by decide +kernel
theorem dX8_greatestWorth_59 : decode cX8_greatestWorth 59 = .ok (.iload 4, 2) := by decide +kernel
theorem dX8_greatestWorth_61 : decode cX8_greatestWorth 61 = .ok (.iaload, 1) := by decide +kernel
theorem dX8_greatestWorth_62 : decode cX8_greatestWorth 62 = .ok (.invokestatic 58, 3) := by decide +kernel
theorem dX8_greatestWorth_65 : decode cX8_greatestWorth 65 = .ok (.istore_n 3, 1) := by decide +kernel
theorem dX8_greatestWorth_66 : decode cX8_greatestWorth 66 = .ok (.iinc 4 1, 3) := by decide +kernel
theorem dX8_greatestWorth_69 : decode cX8_greatestWorth 69 = .ok (.goto (-64), 3) := by decide +kernel
theorem dX8_greatestWorth_72 : decode cX8_greatestWorth 72 = .ok (.iload_n 3, 1) := by decide +kernel
theorem dX8_greatestWorth_73 : decode cX8_greatestWorth 73 = .ok (.ireturn, 1) := by decide +kernel
abbrev rX8_greatestWorth : Room := { frames := 1, cells := 0, slots := 0, locals := 21 }
def mX8_greatestWorth_b66   (k5 : gS → Int32 → Int32 → Int32 → Int32 → Option (Int32 × gS)) (σ : gS) (x7 : Int32) (x8 : Int32) (x9 : Int32) (x10 : Int32) : Option (Int32 × gS) := gLet (x10 + 1) (fun v11 => (k5 σ x7 x8 x9 v11))
set_option maxHeartbeats 4000000 in
set_option maxRecDepth 100000 in
theorem wX8_greatestWorth_b66 {p : Program} {l : Launch} {e : Env} {s : State} {m : MethodId} {args : Array Value} {below : List Frame} {meth : Method} {c : Code} {G : gE} (hC : gCx p s m args meth c G RX8 cX8_greatestWorth 5 (some .int))    {k5 : gS → Int32 → Int32 → Int32 → Int32 → Option (Int32 × gS)} (hk5 : ∀ (σ : gS) (x3 : Int32) (x4 : Int32) (x5 : Int32) (x6 : Int32), gT p l e rX8_greatestWorth s m args below meth c G 5 iI σ 5 [(0, .ref (G.2.1 1)), (1, .int x3), (2, .int x4), (3, .int x5), (4, .int x6)] [] (k5 σ x3 x4 x5 x6)) (σ : gS) (x7 : Int32) (x8 : Int32) (x9 : Int32) (x10 : Int32)  : gT p l e rX8_greatestWorth s m args below meth c G 5 iI σ 66 [(0, .ref (G.2.1 1)), (1, .int x7), (2, .int x8), (3, .int x9), (4, .int x10)] [] (mX8_greatestWorth_b66 k5 σ x7 x8 x9 x10) := by
  unfold mX8_greatestWorth_b66
  refine g_iinc (pc := 66) (q := 4) (w := 1) (lv' := fun v11 => [(4, .int v11), (0, .ref (G.2.1 1)), (1, .int x7), (2, .int x8), (3, .int x9)]) hC dX8_greatestWorth_66 rfl (by decide) (by decide) (fun _ => rfl) (fun v11 => ?_)
  refine g_goto (pc := 69) (tgt := 5) hC dX8_greatestWorth_69 (by decide) ?_
  exact gT_sub [1, 2, 3, 4, 0] rfl (hk5 σ x7 x8 x9 v11)
def mX8_greatestWorth_b5    : Nat → gS → Int32 → Int32 → Int32 → Int32 → Option (Int32 × gS)
  | 0, _, _, _, _, _ => none
  | n + 1, σ, x3, x4, x5, x6 => if (σ.1 1 3) ≤ x6 then (some (x5, σ)) else (if inbB x6 12 = true then (if (σ.1 5 (Int32.toNatClampNeg x6)) = x3 then (if inbB x6 12 = true then (if (σ.1 6 (Int32.toNatClampNeg x6)) ≤ 0 then ((mX8_greatestWorth_b66 (mX8_greatestWorth_b5  n) σ x3 x4 x5 x6)) else (if inbB x6 12 = true then (if inbB x6 12 = true then (if (σ.1 6 (Int32.toNatClampNeg x6)) = 0 then none else if ((σ.1 7 (Int32.toNatClampNeg x6)) / (σ.1 6 (Int32.toNatClampNeg x6))) < x4 then ((mX8_greatestWorth_b66 (mX8_greatestWorth_b5  n) σ x3 x4 x5 x6)) else (if inbB x6 12 = true then (gLet (gMax x5 (σ.1 6 (Int32.toNatClampNeg x6))) (fun v12 => (mX8_greatestWorth_b66 (mX8_greatestWorth_b5  n) σ x3 x4 v12 x6))) else none)) else none) else none)) else none) else ((mX8_greatestWorth_b66 (mX8_greatestWorth_b5  n) σ x3 x4 x5 x6))) else none)
set_option maxHeartbeats 4000000 in
set_option maxRecDepth 100000 in
theorem wX8_greatestWorth_b5 {p : Program} {l : Launch} {e : Env} {s : State} {m : MethodId} {args : Array Value} {below : List Frame} {meth : Method} {c : Code} {G : gE} (hC : gCx p s m args meth c G RX8 cX8_greatestWorth 5 (some .int))     (n : Nat) (σ : gS) (x3 : Int32) (x4 : Int32) (x5 : Int32) (x6 : Int32)  : gT p l e rX8_greatestWorth s m args below meth c G 5 iI σ 5 [(0, .ref (G.2.1 1)), (1, .int x3), (2, .int x4), (3, .int x5), (4, .int x6)] [] (mX8_greatestWorth_b5  n σ x3 x4 x5 x6) := by
  induction n generalizing σ x3 x4 x5 x6 with
  | zero => exact gT_none
  | succ n ih =>
    unfold mX8_greatestWorth_b5
    refine g_iload (pc := 5) (q := 4) hC dX8_greatestWorth_5 rfl ?_
    refine g_aload_n (pc := 7) (q := 0) hC dX8_greatestWorth_7 rfl rfl ?_
    refine g_get (pc := 8) (v := .int (σ.1 1 3)) hC kX8 rfl 3 (by decide) fl_RX8_22 rfl dX8_greatestWorth_8 ?_
    refine g_icmp_ge (pc := 11) (tgt := 72) hC dX8_greatestWorth_11 (by decide) ?_ ?_
    · refine g_iload_n (pc := 72) (q := 3) hC dX8_greatestWorth_72 rfl rfl ?_
      exact g_iret (pc := 73) hC dX8_greatestWorth_73
    · refine g_aload_n (pc := 14) (q := 0) hC dX8_greatestWorth_14 rfl rfl ?_
      refine g_get (pc := 15) (v := .ref (G.2.1 5)) hC kX8 rfl 5 (by decide) fl_RX8_28 rfl dX8_greatestWorth_15 ?_
      refine g_iload (pc := 18) (q := 4) hC dX8_greatestWorth_18 rfl ?_
      refine g_iald (pc := 20) hC 12 rfl (by decide) dX8_greatestWorth_20 ?_
      refine g_iload_n (pc := 21) (q := 1) hC dX8_greatestWorth_21 rfl rfl ?_
      refine g_icmp_ne (pc := 22) (tgt := 66) hC dX8_greatestWorth_22 (by decide) ?_ ?_
      · exact gT_sub [0, 1, 2, 3, 4] rfl (wX8_greatestWorth_b66 hC ih σ x3 x4 x5 x6)
      · refine g_aload_n (pc := 25) (q := 0) hC dX8_greatestWorth_25 rfl rfl ?_
        refine g_get (pc := 26) (v := .ref (G.2.1 6)) hC kX8 rfl 6 (by decide) fl_RX8_31 rfl dX8_greatestWorth_26 ?_
        refine g_iload (pc := 29) (q := 4) hC dX8_greatestWorth_29 rfl ?_
        refine g_iald (pc := 31) hC 12 rfl (by decide) dX8_greatestWorth_31 ?_
        refine g_if_le (pc := 32) (tgt := 66) hC dX8_greatestWorth_32 (by decide) ?_ ?_
        · exact gT_sub [0, 1, 2, 3, 4] rfl (wX8_greatestWorth_b66 hC ih σ x3 x4 x5 x6)
        · refine g_aload_n (pc := 35) (q := 0) hC dX8_greatestWorth_35 rfl rfl ?_
          refine g_get (pc := 36) (v := .ref (G.2.1 7)) hC kX8 rfl 7 (by decide) fl_RX8_34 rfl dX8_greatestWorth_36 ?_
          refine g_iload (pc := 39) (q := 4) hC dX8_greatestWorth_39 rfl ?_
          refine g_iald (pc := 41) hC 12 rfl (by decide) dX8_greatestWorth_41 ?_
          refine g_aload_n (pc := 42) (q := 0) hC dX8_greatestWorth_42 rfl rfl ?_
          refine g_get (pc := 43) (v := .ref (G.2.1 6)) hC kX8 rfl 6 (by decide) fl_RX8_31 rfl dX8_greatestWorth_43 ?_
          refine g_iload (pc := 46) (q := 4) hC dX8_greatestWorth_46 rfl ?_
          refine g_iald (pc := 48) hC 12 rfl (by decide) dX8_greatestWorth_48 ?_
          refine g_idiv (pc := 49) hC dX8_greatestWorth_49 ?_
          refine g_iload_n (pc := 50) (q := 2) hC dX8_greatestWorth_50 rfl rfl ?_
          refine g_icmp_lt (pc := 51) (tgt := 66) hC dX8_greatestWorth_51 (by decide) ?_ ?_
          · exact gT_sub [0, 1, 2, 3, 4] rfl (wX8_greatestWorth_b66 hC ih σ x3 x4 x5 x6)
          · refine g_iload_n (pc := 54) (q := 3) hC dX8_greatestWorth_54 rfl rfl ?_
            refine g_aload_n (pc := 55) (q := 0) hC dX8_greatestWorth_55 rfl rfl ?_
            refine g_get (pc := 56) (v := .ref (G.2.1 6)) hC kX8 rfl 6 (by decide) fl_RX8_31 rfl dX8_greatestWorth_56 ?_
            refine g_iload (pc := 59) (q := 4) hC dX8_greatestWorth_59 rfl ?_
            refine g_iald (pc := 61) hC 12 rfl (by decide) dX8_greatestWorth_61 ?_
            refine g_max (pc := 62) hC mth_RX8_58 ⟨Nat.le_of_ble_eq_true rfl, Nat.le_of_ble_eq_true rfl⟩ (Nat.le_of_ble_eq_true rfl) dX8_greatestWorth_62 ?_
            refine g_istore_n (pc := 65) (lv' := fun v12 => [(3, .int v12), (0, .ref (G.2.1 1)), (1, .int x3), (2, .int x4), (4, .int x6)]) hC dX8_greatestWorth_65 rfl (by decide) (fun _ => rfl) (fun v12 => ?_)
            exact gT_sub [1, 2, 3, 0, 4] rfl (wX8_greatestWorth_b66 hC ih σ x3 x4 v12 x6)
def mX8_greatestWorth (σ : gS) (p0 : Int32) (p1 : Int32) : Option (Int32 × gS) := gLet 0 (fun v1 => gLet 0 (fun v2 => (mX8_greatestWorth_b5  1100 σ p0 p1 v1 v2)))
set_option maxHeartbeats 4000000 in
set_option maxRecDepth 100000 in
theorem tX8_greatestWorth (l : Launch) (G : gE) (σ : gS) (p0 : Int32) (p1 : Int32) : gM l G yX8_greatestWorth cX8_greatestWorth 5 (some .int) rX8_greatestWorth iI [.ref (G.2.1 1), .int p0, .int p1] σ (mX8_greatestWorth σ p0 p1) := by
  refine gM_of (by decide) (Nat.le_of_ble_eq_true rfl) ?_
  intro p e s m args below meth c hC
  unfold mX8_greatestWorth
  show gT p l e rX8_greatestWorth s m args below meth c G 5 iI σ 0 [(0, .ref (G.2.1 1)), (1, .int p0), (2, .int p1)] [] _
  refine g_iconst (pc := 0) (v := 0) hC dX8_greatestWorth_0 (by decide) ?_
  refine g_istore_n (pc := 1) (lv' := fun v1 => [(3, .int v1), (0, .ref (G.2.1 1)), (1, .int p0), (2, .int p1)]) hC dX8_greatestWorth_1 rfl (by decide) (fun _ => rfl) (fun v1 => ?_)
  refine g_iconst (pc := 2) (v := 0) hC dX8_greatestWorth_2 (by decide) ?_
  refine g_istore (pc := 3) (lv' := fun v2 => [(4, .int v2), (3, .int v1), (0, .ref (G.2.1 1)), (1, .int p0), (2, .int p1)]) hC dX8_greatestWorth_3 (by decide) (fun _ => rfl) (fun v2 => ?_)
  exact gT_sub [2, 3, 4, 1, 0] rfl (wX8_greatestWorth_b5 hC  1100 σ p0 p1 v1 v2)
theorem dX8_voicesOf_0 : decode cX8_voicesOf 0 = .ok (.iconst 0, 1) := by decide +kernel
theorem dX8_voicesOf_1 : decode cX8_voicesOf 1 = .ok (.istore_n 2, 1) := by decide +kernel
theorem dX8_voicesOf_2 : decode cX8_voicesOf 2 = .ok (.iconst 0, 1) := by decide +kernel
theorem dX8_voicesOf_3 : decode cX8_voicesOf 3 = .ok (.istore_n 3, 1) := by decide +kernel
theorem dX8_voicesOf_4 : decode cX8_voicesOf 4 = .ok (.iload_n 3, 1) := by decide +kernel
theorem dX8_voicesOf_5 : decode cX8_voicesOf 5 = .ok (.aload_n 0, 1) := by decide +kernel
theorem dX8_voicesOf_6 : decode cX8_voicesOf 6 = .ok (.getfield 9, 3) := by decide +kernel
theorem dX8_voicesOf_9 : decode cX8_voicesOf 9 = .ok (.if_icmp .ge 27, 3) := by decide +kernel
theorem dX8_voicesOf_12 : decode cX8_voicesOf 12 = .ok (.iload_n 1, 1) := by decide +kernel
theorem dX8_voicesOf_13 : decode cX8_voicesOf 13 = .ok (.iload_n 3, 1) := by decide +kernel
theorem dX8_voicesOf_14 : decode cX8_voicesOf 14 = .ok (.ishr, 1) := by decide +kernel
theorem dX8_voicesOf_15 : decode cX8_voicesOf 15 = .ok (.iconst 1, 1) := by decide +kernel
theorem dX8_voicesOf_16 : decode cX8_voicesOf 16 = .ok (.iand, 1) := by decide +kernel
theorem dX8_voicesOf_17 : decode cX8_voicesOf 17 = .ok (.iconst 1, 1) := by decide +kernel
theorem dX8_voicesOf_18 : decode cX8_voicesOf 18 = .ok (.if_icmp .ne 12, 3) := by decide +kernel
theorem dX8_voicesOf_21 : decode cX8_voicesOf 21 = .ok (.iload_n 2, 1) := by decide +kernel
theorem dX8_voicesOf_22 : decode cX8_voicesOf 22 = .ok (.aload_n 0, 1) := by decide +kernel
theorem dX8_voicesOf_23 : decode cX8_voicesOf 23 = .ok (.getfield 19, 3) := by decide +kernel
theorem dX8_voicesOf_26 : decode cX8_voicesOf 26 = .ok (.iload_n 3, 1) := by decide +kernel
theorem dX8_voicesOf_27 : decode cX8_voicesOf 27 = .ok (.iaload, 1) := by decide +kernel
theorem dX8_voicesOf_28 : decode cX8_voicesOf 28 = .ok (.iadd, 1) := by decide +kernel
theorem dX8_voicesOf_29 : decode cX8_voicesOf 29 = .ok (.istore_n 2, 1) := by decide +kernel
theorem dX8_voicesOf_30 : decode cX8_voicesOf 30 = .ok (.iinc 3 1, 3) := by decide +kernel
theorem dX8_voicesOf_33 : decode cX8_voicesOf 33 = .ok (.goto (-29), 3) := by decide +kernel
theorem dX8_voicesOf_36 : decode cX8_voicesOf 36 = .ok (.iload_n 2, 1) := by decide +kernel
theorem dX8_voicesOf_37 : decode cX8_voicesOf 37 = .ok (.ireturn, 1) := by decide +kernel
abbrev rX8_voicesOf : Room := { frames := 0, cells := 0, slots := 0, locals := 0 }
def mX8_voicesOf_b30   (k4 : gS → Int32 → Int32 → Int32 → Option (Int32 × gS)) (σ : gS) (x6 : Int32) (x7 : Int32) (x8 : Int32) : Option (Int32 × gS) := gLet (x8 + 1) (fun v9 => (k4 σ x6 x7 v9))
set_option maxHeartbeats 4000000 in
set_option maxRecDepth 100000 in
theorem wX8_voicesOf_b30 {p : Program} {l : Launch} {e : Env} {s : State} {m : MethodId} {args : Array Value} {below : List Frame} {meth : Method} {c : Code} {G : gE} (hC : gCx p s m args meth c G RX8 cX8_voicesOf 4 (some .int))    {k4 : gS → Int32 → Int32 → Int32 → Option (Int32 × gS)} (hk4 : ∀ (σ : gS) (x3 : Int32) (x4 : Int32) (x5 : Int32), gT p l e rX8_voicesOf s m args below meth c G 4 iI σ 4 [(0, .ref (G.2.1 1)), (1, .int x3), (2, .int x4), (3, .int x5)] [] (k4 σ x3 x4 x5)) (σ : gS) (x6 : Int32) (x7 : Int32) (x8 : Int32)  : gT p l e rX8_voicesOf s m args below meth c G 4 iI σ 30 [(0, .ref (G.2.1 1)), (1, .int x6), (2, .int x7), (3, .int x8)] [] (mX8_voicesOf_b30 k4 σ x6 x7 x8) := by
  unfold mX8_voicesOf_b30
  refine g_iinc (pc := 30) (q := 3) (w := 1) (lv' := fun v9 => [(3, .int v9), (0, .ref (G.2.1 1)), (1, .int x6), (2, .int x7)]) hC dX8_voicesOf_30 rfl (by decide) (by decide) (fun _ => rfl) (fun v9 => ?_)
  refine g_goto (pc := 33) (tgt := 4) hC dX8_voicesOf_33 (by decide) ?_
  exact gT_sub [1, 2, 3, 0] rfl (hk4 σ x6 x7 v9)
def mX8_voicesOf_b4    : Nat → gS → Int32 → Int32 → Int32 → Option (Int32 × gS)
  | 0, _, _, _, _ => none
  | n + 1, σ, x3, x4, x5 => if (σ.1 1 0) ≤ x5 then (some (x4, σ)) else (if ((x3 >>> (x5 &&& 31)) &&& 1) = 1 then (if inbB x5 6 = true then (gLet (x4 + (σ.1 3 (Int32.toNatClampNeg x5))) (fun v10 => (mX8_voicesOf_b30 (mX8_voicesOf_b4  n) σ x3 v10 x5))) else none) else ((mX8_voicesOf_b30 (mX8_voicesOf_b4  n) σ x3 x4 x5)))
set_option maxHeartbeats 4000000 in
set_option maxRecDepth 100000 in
theorem wX8_voicesOf_b4 {p : Program} {l : Launch} {e : Env} {s : State} {m : MethodId} {args : Array Value} {below : List Frame} {meth : Method} {c : Code} {G : gE} (hC : gCx p s m args meth c G RX8 cX8_voicesOf 4 (some .int))     (n : Nat) (σ : gS) (x3 : Int32) (x4 : Int32) (x5 : Int32)  : gT p l e rX8_voicesOf s m args below meth c G 4 iI σ 4 [(0, .ref (G.2.1 1)), (1, .int x3), (2, .int x4), (3, .int x5)] [] (mX8_voicesOf_b4  n σ x3 x4 x5) := by
  induction n generalizing σ x3 x4 x5 with
  | zero => exact gT_none
  | succ n ih =>
    unfold mX8_voicesOf_b4
    refine g_iload_n (pc := 4) (q := 3) hC dX8_voicesOf_4 rfl rfl ?_
    refine g_aload_n (pc := 5) (q := 0) hC dX8_voicesOf_5 rfl rfl ?_
    refine g_get (pc := 6) (v := .int (σ.1 1 0)) hC kX8 rfl 0 (by decide) fl_RX8_9 rfl dX8_voicesOf_6 ?_
    refine g_icmp_ge (pc := 9) (tgt := 36) hC dX8_voicesOf_9 (by decide) ?_ ?_
    · refine g_iload_n (pc := 36) (q := 2) hC dX8_voicesOf_36 rfl rfl ?_
      exact g_iret (pc := 37) hC dX8_voicesOf_37
    · refine g_iload_n (pc := 12) (q := 1) hC dX8_voicesOf_12 rfl rfl ?_
      refine g_iload_n (pc := 13) (q := 3) hC dX8_voicesOf_13 rfl rfl ?_
      refine g_ishr (pc := 14) hC dX8_voicesOf_14 ?_
      refine g_iconst (pc := 15) (v := 1) hC dX8_voicesOf_15 (by decide) ?_
      refine g_iand (pc := 16) hC dX8_voicesOf_16 ?_
      refine g_iconst (pc := 17) (v := 1) hC dX8_voicesOf_17 (by decide) ?_
      refine g_icmp_ne (pc := 18) (tgt := 30) hC dX8_voicesOf_18 (by decide) ?_ ?_
      · exact gT_sub [0, 1, 2, 3] rfl (wX8_voicesOf_b30 hC ih σ x3 x4 x5)
      · refine g_iload_n (pc := 21) (q := 2) hC dX8_voicesOf_21 rfl rfl ?_
        refine g_aload_n (pc := 22) (q := 0) hC dX8_voicesOf_22 rfl rfl ?_
        refine g_get (pc := 23) (v := .ref (G.2.1 3)) hC kX8 rfl 2 (by decide) fl_RX8_19 rfl dX8_voicesOf_23 ?_
        refine g_iload_n (pc := 26) (q := 3) hC dX8_voicesOf_26 rfl rfl ?_
        refine g_iald (pc := 27) hC 6 rfl (by decide) dX8_voicesOf_27 ?_
        refine g_iadd (pc := 28) hC dX8_voicesOf_28 ?_
        refine g_istore_n (pc := 29) (lv' := fun v10 => [(2, .int v10), (0, .ref (G.2.1 1)), (1, .int x3), (3, .int x5)]) hC dX8_voicesOf_29 rfl (by decide) (fun _ => rfl) (fun v10 => ?_)
        exact gT_sub [1, 2, 0, 3] rfl (wX8_voicesOf_b30 hC ih σ x3 v10 x5)
def mX8_voicesOf (σ : gS) (p0 : Int32) : Option (Int32 × gS) := gLet 0 (fun v1 => gLet 0 (fun v2 => (mX8_voicesOf_b4  1100 σ p0 v1 v2)))
set_option maxHeartbeats 4000000 in
set_option maxRecDepth 100000 in
theorem tX8_voicesOf (l : Launch) (G : gE) (σ : gS) (p0 : Int32) : gM l G yX8_voicesOf cX8_voicesOf 4 (some .int) rX8_voicesOf iI [.ref (G.2.1 1), .int p0] σ (mX8_voicesOf σ p0) := by
  refine gM_of (by decide) (Nat.le_of_ble_eq_true rfl) ?_
  intro p e s m args below meth c hC
  unfold mX8_voicesOf
  show gT p l e rX8_voicesOf s m args below meth c G 4 iI σ 0 [(0, .ref (G.2.1 1)), (1, .int p0)] [] _
  refine g_iconst (pc := 0) (v := 0) hC dX8_voicesOf_0 (by decide) ?_
  refine g_istore_n (pc := 1) (lv' := fun v1 => [(2, .int v1), (0, .ref (G.2.1 1)), (1, .int p0)]) hC dX8_voicesOf_1 rfl (by decide) (fun _ => rfl) (fun v1 => ?_)
  refine g_iconst (pc := 2) (v := 0) hC dX8_voicesOf_2 (by decide) ?_
  refine g_istore_n (pc := 3) (lv' := fun v2 => [(3, .int v2), (2, .int v1), (0, .ref (G.2.1 1)), (1, .int p0)]) hC dX8_voicesOf_3 rfl (by decide) (fun _ => rfl) (fun v2 => ?_)
  exact gT_sub [2, 3, 1, 0] rfl (wX8_voicesOf_b4 hC  1100 σ p0 v1 v2)
theorem lk_RX8_64 : gLV RX8 64 RX8 yX8_voicesOf cX8_voicesOf 4 (some .int) 1 := ⟨(gBig_tab 788 (by decide +kernel) (by decide +kernel)), (gBig_tab 790 (by decide +kernel) (by decide +kernel)), (gBig_sel 29 (by decide +kernel) (by decide +kernel)), (gBig_tab 2 (by decide +kernel) (by decide +kernel)), (gBig_tab 791 (by decide +kernel) (by decide +kernel)), rfl, by decide +kernel, by decide +kernel, by decide +kernel⟩
theorem dX8_carries_0 : decode cX8_carries 0 = .ok (.iconst 2, 1) := by decide +kernel
theorem dX8_carries_1 : decode cX8_carries 1 = .ok (.aload_n 0, 1) := by decide +kernel
theorem dX8_carries_2 : decode cX8_carries 2 = .ok (.iload_n 1, 1) := by decide +kernel
theorem dX8_carries_3 : decode cX8_carries 3 = .ok (.invokevirtual 64, 3) := by decide +kernel
theorem dX8_carries_6 : decode cX8_carries 6 = .ok (.imul, 1) := by decide +kernel
theorem dX8_carries_7 : decode cX8_carries 7 = .ok (.aload_n 0, 1) := by decide +kernel
theorem dX8_carries_8 : decode cX8_carries 8 = .ok (.iconst (-1), 1) := by decide +kernel
theorem dX8_carries_9 : decode cX8_carries 9 = .ok (.invokevirtual 64, 3) := by decide +kernel
theorem dX8_carries_12 : decode cX8_carries 12 = .ok (.if_icmp .le 7, 3) := by decide +kernel
theorem dX8_carries_15 : decode cX8_carries 15 = .ok (.iconst 1, 1) := by decide +kernel
theorem dX8_carries_16 : decode cX8_carries 16 = .ok (.goto 4, 3) := by decide +kernel
theorem dX8_carries_19 : decode cX8_carries 19 = .ok (.iconst 0, 1) := by decide +kernel
theorem dX8_carries_20 : decode cX8_carries 20 = .ok (.ireturn, 1) := by decide +kernel
abbrev rX8_carries : Room := { frames := 1, cells := 0, slots := 0, locals := 23 }
def mX8_carries (σ : gS) (p0 : Int32) : Option (Bool × gS) := gBind (mX8_voicesOf σ p0) (fun r1 s2 => gBind (mX8_voicesOf s2 (-1)) (fun r3 s4 => if (2 * r1) ≤ r3 then (some (false, s4)) else (some (true, s4))))
set_option maxHeartbeats 4000000 in
set_option maxRecDepth 100000 in
theorem tX8_carries (l : Launch) (G : gE) (σ : gS) (p0 : Int32) : gM l G yX8_carries cX8_carries 2 (some .boolean) rX8_carries iZ [.ref (G.2.1 1), .int p0] σ (mX8_carries σ p0) := by
  refine gM_of (by decide) (Nat.le_of_ble_eq_true rfl) ?_
  intro p e s m args below meth c hC
  unfold mX8_carries
  show gT p l e rX8_carries s m args below meth c G 2 iZ σ 0 [(0, .ref (G.2.1 1)), (1, .int p0)] [] _
  refine g_iconst (pc := 0) (v := 2) hC dX8_carries_0 (by decide) ?_
  refine g_aload_n (pc := 1) (q := 0) hC dX8_carries_1 rfl rfl ?_
  refine g_iload_n (pc := 2) (q := 1) hC dX8_carries_2 rfl rfl ?_
  refine g_callVi (pc := 3) (As := [.int p0]) (rest := [.int 2]) hC lk_RX8_64 kX8 rfl (tX8_voicesOf _ _ σ p0) rfl rfl (Nat.le_of_ble_eq_true rfl) ⟨rfl, rfl, Nat.le_of_ble_eq_true rfl, Nat.le_of_ble_eq_true rfl⟩ dX8_carries_3 (fun r1 s2 => ?_)
  refine g_imul (pc := 6) hC dX8_carries_6 ?_
  refine g_aload_n (pc := 7) (q := 0) hC dX8_carries_7 rfl rfl ?_
  refine g_iconst (pc := 8) (v := (-1)) hC dX8_carries_8 (by decide) ?_
  refine g_callVi (pc := 9) (As := [.int (-1)]) (rest := [.int (2 * r1)]) hC lk_RX8_64 kX8 rfl (tX8_voicesOf _ _ s2 (-1)) rfl rfl (Nat.le_of_ble_eq_true rfl) ⟨rfl, rfl, Nat.le_of_ble_eq_true rfl, Nat.le_of_ble_eq_true rfl⟩ dX8_carries_9 (fun r3 s4 => ?_)
  refine g_icmp_le (pc := 12) (tgt := 19) hC dX8_carries_12 (by decide) ?_ ?_
  · refine g_iconst (pc := 19) (v := 0) hC dX8_carries_19 (by decide) ?_
    exact g_zret0 (pc := 20) hC dX8_carries_20
  · refine g_iconst (pc := 15) (v := 1) hC dX8_carries_15 (by decide) ?_
    refine g_goto (pc := 16) (tgt := 20) hC dX8_carries_16 (by decide) ?_
    exact g_zret1 (pc := 20) hC dX8_carries_20
theorem lk_RX8_68 : gLV RX8 68 RX8 yX8_share cX8_share 6 (some .int) 3 := ⟨(gBig_tab 776 (by decide +kernel) (by decide +kernel)), (gBig_tab 777 (by decide +kernel) (by decide +kernel)), (gBig_tab 778 (by decide +kernel) (by decide +kernel)), (gBig_tab 2 (by decide +kernel) (by decide +kernel)), (gBig_tab 779 (by decide +kernel) (by decide +kernel)), rfl, by decide +kernel, by decide +kernel, by decide +kernel⟩
theorem dX8_sayYes_0 : decode cX8_sayYes 0 = .ok (.iconst 0, 1) := by decide +kernel
theorem dX8_sayYes_1 : decode cX8_sayYes 1 = .ok (.istore_n 3, 1) := by decide +kernel
theorem dX8_sayYes_2 : decode cX8_sayYes 2 = .ok (.iconst 0, 1) := by decide +kernel
theorem dX8_sayYes_3 : decode cX8_sayYes 3 = .ok (.istore 4, 2) := by decide +kernel
theorem dX8_sayYes_5 : decode cX8_sayYes 5 = .ok (.iload 4, 2) := by decide +kernel
theorem dX8_sayYes_7 : decode cX8_sayYes 7 = .ok (.aload_n 0, 1) := by decide +kernel
theorem dX8_sayYes_8 : decode cX8_sayYes 8 = .ok (.getfield 9, 3) := by decide +kernel
theorem dX8_sayYes_11 : decode cX8_sayYes 11 = .ok (.if_icmp .ge 27, 3) := by decide +kernel
theorem dX8_sayYes_14 : decode cX8_sayYes 14 = .ok (.aload_n 0, 1) := by decide +kernel
theorem dX8_sayYes_15 : decode cX8_sayYes 15 = .ok (.iload 4, 2) := by decide +kernel
theorem dX8_sayYes_17 : decode cX8_sayYes 17 = .ok (.iload_n 1, 1) := by decide +kernel
theorem dX8_sayYes_18 : decode cX8_sayYes 18 = .ok (.iload_n 2, 1) := by decide +kernel
theorem dX8_sayYes_19 : decode cX8_sayYes 19 = .ok (.invokevirtual 68, 3) := by decide +kernel
theorem dX8_sayYes_22 : decode cX8_sayYes 22 = .ok (.ifCond .le 10, 3) := by decide +kernel
theorem dX8_sayYes_25 : decode cX8_sayYes 25 = .ok (.iload_n 3, 1) := by decide +kernel
theorem dX8_sayYes_26 : decode cX8_sayYes 26 = .ok (.iconst 1, 1) := by decide +kernel
theorem dX8_sayYes_27 : decode cX8_sayYes 27 = .ok (.iload 4, 2) := by decide +kernel
theorem dX8_sayYes_29 : decode cX8_sayYes 29 = .ok (.ishl, 1) := by decide +kernel
theorem dX8_sayYes_30 : decode cX8_sayYes 30 = .ok (.ior, 1) := by decide +kernel
theorem dX8_sayYes_31 : decode cX8_sayYes 31 = .ok (.istore_n 3, 1) := by decide +kernel
theorem dX8_sayYes_32 : decode cX8_sayYes 32 = .ok (.iinc 4 1, 3) := by decide +kernel
theorem dX8_sayYes_35 : decode cX8_sayYes 35 = .ok (.goto (-30), 3) := by decide +kernel
theorem dX8_sayYes_38 : decode cX8_sayYes 38 = .ok (.iload_n 3, 1) := by decide +kernel
theorem dX8_sayYes_39 : decode cX8_sayYes 39 = .ok (.ireturn, 1) := by decide +kernel
abbrev rX8_sayYes : Room := { frames := 3, cells := 0, slots := 0, locals := 72 }
def mX8_sayYes_b32   (k5 : gS → Int32 → Int32 → Int32 → Int32 → Option (Int32 × gS)) (σ : gS) (x9 : Int32) (x10 : Int32) (x11 : Int32) (x12 : Int32) : Option (Int32 × gS) := gLet (x12 + 1) (fun v13 => (k5 σ x9 x10 x11 v13))
set_option maxHeartbeats 4000000 in
set_option maxRecDepth 100000 in
theorem wX8_sayYes_b32 {p : Program} {l : Launch} {e : Env} {s : State} {m : MethodId} {args : Array Value} {below : List Frame} {meth : Method} {c : Code} {G : gE} (hC : gCx p s m args meth c G RX8 cX8_sayYes 5 (some .int))    {k5 : gS → Int32 → Int32 → Int32 → Int32 → Option (Int32 × gS)} (hk5 : ∀ (σ : gS) (x3 : Int32) (x4 : Int32) (x5 : Int32) (x6 : Int32), gT p l e rX8_sayYes s m args below meth c G 5 iI σ 5 [(0, .ref (G.2.1 1)), (1, .int x3), (2, .int x4), (3, .int x5), (4, .int x6)] [] (k5 σ x3 x4 x5 x6)) (σ : gS) (x9 : Int32) (x10 : Int32) (x11 : Int32) (x12 : Int32)  : gT p l e rX8_sayYes s m args below meth c G 5 iI σ 32 [(0, .ref (G.2.1 1)), (1, .int x9), (2, .int x10), (3, .int x11), (4, .int x12)] [] (mX8_sayYes_b32 k5 σ x9 x10 x11 x12) := by
  unfold mX8_sayYes_b32
  refine g_iinc (pc := 32) (q := 4) (w := 1) (lv' := fun v13 => [(4, .int v13), (0, .ref (G.2.1 1)), (1, .int x9), (2, .int x10), (3, .int x11)]) hC dX8_sayYes_32 rfl (by decide) (by decide) (fun _ => rfl) (fun v13 => ?_)
  refine g_goto (pc := 35) (tgt := 5) hC dX8_sayYes_35 (by decide) ?_
  exact gT_sub [1, 2, 3, 4, 0] rfl (hk5 σ x9 x10 x11 v13)
def mX8_sayYes_b5    : Nat → gS → Int32 → Int32 → Int32 → Int32 → Option (Int32 × gS)
  | 0, _, _, _, _, _ => none
  | n + 1, σ, x3, x4, x5, x6 => if (σ.1 1 0) ≤ x6 then (some (x5, σ)) else (gBind (mX8_share σ x6 x3 x4) (fun r7 s8 => if r7 ≤ 0 then ((mX8_sayYes_b32 (mX8_sayYes_b5  n) s8 x3 x4 x5 x6)) else (gLet (x5 ||| (1 <<< (x6 &&& 31))) (fun v14 => (mX8_sayYes_b32 (mX8_sayYes_b5  n) s8 x3 x4 v14 x6)))))
set_option maxHeartbeats 4000000 in
set_option maxRecDepth 100000 in
theorem wX8_sayYes_b5 {p : Program} {l : Launch} {e : Env} {s : State} {m : MethodId} {args : Array Value} {below : List Frame} {meth : Method} {c : Code} {G : gE} (hC : gCx p s m args meth c G RX8 cX8_sayYes 5 (some .int))     (n : Nat) (σ : gS) (x3 : Int32) (x4 : Int32) (x5 : Int32) (x6 : Int32)  : gT p l e rX8_sayYes s m args below meth c G 5 iI σ 5 [(0, .ref (G.2.1 1)), (1, .int x3), (2, .int x4), (3, .int x5), (4, .int x6)] [] (mX8_sayYes_b5  n σ x3 x4 x5 x6) := by
  induction n generalizing σ x3 x4 x5 x6 with
  | zero => exact gT_none
  | succ n ih =>
    unfold mX8_sayYes_b5
    refine g_iload (pc := 5) (q := 4) hC dX8_sayYes_5 rfl ?_
    refine g_aload_n (pc := 7) (q := 0) hC dX8_sayYes_7 rfl rfl ?_
    refine g_get (pc := 8) (v := .int (σ.1 1 0)) hC kX8 rfl 0 (by decide) fl_RX8_9 rfl dX8_sayYes_8 ?_
    refine g_icmp_ge (pc := 11) (tgt := 38) hC dX8_sayYes_11 (by decide) ?_ ?_
    · refine g_iload_n (pc := 38) (q := 3) hC dX8_sayYes_38 rfl rfl ?_
      exact g_iret (pc := 39) hC dX8_sayYes_39
    · refine g_aload_n (pc := 14) (q := 0) hC dX8_sayYes_14 rfl rfl ?_
      refine g_iload (pc := 15) (q := 4) hC dX8_sayYes_15 rfl ?_
      refine g_iload_n (pc := 17) (q := 1) hC dX8_sayYes_17 rfl rfl ?_
      refine g_iload_n (pc := 18) (q := 2) hC dX8_sayYes_18 rfl rfl ?_
      refine g_callVi (pc := 19) (As := [.int x6, .int x3, .int x4]) (rest := []) hC lk_RX8_68 kX8 rfl (tX8_share _ _ σ x6 x3 x4) rfl rfl (Nat.le_of_ble_eq_true rfl) ⟨rfl, rfl, Nat.le_of_ble_eq_true rfl, Nat.le_of_ble_eq_true rfl⟩ dX8_sayYes_19 (fun r7 s8 => ?_)
      refine g_if_le (pc := 22) (tgt := 32) hC dX8_sayYes_22 (by decide) ?_ ?_
      · exact gT_sub [0, 1, 2, 3, 4] rfl (wX8_sayYes_b32 hC ih s8 x3 x4 x5 x6)
      · refine g_iload_n (pc := 25) (q := 3) hC dX8_sayYes_25 rfl rfl ?_
        refine g_iconst (pc := 26) (v := 1) hC dX8_sayYes_26 (by decide) ?_
        refine g_iload (pc := 27) (q := 4) hC dX8_sayYes_27 rfl ?_
        refine g_ishl (pc := 29) hC dX8_sayYes_29 ?_
        refine g_ior (pc := 30) hC dX8_sayYes_30 ?_
        refine g_istore_n (pc := 31) (lv' := fun v14 => [(3, .int v14), (0, .ref (G.2.1 1)), (1, .int x3), (2, .int x4), (4, .int x6)]) hC dX8_sayYes_31 rfl (by decide) (fun _ => rfl) (fun v14 => ?_)
        exact gT_sub [1, 2, 3, 0, 4] rfl (wX8_sayYes_b32 hC ih s8 x3 x4 v14 x6)
def mX8_sayYes (σ : gS) (p0 : Int32) (p1 : Int32) : Option (Int32 × gS) := gLet 0 (fun v1 => gLet 0 (fun v2 => (mX8_sayYes_b5  1100 σ p0 p1 v1 v2)))
set_option maxHeartbeats 4000000 in
set_option maxRecDepth 100000 in
theorem tX8_sayYes (l : Launch) (G : gE) (σ : gS) (p0 : Int32) (p1 : Int32) : gM l G yX8_sayYes cX8_sayYes 5 (some .int) rX8_sayYes iI [.ref (G.2.1 1), .int p0, .int p1] σ (mX8_sayYes σ p0 p1) := by
  refine gM_of (by decide) (Nat.le_of_ble_eq_true rfl) ?_
  intro p e s m args below meth c hC
  unfold mX8_sayYes
  show gT p l e rX8_sayYes s m args below meth c G 5 iI σ 0 [(0, .ref (G.2.1 1)), (1, .int p0), (2, .int p1)] [] _
  refine g_iconst (pc := 0) (v := 0) hC dX8_sayYes_0 (by decide) ?_
  refine g_istore_n (pc := 1) (lv' := fun v1 => [(3, .int v1), (0, .ref (G.2.1 1)), (1, .int p0), (2, .int p1)]) hC dX8_sayYes_1 rfl (by decide) (fun _ => rfl) (fun v1 => ?_)
  refine g_iconst (pc := 2) (v := 0) hC dX8_sayYes_2 (by decide) ?_
  refine g_istore (pc := 3) (lv' := fun v2 => [(4, .int v2), (3, .int v1), (0, .ref (G.2.1 1)), (1, .int p0), (2, .int p1)]) hC dX8_sayYes_3 (by decide) (fun _ => rfl) (fun v2 => ?_)
  exact gT_sub [2, 3, 4, 1, 0] rfl (wX8_sayYes_b5 hC  1100 σ p0 p1 v1 v2)
theorem dX8_prefer_0 : decode cX8_prefer 0 = .ok (.iconst 0, 1) := by decide +kernel
theorem dX8_prefer_1 : decode cX8_prefer 1 = .ok (.istore 4, 2) := by decide +kernel
theorem dX8_prefer_3 : decode cX8_prefer 3 = .ok (.iconst 0, 1) := by decide +kernel
theorem dX8_prefer_4 : decode cX8_prefer 4 = .ok (.istore 5, 2) := by decide +kernel
theorem dX8_prefer_6 : decode cX8_prefer 6 = .ok (.iload 5, 2) := by decide +kernel
theorem dX8_prefer_8 : decode cX8_prefer 8 = .ok (.aload_n 0, 1) := by decide +kernel
theorem dX8_prefer_9 : decode cX8_prefer 9 = .ok (.getfield 9, 3) := by decide +kernel
theorem dX8_prefer_12 : decode cX8_prefer 12 = .ok (.if_icmp .ge 37, 3) := by decide +kernel
theorem dX8_prefer_15 : decode cX8_prefer 15 = .ok (.aload_n 0, 1) := by decide +kernel
theorem dX8_prefer_16 : decode cX8_prefer 16 = .ok (.iload 5, 2) := by decide +kernel
theorem dX8_prefer_18 : decode cX8_prefer 18 = .ok (.iload_n 1, 1) := by decide +kernel
theorem dX8_prefer_19 : decode cX8_prefer 19 = .ok (.iload_n 2, 1) := by decide +kernel
theorem dX8_prefer_20 : decode cX8_prefer 20 = .ok (.invokevirtual 68, 3) := by decide +kernel
theorem dX8_prefer_23 : decode cX8_prefer 23 = .ok (.aload_n 0, 1) := by decide +kernel
theorem dX8_prefer_24 : decode cX8_prefer 24 = .ok (.iload 5, 2) := by decide +kernel
theorem dX8_prefer_26 : decode cX8_prefer 26 = .ok (.iload_n 1, 1) := by decide +kernel
theorem dX8_prefer_27 : decode cX8_prefer 27 = .ok (.iload_n 3, 1) := by decide +kernel
theorem dX8_prefer_28 : decode cX8_prefer 28 = .ok (.invokevirtual 68, 3) := by decide +kernel
theorem dX8_prefer_31 : decode cX8_prefer 31 = .ok (.if_icmp .le 12, 3) := by decide +kernel
theorem dX8_prefer_34 : decode cX8_prefer 34 = .ok (.iload 4, 2) := by decide +kernel
theorem dX8_prefer_36 : decode cX8_prefer 36 = .ok (.iconst 1, 1) := by decide +kernel
theorem dX8_prefer_37 : decode cX8_prefer 37 = .ok (.iload 5, 2) := by decide +kernel
theorem dX8_prefer_39 : decode cX8_prefer 39 = .ok (.ishl, 1) := by decide +kernel
theorem dX8_prefer_40 : decode cX8_prefer 40 = .ok (.ior, 1) := by decide +kernel
theorem dX8_prefer_41 : decode cX8_prefer 41 = .ok (.istore 4, 2) := by decide +kernel
theorem dX8_prefer_43 : decode cX8_prefer 43 = .ok (.iinc 5 1, 3) := by decide +kernel
theorem dX8_prefer_46 : decode cX8_prefer 46 = .ok (.goto (-40), 3) := by decide +kernel
theorem dX8_prefer_49 : decode cX8_prefer 49 = .ok (.iload 4, 2) := by decide +kernel
theorem dX8_prefer_51 : decode cX8_prefer 51 = .ok (.ireturn, 1) := by decide +kernel
abbrev rX8_prefer : Room := { frames := 3, cells := 0, slots := 0, locals := 72 }
def mX8_prefer_b43   (k6 : gS → Int32 → Int32 → Int32 → Int32 → Int32 → Option (Int32 × gS)) (σ : gS) (x12 : Int32) (x13 : Int32) (x14 : Int32) (x15 : Int32) (x16 : Int32) : Option (Int32 × gS) := gLet (x16 + 1) (fun v17 => (k6 σ x12 x13 x14 x15 v17))
set_option maxHeartbeats 4000000 in
set_option maxRecDepth 100000 in
theorem wX8_prefer_b43 {p : Program} {l : Launch} {e : Env} {s : State} {m : MethodId} {args : Array Value} {below : List Frame} {meth : Method} {c : Code} {G : gE} (hC : gCx p s m args meth c G RX8 cX8_prefer 6 (some .int))    {k6 : gS → Int32 → Int32 → Int32 → Int32 → Int32 → Option (Int32 × gS)} (hk6 : ∀ (σ : gS) (x3 : Int32) (x4 : Int32) (x5 : Int32) (x6 : Int32) (x7 : Int32), gT p l e rX8_prefer s m args below meth c G 6 iI σ 6 [(0, .ref (G.2.1 1)), (1, .int x3), (2, .int x4), (3, .int x5), (4, .int x6), (5, .int x7)] [] (k6 σ x3 x4 x5 x6 x7)) (σ : gS) (x12 : Int32) (x13 : Int32) (x14 : Int32) (x15 : Int32) (x16 : Int32)  : gT p l e rX8_prefer s m args below meth c G 6 iI σ 43 [(0, .ref (G.2.1 1)), (1, .int x12), (2, .int x13), (3, .int x14), (4, .int x15), (5, .int x16)] [] (mX8_prefer_b43 k6 σ x12 x13 x14 x15 x16) := by
  unfold mX8_prefer_b43
  refine g_iinc (pc := 43) (q := 5) (w := 1) (lv' := fun v17 => [(5, .int v17), (0, .ref (G.2.1 1)), (1, .int x12), (2, .int x13), (3, .int x14), (4, .int x15)]) hC dX8_prefer_43 rfl (by decide) (by decide) (fun _ => rfl) (fun v17 => ?_)
  refine g_goto (pc := 46) (tgt := 6) hC dX8_prefer_46 (by decide) ?_
  exact gT_sub [1, 2, 3, 4, 5, 0] rfl (hk6 σ x12 x13 x14 x15 v17)
def mX8_prefer_b6    : Nat → gS → Int32 → Int32 → Int32 → Int32 → Int32 → Option (Int32 × gS)
  | 0, _, _, _, _, _, _ => none
  | n + 1, σ, x3, x4, x5, x6, x7 => if (σ.1 1 0) ≤ x7 then (some (x6, σ)) else (gBind (mX8_share σ x7 x3 x4) (fun r8 s9 => gBind (mX8_share s9 x7 x3 x5) (fun r10 s11 => if r8 ≤ r10 then ((mX8_prefer_b43 (mX8_prefer_b6  n) s11 x3 x4 x5 x6 x7)) else (gLet (x6 ||| (1 <<< (x7 &&& 31))) (fun v18 => (mX8_prefer_b43 (mX8_prefer_b6  n) s11 x3 x4 x5 v18 x7))))))
set_option maxHeartbeats 4000000 in
set_option maxRecDepth 100000 in
theorem wX8_prefer_b6 {p : Program} {l : Launch} {e : Env} {s : State} {m : MethodId} {args : Array Value} {below : List Frame} {meth : Method} {c : Code} {G : gE} (hC : gCx p s m args meth c G RX8 cX8_prefer 6 (some .int))     (n : Nat) (σ : gS) (x3 : Int32) (x4 : Int32) (x5 : Int32) (x6 : Int32) (x7 : Int32)  : gT p l e rX8_prefer s m args below meth c G 6 iI σ 6 [(0, .ref (G.2.1 1)), (1, .int x3), (2, .int x4), (3, .int x5), (4, .int x6), (5, .int x7)] [] (mX8_prefer_b6  n σ x3 x4 x5 x6 x7) := by
  induction n generalizing σ x3 x4 x5 x6 x7 with
  | zero => exact gT_none
  | succ n ih =>
    unfold mX8_prefer_b6
    refine g_iload (pc := 6) (q := 5) hC dX8_prefer_6 rfl ?_
    refine g_aload_n (pc := 8) (q := 0) hC dX8_prefer_8 rfl rfl ?_
    refine g_get (pc := 9) (v := .int (σ.1 1 0)) hC kX8 rfl 0 (by decide) fl_RX8_9 rfl dX8_prefer_9 ?_
    refine g_icmp_ge (pc := 12) (tgt := 49) hC dX8_prefer_12 (by decide) ?_ ?_
    · refine g_iload (pc := 49) (q := 4) hC dX8_prefer_49 rfl ?_
      exact g_iret (pc := 51) hC dX8_prefer_51
    · refine g_aload_n (pc := 15) (q := 0) hC dX8_prefer_15 rfl rfl ?_
      refine g_iload (pc := 16) (q := 5) hC dX8_prefer_16 rfl ?_
      refine g_iload_n (pc := 18) (q := 1) hC dX8_prefer_18 rfl rfl ?_
      refine g_iload_n (pc := 19) (q := 2) hC dX8_prefer_19 rfl rfl ?_
      refine g_callVi (pc := 20) (As := [.int x7, .int x3, .int x4]) (rest := []) hC lk_RX8_68 kX8 rfl (tX8_share _ _ σ x7 x3 x4) rfl rfl (Nat.le_of_ble_eq_true rfl) ⟨rfl, rfl, Nat.le_of_ble_eq_true rfl, Nat.le_of_ble_eq_true rfl⟩ dX8_prefer_20 (fun r8 s9 => ?_)
      refine g_aload_n (pc := 23) (q := 0) hC dX8_prefer_23 rfl rfl ?_
      refine g_iload (pc := 24) (q := 5) hC dX8_prefer_24 rfl ?_
      refine g_iload_n (pc := 26) (q := 1) hC dX8_prefer_26 rfl rfl ?_
      refine g_iload_n (pc := 27) (q := 3) hC dX8_prefer_27 rfl rfl ?_
      refine g_callVi (pc := 28) (As := [.int x7, .int x3, .int x5]) (rest := [.int r8]) hC lk_RX8_68 kX8 rfl (tX8_share _ _ s9 x7 x3 x5) rfl rfl (Nat.le_of_ble_eq_true rfl) ⟨rfl, rfl, Nat.le_of_ble_eq_true rfl, Nat.le_of_ble_eq_true rfl⟩ dX8_prefer_28 (fun r10 s11 => ?_)
      refine g_icmp_le (pc := 31) (tgt := 43) hC dX8_prefer_31 (by decide) ?_ ?_
      · exact gT_sub [0, 1, 2, 3, 4, 5] rfl (wX8_prefer_b43 hC ih s11 x3 x4 x5 x6 x7)
      · refine g_iload (pc := 34) (q := 4) hC dX8_prefer_34 rfl ?_
        refine g_iconst (pc := 36) (v := 1) hC dX8_prefer_36 (by decide) ?_
        refine g_iload (pc := 37) (q := 5) hC dX8_prefer_37 rfl ?_
        refine g_ishl (pc := 39) hC dX8_prefer_39 ?_
        refine g_ior (pc := 40) hC dX8_prefer_40 ?_
        refine g_istore (pc := 41) (lv' := fun v18 => [(4, .int v18), (0, .ref (G.2.1 1)), (1, .int x3), (2, .int x4), (3, .int x5), (5, .int x7)]) hC dX8_prefer_41 (by decide) (fun _ => rfl) (fun v18 => ?_)
        exact gT_sub [1, 2, 3, 4, 0, 5] rfl (wX8_prefer_b43 hC ih s11 x3 x4 x5 v18 x7)
def mX8_prefer (σ : gS) (p0 : Int32) (p1 : Int32) (p2 : Int32) : Option (Int32 × gS) := gLet 0 (fun v1 => gLet 0 (fun v2 => (mX8_prefer_b6  1100 σ p0 p1 p2 v1 v2)))
set_option maxHeartbeats 4000000 in
set_option maxRecDepth 100000 in
theorem tX8_prefer (l : Launch) (G : gE) (σ : gS) (p0 : Int32) (p1 : Int32) (p2 : Int32) : gM l G yX8_prefer cX8_prefer 6 (some .int) rX8_prefer iI [.ref (G.2.1 1), .int p0, .int p1, .int p2] σ (mX8_prefer σ p0 p1 p2) := by
  refine gM_of (by decide) (Nat.le_of_ble_eq_true rfl) ?_
  intro p e s m args below meth c hC
  unfold mX8_prefer
  show gT p l e rX8_prefer s m args below meth c G 6 iI σ 0 [(0, .ref (G.2.1 1)), (1, .int p0), (2, .int p1), (3, .int p2)] [] _
  refine g_iconst (pc := 0) (v := 0) hC dX8_prefer_0 (by decide) ?_
  refine g_istore (pc := 1) (lv' := fun v1 => [(4, .int v1), (0, .ref (G.2.1 1)), (1, .int p0), (2, .int p1), (3, .int p2)]) hC dX8_prefer_1 (by decide) (fun _ => rfl) (fun v1 => ?_)
  refine g_iconst (pc := 3) (v := 0) hC dX8_prefer_3 (by decide) ?_
  refine g_istore (pc := 4) (lv' := fun v2 => [(5, .int v2), (4, .int v1), (0, .ref (G.2.1 1)), (1, .int p0), (2, .int p1), (3, .int p2)]) hC dX8_prefer_4 (by decide) (fun _ => rfl) (fun v2 => ?_)
  exact gT_sub [2, 3, 4, 5, 1, 0] rfl (wX8_prefer_b6 hC  1100 σ p0 p1 p2 v1 v2)
theorem lk_RX8_71 : gLV RX8 71 RX8 yX8_carries cX8_carries 2 (some .boolean) 1 := ⟨(gBig_tab 784 (by decide +kernel) (by decide +kernel)), (gBig_tab 785 (by decide +kernel) (by decide +kernel)), (gBig_tab 786 (by decide +kernel) (by decide +kernel)), (gBig_tab 2 (by decide +kernel) (by decide +kernel)), (gBig_tab 787 (by decide +kernel) (by decide +kernel)), rfl, by decide +kernel, by decide +kernel, by decide +kernel⟩
theorem dX8_swing_0 : decode cX8_swing 0 = .ok (.iconst 0, 1) := by decide +kernel
theorem dX8_swing_1 : decode cX8_swing 1 = .ok (.istore_n 2, 1) := by decide +kernel
theorem dX8_swing_2 : decode cX8_swing 2 = .ok (.iconst 0, 1) := by decide +kernel
theorem dX8_swing_3 : decode cX8_swing 3 = .ok (.istore_n 3, 1) := by decide +kernel
theorem dX8_swing_4 : decode cX8_swing 4 = .ok (.iload_n 3, 1) := by decide +kernel
theorem dX8_swing_5 : decode cX8_swing 5 = .ok (.aload_n 0, 1) := by decide +kernel
theorem dX8_swing_6 : decode cX8_swing 6 = .ok (.getfield 9, 3) := by decide +kernel
theorem dX8_swing_9 : decode cX8_swing 9 = .ok (.if_icmp .ge 32, 3) := by decide +kernel
theorem dX8_swing_12 : decode cX8_swing 12 = .ok (.aload_n 0, 1) := by decide +kernel
theorem dX8_swing_13 : decode cX8_swing 13 = .ok (.iload_n 1, 1) := by decide +kernel
theorem dX8_swing_14 : decode cX8_swing 14 = .ok (.iconst 1, 1) := by decide +kernel
theorem dX8_swing_15 : decode cX8_swing 15 = .ok (.iload_n 3, 1) := by decide +kernel
theorem dX8_swing_16 : decode cX8_swing 16 = .ok (.ishl, 1) := by decide +kernel
theorem dX8_swing_17 : decode cX8_swing 17 = .ok (.ixor, 1) := by decide +kernel
theorem dX8_swing_18 : decode cX8_swing 18 = .ok (.invokevirtual 71, 3) := by decide +kernel
theorem dX8_swing_21 : decode cX8_swing 21 = .ok (.aload_n 0, 1) := by decide +kernel
theorem dX8_swing_22 : decode cX8_swing 22 = .ok (.iload_n 1, 1) := by decide +kernel
theorem dX8_swing_23 : decode cX8_swing 23 = .ok (.invokevirtual 71, 3) := by decide +kernel
theorem dX8_swing_26 : decode cX8_swing 26 = .ok (.if_icmp .eq 9, 3) := by decide +kernel
theorem dX8_swing_29 : decode cX8_swing 29 = .ok (.iload_n 2, 1) := by decide +kernel
theorem dX8_swing_30 : decode cX8_swing 30 = .ok (.iconst 1, 1) := by decide +kernel
theorem dX8_swing_31 : decode cX8_swing 31 = .ok (.iload_n 3, 1) := by decide +kernel
theorem dX8_swing_32 : decode cX8_swing 32 = .ok (.ishl, 1) := by decide +kernel
theorem dX8_swing_33 : decode cX8_swing 33 = .ok (.ior, 1) := by decide +kernel
theorem dX8_swing_34 : decode cX8_swing 34 = .ok (.istore_n 2, 1) := by decide +kernel
theorem dX8_swing_35 : decode cX8_swing 35 = .ok (.iinc 3 1, 3) := by decide +kernel
theorem dX8_swing_38 : decode cX8_swing 38 = .ok (.goto (-34), 3) := by decide +kernel
theorem dX8_swing_41 : decode cX8_swing 41 = .ok (.iload_n 2, 1) := by decide +kernel
theorem dX8_swing_42 : decode cX8_swing 42 = .ok (.ireturn, 1) := by decide +kernel
abbrev rX8_swing : Room := { frames := 2, cells := 0, slots := 0, locals := 44 }
def mX8_swing_b35   (k4 : gS → Int32 → Int32 → Int32 → Option (Int32 × gS)) (σ : gS) (x10 : Int32) (x11 : Int32) (x12 : Int32) : Option (Int32 × gS) := gLet (x12 + 1) (fun v13 => (k4 σ x10 x11 v13))
set_option maxHeartbeats 4000000 in
set_option maxRecDepth 100000 in
theorem wX8_swing_b35 {p : Program} {l : Launch} {e : Env} {s : State} {m : MethodId} {args : Array Value} {below : List Frame} {meth : Method} {c : Code} {G : gE} (hC : gCx p s m args meth c G RX8 cX8_swing 4 (some .int))    {k4 : gS → Int32 → Int32 → Int32 → Option (Int32 × gS)} (hk4 : ∀ (σ : gS) (x3 : Int32) (x4 : Int32) (x5 : Int32), gT p l e rX8_swing s m args below meth c G 4 iI σ 4 [(0, .ref (G.2.1 1)), (1, .int x3), (2, .int x4), (3, .int x5)] [] (k4 σ x3 x4 x5)) (σ : gS) (x10 : Int32) (x11 : Int32) (x12 : Int32)  : gT p l e rX8_swing s m args below meth c G 4 iI σ 35 [(0, .ref (G.2.1 1)), (1, .int x10), (2, .int x11), (3, .int x12)] [] (mX8_swing_b35 k4 σ x10 x11 x12) := by
  unfold mX8_swing_b35
  refine g_iinc (pc := 35) (q := 3) (w := 1) (lv' := fun v13 => [(3, .int v13), (0, .ref (G.2.1 1)), (1, .int x10), (2, .int x11)]) hC dX8_swing_35 rfl (by decide) (by decide) (fun _ => rfl) (fun v13 => ?_)
  refine g_goto (pc := 38) (tgt := 4) hC dX8_swing_38 (by decide) ?_
  exact gT_sub [1, 2, 3, 0] rfl (hk4 σ x10 x11 v13)
def mX8_swing_b4    : Nat → gS → Int32 → Int32 → Int32 → Option (Int32 × gS)
  | 0, _, _, _, _ => none
  | n + 1, σ, x3, x4, x5 => if (σ.1 1 0) ≤ x5 then (some (x4, σ)) else (gBind (mX8_carries σ (x3 ^^^ (1 <<< (x5 &&& 31)))) (fun r6 s7 => gBind (mX8_carries s7 x3) (fun r8 s9 => if (b2i r6) = (b2i r8) then ((mX8_swing_b35 (mX8_swing_b4  n) s9 x3 x4 x5)) else (gLet (x4 ||| (1 <<< (x5 &&& 31))) (fun v14 => (mX8_swing_b35 (mX8_swing_b4  n) s9 x3 v14 x5))))))
set_option maxHeartbeats 4000000 in
set_option maxRecDepth 100000 in
theorem wX8_swing_b4 {p : Program} {l : Launch} {e : Env} {s : State} {m : MethodId} {args : Array Value} {below : List Frame} {meth : Method} {c : Code} {G : gE} (hC : gCx p s m args meth c G RX8 cX8_swing 4 (some .int))     (n : Nat) (σ : gS) (x3 : Int32) (x4 : Int32) (x5 : Int32)  : gT p l e rX8_swing s m args below meth c G 4 iI σ 4 [(0, .ref (G.2.1 1)), (1, .int x3), (2, .int x4), (3, .int x5)] [] (mX8_swing_b4  n σ x3 x4 x5) := by
  induction n generalizing σ x3 x4 x5 with
  | zero => exact gT_none
  | succ n ih =>
    unfold mX8_swing_b4
    refine g_iload_n (pc := 4) (q := 3) hC dX8_swing_4 rfl rfl ?_
    refine g_aload_n (pc := 5) (q := 0) hC dX8_swing_5 rfl rfl ?_
    refine g_get (pc := 6) (v := .int (σ.1 1 0)) hC kX8 rfl 0 (by decide) fl_RX8_9 rfl dX8_swing_6 ?_
    refine g_icmp_ge (pc := 9) (tgt := 41) hC dX8_swing_9 (by decide) ?_ ?_
    · refine g_iload_n (pc := 41) (q := 2) hC dX8_swing_41 rfl rfl ?_
      exact g_iret (pc := 42) hC dX8_swing_42
    · refine g_aload_n (pc := 12) (q := 0) hC dX8_swing_12 rfl rfl ?_
      refine g_iload_n (pc := 13) (q := 1) hC dX8_swing_13 rfl rfl ?_
      refine g_iconst (pc := 14) (v := 1) hC dX8_swing_14 (by decide) ?_
      refine g_iload_n (pc := 15) (q := 3) hC dX8_swing_15 rfl rfl ?_
      refine g_ishl (pc := 16) hC dX8_swing_16 ?_
      refine g_ixor (pc := 17) hC dX8_swing_17 ?_
      refine g_callVz (pc := 18) (As := [.int (x3 ^^^ (1 <<< (x5 &&& 31)))]) (rest := []) hC lk_RX8_71 kX8 rfl (tX8_carries _ _ σ (x3 ^^^ (1 <<< (x5 &&& 31)))) rfl rfl (Nat.le_of_ble_eq_true rfl) ⟨rfl, rfl, Nat.le_of_ble_eq_true rfl, Nat.le_of_ble_eq_true rfl⟩ dX8_swing_18 (fun r6 s7 => ?_)
      refine g_aload_n (pc := 21) (q := 0) hC dX8_swing_21 rfl rfl ?_
      refine g_iload_n (pc := 22) (q := 1) hC dX8_swing_22 rfl rfl ?_
      refine g_callVz (pc := 23) (As := [.int x3]) (rest := [.int (b2i r6)]) hC lk_RX8_71 kX8 rfl (tX8_carries _ _ s7 x3) rfl rfl (Nat.le_of_ble_eq_true rfl) ⟨rfl, rfl, Nat.le_of_ble_eq_true rfl, Nat.le_of_ble_eq_true rfl⟩ dX8_swing_23 (fun r8 s9 => ?_)
      refine g_icmp_eq (pc := 26) (tgt := 35) hC dX8_swing_26 (by decide) ?_ ?_
      · exact gT_sub [0, 1, 2, 3] rfl (wX8_swing_b35 hC ih s9 x3 x4 x5)
      · refine g_iload_n (pc := 29) (q := 2) hC dX8_swing_29 rfl rfl ?_
        refine g_iconst (pc := 30) (v := 1) hC dX8_swing_30 (by decide) ?_
        refine g_iload_n (pc := 31) (q := 3) hC dX8_swing_31 rfl rfl ?_
        refine g_ishl (pc := 32) hC dX8_swing_32 ?_
        refine g_ior (pc := 33) hC dX8_swing_33 ?_
        refine g_istore_n (pc := 34) (lv' := fun v14 => [(2, .int v14), (0, .ref (G.2.1 1)), (1, .int x3), (3, .int x5)]) hC dX8_swing_34 rfl (by decide) (fun _ => rfl) (fun v14 => ?_)
        exact gT_sub [1, 2, 0, 3] rfl (wX8_swing_b35 hC ih s9 x3 v14 x5)
def mX8_swing (σ : gS) (p0 : Int32) : Option (Int32 × gS) := gLet 0 (fun v1 => gLet 0 (fun v2 => (mX8_swing_b4  1100 σ p0 v1 v2)))
set_option maxHeartbeats 4000000 in
set_option maxRecDepth 100000 in
theorem tX8_swing (l : Launch) (G : gE) (σ : gS) (p0 : Int32) : gM l G yX8_swing cX8_swing 4 (some .int) rX8_swing iI [.ref (G.2.1 1), .int p0] σ (mX8_swing σ p0) := by
  refine gM_of (by decide) (Nat.le_of_ble_eq_true rfl) ?_
  intro p e s m args below meth c hC
  unfold mX8_swing
  show gT p l e rX8_swing s m args below meth c G 4 iI σ 0 [(0, .ref (G.2.1 1)), (1, .int p0)] [] _
  refine g_iconst (pc := 0) (v := 0) hC dX8_swing_0 (by decide) ?_
  refine g_istore_n (pc := 1) (lv' := fun v1 => [(2, .int v1), (0, .ref (G.2.1 1)), (1, .int p0)]) hC dX8_swing_1 rfl (by decide) (fun _ => rfl) (fun v1 => ?_)
  refine g_iconst (pc := 2) (v := 0) hC dX8_swing_2 (by decide) ?_
  refine g_istore_n (pc := 3) (lv' := fun v2 => [(3, .int v2), (2, .int v1), (0, .ref (G.2.1 1)), (1, .int p0)]) hC dX8_swing_3 rfl (by decide) (fun _ => rfl) (fun v2 => ?_)
  exact gT_sub [2, 3, 1, 0] rfl (wX8_swing_b4 hC  1100 σ p0 v1 v2)
theorem dX8_decides_0 : decode cX8_decides 0 = .ok (.iconst 1, 1) := by decide +kernel
theorem dX8_decides_1 : decode cX8_decides 1 = .ok (.iload_n 1, 1) := by decide +kernel
theorem dX8_decides_2 : decode cX8_decides 2 = .ok (.ishl, 1) := by decide +kernel
theorem dX8_decides_3 : decode cX8_decides 3 = .ok (.istore_n 2, 1) := by decide +kernel
theorem dX8_decides_4 : decode cX8_decides 4 = .ok (.iconst 0, 1) := by decide +kernel
theorem dX8_decides_5 : decode cX8_decides 5 = .ok (.istore_n 3, 1) := by decide +kernel
theorem dX8_decides_6 : decode cX8_decides 6 = .ok (.iconst 0, 1) := by decide +kernel
theorem dX8_decides_7 : decode cX8_decides 7 = .ok (.istore 4, 2) := by decide +kernel
theorem dX8_decides_9 : decode cX8_decides 9 = .ok (.iload 4, 2) := by decide +kernel
theorem dX8_decides_11 : decode cX8_decides 11 = .ok (.iconst 1, 1) := by decide +kernel
theorem dX8_decides_12 : decode cX8_decides 12 = .ok (.aload_n 0, 1) := by decide +kernel
theorem dX8_decides_13 : decode cX8_decides 13 = .ok (.getfield 9, 3) := by decide +kernel
theorem dX8_decides_16 : decode cX8_decides 16 = .ok (.ishl, 1) := by decide +kernel
theorem dX8_decides_17 : decode cX8_decides 17 = .ok (.if_icmp .ge 39, 3) := by decide +kernel
theorem dX8_decides_20 : decode cX8_decides 20 = .ok (.iload 4, 2) := by decide +kernel
theorem dX8_decides_22 : decode cX8_decides 22 = .ok (.iload_n 2, 1) := by decide +kernel
theorem dX8_decides_23 : decode cX8_decides 23 = .ok (.iand, 1) := by decide +kernel
theorem dX8_decides_24 : decode cX8_decides 24 = .ok (.ifCond .ne 26, 3) := by decide +kernel
theorem dX8_decides_27 : decode cX8_decides 27 = .ok (.aload_n 0, 1) := by decide +kernel
theorem dX8_decides_28 : decode cX8_decides 28 = .ok (.iload 4, 2) := by decide +kernel
theorem dX8_decides_30 : decode cX8_decides 30 = .ok (.iload_n 2, 1) := by decide +kernel
theorem dX8_decides_31 : decode cX8_decides 31 = .ok (.ior, 1) := by decide +kernel
theorem dX8_decides_32 : decode cX8_decides 32 = .ok (.invokevirtual 71, 3) := by decide +kernel
theorem dX8_decides_35 : decode cX8_decides 35 = .ok (.ifCond .eq 15, 3) := by decide +kernel
theorem dX8_decides_38 : decode cX8_decides 38 = .ok (.aload_n 0, 1) := by decide +kernel
theorem dX8_decides_39 : decode cX8_decides 39 = .ok (.iload 4, 2) := by decide +kernel
theorem dX8_decides_41 : decode cX8_decides 41 = .ok (.invokevirtual 71, 3) := by decide +kernel
theorem dX8_decides_44 : decode cX8_decides 44 = .ok (.ifCond .ne 6, 3) := by decide +kernel
theorem dX8_decides_47 : decode cX8_decides 47 = .ok (.iinc 3 1, 3) := by decide +kernel
theorem dX8_decides_50 : decode cX8_decides 50 = .ok (.iinc 4 1, 3) := by decide +kernel
theorem dX8_decides_53 : decode cX8_decides 53 = .ok (.goto (-44), 3) := by decide +kernel
theorem dX8_decides_56 : decode cX8_decides 56 = .ok (.iload_n 3, 1) := by decide +kernel
theorem dX8_decides_57 : decode cX8_decides 57 = .ok (.ireturn, 1) := by decide +kernel
abbrev rX8_decides : Room := { frames := 2, cells := 0, slots := 0, locals := 44 }
def mX8_decides_b50   (k9 : gS → Int32 → Int32 → Int32 → Option (Int32 × gS)) (σ : gS) (x7 : Int32) (x8 : Int32) (x9 : Int32) : Option (Int32 × gS) := gLet (x9 + 1) (fun v10 => (k9 σ x7 x8 v10))
set_option maxHeartbeats 4000000 in
set_option maxRecDepth 100000 in
theorem wX8_decides_b50 {p : Program} {l : Launch} {e : Env} {s : State} {m : MethodId} {args : Array Value} {below : List Frame} {meth : Method} {c : Code} {G : gE} (hC : gCx p s m args meth c G RX8 cX8_decides 5 (some .int))    {k9 : gS → Int32 → Int32 → Int32 → Option (Int32 × gS)} (hk9 : ∀ (σ : gS) (x4 : Int32) (x5 : Int32) (x6 : Int32), gT p l e rX8_decides s m args below meth c G 5 iI σ 9 [(0, .ref (G.2.1 1)), (2, .int x4), (3, .int x5), (4, .int x6)] [] (k9 σ x4 x5 x6)) (σ : gS) (x7 : Int32) (x8 : Int32) (x9 : Int32)  : gT p l e rX8_decides s m args below meth c G 5 iI σ 50 [(0, .ref (G.2.1 1)), (2, .int x7), (3, .int x8), (4, .int x9)] [] (mX8_decides_b50 k9 σ x7 x8 x9) := by
  unfold mX8_decides_b50
  refine g_iinc (pc := 50) (q := 3) (w := 1) (lv' := fun v10 => [(4, .int v10), (0, .ref (G.2.1 1)), (2, .int x7), (3, .int x8)]) hC dX8_decides_50 rfl (by decide) (by decide) (fun _ => rfl) (fun v10 => ?_)
  refine g_goto (pc := 53) (tgt := 9) hC dX8_decides_53 (by decide) ?_
  exact gT_sub [1, 2, 3, 0] rfl (hk9 σ x7 x8 v10)
def mX8_decides_b9    : Nat → gS → Int32 → Int32 → Int32 → Option (Int32 × gS)
  | 0, _, _, _, _ => none
  | n + 1, σ, x4, x5, x6 => if (1 <<< ((σ.1 1 0) &&& 31)) ≤ x6 then (some (x5, σ)) else (if (x6 &&& x4) = 0 then (gBind (mX8_carries σ (x6 ||| x4)) (fun r11 s12 => if r11 = true then (gBind (mX8_carries s12 x6) (fun r13 s14 => if r13 = true then ((mX8_decides_b50 (mX8_decides_b9  n) s14 x4 x5 x6)) else (gLet (x5 + 1) (fun v15 => (mX8_decides_b50 (mX8_decides_b9  n) s14 x4 v15 x6))))) else ((mX8_decides_b50 (mX8_decides_b9  n) s12 x4 x5 x6)))) else ((mX8_decides_b50 (mX8_decides_b9  n) σ x4 x5 x6)))
set_option maxHeartbeats 4000000 in
set_option maxRecDepth 100000 in
theorem wX8_decides_b9 {p : Program} {l : Launch} {e : Env} {s : State} {m : MethodId} {args : Array Value} {below : List Frame} {meth : Method} {c : Code} {G : gE} (hC : gCx p s m args meth c G RX8 cX8_decides 5 (some .int))     (n : Nat) (σ : gS) (x4 : Int32) (x5 : Int32) (x6 : Int32)  : gT p l e rX8_decides s m args below meth c G 5 iI σ 9 [(0, .ref (G.2.1 1)), (2, .int x4), (3, .int x5), (4, .int x6)] [] (mX8_decides_b9  n σ x4 x5 x6) := by
  induction n generalizing σ x4 x5 x6 with
  | zero => exact gT_none
  | succ n ih =>
    unfold mX8_decides_b9
    refine g_iload (pc := 9) (q := 3) hC dX8_decides_9 rfl ?_
    refine g_iconst (pc := 11) (v := 1) hC dX8_decides_11 (by decide) ?_
    refine g_aload_n (pc := 12) (q := 0) hC dX8_decides_12 rfl rfl ?_
    refine g_get (pc := 13) (v := .int (σ.1 1 0)) hC kX8 rfl 0 (by decide) fl_RX8_9 rfl dX8_decides_13 ?_
    refine g_ishl (pc := 16) hC dX8_decides_16 ?_
    refine g_icmp_ge (pc := 17) (tgt := 56) hC dX8_decides_17 (by decide) ?_ ?_
    · refine g_iload_n (pc := 56) (q := 2) hC dX8_decides_56 rfl rfl ?_
      exact g_iret (pc := 57) hC dX8_decides_57
    · refine g_iload (pc := 20) (q := 3) hC dX8_decides_20 rfl ?_
      refine g_iload_n (pc := 22) (q := 1) hC dX8_decides_22 rfl rfl ?_
      refine g_iand (pc := 23) hC dX8_decides_23 ?_
      refine g_if_ne (pc := 24) (tgt := 50) hC dX8_decides_24 (by decide) ?_ ?_
      · exact gT_sub [0, 1, 2, 3] rfl (wX8_decides_b50 hC ih σ x4 x5 x6)
      · refine g_aload_n (pc := 27) (q := 0) hC dX8_decides_27 rfl rfl ?_
        refine g_iload (pc := 28) (q := 3) hC dX8_decides_28 rfl ?_
        refine g_iload_n (pc := 30) (q := 1) hC dX8_decides_30 rfl rfl ?_
        refine g_ior (pc := 31) hC dX8_decides_31 ?_
        refine g_callVz (pc := 32) (As := [.int (x6 ||| x4)]) (rest := []) hC lk_RX8_71 kX8 rfl (tX8_carries _ _ σ (x6 ||| x4)) rfl rfl (Nat.le_of_ble_eq_true rfl) ⟨rfl, rfl, Nat.le_of_ble_eq_true rfl, Nat.le_of_ble_eq_true rfl⟩ dX8_decides_32 (fun r11 s12 => ?_)
        refine g_bif_eq (pc := 35) (tgt := 50) hC dX8_decides_35 (by decide) ?_ ?_
        · exact gT_sub [0, 1, 2, 3] rfl (wX8_decides_b50 hC ih s12 x4 x5 x6)
        · refine g_aload_n (pc := 38) (q := 0) hC dX8_decides_38 rfl rfl ?_
          refine g_iload (pc := 39) (q := 3) hC dX8_decides_39 rfl ?_
          refine g_callVz (pc := 41) (As := [.int x6]) (rest := []) hC lk_RX8_71 kX8 rfl (tX8_carries _ _ s12 x6) rfl rfl (Nat.le_of_ble_eq_true rfl) ⟨rfl, rfl, Nat.le_of_ble_eq_true rfl, Nat.le_of_ble_eq_true rfl⟩ dX8_decides_41 (fun r13 s14 => ?_)
          refine g_bif_ne (pc := 44) (tgt := 50) hC dX8_decides_44 (by decide) ?_ ?_
          · exact gT_sub [0, 1, 2, 3] rfl (wX8_decides_b50 hC ih s14 x4 x5 x6)
          · refine g_iinc (pc := 47) (q := 2) (w := 1) (lv' := fun v15 => [(3, .int v15), (0, .ref (G.2.1 1)), (2, .int x4), (4, .int x6)]) hC dX8_decides_47 rfl (by decide) (by decide) (fun _ => rfl) (fun v15 => ?_)
            exact gT_sub [1, 2, 0, 3] rfl (wX8_decides_b50 hC ih s14 x4 v15 x6)
def mX8_decides (σ : gS) (p0 : Int32) : Option (Int32 × gS) := gLet (1 <<< (p0 &&& 31)) (fun v1 => gLet 0 (fun v2 => gLet 0 (fun v3 => (mX8_decides_b9  1100 σ v1 v2 v3))))
set_option maxHeartbeats 4000000 in
set_option maxRecDepth 100000 in
theorem tX8_decides (l : Launch) (G : gE) (σ : gS) (p0 : Int32) : gM l G yX8_decides cX8_decides 5 (some .int) rX8_decides iI [.ref (G.2.1 1), .int p0] σ (mX8_decides σ p0) := by
  refine gM_of (by decide) (Nat.le_of_ble_eq_true rfl) ?_
  intro p e s m args below meth c hC
  unfold mX8_decides
  show gT p l e rX8_decides s m args below meth c G 5 iI σ 0 [(0, .ref (G.2.1 1)), (1, .int p0)] [] _
  refine g_iconst (pc := 0) (v := 1) hC dX8_decides_0 (by decide) ?_
  refine g_iload_n (pc := 1) (q := 1) hC dX8_decides_1 rfl rfl ?_
  refine g_ishl (pc := 2) hC dX8_decides_2 ?_
  refine g_istore_n (pc := 3) (lv' := fun v1 => [(2, .int v1), (0, .ref (G.2.1 1)), (1, .int p0)]) hC dX8_decides_3 rfl (by decide) (fun _ => rfl) (fun v1 => ?_)
  refine g_iconst (pc := 4) (v := 0) hC dX8_decides_4 (by decide) ?_
  refine g_istore_n (pc := 5) (lv' := fun v2 => [(3, .int v2), (2, .int v1), (0, .ref (G.2.1 1)), (1, .int p0)]) hC dX8_decides_5 rfl (by decide) (fun _ => rfl) (fun v2 => ?_)
  refine g_iconst (pc := 6) (v := 0) hC dX8_decides_6 (by decide) ?_
  refine g_istore (pc := 7) (lv' := fun v3 => [(4, .int v3), (3, .int v2), (2, .int v1), (0, .ref (G.2.1 1)), (1, .int p0)]) hC dX8_decides_7 (by decide) (fun _ => rfl) (fun v3 => ?_)
  exact gT_sub [3, 2, 1, 0] rfl (wX8_decides_b9 hC  1100 σ v1 v2 v3)
