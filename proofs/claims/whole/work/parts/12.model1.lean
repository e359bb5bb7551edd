theorem dX10_within_0 : decode cX10_within 0 = .ok (.iload_n 0, 1) := by decide +kernel
theorem dX10_within_1 : decode cX10_within 1 = .ok (.iload_n 1, 1) := by decide +kernel
theorem dX10_within_2 : decode cX10_within 2 = .ok (.if_icmp .lt 12, 3) := by decide +kernel
theorem dX10_within_5 : decode cX10_within 5 = .ok (.iload_n 0, 1) := by decide +kernel
theorem dX10_within_6 : decode cX10_within 6 = .ok (.iload_n 2, 1) := by decide +kernel
theorem dX10_within_7 : decode cX10_within 7 = .ok (.if_icmp .gt 7, 3) := by decide +kernel
theorem dX10_within_10 : decode cX10_within 10 = .ok (.iconst 1, 1) := by decide +kernel
theorem dX10_within_11 : decode cX10_within 11 = .ok (.goto 4, 3) := by decide +kernel
theorem dX10_within_14 : decode cX10_within 14 = .ok (.iconst 0, 1) := by decide +kernel
theorem dX10_within_15 : decode cX10_within 15 = .ok (.ireturn, 1) := by decide +kernel
abbrev rX10_within : Room := { frames := 0, cells := 0, slots := 0, locals := 0 }
def mX10_within (σ : gS) (p0 : Int32) (p1 : Int32) (p2 : Int32) : Option (Bool × gS) := if p0 < p1 then (some (false, σ)) else (if p2 < p0 then (some (false, σ)) else (some (true, σ)))
set_option maxHeartbeats 4000000 in
set_option maxRecDepth 100000 in
theorem tX10_within (l : Launch) (G : gE) (σ : gS) (p0 : Int32) (p1 : Int32) (p2 : Int32) : gM l G yX10_within cX10_within 3 (some .boolean) rX10_within iZ [.int p0, .int p1, .int p2] σ (mX10_within σ p0 p1 p2) := by
  refine gM_of (by decide) (Nat.le_of_ble_eq_true rfl) ?_
  intro p e s m args below meth c hC
  unfold mX10_within
  show gT p l e rX10_within s m args below meth c G 3 iZ σ 0 [(0, .int p0), (1, .int p1), (2, .int p2)] [] _
  refine g_iload_n (pc := 0) (q := 0) hC dX10_within_0 rfl rfl ?_
  refine g_iload_n (pc := 1) (q := 1) hC dX10_within_1 rfl rfl ?_
  refine g_icmp_lt (pc := 2) (tgt := 14) hC dX10_within_2 (by decide) ?_ ?_
  · refine g_iconst (pc := 14) (v := 0) hC dX10_within_14 (by decide) ?_
    exact g_zret0 (pc := 15) hC dX10_within_15
  · refine g_iload_n (pc := 5) (q := 0) hC dX10_within_5 rfl rfl ?_
    refine g_iload_n (pc := 6) (q := 2) hC dX10_within_6 rfl rfl ?_
    refine g_icmp_gt (pc := 7) (tgt := 14) hC dX10_within_7 (by decide) ?_ ?_
    · refine g_iconst (pc := 14) (v := 0) hC dX10_within_14 (by decide) ?_
      exact g_zret0 (pc := 15) hC dX10_within_15
    · refine g_iconst (pc := 10) (v := 1) hC dX10_within_10 (by decide) ?_
      refine g_goto (pc := 11) (tgt := 15) hC dX10_within_11 (by decide) ?_
      exact g_zret1 (pc := 15) hC dX10_within_15
theorem fl_RX10_106 : Cond.fieldLink RX10 106 "WinterShedModel" "farms" "I" ∈ gBig := (gBig_tab 1053 (by decide +kernel) (by decide +kernel))
theorem lk_RX10_110 : gLS RX10 110 yX10_within cX10_within 3 (some .boolean) 3 := ⟨(gBig_tab 1202 (by decide +kernel) (by decide +kernel)), (gBig_tab 1203 (by decide +kernel) (by decide +kernel)), (gBig_tab 11 (by decide +kernel) (by decide +kernel)), (gBig_tab 1204 (by decide +kernel) (by decide +kernel)), by decide +kernel, by decide +kernel, by decide +kernel⟩
theorem dX10_isFarm_0 : decode cX10_isFarm 0 = .ok (.iload_n 1, 1) := by decide +kernel
theorem dX10_isFarm_1 : decode cX10_isFarm 1 = .ok (.iconst 0, 1) := by decide +kernel
theorem dX10_isFarm_2 : decode cX10_isFarm 2 = .ok (.aload_n 0, 1) := by decide +kernel
theorem dX10_isFarm_3 : decode cX10_isFarm 3 = .ok (.getfield 106, 3) := by decide +kernel
theorem dX10_isFarm_6 : decode cX10_isFarm 6 = .ok (.iconst 1, 1) := by decide +kernel
theorem dX10_isFarm_7 : decode cX10_isFarm 7 = .ok (.isub, 1) := by decide +kernel
theorem dX10_isFarm_8 : decode cX10_isFarm 8 = .ok (.invokestatic 110, 3) := by decide +kernel
theorem dX10_isFarm_11 : decode cX10_isFarm 11 = .ok (.ireturn, 1) := by decide +kernel
abbrev rX10_isFarm : Room := { frames := 1, cells := 0, slots := 0, locals := 22 }
def mX10_isFarm (σ : gS) (p0 : Int32) : Option (Bool × gS) := gBind (mX10_within σ p0 0 ((σ.1 52 0) - 1)) (fun r1 s2 => some (r1, s2))
set_option maxHeartbeats 4000000 in
set_option maxRecDepth 100000 in
theorem tX10_isFarm (l : Launch) (G : gE) (σ : gS) (p0 : Int32) : gM l G yX10_isFarm cX10_isFarm 2 (some .boolean) rX10_isFarm iZ [.ref (G.2.1 52), .int p0] σ (mX10_isFarm σ p0) := by
  refine gM_of (by decide) (Nat.le_of_ble_eq_true rfl) ?_
  intro p e s m args below meth c hC
  unfold mX10_isFarm
  show gT p l e rX10_isFarm s m args below meth c G 2 iZ σ 0 [(0, .ref (G.2.1 52)), (1, .int p0)] [] _
  refine g_iload_n (pc := 0) (q := 1) hC dX10_isFarm_0 rfl rfl ?_
  refine g_iconst (pc := 1) (v := 0) hC dX10_isFarm_1 (by decide) ?_
  refine g_aload_n (pc := 2) (q := 0) hC dX10_isFarm_2 rfl rfl ?_
  refine g_get (pc := 3) (v := .int (σ.1 52 0)) hC kX10 rfl 0 (by decide) fl_RX10_106 rfl dX10_isFarm_3 ?_
  refine g_iconst (pc := 6) (v := 1) hC dX10_isFarm_6 (by decide) ?_
  refine g_isub (pc := 7) hC dX10_isFarm_7 ?_
  refine g_callSz (pc := 8) (As := [.int p0, .int 0, .int ((σ.1 52 0) - 1)]) (rest := []) hC lk_RX10_110 (tX10_within _ _ σ p0 0 ((σ.1 52 0) - 1)) rfl rfl (Nat.le_of_ble_eq_true rfl) ⟨rfl, rfl, Nat.le_of_ble_eq_true rfl, Nat.le_of_ble_eq_true rfl⟩ dX10_isFarm_8 (fun r1 s2 => ?_)
  exact g_zret (pc := 11) hC dX10_isFarm_11
theorem fl_RX10_114 : Cond.fieldLink RX10 114 "WinterShedModel" "asked" "I" ∈ gBig := (gBig_tab 1056 (by decide +kernel) (by decide +kernel))
theorem dX10_isWant_0 : decode cX10_isWant 0 = .ok (.iload_n 1, 1) := by decide +kernel
theorem dX10_isWant_1 : decode cX10_isWant 1 = .ok (.iconst 0, 1) := by decide +kernel
theorem dX10_isWant_2 : decode cX10_isWant 2 = .ok (.aload_n 0, 1) := by decide +kernel
theorem dX10_isWant_3 : decode cX10_isWant 3 = .ok (.getfield 114, 3) := by decide +kernel
theorem dX10_isWant_6 : decode cX10_isWant 6 = .ok (.iconst 1, 1) := by decide +kernel
theorem dX10_isWant_7 : decode cX10_isWant 7 = .ok (.isub, 1) := by decide +kernel
theorem dX10_isWant_8 : decode cX10_isWant 8 = .ok (.invokestatic 110, 3) := by decide +kernel
theorem dX10_isWant_11 : decode cX10_isWant 11 = .ok (.ireturn, 1) := by decide +kernel
abbrev rX10_isWant : Room := { frames := 1, cells := 0, slots := 0, locals := 22 }
def mX10_isWant (σ : gS) (p0 : Int32) : Option (Bool × gS) := gBind (mX10_within σ p0 0 ((σ.1 52 3) - 1)) (fun r1 s2 => some (r1, s2))
set_option maxHeartbeats 4000000 in
set_option maxRecDepth 100000 in
theorem tX10_isWant (l : Launch) (G : gE) (σ : gS) (p0 : Int32) : gM l G yX10_isWant cX10_isWant 2 (some .boolean) rX10_isWant iZ [.ref (G.2.1 52), .int p0] σ (mX10_isWant σ p0) := by
  refine gM_of (by decide) (Nat.le_of_ble_eq_true rfl) ?_
  intro p e s m args below meth c hC
  unfold mX10_isWant
  show gT p l e rX10_isWant s m args below meth c G 2 iZ σ 0 [(0, .ref (G.2.1 52)), (1, .int p0)] [] _
  refine g_iload_n (pc := 0) (q := 1) hC dX10_isWant_0 rfl rfl ?_
  refine g_iconst (pc := 1) (v := 0) hC dX10_isWant_1 (by decide) ?_
  refine g_aload_n (pc := 2) (q := 0) hC dX10_isWant_2 rfl rfl ?_
  refine g_get (pc := 3) (v := .int (σ.1 52 3)) hC kX10 rfl 3 (by decide) fl_RX10_114 rfl dX10_isWant_3 ?_
  refine g_iconst (pc := 6) (v := 1) hC dX10_isWant_6 (by decide) ?_
  refine g_isub (pc := 7) hC dX10_isWant_7 ?_
  refine g_callSz (pc := 8) (As := [.int p0, .int 0, .int ((σ.1 52 3) - 1)]) (rest := []) hC lk_RX10_110 (tX10_within _ _ σ p0 0 ((σ.1 52 3) - 1)) rfl rfl (Nat.le_of_ble_eq_true rfl) ⟨rfl, rfl, Nat.le_of_ble_eq_true rfl, Nat.le_of_ble_eq_true rfl⟩ dX10_isWant_8 (fun r1 s2 => ?_)
  exact g_zret (pc := 11) hC dX10_isWant_11
theorem dX10_isDay_0 : decode cX10_isDay 0 = .ok (.iload_n 0, 1) := by decide +kernel
theorem dX10_isDay_1 : decode cX10_isDay 1 = .ok (.iconst 0, 1) := by decide +kernel
theorem dX10_isDay_2 : decode cX10_isDay 2 = .ok (.bipush 29, 2) := by decide +kernel
theorem dX10_isDay_4 : decode cX10_isDay 4 = .ok (.invokestatic 110, 3) := by decide +kernel
theorem dX10_isDay_7 : decode cX10_isDay 7 = .ok (.ireturn, 1) := by decide +kernel
abbrev rX10_isDay : Room := { frames := 1, cells := 0, slots := 0, locals := 22 }
def mX10_isDay (σ : gS) (p0 : Int32) : Option (Bool × gS) := gBind (mX10_within σ p0 0 29) (fun r1 s2 => some (r1, s2))
set_option maxHeartbeats 4000000 in
set_option maxRecDepth 100000 in
theorem tX10_isDay (l : Launch) (G : gE) (σ : gS) (p0 : Int32) : gM l G yX10_isDay cX10_isDay 1 (some .boolean) rX10_isDay iZ [.int p0] σ (mX10_isDay σ p0) := by
  refine gM_of (by decide) (Nat.le_of_ble_eq_true rfl) ?_
  intro p e s m args below meth c hC
  unfold mX10_isDay
  show gT p l e rX10_isDay s m args below meth c G 1 iZ σ 0 [(0, .int p0)] [] _
  refine g_iload_n (pc := 0) (q := 0) hC dX10_isDay_0 rfl rfl ?_
  refine g_iconst (pc := 1) (v := 0) hC dX10_isDay_1 (by decide) ?_
  refine g_bipush (pc := 2) (v := 29) hC dX10_isDay_2 (by decide) ?_
  refine g_callSz (pc := 4) (As := [.int p0, .int 0, .int 29]) (rest := []) hC lk_RX10_110 (tX10_within _ _ σ p0 0 29) rfl rfl (Nat.le_of_ble_eq_true rfl) ⟨rfl, rfl, Nat.le_of_ble_eq_true rfl, Nat.le_of_ble_eq_true rfl⟩ dX10_isDay_4 (fun r1 s2 => ?_)
  exact g_zret (pc := 7) hC dX10_isDay_7
theorem dX10_isShelf_0 : decode cX10_isShelf 0 = .ok (.iload_n 0, 1) := by decide +kernel
theorem dX10_isShelf_1 : decode cX10_isShelf 1 = .ok (.iconst 0, 1) := by decide +kernel
theorem dX10_isShelf_2 : decode cX10_isShelf 2 = .ok (.iconst 5, 1) := by decide +kernel
theorem dX10_isShelf_3 : decode cX10_isShelf 3 = .ok (.invokestatic 110, 3) := by decide +kernel
theorem dX10_isShelf_6 : decode cX10_isShelf 6 = .ok (.ireturn, 1) := by decide +kernel
abbrev rX10_isShelf : Room := { frames := 1, cells := 0, slots := 0, locals := 22 }
def mX10_isShelf (σ : gS) (p0 : Int32) : Option (Bool × gS) := gBind (mX10_within σ p0 0 5) (fun r1 s2 => some (r1, s2))
set_option maxHeartbeats 4000000 in
set_option maxRecDepth 100000 in
theorem tX10_isShelf (l : Launch) (G : gE) (σ : gS) (p0 : Int32) : gM l G yX10_isShelf cX10_isShelf 1 (some .boolean) rX10_isShelf iZ [.int p0] σ (mX10_isShelf σ p0) := by
  refine gM_of (by decide) (Nat.le_of_ble_eq_true rfl) ?_
  intro p e s m args below meth c hC
  unfold mX10_isShelf
  show gT p l e rX10_isShelf s m args below meth c G 1 iZ σ 0 [(0, .int p0)] [] _
  refine g_iload_n (pc := 0) (q := 0) hC dX10_isShelf_0 rfl rfl ?_
  refine g_iconst (pc := 1) (v := 0) hC dX10_isShelf_1 (by decide) ?_
  refine g_iconst (pc := 2) (v := 5) hC dX10_isShelf_2 (by decide) ?_
  refine g_callSz (pc := 3) (As := [.int p0, .int 0, .int 5]) (rest := []) hC lk_RX10_110 (tX10_within _ _ σ p0 0 5) rfl rfl (Nat.le_of_ble_eq_true rfl) ⟨rfl, rfl, Nat.le_of_ble_eq_true rfl, Nat.le_of_ble_eq_true rfl⟩ dX10_isShelf_3 (fun r1 s2 => ?_)
  exact g_zret (pc := 6) hC dX10_isShelf_6
theorem dX10_farm_0 : decode cX10_farm 0 = .ok (.iload_n 1, 1) := by decide +kernel
theorem dX10_farm_1 : decode cX10_farm 1 = .ok (.iconst 0, 1) := by decide +kernel
theorem dX10_farm_2 : decode cX10_farm 2 = .ok (.bipush 9, 2) := by decide +kernel
theorem dX10_farm_4 : decode cX10_farm 4 = .ok (.invokestatic 110, 3) := by decide +kernel
theorem dX10_farm_7 : decode cX10_farm 7 = .ok (.ifCond .ne 5, 3) := by decide +kernel
theorem dX10_farm_10 : decode cX10_farm 10 = .ok (.iconst (-1), 1) := by decide +kernel
theorem dX10_farm_11 : decode cX10_farm 11 = .ok (.ireturn, 1) := by decide +kernel
theorem dX10_farm_12 : decode cX10_farm 12 = .ok (.aload_n 0, 1) := by decide +kernel
theorem dX10_farm_13 : decode cX10_farm 13 = .ok (.getfield 106, 3) := by decide +kernel
theorem dX10_farm_16 : decode cX10_farm 16 = .ok (.bipush 6, 2) := by decide +kernel
theorem dX10_farm_18 : decode cX10_farm 18 = .ok (.if_icmp .ne 6, 3) := by decide +kernel
theorem dX10_farm_21 : decode cX10_farm 21 = .ok (.bipush (-3), 2) := by decide +kernel
theorem dX10_farm_23 : decode cX10_farm 23 = .ok (.ireturn, 1) := by decide +kernel
theorem dX10_farm_24 : decode cX10_farm 24 = .ok (.aload_n 0, 1) := by decide +kernel
theorem dX10_farm_25 : decode cX10_farm 25 = .ok (.getfield 9, 3) := by decide +kernel
theorem dX10_farm_28 : decode cX10_farm 28 = .ok (.aload_n 0, 1) := by decide +kernel
theorem dX10_farm_29 : decode cX10_farm 29 = .ok (.getfield 106, 3) := by decide +kernel
theorem dX10_farm_32 : decode cX10_farm 32 = .ok (.iload_n 1, 1) := by decide +kernel
theorem dX10_farm_33 : decode cX10_farm 33 = .ok (.iastore, 1) := by decide +kernel
theorem dX10_farm_34 : decode cX10_farm 34 = .ok (.aload_n 0, 1) := by decide +kernel
theorem dX10_farm_35 : decode cX10_farm 35 = .ok (.getfield 15, 3) := by decide +kernel
theorem dX10_farm_38 : decode cX10_farm 38 = .ok (.aload_n 0, 1) := by decide +kernel
theorem dX10_farm_39 : decode cX10_farm 39 = .ok (.getfield 106, 3) := by decide +kernel
theorem dX10_farm_42 : decode cX10_farm 42 = .ok (.iconst 1, 1) := by decide +kernel
theorem dX10_farm_43 : decode cX10_farm 43 = .ok (.iastore, 1) := by decide +kernel
theorem dX10_farm_44 : decode cX10_farm 44 = .ok (.aload_n 0, 1) := by decide +kernel
theorem dX10_farm_45 : decode cX10_farm 45 = .ok (.dup, 1) := by decide +kernel
theorem dX10_farm_46 : decode cX10_farm 46 = .ok (.getfield 106, 3) := by decide +kernel
theorem dX10_farm_49 : decode cX10_farm 49 = .ok (.dup_x1, 1) := by decide +kernel
theorem dX10_farm_50 : decode cX10_farm 50 = .ok (.iconst 1, 1) := by decide +kernel
theorem dX10_farm_51 : decode cX10_farm 51 = .ok (.iadd, 1) := by decide +kernel
theorem dX10_farm_52 : decode cX10_farm 52 = .ok (.putfield 106, 3) := by decide +kernel
theorem dX10_farm_55 : decode cX10_farm 55 = .ok (.ireturn, 1) := by decide +kernel
abbrev rX10_farm : Room := { frames := 1, cells := 0, slots := 0, locals := 22 }
def mX10_farm (σ : gS) (p0 : Int32) : Option (Int32 × gS) := gBind (mX10_within σ p0 0 9) (fun r1 s2 => if r1 = true then (if (s2.1 52 0) = 6 then (some ((-3), s2)) else (if inbB (s2.1 52 0) 6 = true then gLet (gUI s2 53 (Int32.toNatClampNeg (s2.1 52 0)) p0) (fun s3 => if inbB (s3.1 52 0) 6 = true then gLet (gUI s3 54 (Int32.toNatClampNeg (s3.1 52 0)) 1) (fun s4 => gLet (gUI s4 52 0 ((s4.1 52 0) + 1)) (fun s5 => some ((s4.1 52 0), s5))) else none) else none)) else (some ((-1), s2)))
set_option maxHeartbeats 4000000 in
set_option maxRecDepth 100000 in
theorem tX10_farm (l : Launch) (G : gE) (σ : gS) (p0 : Int32) : gM l G yX10_farm cX10_farm 2 (some .int) rX10_farm iI [.ref (G.2.1 52), .int p0] σ (mX10_farm σ p0) := by
  refine gM_of (by decide) (Nat.le_of_ble_eq_true rfl) ?_
  intro p e s m args below meth c hC
  unfold mX10_farm
  show gT p l e rX10_farm s m args below meth c G 2 iI σ 0 [(0, .ref (G.2.1 52)), (1, .int p0)] [] _
  refine g_iload_n (pc := 0) (q := 1) hC dX10_farm_0 rfl rfl ?_
  refine g_iconst (pc := 1) (v := 0) hC dX10_farm_1 (by decide) ?_
  refine g_bipush (pc := 2) (v := 9) hC dX10_farm_2 (by decide) ?_
  refine g_callSz (pc := 4) (As := [.int p0, .int 0, .int 9]) (rest := []) hC lk_RX10_110 (tX10_within _ _ σ p0 0 9) rfl rfl (Nat.le_of_ble_eq_true rfl) ⟨rfl, rfl, Nat.le_of_ble_eq_true rfl, Nat.le_of_ble_eq_true rfl⟩ dX10_farm_4 (fun r1 s2 => ?_)
  refine g_bif_ne (pc := 7) (tgt := 12) hC dX10_farm_7 (by decide) ?_ ?_
  · refine g_aload_n (pc := 12) (q := 0) hC dX10_farm_12 rfl rfl ?_
    refine g_get (pc := 13) (v := .int (s2.1 52 0)) hC kX10 rfl 0 (by decide) fl_RX10_106 rfl dX10_farm_13 ?_
    refine g_bipush (pc := 16) (v := 6) hC dX10_farm_16 (by decide) ?_
    refine g_icmp_ne (pc := 18) (tgt := 24) hC dX10_farm_18 (by decide) ?_ ?_
    · refine g_aload_n (pc := 24) (q := 0) hC dX10_farm_24 rfl rfl ?_
      refine g_get (pc := 25) (v := .ref (G.2.1 53)) hC kX10 rfl 1 (by decide) fl_RX10_9 rfl dX10_farm_25 ?_
      refine g_aload_n (pc := 28) (q := 0) hC dX10_farm_28 rfl rfl ?_
      refine g_get (pc := 29) (v := .int (s2.1 52 0)) hC kX10 rfl 0 (by decide) fl_RX10_106 rfl dX10_farm_29 ?_
      refine g_iload_n (pc := 32) (q := 1) hC dX10_farm_32 rfl rfl ?_
      refine g_iast (pc := 33) hC 6 rfl (by decide) dX10_farm_33 (fun s3 => ?_)
      refine g_aload_n (pc := 34) (q := 0) hC dX10_farm_34 rfl rfl ?_
      refine g_get (pc := 35) (v := .ref (G.2.1 54)) hC kX10 rfl 2 (by decide) fl_RX10_15 rfl dX10_farm_35 ?_
      refine g_aload_n (pc := 38) (q := 0) hC dX10_farm_38 rfl rfl ?_
      refine g_get (pc := 39) (v := .int (s3.1 52 0)) hC kX10 rfl 0 (by decide) fl_RX10_106 rfl dX10_farm_39 ?_
      refine g_iconst (pc := 42) (v := 1) hC dX10_farm_42 (by decide) ?_
      refine g_iast (pc := 43) hC 6 rfl (by decide) dX10_farm_43 (fun s4 => ?_)
      refine g_aload_n (pc := 44) (q := 0) hC dX10_farm_44 rfl rfl ?_
      refine g_dup (pc := 45) hC dX10_farm_45 rfl ?_
      refine g_get (pc := 46) (v := .int (s4.1 52 0)) hC kX10 rfl 0 (by decide) fl_RX10_106 rfl dX10_farm_46 ?_
      refine g_dup_x1 (pc := 49) hC dX10_farm_49 rfl rfl ?_
      refine g_iconst (pc := 50) (v := 1) hC dX10_farm_50 (by decide) ?_
      refine g_iadd (pc := 51) hC dX10_farm_51 ?_
      refine g_puti (pc := 52) (fty := .int) hC kX10 rfl 0 (by decide) fl_RX10_106 rfl rfl rfl rfl (fun _ _ => Nat.le_of_ble_eq_true rfl) (fun _ _ => rfl) dX10_farm_52 (fun s5 => ?_)
      exact g_iret (pc := 55) hC dX10_farm_55
    · refine g_bipush (pc := 21) (v := (-3)) hC dX10_farm_21 (by decide) ?_
      exact g_iret (pc := 23) hC dX10_farm_23
  · refine g_iconst (pc := 10) (v := (-1)) hC dX10_farm_10 (by decide) ?_
    exact g_iret (pc := 11) hC dX10_farm_11
theorem lk_RX10_121 : gLS RX10 121 yX10_isDay cX10_isDay 1 (some .boolean) 1 := ⟨(gBig_tab 1217 (by decide +kernel) (by decide +kernel)), (gBig_tab 1218 (by decide +kernel) (by decide +kernel)), (gBig_tab 11 (by decide +kernel) (by decide +kernel)), (gBig_tab 1219 (by decide +kernel) (by decide +kernel)), by decide +kernel, by decide +kernel, by decide +kernel⟩
theorem lk_RX10_117 : gLV RX10 117 RX10 yX10_isFarm cX10_isFarm 2 (some .boolean) 1 := ⟨(gBig_tab 1213 (by decide +kernel) (by decide +kernel)), (gBig_tab 1215 (by decide +kernel) (by decide +kernel)), (gBig_sel 45 (by decide +kernel) (by decide +kernel)), (gBig_tab 11 (by decide +kernel) (by decide +kernel)), (gBig_tab 1216 (by decide +kernel) (by decide +kernel)), rfl, by decide +kernel, by decide +kernel, by decide +kernel⟩
theorem dX10_isSuch_0 : decode cX10_isSuch 0 = .ok (.aload_n 0, 1) := by decide +kernel
theorem dX10_isSuch_1 : decode cX10_isSuch 1 = .ok (.iload_n 1, 1) := by decide +kernel
theorem dX10_isSuch_2 : decode cX10_isSuch 2 = .ok (.invokevirtual 117, 3) := by decide +kernel
theorem dX10_isSuch_5 : decode cX10_isSuch 5 = .ok (.ifCond .eq 35, 3) := by decide +kernel
theorem dX10_isSuch_8 : decode cX10_isSuch 8 = .ok (.iload_n 2, 1) := by decide +kernel
theorem dX10_isSuch_9 : decode cX10_isSuch 9 = .ok (.invokestatic 121, 3) := by decide +kernel
theorem dX10_isSuch_12 : decode cX10_isSuch 12 = .ok (.ifCond .eq 28, 3) := by decide +kernel
theorem dX10_isSuch_15 : decode cX10_isSuch 15 = .ok (.iload_n 3, 1) := by decide +kernel
theorem dX10_isSuch_16 : decode cX10_isSuch 16 = .ok (.iconst 1, 1) := by decide +kernel
theorem dX10_isSuch_17 : decode cX10_isSuch 17 = .ok (.bipush 24, 2) := by decide +kernel
theorem dX10_isSuch_19 : decode cX10_isSuch 19 = .ok (.invokestatic 110, 3) := by decide +kernel
theorem dX10_isSuch_22 : decode cX10_isSuch 22 = .ok (.ifCond .eq 18, 3) := by decide +kernel
theorem dX10_isSuch_25 : decode cX10_isSuch 25 = .ok (.iload 4, 2) := by decide +kernel
theorem dX10_isSuch_27 : decode cX10_isSuch 27 = .ok (.iconst 0, 1) := by decide +kernel
theorem dX10_isSuch_28 : decode cX10_isSuch 28 = .ok (.bipush 99, 2) := by decide +kernel
theorem dX10_isSuch_30 : decode cX10_isSuch 30 = .ok (.invokestatic 110, 3) := by decide +kernel
theorem dX10_isSuch_33 : decode cX10_isSuch 33 = .ok (.ifCond .eq 7, 3) := by decide +kernel
theorem dX10_isSuch_36 : decode cX10_isSuch 36 = .ok (.iconst 1, 1) := by decide +kernel
theorem dX10_isSuch_37 : decode cX10_isSuch 37 = .ok (.goto 4, 3) := by decide +kernel
theorem dX10_isSuch_40 : decode cX10_isSuch 40 = .ok (.iconst 0, 1) := by decide +kernel
theorem dX10_isSuch_41 : decode cX10_isSuch 41 = .ok (.ireturn, 1) := by decide +kernel
abbrev rX10_isSuch : Room := { frames := 2, cells := 0, slots := 0, locals := 43 }
def mX10_isSuch (σ : gS) (p0 : Int32) (p1 : Int32) (p2 : Int32) (p3 : Int32) : Option (Bool × gS) := gBind (mX10_isFarm σ p0) (fun r1 s2 => if r1 = true then (gBind (mX10_isDay s2 p1) (fun r3 s4 => if r3 = true then (gBind (mX10_within s4 p2 1 24) (fun r5 s6 => if r5 = true then (gBind (mX10_within s6 p3 0 99) (fun r7 s8 => if r7 = true then (some (true, s8)) else (some (false, s8)))) else (some (false, s6)))) else (some (false, s4)))) else (some (false, s2)))
set_option maxHeartbeats 4000000 in
set_option maxRecDepth 100000 in
theorem tX10_isSuch (l : Launch) (G : gE) (σ : gS) (p0 : Int32) (p1 : Int32) (p2 : Int32) (p3 : Int32) : gM l G yX10_isSuch cX10_isSuch 5 (some .boolean) rX10_isSuch iZ [.ref (G.2.1 52), .int p0, .int p1, .int p2, .int p3] σ (mX10_isSuch σ p0 p1 p2 p3) := by
  refine gM_of (by decide) (Nat.le_of_ble_eq_true rfl) ?_
  intro p e s m args below meth c hC
  unfold mX10_isSuch
  show gT p l e rX10_isSuch s m args below meth c G 5 iZ σ 0 [(0, .ref (G.2.1 52)), (1, .int p0), (2, .int p1), (3, .int p2), (4, .int p3)] [] _
  refine g_aload_n (pc := 0) (q := 0) hC dX10_isSuch_0 rfl rfl ?_
  refine g_iload_n (pc := 1) (q := 1) hC dX10_isSuch_1 rfl rfl ?_
  refine g_callVz (pc := 2) (As := [.int p0]) (rest := []) hC lk_RX10_117 kX10 rfl (tX10_isFarm _ _ σ p0) rfl rfl (Nat.le_of_ble_eq_true rfl) ⟨rfl, rfl, Nat.le_of_ble_eq_true rfl, Nat.le_of_ble_eq_true rfl⟩ dX10_isSuch_2 (fun r1 s2 => ?_)
  refine g_bif_eq (pc := 5) (tgt := 40) hC dX10_isSuch_5 (by decide) ?_ ?_
  · refine g_iconst (pc := 40) (v := 0) hC dX10_isSuch_40 (by decide) ?_
    exact g_zret0 (pc := 41) hC dX10_isSuch_41
  · refine g_iload_n (pc := 8) (q := 2) hC dX10_isSuch_8 rfl rfl ?_
    refine g_callSz (pc := 9) (As := [.int p1]) (rest := []) hC lk_RX10_121 (tX10_isDay _ _ s2 p1) rfl rfl (Nat.le_of_ble_eq_true rfl) ⟨rfl, rfl, Nat.le_of_ble_eq_true rfl, Nat.le_of_ble_eq_true rfl⟩ dX10_isSuch_9 (fun r3 s4 => ?_)
    refine g_bif_eq (pc := 12) (tgt := 40) hC dX10_isSuch_12 (by decide) ?_ ?_
    · refine g_iconst (pc := 40) (v := 0) hC dX10_isSuch_40 (by decide) ?_
      exact g_zret0 (pc := 41) hC dX10_isSuch_41
    · refine g_iload_n (pc := 15) (q := 3) hC dX10_isSuch_15 rfl rfl ?_
      refine g_iconst (pc := 16) (v := 1) hC dX10_isSuch_16 (by decide) ?_
      refine g_bipush (pc := 17) (v := 24) hC dX10_isSuch_17 (by decide) ?_
      refine g_callSz (pc := 19) (As := [.int p2, .int 1, .int 24]) (rest := []) hC lk_RX10_110 (tX10_within _ _ s4 p2 1 24) rfl rfl (Nat.le_of_ble_eq_true rfl) ⟨rfl, rfl, Nat.le_of_ble_eq_true rfl, Nat.le_of_ble_eq_true rfl⟩ dX10_isSuch_19 (fun r5 s6 => ?_)
      refine g_bif_eq (pc := 22) (tgt := 40) hC dX10_isSuch_22 (by decide) ?_ ?_
      · refine g_iconst (pc := 40) (v := 0) hC dX10_isSuch_40 (by decide) ?_
        exact g_zret0 (pc := 41) hC dX10_isSuch_41
      · refine g_iload (pc := 25) (q := 4) hC dX10_isSuch_25 rfl ?_
        refine g_iconst (pc := 27) (v := 0) hC dX10_isSuch_27 (by decide) ?_
        refine g_bipush (pc := 28) (v := 99) hC dX10_isSuch_28 (by decide) ?_
        refine g_callSz (pc := 30) (As := [.int p3, .int 0, .int 99]) (rest := []) hC lk_RX10_110 (tX10_within _ _ s6 p3 0 99) rfl rfl (Nat.le_of_ble_eq_true rfl) ⟨rfl, rfl, Nat.le_of_ble_eq_true rfl, Nat.le_of_ble_eq_true rfl⟩ dX10_isSuch_30 (fun r7 s8 => ?_)
        refine g_bif_eq (pc := 33) (tgt := 40) hC dX10_isSuch_33 (by decide) ?_ ?_
        · refine g_iconst (pc := 40) (v := 0) hC dX10_isSuch_40 (by decide) ?_
          exact g_zret0 (pc := 41) hC dX10_isSuch_41
        · refine g_iconst (pc := 36) (v := 1) hC dX10_isSuch_36 (by decide) ?_
          refine g_goto (pc := 37) (tgt := 41) hC dX10_isSuch_37 (by decide) ?_
          exact g_zret1 (pc := 41) hC dX10_isSuch_41
theorem dX10_newWant_0 : decode cX10_newWant 0 = .ok (.aload_n 0, 1) := by decide +kernel
theorem dX10_newWant_1 : decode cX10_newWant 1 = .ok (.getfield 18, 3) := by decide +kernel
theorem dX10_newWant_4 : decode cX10_newWant 4 = .ok (.aload_n 0, 1) := by decide +kernel
theorem dX10_newWant_5 : decode cX10_newWant 5 = .ok (.getfield 114, 3) := by decide +kernel
theorem dX10_newWant_8 : decode cX10_newWant 8 = .ok (.iload_n 1, 1) := by decide +kernel
theorem dX10_newWant_9 : decode cX10_newWant 9 = .ok (.iastore, 1) := by decide +kernel
theorem dX10_newWant_10 : decode cX10_newWant 10 = .ok (.aload_n 0, 1) := by decide +kernel
theorem dX10_newWant_11 : decode cX10_newWant 11 = .ok (.getfield 21, 3) := by decide +kernel
theorem dX10_newWant_14 : decode cX10_newWant 14 = .ok (.aload_n 0, 1) := by decide +kernel
theorem dX10_newWant_15 : decode cX10_newWant 15 = .ok (.getfield 114, 3) := by decide +kernel
theorem dX10_newWant_18 : decode cX10_newWant 18 = .ok (.iload_n 2, 1) := by decide +kernel
theorem dX10_newWant_19 : decode cX10_newWant 19 = .ok (.iastore, 1) := by decide +kernel
theorem dX10_newWant_20 : decode cX10_newWant 20 = .ok (.aload_n 0, 1) := by decide +kernel
theorem dX10_newWant_21 : decode cX10_newWant 21 = .ok (.getfield 24, 3) := by decide +kernel
theorem dX10_newWant_24 : decode cX10_newWant 24 = .ok (.aload_n 0, 1) := by decide +kernel
theorem dX10_newWant_25 : decode cX10_newWant 25 = .ok (.getfield 114, 3) := by decide +kernel
theorem dX10_newWant_28 : decode cX10_newWant 28 = .ok (.iload_n 3, 1) := by decide +kernel
theorem dX10_newWant_29 : decode cX10_newWant 29 = .ok (.iastore, 1) := by decide +kernel
theorem dX10_newWant_30 : decode cX10_newWant 30 = .ok (.aload_n 0, 1) := by decide +kernel
theorem dX10_newWant_31 : decode cX10_newWant 31 = .ok (.getfield 27, 3) := by decide +kernel
theorem dX10_newWant_34 : decode cX10_newWant 34 = .ok (.aload_n 0, 1) := by decide +kernel
theorem dX10_newWant_35 : decode cX10_newWant 35 = .ok (.getfield 114, 3) := by decide +kernel
theorem dX10_newWant_38 : decode cX10_newWant 38 = .ok (.iload 4, 2) := by decide +kernel
theorem dX10_newWant_40 : decode cX10_newWant 40 = .ok (.iastore, 1) := by decide +kernel
theorem dX10_newWant_41 : decode cX10_newWant 41 = .ok (.aload_n 0, 1) := by decide +kernel
theorem dX10_newWant_42 : decode cX10_newWant 42 = .ok (.dup, 1) := by decide +kernel
theorem dX10_newWant_43 : decode cX10_newWant 43 = .ok (.getfield 114, 3) := by decide +kernel
theorem dX10_newWant_46 : decode cX10_newWant 46 = .ok (.dup_x1, 1) := by decide +kernel
theorem dX10_newWant_47 : decode cX10_newWant 47 = .ok (.iconst 1, 1) := by decide +kernel
theorem dX10_newWant_48 : decode cX10_newWant 48 = .ok (.iadd, 1) := by decide +kernel
theorem dX10_newWant_49 : decode cX10_newWant 49 = .ok (.putfield 114, 3) := by decide +kernel
theorem dX10_newWant_52 : decode cX10_newWant 52 = .ok (.ireturn, 1) := by decide +kernel
abbrev rX10_newWant : Room := { frames := 0, cells := 0, slots := 0, locals := 0 }
def mX10_newWant (σ : gS) (p0 : Int32) (p1 : Int32) (p2 : Int32) (p3 : Int32) : Option (Int32 × gS) := if inbB (σ.1 52 3) 12 = true then gLet (gUI σ 55 (Int32.toNatClampNeg (σ.1 52 3)) p0) (fun s1 => if inbB (s1.1 52 3) 12 = true then gLet (gUI s1 56 (Int32.toNatClampNeg (s1.1 52 3)) p1) (fun s2 => if inbB (s2.1 52 3) 12 = true then gLet (gUI s2 57 (Int32.toNatClampNeg (s2.1 52 3)) p2) (fun s3 => if inbB (s3.1 52 3) 12 = true then gLet (gUI s3 58 (Int32.toNatClampNeg (s3.1 52 3)) p3) (fun s4 => gLet (gUI s4 52 3 ((s4.1 52 3) + 1)) (fun s5 => some ((s4.1 52 3), s5))) else none) else none) else none) else none
set_option maxHeartbeats 4000000 in
set_option maxRecDepth 100000 in
theorem tX10_newWant (l : Launch) (G : gE) (σ : gS) (p0 : Int32) (p1 : Int32) (p2 : Int32) (p3 : Int32) : gM l G yX10_newWant cX10_newWant 5 (some .int) rX10_newWant iI [.ref (G.2.1 52), .int p0, .int p1, .int p2, .int p3] σ (mX10_newWant σ p0 p1 p2 p3) := by
  refine gM_of (by decide) (Nat.le_of_ble_eq_true rfl) ?_
  intro p e s m args below meth c hC
  unfold mX10_newWant
  show gT p l e rX10_newWant s m args below meth c G 5 iI σ 0 [(0, .ref (G.2.1 52)), (1, .int p0), (2, .int p1), (3, .int p2), (4, .int p3)] [] _
  refine g_aload_n (pc := 0) (q := 0) hC dX10_newWant_0 rfl rfl ?_
  refine g_get (pc := 1) (v := .ref (G.2.1 55)) hC kX10 rfl 4 (by decide) fl_RX10_18 rfl dX10_newWant_1 ?_
  refine g_aload_n (pc := 4) (q := 0) hC dX10_newWant_4 rfl rfl ?_
  refine g_get (pc := 5) (v := .int (σ.1 52 3)) hC kX10 rfl 3 (by decide) fl_RX10_114 rfl dX10_newWant_5 ?_
  refine g_iload_n (pc := 8) (q := 1) hC dX10_newWant_8 rfl rfl ?_
  refine g_iast (pc := 9) hC 12 rfl (by decide) dX10_newWant_9 (fun s1 => ?_)
  refine g_aload_n (pc := 10) (q := 0) hC dX10_newWant_10 rfl rfl ?_
  refine g_get (pc := 11) (v := .ref (G.2.1 56)) hC kX10 rfl 5 (by decide) fl_RX10_21 rfl dX10_newWant_11 ?_
  refine g_aload_n (pc := 14) (q := 0) hC dX10_newWant_14 rfl rfl ?_
  refine g_get (pc := 15) (v := .int (s1.1 52 3)) hC kX10 rfl 3 (by decide) fl_RX10_114 rfl dX10_newWant_15 ?_
  refine g_iload_n (pc := 18) (q := 2) hC dX10_newWant_18 rfl rfl ?_
  refine g_iast (pc := 19) hC 12 rfl (by decide) dX10_newWant_19 (fun s2 => ?_)
  refine g_aload_n (pc := 20) (q := 0) hC dX10_newWant_20 rfl rfl ?_
  refine g_get (pc := 21) (v := .ref (G.2.1 57)) hC kX10 rfl 6 (by decide) fl_RX10_24 rfl dX10_newWant_21 ?_
  refine g_aload_n (pc := 24) (q := 0) hC dX10_newWant_24 rfl rfl ?_
  refine g_get (pc := 25) (v := .int (s2.1 52 3)) hC kX10 rfl 3 (by decide) fl_RX10_114 rfl dX10_newWant_25 ?_
  refine g_iload_n (pc := 28) (q := 3) hC dX10_newWant_28 rfl rfl ?_
  refine g_iast (pc := 29) hC 12 rfl (by decide) dX10_newWant_29 (fun s3 => ?_)
  refine g_aload_n (pc := 30) (q := 0) hC dX10_newWant_30 rfl rfl ?_
  refine g_get (pc := 31) (v := .ref (G.2.1 58)) hC kX10 rfl 7 (by decide) fl_RX10_27 rfl dX10_newWant_31 ?_
  refine g_aload_n (pc := 34) (q := 0) hC dX10_newWant_34 rfl rfl ?_
  refine g_get (pc := 35) (v := .int (s3.1 52 3)) hC kX10 rfl 3 (by decide) fl_RX10_114 rfl dX10_newWant_35 ?_
  refine g_iload (pc := 38) (q := 4) hC dX10_newWant_38 rfl ?_
  refine g_iast (pc := 40) hC 12 rfl (by decide) dX10_newWant_40 (fun s4 => ?_)
  refine g_aload_n (pc := 41) (q := 0) hC dX10_newWant_41 rfl rfl ?_
  refine g_dup (pc := 42) hC dX10_newWant_42 rfl ?_
  refine g_get (pc := 43) (v := .int (s4.1 52 3)) hC kX10 rfl 3 (by decide) fl_RX10_114 rfl dX10_newWant_43 ?_
  refine g_dup_x1 (pc := 46) hC dX10_newWant_46 rfl rfl ?_
  refine g_iconst (pc := 47) (v := 1) hC dX10_newWant_47 (by decide) ?_
  refine g_iadd (pc := 48) hC dX10_newWant_48 ?_
  refine g_puti (pc := 49) (fty := .int) hC kX10 rfl 3 (by decide) fl_RX10_114 rfl rfl rfl rfl (fun _ _ => Nat.le_of_ble_eq_true rfl) (fun _ _ => rfl) dX10_newWant_49 (fun s5 => ?_)
  exact g_iret (pc := 52) hC dX10_newWant_52
theorem lk_RX10_128 : gLV RX10 128 RX10 yX10_newWant cX10_newWant 5 (some .int) 4 := ⟨(gBig_tab 1220 (by decide +kernel) (by decide +kernel)), (gBig_tab 1222 (by decide +kernel) (by decide +kernel)), (gBig_sel 46 (by decide +kernel) (by decide +kernel)), (gBig_tab 11 (by decide +kernel) (by decide +kernel)), (gBig_tab 1223 (by decide +kernel) (by decide +kernel)), rfl, by decide +kernel, by decide +kernel, by decide +kernel⟩
theorem lk_RX10_124 : gLV RX10 124 RX10 yX10_isSuch cX10_isSuch 5 (some .boolean) 4 := ⟨(gBig_tab 1209 (by decide +kernel) (by decide +kernel)), (gBig_tab 1211 (by decide +kernel) (by decide +kernel)), (gBig_sel 44 (by decide +kernel) (by decide +kernel)), (gBig_tab 11 (by decide +kernel) (by decide +kernel)), (gBig_tab 1212 (by decide +kernel) (by decide +kernel)), rfl, by decide +kernel, by decide +kernel, by decide +kernel⟩
theorem dX10_want_0 : decode cX10_want 0 = .ok (.iload_n 2, 1) := by decide +kernel
theorem dX10_want_1 : decode cX10_want 1 = .ok (.ifCond .lt 21, 3) := by decide +kernel
theorem dX10_want_4 : decode cX10_want 4 = .ok (.aload_n 0, 1) := by decide +kernel
theorem dX10_want_5 : decode cX10_want 5 = .ok (.iload_n 1, 1) := by decide +kernel
theorem dX10_want_6 : decode cX10_want 6 = .ok (.iload_n 2, 1) := by decide +kernel
theorem dX10_want_7 : decode cX10_want 7 = .ok (.bipush 100, 2) := by decide +kernel
theorem dX10_want_9 : decode cX10_want 9 = .ok (.idiv, 1) := by decide +kernel
theorem dX10_want_10 : decode cX10_want 10 = .ok (.iload_n 2, 1) := by decide +kernel
theorem dX10_want_11 : decode cX10_want 11 = .ok (.bipush 100, 2) := by decide +kernel
theorem dX10_want_13 : decode cX10_want 13 = .ok (.irem, 1) := by decide +kernel
theorem dX10_want_14 : decode cX10_want 14 = .ok (.bipush 10, 2) := by decide +kernel
theorem dX10_want_16 : decode cX10_want 16 = .ok (.invokevirtual 124, 3) := by decide +kernel
theorem dX10_want_19 : decode cX10_want 19 = .ok (.ifCond .ne 5, 3) := by decide +kernel
theorem dX10_want_22 : decode cX10_want 22 = .ok (.iconst (-1), 1) := by decide +kernel
theorem dX10_want_23 : decode cX10_want 23 = .ok (.ireturn, 1) := by decide +kernel
theorem dX10_want_24 : decode cX10_want 24 = .ok (.aload_n 0, 1) := by decide +kernel
theorem dX10_want_25 : decode cX10_want 25 = .ok (.getfield 114, 3) := by decide +kernel
theorem dX10_want_28 : decode cX10_want 28 = .ok (.bipush 12, 2) := by decide +kernel
theorem dX10_want_30 : decode cX10_want 30 = .ok (.if_icmp .ne 8, 3) := by decide +kernel
theorem dX10_want_33 : decode cX10_want 33 = .ok (.bipush (-3), 2) := by decide +kernel
theorem dX10_want_35 : decode cX10_want 35 = .ok (.goto 18, 3) := by decide +kernel
theorem dX10_want_38 : decode cX10_want 38 = .ok (.aload_n 0, 1) := by decide +kernel
theorem dX10_want_39 : decode cX10_want 39 = .ok (.iload_n 1, 1) := by decide +kernel
theorem dX10_want_40 : decode cX10_want 40 = .ok (.iload_n 2, 1) := by decide +kernel
theorem dX10_want_41 : decode cX10_want 41 = .ok (.bipush 100, 2) := by decide +kernel
theorem dX10_want_43 : decode cX10_want 43 = .ok (.idiv, 1) := by decide +kernel
theorem dX10_want_44 : decode cX10_want 44 = .ok (.iload_n 2, 1) := by decide +kernel
theorem dX10_want_45 : decode cX10_want 45 = .ok (.bipush 100, 2) := by decide +kernel
theorem dX10_want_47 : decode cX10_want 47 = .ok (.irem, 1) := by decide +kernel
theorem dX10_want_48 : decode cX10_want 48 = .ok (.bipush 10, 2) := by decide +kernel
theorem dX10_want_50 : decode cX10_want 50 = .ok (.invokevirtual 128, 3) := by decide +kernel
theorem dX10_want_53 : decode cX10_want 53 = .ok (.ireturn, 1) := by decide +kernel
abbrev rX10_want : Room := { frames := 3, cells := 0, slots := 0, locals := 67 }
def mX10_want (σ : gS) (p0 : Int32) (p1 : Int32) : Option (Int32 × gS) := if p1 < 0 then (some ((-1), σ)) else (gBind (mX10_isSuch σ p0 (p1 / 100) (gRem p1 100) 10) (fun r1 s2 => if r1 = true then (if (s2.1 52 3) = 12 then (some ((-3), s2)) else (gBind (mX10_newWant s2 p0 (p1 / 100) (gRem p1 100) 10) (fun r3 s4 => some (r3, s4)))) else (some ((-1), s2))))
set_option maxHeartbeats 4000000 in
set_option maxRecDepth 100000 in
theorem tX10_want (l : Launch) (G : gE) (σ : gS) (p0 : Int32) (p1 : Int32) : gM l G yX10_want cX10_want 3 (some .int) rX10_want iI [.ref (G.2.1 52), .int p0, .int p1] σ (mX10_want σ p0 p1) := by
  refine gM_of (by decide) (Nat.le_of_ble_eq_true rfl) ?_
  intro p e s m args below meth c hC
  unfold mX10_want
  show gT p l e rX10_want s m args below meth c G 3 iI σ 0 [(0, .ref (G.2.1 52)), (1, .int p0), (2, .int p1)] [] _
  refine g_iload_n (pc := 0) (q := 2) hC dX10_want_0 rfl rfl ?_
  refine g_if_lt (pc := 1) (tgt := 22) hC dX10_want_1 (by decide) ?_ ?_
  · refine g_iconst (pc := 22) (v := (-1)) hC dX10_want_22 (by decide) ?_
    exact g_iret (pc := 23) hC dX10_want_23
  · refine g_aload_n (pc := 4) (q := 0) hC dX10_want_4 rfl rfl ?_
    refine g_iload_n (pc := 5) (q := 1) hC dX10_want_5 rfl rfl ?_
    refine g_iload_n (pc := 6) (q := 2) hC dX10_want_6 rfl rfl ?_
    refine g_bipush (pc := 7) (v := 100) hC dX10_want_7 (by decide) ?_
    refine g_idivL (pc := 9) hC dX10_want_9 (by decide) ?_
    refine g_iload_n (pc := 10) (q := 2) hC dX10_want_10 rfl rfl ?_
    refine g_bipush (pc := 11) (v := 100) hC dX10_want_11 (by decide) ?_
    refine g_iremL (pc := 13) hC dX10_want_13 (by decide) ?_
    refine g_bipush (pc := 14) (v := 10) hC dX10_want_14 (by decide) ?_
    refine g_callVz (pc := 16) (As := [.int p0, .int (p1 / 100), .int (gRem p1 100), .int 10]) (rest := []) hC lk_RX10_124 kX10 rfl (tX10_isSuch _ _ σ p0 (p1 / 100) (gRem p1 100) 10) rfl rfl (Nat.le_of_ble_eq_true rfl) ⟨rfl, rfl, Nat.le_of_ble_eq_true rfl, Nat.le_of_ble_eq_true rfl⟩ dX10_want_16 (fun r1 s2 => ?_)
    refine g_bif_ne (pc := 19) (tgt := 24) hC dX10_want_19 (by decide) ?_ ?_
    · refine g_aload_n (pc := 24) (q := 0) hC dX10_want_24 rfl rfl ?_
      refine g_get (pc := 25) (v := .int (s2.1 52 3)) hC kX10 rfl 3 (by decide) fl_RX10_114 rfl dX10_want_25 ?_
      refine g_bipush (pc := 28) (v := 12) hC dX10_want_28 (by decide) ?_
      refine g_icmp_ne (pc := 30) (tgt := 38) hC dX10_want_30 (by decide) ?_ ?_
      · refine g_aload_n (pc := 38) (q := 0) hC dX10_want_38 rfl rfl ?_
        refine g_iload_n (pc := 39) (q := 1) hC dX10_want_39 rfl rfl ?_
        refine g_iload_n (pc := 40) (q := 2) hC dX10_want_40 rfl rfl ?_
        refine g_bipush (pc := 41) (v := 100) hC dX10_want_41 (by decide) ?_
        refine g_idivL (pc := 43) hC dX10_want_43 (by decide) ?_
        refine g_iload_n (pc := 44) (q := 2) hC dX10_want_44 rfl rfl ?_
        refine g_bipush (pc := 45) (v := 100) hC dX10_want_45 (by decide) ?_
        refine g_iremL (pc := 47) hC dX10_want_47 (by decide) ?_
        refine g_bipush (pc := 48) (v := 10) hC dX10_want_48 (by decide) ?_
        refine g_callVi (pc := 50) (As := [.int p0, .int (p1 / 100), .int (gRem p1 100), .int 10]) (rest := []) hC lk_RX10_128 kX10 rfl (tX10_newWant _ _ s2 p0 (p1 / 100) (gRem p1 100) 10) rfl rfl (Nat.le_of_ble_eq_true rfl) ⟨rfl, rfl, Nat.le_of_ble_eq_true rfl, Nat.le_of_ble_eq_true rfl⟩ dX10_want_50 (fun r3 s4 => ?_)
        exact g_iret (pc := 53) hC dX10_want_53
      · refine g_bipush (pc := 33) (v := (-3)) hC dX10_want_33 (by decide) ?_
        refine g_goto (pc := 35) (tgt := 53) hC dX10_want_35 (by decide) ?_
        exact g_iret (pc := 53) hC dX10_want_53
    · refine g_iconst (pc := 22) (v := (-1)) hC dX10_want_22 (by decide) ?_
      exact g_iret (pc := 23) hC dX10_want_23
theorem dX10_toldAt_0 : decode cX10_toldAt 0 = .ok (.aload_n 0, 1) := by decide +kernel
theorem dX10_toldAt_1 : decode cX10_toldAt 1 = .ok (.getfield 87, 3) := by decide +kernel
theorem dX10_toldAt_4 : decode cX10_toldAt 4 = .ok (.bipush 60, 2) := by decide +kernel
theorem dX10_toldAt_6 : decode cX10_toldAt 6 = .ok (.iload_n 1, 1) := by decide +kernel
theorem dX10_toldAt_7 : decode cX10_toldAt 7 = .ok (.imul, 1) := by decide +kernel
theorem dX10_toldAt_8 : decode cX10_toldAt 8 = .ok (.iload_n 2, 1) := by decide +kernel
theorem dX10_toldAt_9 : decode cX10_toldAt 9 = .ok (.iadd, 1) := by decide +kernel
theorem dX10_toldAt_10 : decode cX10_toldAt 10 = .ok (.laload, 1) := by decide +kernel
theorem dX10_toldAt_11 : decode cX10_toldAt 11 = .ok (.l2i, 1) := by decide +kernel
theorem dX10_toldAt_12 : decode cX10_toldAt 12 = .ok (.ireturn, 1) := by decide +kernel
abbrev rX10_toldAt : Room := { frames := 0, cells := 0, slots := 0, locals := 0 }
def mX10_toldAt (σ : gS) (p0 : Int32) (p1 : Int32) : Option (Int32 × gS) := if inbB ((60 * p0) + p1) 360 = true then (some ((Int64.toInt32 (σ.2.1 78 (Int32.toNatClampNeg ((60 * p0) + p1)))), σ)) else none
set_option maxHeartbeats 4000000 in
set_option maxRecDepth 100000 in
theorem tX10_toldAt (l : Launch) (G : gE) (σ : gS) (p0 : Int32) (p1 : Int32) : gM l G yX10_toldAt cX10_toldAt 3 (some .int) rX10_toldAt iI [.ref (G.2.1 52), .int p0, .int p1] σ (mX10_toldAt σ p0 p1) := by
  refine gM_of (by decide) (Nat.le_of_ble_eq_true rfl) ?_
  intro p e s m args below meth c hC
  unfold mX10_toldAt
  show gT p l e rX10_toldAt s m args below meth c G 3 iI σ 0 [(0, .ref (G.2.1 52)), (1, .int p0), (2, .int p1)] [] _
  refine g_aload_n (pc := 0) (q := 0) hC dX10_toldAt_0 rfl rfl ?_
  refine g_get (pc := 1) (v := .ref (G.2.1 78)) hC kX10 rfl 39 (by decide) fl_RX10_87 rfl dX10_toldAt_1 ?_
  refine g_bipush (pc := 4) (v := 60) hC dX10_toldAt_4 (by decide) ?_
  refine g_iload_n (pc := 6) (q := 1) hC dX10_toldAt_6 rfl rfl ?_
  refine g_imul (pc := 7) hC dX10_toldAt_7 ?_
  refine g_iload_n (pc := 8) (q := 2) hC dX10_toldAt_8 rfl rfl ?_
  refine g_iadd (pc := 9) hC dX10_toldAt_9 ?_
  refine g_lald (pc := 10) hC 360 rfl dX10_toldAt_10 ?_
  refine g_l2i (pc := 11) hC dX10_toldAt_11 ?_
  exact g_iret (pc := 12) hC dX10_toldAt_12
theorem cst_RX10_135 : Cond.constantLong RX10 135 4 ∈ gBig := (gBig_tab 1231 (by decide +kernel) (by decide +kernel))
theorem lk_RX10_137 : gLV RX10 137 RX10 yX10_toldAt cX10_toldAt 3 (some .int) 2 := ⟨(gBig_tab 1232 (by decide +kernel) (by decide +kernel)), (gBig_tab 1234 (by decide +kernel) (by decide +kernel)), (gBig_sel 47 (by decide +kernel) (by decide +kernel)), (gBig_tab 11 (by decide +kernel) (by decide +kernel)), (gBig_tab 1235 (by decide +kernel) (by decide +kernel)), rfl, by decide +kernel, by decide +kernel, by decide +kernel⟩
theorem lk_RX10_132 : gLS RX10 132 yX10_isShelf cX10_isShelf 1 (some .boolean) 1 := ⟨(gBig_tab 1228 (by decide +kernel) (by decide +kernel)), (gBig_tab 1229 (by decide +kernel) (by decide +kernel)), (gBig_tab 11 (by decide +kernel) (by decide +kernel)), (gBig_tab 1230 (by decide +kernel) (by decide +kernel)), by decide +kernel, by decide +kernel, by decide +kernel⟩
theorem dX10_wants_0 : decode cX10_wants 0 = .ok (.iload_n 1, 1) := by decide +kernel
theorem dX10_wants_1 : decode cX10_wants 1 = .ok (.invokestatic 132, 3) := by decide +kernel
theorem dX10_wants_4 : decode cX10_wants 4 = .ok (.ifCond .eq 13, 3) := by decide +kernel
theorem dX10_wants_7 : decode cX10_wants 7 = .ok (.iload_n 3, 1) := by decide +kernel
theorem dX10_wants_8 : decode cX10_wants 8 = .ok (.iconst 1, 1) := by decide +kernel
theorem dX10_wants_9 : decode cX10_wants 9 = .ok (.bipush 12, 2) := by decide +kernel
theorem dX10_wants_11 : decode cX10_wants 11 = .ok (.invokestatic 110, 3) := by decide +kernel
theorem dX10_wants_14 : decode cX10_wants 14 = .ok (.ifCond .ne 5, 3) := by decide +kernel
theorem dX10_wants_17 : decode cX10_wants 17 = .ok (.iconst (-1), 1) := by decide +kernel
theorem dX10_wants_18 : decode cX10_wants 18 = .ok (.ireturn, 1) := by decide +kernel
theorem dX10_wants_19 : decode cX10_wants 19 = .ok (.aload_n 0, 1) := by decide +kernel
theorem dX10_wants_20 : decode cX10_wants 20 = .ok (.getfield 81, 3) := by decide +kernel
theorem dX10_wants_23 : decode cX10_wants 23 = .ok (.iload_n 1, 1) := by decide +kernel
theorem dX10_wants_24 : decode cX10_wants 24 = .ok (.iaload, 1) := by decide +kernel
theorem dX10_wants_25 : decode cX10_wants 25 = .ok (.iconst (-1), 1) := by decide +kernel
theorem dX10_wants_26 : decode cX10_wants 26 = .ok (.if_icmp .ne 5, 3) := by decide +kernel
theorem dX10_wants_29 : decode cX10_wants 29 = .ok (.iconst 0, 1) := by decide +kernel
theorem dX10_wants_30 : decode cX10_wants 30 = .ok (.ireturn, 1) := by decide +kernel
theorem dX10_wants_31 : decode cX10_wants 31 = .ok (.aload_n 0, 1) := by decide +kernel
theorem dX10_wants_32 : decode cX10_wants 32 = .ok (.getfield 81, 3) := by decide +kernel
theorem dX10_wants_35 : decode cX10_wants 35 = .ok (.iload_n 1, 1) := by decide +kernel
theorem dX10_wants_36 : decode cX10_wants 36 = .ok (.iaload, 1) := by decide +kernel
theorem dX10_wants_37 : decode cX10_wants 37 = .ok (.ifCond .eq 6, 3) := by decide +kernel
theorem dX10_wants_40 : decode cX10_wants 40 = .ok (.bipush (-12), 2) := by decide +kernel
theorem dX10_wants_42 : decode cX10_wants 42 = .ok (.ireturn, 1) := by decide +kernel
theorem dX10_wants_43 : decode cX10_wants 43 = .ok (.iconst 0, 1) := by decide +kernel
theorem dX10_wants_44 : decode cX10_wants 44 = .ok (.istore 4, 2) := by decide +kernel
theorem dX10_wants_46 : decode cX10_wants 46 = .ok (.iconst 0, 1) := by decide +kernel
theorem dX10_wants_47 : decode cX10_wants 47 = .ok (.istore 5, 2) := by decide +kernel
theorem dX10_wants_49 : decode cX10_wants 49 = .ok (.iload 5, 2) := by decide +kernel
theorem dX10_wants_51 : decode cX10_wants 51 = .ok (.iload_n 3, 1) := by decide +kernel
theorem dX10_wants_52 : decode cX10_wants 52 = .ok (.if_icmp .ge 148, 3) := by decide +kernel
theorem dX10_wants_55 : decode cX10_wants 55 = .ok (.iload_n 2, 1) := by decide +kernel
theorem dX10_wants_56 : decode cX10_wants 56 = .ok (.i2l, 1) := by decide +kernel
theorem dX10_wants_57 : decode cX10_wants 57 = .ok (.ldc2_w 135, 3) := by decide +kernel
theorem dX10_wants_60 : decode cX10_wants 60 = .ok (.iload 5, 2) := by decide +kernel
theorem dX10_wants_62 : decode cX10_wants 62 = .ok (.i2l, 1) := by decide +kernel
theorem dX10_wants_63 : decode cX10_wants 63 = .ok (.lmul, 1) := by decide +kernel
theorem dX10_wants_64 : decode cX10_wants 64 = .ok (.ladd, 1) := by decide +kernel
theorem dX10_wants_65 : decode cX10_wants 65 = .ok (.lstore 6, 2) := by decide +kernel
theorem dX10_wants_67 : decode cX10_wants 67 = .ok (.lload 6, 2) := by decide +kernel
theorem dX10_wants_69 : decode cX10_wants 69 = .ok (.lconst 0, 1) := by decide +kernel
theorem dX10_wants_70 : decode cX10_wants 70 = .ok (.lcmp, 1) := by decide +kernel
theorem dX10_wants_71 : decode cX10_wants 71 = .ok (.ifCond .lt 29, 3) := by decide +kernel
theorem dX10_wants_74 : decode cX10_wants 74 = .ok (.lload 6, 2) := by decide +kernel
theorem dX10_wants_76 : decode cX10_wants 76 = .ok (.ldc2_w 135, 3) := by decide +kernel
theorem dX10_wants_79 : decode cX10_wants 79 = .ok (.ladd, 1) := by decide +kernel
theorem dX10_wants_80 : decode cX10_wants 80 = .ok (.aload_n 0, 1) := by decide +kernel
theorem dX10_wants_81 : decode cX10_wants 81 = .ok (.getfield 84, 3) := by decide +kernel
theorem dX10_wants_84 : decode cX10_wants 84 = .ok (.iload_n 1, 1) := by decide +kernel
theorem dX10_wants_85 : decode cX10_wants 85 = .ok (.iaload, 1) := by decide +kernel
theorem dX10_wants_86 : decode cX10_wants 86 = .ok (.i2l, 1) := by decide +kernel
theorem dX10_wants_87 : decode cX10_wants 87 = .ok (.lcmp, 1) := by decide +kernel
theorem dX10_wants_88 : decode cX10_wants 88 = .ok (.ifCond .gt 12, 3) := by decide +kernel
theorem dX10_wants_91 : decode cX10_wants 91 = .ok (.aload_n 0, 1) := by decide +kernel
theorem dX10_wants_92 : decode cX10_wants 92 = .ok (.getfield 114, 3) := by decide +kernel
theorem dX10_wants_95 : decode cX10_wants 95 = .ok (.bipush 12, 2) := by decide +kernel
theorem dX10_wants_97 : decode cX10_wants 97 = .ok (.if_icmp .ne 6, 3) := by decide +kernel
theorem dX10_wants_100 : decode cX10_wants 100 = .ok (.iload 4, 2) := by decide +kernel
theorem dX10_wants_102 : decode cX10_wants 102 = .ok (.ireturn, 1) := by decide +kernel
theorem dX10_wants_103 : decode cX10_wants 103 = .ok (.lload 6, 2) := by decide +kernel
theorem dX10_wants_105 : decode cX10_wants 105 = .ok (.l2i, 1) := by decide +kernel
theorem dX10_wants_106 : decode cX10_wants 106 = .ok (.istore 8, 2) := by decide +kernel
theorem dX10_wants_108 : decode cX10_wants 108 = .ok (.aload_n 0, 1) := by decide +kernel
theorem dX10_wants_109 : decode cX10_wants 109 = .ok (.aload_n 0, 1) := by decide +kernel
theorem dX10_wants_110 : decode cX10_wants 110 = .ok (.iload_n 1, 1) := by decide +kernel
theorem dX10_wants_111 : decode cX10_wants 111 = .ok (.iload 8, 2) := by decide +kernel
theorem dX10_wants_113 : decode cX10_wants 113 = .ok (.invokevirtual 137, 3) := by decide +kernel
theorem dX10_wants_116 : decode cX10_wants 116 = .ok (.aload_n 0, 1) := by decide +kernel
theorem dX10_wants_117 : decode cX10_wants 117 = .ok (.iload_n 1, 1) := by decide +kernel
theorem dX10_wants_118 : decode cX10_wants 118 = .ok (.iload 8, 2) := by decide +kernel
theorem dX10_wants_120 : decode cX10_wants 120 = .ok (.iconst 1, 1) := by decide +kernel
theorem dX10_wants_121 : decode cX10_wants 121 = .ok (.iadd, 1) := by decide +kernel
theorem dX10_wants_122 : decode cX10_wants 122 = .ok (.invokevirtual 137, 3) := by decide +kernel
theorem dX10_wants_125 : decode cX10_wants 125 = .ok (.aload_n 0, 1) := by decide +kernel
theorem dX10_wants_126 : decode cX10_wants 126 = .ok (.iload_n 1, 1) := by decide +kernel
theorem dX10_wants_127 : decode cX10_wants 127 = .ok (.iload 8, 2) := by decide +kernel
theorem dX10_wants_129 : decode cX10_wants 129 = .ok (.iconst 2, 1) := by decide +kernel
theorem dX10_wants_130 : decode cX10_wants 130 = .ok (.iadd, 1) := by decide +kernel
theorem dX10_wants_131 : decode cX10_wants 131 = .ok (.invokevirtual 137, 3) := by decide +kernel
theorem dX10_wants_134 : decode cX10_wants 134 = .ok (.aload_n 0, 1) := by decide +kernel
theorem dX10_wants_135 : decode cX10_wants 135 = .ok (.iload_n 1, 1) := by decide +kernel
theorem dX10_wants_136 : decode cX10_wants 136 = .ok (.iload 8, 2) := by decide +kernel
theorem dX10_wants_138 : decode cX10_wants 138 = .ok (.iconst 3, 1) := by decide +kernel
theorem dX10_wants_139 : decode cX10_wants 139 = .ok (.iadd, 1) := by decide +kernel
theorem dX10_wants_140 : decode cX10_wants 140 = .ok (.invokevirtual 137, 3) := by decide +kernel
theorem dX10_wants_143 : decode cX10_wants 143 = .ok (.invokevirtual 124, 3) := by decide +kernel
theorem dX10_wants_146 : decode cX10_wants 146 = .ok (.ifCond .ne 6, 3) := by decide +kernel
theorem dX10_wants_149 : decode cX10_wants 149 = .ok (.iload 4, 2) := by decide +kernel
theorem dX10_wants_151 : decode cX10_wants 151 = .ok (.ireturn, 1) := by decide +kernel
theorem dX10_wants_152 : decode cX10_wants 152 = .ok (.aload_n 0, 1) := by decide +kernel
theorem dX10_wants_153 : decode cX10_wants 153 = .ok (.aload_n 0, 1) := by decide +kernel
theorem dX10_wants_154 : decode cX10_wants 154 = .ok (.iload_n 1, 1) := by decide +kernel
theorem dX10_wants_155 : decode cX10_wants 155 = .ok (.iload 8, 2) := by decide +kernel
theorem dX10_wants_157 : decode cX10_wants 157 = .ok (.invokevirtual 137, 3) := by decide +kernel
theorem dX10_wants_160 : decode cX10_wants 160 = .ok (.aload_n 0, 1) := by decide +kernel
theorem dX10_wants_161 : decode cX10_wants 161 = .ok (.iload_n 1, 1) := by decide +kernel
theorem dX10_wants_162 : decode cX10_wants 162 = .ok (.iload 8, 2) := by decide +kernel
theorem dX10_wants_164 : decode cX10_wants 164 = .ok (.iconst 1, 1) := by decide +kernel
theorem dX10_wants_165 : decode cX10_wants 165 = .ok (.iadd, 1) := by decide +kernel
theorem dX10_wants_166 : decode cX10_wants 166 = .ok (.invokevirtual 137, 3) := by decide +kernel
theorem dX10_wants_169 : decode cX10_wants 169 = .ok (.aload_n 0, 1) := by decide +kernel
theorem dX10_wants_170 : decode cX10_wants 170 = .ok (.iload_n 1, 1) := by decide +kernel
theorem dX10_wants_171 : decode cX10_wants 171 = .ok (.iload 8, 2) := by decide +kernel
theorem dX10_wants_173 : decode cX10_wants 173 = .ok (.iconst 2, 1) := by decide +kernel
theorem dX10_wants_174 : decode cX10_wants 174 = .ok (.iadd, 1) := by decide +kernel
theorem dX10_wants_175 : decode cX10_wants 175 = .ok (.invokevirtual 137, 3) := by decide +kernel
theorem dX10_wants_178 : decode cX10_wants 178 = .ok (.aload_n 0, 1) := by decide +kernel
theorem dX10_wants_179 : decode cX10_wants 179 = .ok (.iload_n 1, 1) := by decide +kernel
theorem dX10_wants_180 : decode cX10_wants 180 = .ok (.iload 8, 2) := by decide +kernel
theorem dX10_wants_182 : decode cX10_wants 182 = .ok (.iconst 3, 1) := by decide +kernel
theorem dX10_wants_183 : decode cX10_wants 183 = .ok (.iadd, 1) := by decide +kernel
theorem dX10_wants_184 : decode cX10_wants 184 = .ok (.invokevirtual 137, 3) := by decide +kernel
theorem dX10_wants_187 : decode cX10_wants 187 = .ok (.invokevirtual 128, 3) := by decide +kernel
theorem dX10_wants_190 : decode cX10_wants 190 = .ok (.pop, 1) := by decide +kernel
theorem dX10_wants_191 : decode cX10_wants 191 = .ok (.iinc 4 1, 3) := by decide +kernel
theorem dX10_wants_194 : decode cX10_wants 194 = .ok (.iinc 5 1, 3) := by decide +kernel
theorem dX10_wants_197 : decode cX10_wants 197 = .ok (.goto (-148), 3) := by decide +kernel
theorem dX10_wants_200 : decode cX10_wants 200 = .ok (.iload 4, 2) := by decide +kernel
theorem dX10_wants_202 : decode cX10_wants 202 = .ok (.ireturn, 1) := by decide +kernel
abbrev rX10_wants : Room := { frames := 3, cells := 0, slots := 0, locals := 67 }
def mX10_wants_b49    : Nat → gS → Int32 → Int32 → Int32 → Int32 → Int32 → Option (Int32 × gS)
  | 0, _, _, _, _, _, _ => none
  | n + 1, σ, x7, x8, x9, x10, x11 => if x9 ≤ x11 then (some (x10, σ)) else (gLet ((Int32.toInt64 x8) + (4 * (Int32.toInt64 x11))) (fun v12 => if (lg_cmp v12 0) < 0 then (some (x10, σ)) else (if inbB x7 6 = true then (if 0 < (lg_cmp (v12 + 4) (Int32.toInt64 (σ.1 77 (Int32.toNatClampNeg x7)))) then (some (x10, σ)) else (if (σ.1 52 3) = 12 then (some (x10, σ)) else (gLet (Int64.toInt32 v12) (fun v13 => gBind (mX10_toldAt σ x7 v13) (fun r14 s15 => gBind (mX10_toldAt s15 x7 (v13 + 1)) (fun r16 s17 => gBind (mX10_toldAt s17 x7 (v13 + 2)) (fun r18 s19 => gBind (mX10_toldAt s19 x7 (v13 + 3)) (fun r20 s21 => gBind (mX10_isSuch s21 r14 r16 r18 r20) (fun r22 s23 => if r22 = true then (gBind (mX10_toldAt s23 x7 v13) (fun r24 s25 => gBind (mX10_toldAt s25 x7 (v13 + 1)) (fun r26 s27 => gBind (mX10_toldAt s27 x7 (v13 + 2)) (fun r28 s29 => gBind (mX10_toldAt s29 x7 (v13 + 3)) (fun r30 s31 => gBind (mX10_newWant s31 r24 r26 r28 r30) (fun r32 s33 => gLet (x10 + 1) (fun v34 => gLet (x11 + 1) (fun v35 => ((mX10_wants_b49  n) s33 x7 x8 x9 v34 v35))))))))) else (some (x10, s23))))))))))) else none)))
set_option maxHeartbeats 4000000 in
set_option maxRecDepth 100000 in
theorem wX10_wants_b49 {p : Program} {l : Launch} {e : Env} {s : State} {m : MethodId} {args : Array Value} {below : List Frame} {meth : Method} {c : Code} {G : gE} (hC : gCx p s m args meth c G RX10 cX10_wants 9 (some .int))     (n : Nat) (σ : gS) (x7 : Int32) (x8 : Int32) (x9 : Int32) (x10 : Int32) (x11 : Int32)  : gT p l e rX10_wants s m args below meth c G 9 iI σ 49 [(0, .ref (G.2.1 52)), (1, .int x7), (2, .int x8), (3, .int x9), (4, .int x10), (5, .int x11)] [] (mX10_wants_b49  n σ x7 x8 x9 x10 x11) := by
  induction n generalizing σ x7 x8 x9 x10 x11 with
  | zero => exact gT_none
  | succ n ih =>
    unfold mX10_wants_b49
    refine g_iload (pc := 49) (q := 5) hC dX10_wants_49 rfl ?_
    refine g_iload_n (pc := 51) (q := 3) hC dX10_wants_51 rfl rfl ?_
    refine g_icmp_ge (pc := 52) (tgt := 200) hC dX10_wants_52 (by decide) ?_ ?_
    · refine g_iload (pc := 200) (q := 4) hC dX10_wants_200 rfl ?_
      exact g_iret (pc := 202) hC dX10_wants_202
    · refine g_iload_n (pc := 55) (q := 2) hC dX10_wants_55 rfl rfl ?_
      refine g_i2l (pc := 56) hC dX10_wants_56 ?_
      refine g_ldc2 (pc := 57) hC dX10_wants_57 cst_RX10_135 ?_
      refine g_iload (pc := 60) (q := 5) hC dX10_wants_60 rfl ?_
      refine g_i2l (pc := 62) hC dX10_wants_62 ?_
      refine g_lmul (pc := 63) hC dX10_wants_63 ?_
      refine g_ladd (pc := 64) hC dX10_wants_64 ?_
      refine g_lstore (pc := 65) (lv' := fun v12 => [(6, .long v12), (0, .ref (G.2.1 52)), (1, .int x7), (2, .int x8), (3, .int x9), (4, .int x10), (5, .int x11)]) hC dX10_wants_65 (by decide) (fun _ => rfl) (fun v12 => ?_)
      refine g_lload (pc := 67) (q := 0) hC dX10_wants_67 rfl ?_
      refine g_lconst (pc := 69) (v := 0) hC dX10_wants_69 (by decide) ?_
      refine g_lcmp (pc := 70) hC dX10_wants_70 ?_
      refine g_if_lt (pc := 71) (tgt := 100) hC dX10_wants_71 (by decide) ?_ ?_
      · refine g_iload (pc := 100) (q := 5) hC dX10_wants_100 rfl ?_
        exact g_iret (pc := 102) hC dX10_wants_102
      · refine g_lload (pc := 74) (q := 0) hC dX10_wants_74 rfl ?_
        refine g_ldc2 (pc := 76) hC dX10_wants_76 cst_RX10_135 ?_
        refine g_ladd (pc := 79) hC dX10_wants_79 ?_
        refine g_aload_n (pc := 80) (q := 1) hC dX10_wants_80 rfl rfl ?_
        refine g_get (pc := 81) (v := .ref (G.2.1 77)) hC kX10 rfl 38 (by decide) fl_RX10_84 rfl dX10_wants_81 ?_
        refine g_iload_n (pc := 84) (q := 2) hC dX10_wants_84 rfl rfl ?_
        refine g_iald (pc := 85) hC 6 rfl (by decide) dX10_wants_85 ?_
        refine g_i2l (pc := 86) hC dX10_wants_86 ?_
        refine g_lcmp (pc := 87) hC dX10_wants_87 ?_
        refine g_if_gt (pc := 88) (tgt := 100) hC dX10_wants_88 (by decide) ?_ ?_
        · refine g_iload (pc := 100) (q := 5) hC dX10_wants_100 rfl ?_
          exact g_iret (pc := 102) hC dX10_wants_102
        · refine g_aload_n (pc := 91) (q := 1) hC dX10_wants_91 rfl rfl ?_
          refine g_get (pc := 92) (v := .int (σ.1 52 3)) hC kX10 rfl 3 (by decide) fl_RX10_114 rfl dX10_wants_92 ?_
          refine g_bipush (pc := 95) (v := 12) hC dX10_wants_95 (by decide) ?_
          refine g_icmp_ne (pc := 97) (tgt := 103) hC dX10_wants_97 (by decide) ?_ ?_
          · refine g_lload (pc := 103) (q := 0) hC dX10_wants_103 rfl ?_
            refine g_l2i (pc := 105) hC dX10_wants_105 ?_
            refine g_istore (pc := 106) (lv' := fun v13 => [(8, .int v13), (6, .long v12), (0, .ref (G.2.1 52)), (1, .int x7), (2, .int x8), (3, .int x9), (4, .int x10), (5, .int x11)]) hC dX10_wants_106 (by decide) (fun _ => rfl) (fun v13 => ?_)
            refine g_aload_n (pc := 108) (q := 2) hC dX10_wants_108 rfl rfl ?_
            refine g_aload_n (pc := 109) (q := 2) hC dX10_wants_109 rfl rfl ?_
            refine g_iload_n (pc := 110) (q := 3) hC dX10_wants_110 rfl rfl ?_
            refine g_iload (pc := 111) (q := 0) hC dX10_wants_111 rfl ?_
            refine g_callVi (pc := 113) (As := [.int x7, .int v13]) (rest := [.ref (G.2.1 52)]) hC lk_RX10_137 kX10 rfl (tX10_toldAt _ _ σ x7 v13) rfl rfl (Nat.le_of_ble_eq_true rfl) ⟨rfl, rfl, Nat.le_of_ble_eq_true rfl, Nat.le_of_ble_eq_true rfl⟩ dX10_wants_113 (fun r14 s15 => ?_)
            refine g_aload_n (pc := 116) (q := 2) hC dX10_wants_116 rfl rfl ?_
            refine g_iload_n (pc := 117) (q := 3) hC dX10_wants_117 rfl rfl ?_
            refine g_iload (pc := 118) (q := 0) hC dX10_wants_118 rfl ?_
            refine g_iconst (pc := 120) (v := 1) hC dX10_wants_120 (by decide) ?_
            refine g_iadd (pc := 121) hC dX10_wants_121 ?_
            refine g_callVi (pc := 122) (As := [.int x7, .int (v13 + 1)]) (rest := [.int r14, .ref (G.2.1 52)]) hC lk_RX10_137 kX10 rfl (tX10_toldAt _ _ s15 x7 (v13 + 1)) rfl rfl (Nat.le_of_ble_eq_true rfl) ⟨rfl, rfl, Nat.le_of_ble_eq_true rfl, Nat.le_of_ble_eq_true rfl⟩ dX10_wants_122 (fun r16 s17 => ?_)
            refine g_aload_n (pc := 125) (q := 2) hC dX10_wants_125 rfl rfl ?_
            refine g_iload_n (pc := 126) (q := 3) hC dX10_wants_126 rfl rfl ?_
            refine g_iload (pc := 127) (q := 0) hC dX10_wants_127 rfl ?_
            refine g_iconst (pc := 129) (v := 2) hC dX10_wants_129 (by decide) ?_
            refine g_iadd (pc := 130) hC dX10_wants_130 ?_
            refine g_callVi (pc := 131) (As := [.int x7, .int (v13 + 2)]) (rest := [.int r16, .int r14, .ref (G.2.1 52)]) hC lk_RX10_137 kX10 rfl (tX10_toldAt _ _ s17 x7 (v13 + 2)) rfl rfl (Nat.le_of_ble_eq_true rfl) ⟨rfl, rfl, Nat.le_of_ble_eq_true rfl, Nat.le_of_ble_eq_true rfl⟩ dX10_wants_131 (fun r18 s19 => ?_)
            refine g_aload_n (pc := 134) (q := 2) hC dX10_wants_134 rfl rfl ?_
            refine g_iload_n (pc := 135) (q := 3) hC dX10_wants_135 rfl rfl ?_
            refine g_iload (pc := 136) (q := 0) hC dX10_wants_136 rfl ?_
            refine g_iconst (pc := 138) (v := 3) hC dX10_wants_138 (by decide) ?_
            refine g_iadd (pc := 139) hC dX10_wants_139 ?_
            refine g_callVi (pc := 140) (As := [.int x7, .int (v13 + 3)]) (rest := [.int r18, .int r16, .int r14, .ref (G.2.1 52)]) hC lk_RX10_137 kX10 rfl (tX10_toldAt _ _ s19 x7 (v13 + 3)) rfl rfl (Nat.le_of_ble_eq_true rfl) ⟨rfl, rfl, Nat.le_of_ble_eq_true rfl, Nat.le_of_ble_eq_true rfl⟩ dX10_wants_140 (fun r20 s21 => ?_)
            refine g_callVz (pc := 143) (As := [.int r14, .int r16, .int r18, .int r20]) (rest := []) hC lk_RX10_124 kX10 rfl (tX10_isSuch _ _ s21 r14 r16 r18 r20) rfl rfl (Nat.le_of_ble_eq_true rfl) ⟨rfl, rfl, Nat.le_of_ble_eq_true rfl, Nat.le_of_ble_eq_true rfl⟩ dX10_wants_143 (fun r22 s23 => ?_)
            refine g_bif_ne (pc := 146) (tgt := 152) hC dX10_wants_146 (by decide) ?_ ?_
            · refine g_aload_n (pc := 152) (q := 2) hC dX10_wants_152 rfl rfl ?_
              refine g_aload_n (pc := 153) (q := 2) hC dX10_wants_153 rfl rfl ?_
              refine g_iload_n (pc := 154) (q := 3) hC dX10_wants_154 rfl rfl ?_
              refine g_iload (pc := 155) (q := 0) hC dX10_wants_155 rfl ?_
              refine g_callVi (pc := 157) (As := [.int x7, .int v13]) (rest := [.ref (G.2.1 52)]) hC lk_RX10_137 kX10 rfl (tX10_toldAt _ _ s23 x7 v13) rfl rfl (Nat.le_of_ble_eq_true rfl) ⟨rfl, rfl, Nat.le_of_ble_eq_true rfl, Nat.le_of_ble_eq_true rfl⟩ dX10_wants_157 (fun r24 s25 => ?_)
              refine g_aload_n (pc := 160) (q := 2) hC dX10_wants_160 rfl rfl ?_
              refine g_iload_n (pc := 161) (q := 3) hC dX10_wants_161 rfl rfl ?_
              refine g_iload (pc := 162) (q := 0) hC dX10_wants_162 rfl ?_
              refine g_iconst (pc := 164) (v := 1) hC dX10_wants_164 (by decide) ?_
              refine g_iadd (pc := 165) hC dX10_wants_165 ?_
              refine g_callVi (pc := 166) (As := [.int x7, .int (v13 + 1)]) (rest := [.int r24, .ref (G.2.1 52)]) hC lk_RX10_137 kX10 rfl (tX10_toldAt _ _ s25 x7 (v13 + 1)) rfl rfl (Nat.le_of_ble_eq_true rfl) ⟨rfl, rfl, Nat.le_of_ble_eq_true rfl, Nat.le_of_ble_eq_true rfl⟩ dX10_wants_166 (fun r26 s27 => ?_)
              refine g_aload_n (pc := 169) (q := 2) hC dX10_wants_169 rfl rfl ?_
              refine g_iload_n (pc := 170) (q := 3) hC dX10_wants_170 rfl rfl ?_
              refine g_iload (pc := 171) (q := 0) hC dX10_wants_171 rfl ?_
              refine g_iconst (pc := 173) (v := 2) hC dX10_wants_173 (by decide) ?_
              refine g_iadd (pc := 174) hC dX10_wants_174 ?_
              refine g_callVi (pc := 175) (As := [.int x7, .int (v13 + 2)]) (rest := [.int r26, .int r24, .ref (G.2.1 52)]) hC lk_RX10_137 kX10 rfl (tX10_toldAt _ _ s27 x7 (v13 + 2)) rfl rfl (Nat.le_of_ble_eq_true rfl) ⟨rfl, rfl, Nat.le_of_ble_eq_true rfl, Nat.le_of_ble_eq_true rfl⟩ dX10_wants_175 (fun r28 s29 => ?_)
              refine g_aload_n (pc := 178) (q := 2) hC dX10_wants_178 rfl rfl ?_
              refine g_iload_n (pc := 179) (q := 3) hC dX10_wants_179 rfl rfl ?_
              refine g_iload (pc := 180) (q := 0) hC dX10_wants_180 rfl ?_
              refine g_iconst (pc := 182) (v := 3) hC dX10_wants_182 (by decide) ?_
              refine g_iadd (pc := 183) hC dX10_wants_183 ?_
              refine g_callVi (pc := 184) (As := [.int x7, .int (v13 + 3)]) (rest := [.int r28, .int r26, .int r24, .ref (G.2.1 52)]) hC lk_RX10_137 kX10 rfl (tX10_toldAt _ _ s29 x7 (v13 + 3)) rfl rfl (Nat.le_of_ble_eq_true rfl) ⟨rfl, rfl, Nat.le_of_ble_eq_true rfl, Nat.le_of_ble_eq_true rfl⟩ dX10_wants_184 (fun r30 s31 => ?_)
              refine g_callVi (pc := 187) (As := [.int r24, .int r26, .int r28, .int r30]) (rest := []) hC lk_RX10_128 kX10 rfl (tX10_newWant _ _ s31 r24 r26 r28 r30) rfl rfl (Nat.le_of_ble_eq_true rfl) ⟨rfl, rfl, Nat.le_of_ble_eq_true rfl, Nat.le_of_ble_eq_true rfl⟩ dX10_wants_187 (fun r32 s33 => ?_)
              refine g_pop (pc := 190) hC dX10_wants_190 rfl ?_
              refine g_iinc (pc := 191) (q := 6) (w := 1) (lv' := fun v34 => [(4, .int v34), (8, .int v13), (6, .long v12), (0, .ref (G.2.1 52)), (1, .int x7), (2, .int x8), (3, .int x9), (5, .int x11)]) hC dX10_wants_191 rfl (by decide) (by decide) (fun _ => rfl) (fun v34 => ?_)
              refine g_iinc (pc := 194) (q := 7) (w := 1) (lv' := fun v35 => [(5, .int v35), (4, .int v34), (8, .int v13), (6, .long v12), (0, .ref (G.2.1 52)), (1, .int x7), (2, .int x8), (3, .int x9)]) hC dX10_wants_194 rfl (by decide) (by decide) (fun _ => rfl) (fun v35 => ?_)
              refine g_goto (pc := 197) (tgt := 49) hC dX10_wants_197 (by decide) ?_
              exact gT_sub [4, 5, 6, 7, 1, 0] rfl (ih s33 x7 x8 x9 v34 v35)
            · refine g_iload (pc := 149) (q := 6) hC dX10_wants_149 rfl ?_
              exact g_iret (pc := 151) hC dX10_wants_151
          · refine g_iload (pc := 100) (q := 5) hC dX10_wants_100 rfl ?_
            exact g_iret (pc := 102) hC dX10_wants_102
def mX10_wants (σ : gS) (p0 : Int32) (p1 : Int32) (p2 : Int32) : Option (Int32 × gS) := gBind (mX10_isShelf σ p0) (fun r1 s2 => if r1 = true then (gBind (mX10_within s2 p2 1 12) (fun r3 s4 => if r3 = true then (if inbB p0 6 = true then (if (s4.1 76 (Int32.toNatClampNeg p0)) = (-1) then (some (0, s4)) else (if inbB p0 6 = true then (if (s4.1 76 (Int32.toNatClampNeg p0)) = 0 then (gLet 0 (fun v5 => gLet 0 (fun v6 => (mX10_wants_b49  1100 s4 p0 p1 p2 v5 v6)))) else (some ((-12), s4))) else none)) else none) else (some ((-1), s4)))) else (some ((-1), s2)))
set_option maxHeartbeats 4000000 in
set_option maxRecDepth 100000 in
theorem tX10_wants (l : Launch) (G : gE) (σ : gS) (p0 : Int32) (p1 : Int32) (p2 : Int32) : gM l G yX10_wants cX10_wants 9 (some .int) rX10_wants iI [.ref (G.2.1 52), .int p0, .int p1, .int p2] σ (mX10_wants σ p0 p1 p2) := by
  refine gM_of (by decide) (Nat.le_of_ble_eq_true rfl) ?_
  intro p e s m args below meth c hC
  unfold mX10_wants
  show gT p l e rX10_wants s m args below meth c G 9 iI σ 0 [(0, .ref (G.2.1 52)), (1, .int p0), (2, .int p1), (3, .int p2)] [] _
  refine g_iload_n (pc := 0) (q := 1) hC dX10_wants_0 rfl rfl ?_
  refine g_callSz (pc := 1) (As := [.int p0]) (rest := []) hC lk_RX10_132 (tX10_isShelf _ _ σ p0) rfl rfl (Nat.le_of_ble_eq_true rfl) ⟨rfl, rfl, Nat.le_of_ble_eq_true rfl, Nat.le_of_ble_eq_true rfl⟩ dX10_wants_1 (fun r1 s2 => ?_)
  refine g_bif_eq (pc := 4) (tgt := 17) hC dX10_wants_4 (by decide) ?_ ?_
  · refine g_iconst (pc := 17) (v := (-1)) hC dX10_wants_17 (by decide) ?_
    exact g_iret (pc := 18) hC dX10_wants_18
  · refine g_iload_n (pc := 7) (q := 3) hC dX10_wants_7 rfl rfl ?_
    refine g_iconst (pc := 8) (v := 1) hC dX10_wants_8 (by decide) ?_
    refine g_bipush (pc := 9) (v := 12) hC dX10_wants_9 (by decide) ?_
    refine g_callSz (pc := 11) (As := [.int p2, .int 1, .int 12]) (rest := []) hC lk_RX10_110 (tX10_within _ _ s2 p2 1 12) rfl rfl (Nat.le_of_ble_eq_true rfl) ⟨rfl, rfl, Nat.le_of_ble_eq_true rfl, Nat.le_of_ble_eq_true rfl⟩ dX10_wants_11 (fun r3 s4 => ?_)
    refine g_bif_ne (pc := 14) (tgt := 19) hC dX10_wants_14 (by decide) ?_ ?_
    · refine g_aload_n (pc := 19) (q := 0) hC dX10_wants_19 rfl rfl ?_
      refine g_get (pc := 20) (v := .ref (G.2.1 76)) hC kX10 rfl 37 (by decide) fl_RX10_81 rfl dX10_wants_20 ?_
      refine g_iload_n (pc := 23) (q := 1) hC dX10_wants_23 rfl rfl ?_
      refine g_iald (pc := 24) hC 6 rfl (by decide) dX10_wants_24 ?_
      refine g_iconst (pc := 25) (v := (-1)) hC dX10_wants_25 (by decide) ?_
      refine g_icmp_ne (pc := 26) (tgt := 31) hC dX10_wants_26 (by decide) ?_ ?_
      · refine g_aload_n (pc := 31) (q := 0) hC dX10_wants_31 rfl rfl ?_
        refine g_get (pc := 32) (v := .ref (G.2.1 76)) hC kX10 rfl 37 (by decide) fl_RX10_81 rfl dX10_wants_32 ?_
        refine g_iload_n (pc := 35) (q := 1) hC dX10_wants_35 rfl rfl ?_
        refine g_iald (pc := 36) hC 6 rfl (by decide) dX10_wants_36 ?_
        refine g_if_eq (pc := 37) (tgt := 43) hC dX10_wants_37 (by decide) ?_ ?_
        · refine g_iconst (pc := 43) (v := 0) hC dX10_wants_43 (by decide) ?_
          refine g_istore (pc := 44) (lv' := fun v5 => [(4, .int v5), (0, .ref (G.2.1 52)), (1, .int p0), (2, .int p1), (3, .int p2)]) hC dX10_wants_44 (by decide) (fun _ => rfl) (fun v5 => ?_)
          refine g_iconst (pc := 46) (v := 0) hC dX10_wants_46 (by decide) ?_
          refine g_istore (pc := 47) (lv' := fun v6 => [(5, .int v6), (4, .int v5), (0, .ref (G.2.1 52)), (1, .int p0), (2, .int p1), (3, .int p2)]) hC dX10_wants_47 (by decide) (fun _ => rfl) (fun v6 => ?_)
          exact gT_sub [2, 3, 4, 5, 1, 0] rfl (wX10_wants_b49 hC  1100 s4 p0 p1 p2 v5 v6)
        · refine g_bipush (pc := 40) (v := (-12)) hC dX10_wants_40 (by decide) ?_
          exact g_iret (pc := 42) hC dX10_wants_42
      · refine g_iconst (pc := 29) (v := 0) hC dX10_wants_29 (by decide) ?_
        exact g_iret (pc := 30) hC dX10_wants_30
    · refine g_iconst (pc := 17) (v := (-1)) hC dX10_wants_17 (by decide) ?_
      exact g_iret (pc := 18) hC dX10_wants_18
theorem lk_RX10_141 : gLV RX10 141 RX10 yX10_isWant cX10_isWant 2 (some .boolean) 1 := ⟨(gBig_tab 1244 (by decide +kernel) (by decide +kernel)), (gBig_tab 1246 (by decide +kernel) (by decide +kernel)), (gBig_sel 49 (by decide +kernel) (by decide +kernel)), (gBig_tab 11 (by decide +kernel) (by decide +kernel)), (gBig_tab 1247 (by decide +kernel) (by decide +kernel)), rfl, by decide +kernel, by decide +kernel, by decide +kernel⟩
theorem dX10_isOf_0 : decode cX10_isOf 0 = .ok (.iload_n 2, 1) := by decide +kernel
theorem dX10_isOf_1 : decode cX10_isOf 1 = .ok (.iconst 0, 1) := by decide +kernel
theorem dX10_isOf_2 : decode cX10_isOf 2 = .ok (.iconst 1, 1) := by decide +kernel
theorem dX10_isOf_3 : decode cX10_isOf 3 = .ok (.invokestatic 110, 3) := by decide +kernel
theorem dX10_isOf_6 : decode cX10_isOf 6 = .ok (.ifCond .eq 11, 3) := by decide +kernel
theorem dX10_isOf_9 : decode cX10_isOf 9 = .ok (.aload_n 0, 1) := by decide +kernel
theorem dX10_isOf_10 : decode cX10_isOf 10 = .ok (.iload_n 1, 1) := by decide +kernel
theorem dX10_isOf_11 : decode cX10_isOf 11 = .ok (.invokevirtual 117, 3) := by decide +kernel
theorem dX10_isOf_14 : decode cX10_isOf 14 = .ok (.goto 39, 3) := by decide +kernel
theorem dX10_isOf_17 : decode cX10_isOf 17 = .ok (.iload_n 2, 1) := by decide +kernel
theorem dX10_isOf_18 : decode cX10_isOf 18 = .ok (.iconst 2, 1) := by decide +kernel
theorem dX10_isOf_19 : decode cX10_isOf 19 = .ok (.iconst 4, 1) := by decide +kernel
theorem dX10_isOf_20 : decode cX10_isOf 20 = .ok (.invokestatic 110, 3) := by decide +kernel
theorem dX10_isOf_23 : decode cX10_isOf 23 = .ok (.ifCond .eq 11, 3) := by decide +kernel
theorem dX10_isOf_26 : decode cX10_isOf 26 = .ok (.aload_n 0, 1) := by decide +kernel
theorem dX10_isOf_27 : decode cX10_isOf 27 = .ok (.iload_n 1, 1) := by decide +kernel
theorem dX10_isOf_28 : decode cX10_isOf 28 = .ok (.invokevirtual 141, 3) := by decide +kernel
theorem dX10_isOf_31 : decode cX10_isOf 31 = .ok (.goto 22, 3) := by decide +kernel
theorem dX10_isOf_34 : decode cX10_isOf 34 = .ok (.iload_n 2, 1) := by decide +kernel
theorem dX10_isOf_35 : decode cX10_isOf 35 = .ok (.iconst 5, 1) := by decide +kernel
theorem dX10_isOf_36 : decode cX10_isOf 36 = .ok (.bipush 9, 2) := by decide +kernel
theorem dX10_isOf_38 : decode cX10_isOf 38 = .ok (.invokestatic 110, 3) := by decide +kernel
theorem dX10_isOf_41 : decode cX10_isOf 41 = .ok (.ifCond .eq 11, 3) := by decide +kernel
theorem dX10_isOf_44 : decode cX10_isOf 44 = .ok (.iload_n 1, 1) := by decide +kernel
theorem dX10_isOf_45 : decode cX10_isOf 45 = .ok (.ifCond .ne 7, 3) := by decide +kernel
theorem dX10_isOf_48 : decode cX10_isOf 48 = .ok (.iconst 1, 1) := by decide +kernel
theorem dX10_isOf_49 : decode cX10_isOf 49 = .ok (.goto 4, 3) := by decide +kernel
theorem dX10_isOf_52 : decode cX10_isOf 52 = .ok (.iconst 0, 1) := by decide +kernel
theorem dX10_isOf_53 : decode cX10_isOf 53 = .ok (.ireturn, 1) := by decide +kernel
abbrev rX10_isOf : Room := { frames := 2, cells := 0, slots := 0, locals := 43 }
def mX10_isOf (σ : gS) (p0 : Int32) (p1 : Int32) : Option (Bool × gS) := gBind (mX10_within σ p1 0 1) (fun r1 s2 => if r1 = true then (gBind (mX10_isFarm s2 p0) (fun r9 s10 => some (r9, s10))) else (gBind (mX10_within s2 p1 2 4) (fun r3 s4 => if r3 = true then (gBind (mX10_isWant s4 p0) (fun r7 s8 => some (r7, s8))) else (gBind (mX10_within s4 p1 5 9) (fun r5 s6 => if r5 = true then (if p0 = 0 then (some (true, s6)) else (some (false, s6))) else (some (false, s6)))))))
set_option maxHeartbeats 4000000 in
set_option maxRecDepth 100000 in
theorem tX10_isOf (l : Launch) (G : gE) (σ : gS) (p0 : Int32) (p1 : Int32) : gM l G yX10_isOf cX10_isOf 3 (some .boolean) rX10_isOf iZ [.ref (G.2.1 52), .int p0, .int p1] σ (mX10_isOf σ p0 p1) := by
  refine gM_of (by decide) (Nat.le_of_ble_eq_true rfl) ?_
  intro p e s m args below meth c hC
  unfold mX10_isOf
  show gT p l e rX10_isOf s m args below meth c G 3 iZ σ 0 [(0, .ref (G.2.1 52)), (1, .int p0), (2, .int p1)] [] _
  refine g_iload_n (pc := 0) (q := 2) hC dX10_isOf_0 rfl rfl ?_
  refine g_iconst (pc := 1) (v := 0) hC dX10_isOf_1 (by decide) ?_
  refine g_iconst (pc := 2) (v := 1) hC dX10_isOf_2 (by decide) ?_
  refine g_callSz (pc := 3) (As := [.int p1, .int 0, .int 1]) (rest := []) hC lk_RX10_110 (tX10_within _ _ σ p1 0 1) rfl rfl (Nat.le_of_ble_eq_true rfl) ⟨rfl, rfl, Nat.le_of_ble_eq_true rfl, Nat.le_of_ble_eq_true rfl⟩ dX10_isOf_3 (fun r1 s2 => ?_)
  refine g_bif_eq (pc := 6) (tgt := 17) hC dX10_isOf_6 (by decide) ?_ ?_
  · refine g_iload_n (pc := 17) (q := 2) hC dX10_isOf_17 rfl rfl ?_
    refine g_iconst (pc := 18) (v := 2) hC dX10_isOf_18 (by decide) ?_
    refine g_iconst (pc := 19) (v := 4) hC dX10_isOf_19 (by decide) ?_
    refine g_callSz (pc := 20) (As := [.int p1, .int 2, .int 4]) (rest := []) hC lk_RX10_110 (tX10_within _ _ s2 p1 2 4) rfl rfl (Nat.le_of_ble_eq_true rfl) ⟨rfl, rfl, Nat.le_of_ble_eq_true rfl, Nat.le_of_ble_eq_true rfl⟩ dX10_isOf_20 (fun r3 s4 => ?_)
    refine g_bif_eq (pc := 23) (tgt := 34) hC dX10_isOf_23 (by decide) ?_ ?_
    · refine g_iload_n (pc := 34) (q := 2) hC dX10_isOf_34 rfl rfl ?_
      refine g_iconst (pc := 35) (v := 5) hC dX10_isOf_35 (by decide) ?_
      refine g_bipush (pc := 36) (v := 9) hC dX10_isOf_36 (by decide) ?_
      refine g_callSz (pc := 38) (As := [.int p1, .int 5, .int 9]) (rest := []) hC lk_RX10_110 (tX10_within _ _ s4 p1 5 9) rfl rfl (Nat.le_of_ble_eq_true rfl) ⟨rfl, rfl, Nat.le_of_ble_eq_true rfl, Nat.le_of_ble_eq_true rfl⟩ dX10_isOf_38 (fun r5 s6 => ?_)
      refine g_bif_eq (pc := 41) (tgt := 52) hC dX10_isOf_41 (by decide) ?_ ?_
      · refine g_iconst (pc := 52) (v := 0) hC dX10_isOf_52 (by decide) ?_
        exact g_zret0 (pc := 53) hC dX10_isOf_53
      · refine g_iload_n (pc := 44) (q := 1) hC dX10_isOf_44 rfl rfl ?_
        refine g_if_ne (pc := 45) (tgt := 52) hC dX10_isOf_45 (by decide) ?_ ?_
        · refine g_iconst (pc := 52) (v := 0) hC dX10_isOf_52 (by decide) ?_
          exact g_zret0 (pc := 53) hC dX10_isOf_53
        · refine g_iconst (pc := 48) (v := 1) hC dX10_isOf_48 (by decide) ?_
          refine g_goto (pc := 49) (tgt := 53) hC dX10_isOf_49 (by decide) ?_
          exact g_zret1 (pc := 53) hC dX10_isOf_53
    · refine g_aload_n (pc := 26) (q := 0) hC dX10_isOf_26 rfl rfl ?_
      refine g_iload_n (pc := 27) (q := 1) hC dX10_isOf_27 rfl rfl ?_
      refine g_callVz (pc := 28) (As := [.int p0]) (rest := []) hC lk_RX10_141 kX10 rfl (tX10_isWant _ _ s4 p0) rfl rfl (Nat.le_of_ble_eq_true rfl) ⟨rfl, rfl, Nat.le_of_ble_eq_true rfl, Nat.le_of_ble_eq_true rfl⟩ dX10_isOf_28 (fun r7 s8 => ?_)
      refine g_goto (pc := 31) (tgt := 53) hC dX10_isOf_31 (by decide) ?_
      exact g_zret (pc := 53) hC dX10_isOf_53
  · refine g_aload_n (pc := 9) (q := 0) hC dX10_isOf_9 rfl rfl ?_
    refine g_iload_n (pc := 10) (q := 1) hC dX10_isOf_10 rfl rfl ?_
    refine g_callVz (pc := 11) (As := [.int p0]) (rest := []) hC lk_RX10_117 kX10 rfl (tX10_isFarm _ _ s2 p0) rfl rfl (Nat.le_of_ble_eq_true rfl) ⟨rfl, rfl, Nat.le_of_ble_eq_true rfl, Nat.le_of_ble_eq_true rfl⟩ dX10_isOf_11 (fun r9 s10 => ?_)
    refine g_goto (pc := 14) (tgt := 53) hC dX10_isOf_14 (by decide) ?_
    exact g_zret (pc := 53) hC dX10_isOf_53
theorem dX10_isFit_0 : decode cX10_isFit 0 = .ok (.iload_n 0, 1) := by decide +kernel
theorem dX10_isFit_1 : decode cX10_isFit 1 = .ok (.tableswitch 86 2 9 #[47, 52, 60, 68, 77, 86, 86, 47], 47) := by decide +kernel
theorem dX10_isFit_48 : decode cX10_isFit 48 = .ok (.iload_n 1, 1) := by decide +kernel
theorem dX10_isFit_49 : decode cX10_isFit 49 = .ok (.invokestatic 121, 3) := by decide +kernel
theorem dX10_isFit_52 : decode cX10_isFit 52 = .ok (.ireturn, 1) := by decide +kernel
theorem dX10_isFit_53 : decode cX10_isFit 53 = .ok (.iload_n 1, 1) := by decide +kernel
theorem dX10_isFit_54 : decode cX10_isFit 54 = .ok (.iconst 1, 1) := by decide +kernel
theorem dX10_isFit_55 : decode cX10_isFit 55 = .ok (.bipush 24, 2) := by decide +kernel
theorem dX10_isFit_57 : decode cX10_isFit 57 = .ok (.invokestatic 110, 3) := by decide +kernel
theorem dX10_isFit_60 : decode cX10_isFit 60 = .ok (.ireturn, 1) := by decide +kernel
theorem dX10_isFit_61 : decode cX10_isFit 61 = .ok (.iload_n 1, 1) := by decide +kernel
theorem dX10_isFit_62 : decode cX10_isFit 62 = .ok (.iconst 0, 1) := by decide +kernel
theorem dX10_isFit_63 : decode cX10_isFit 63 = .ok (.bipush 99, 2) := by decide +kernel
theorem dX10_isFit_65 : decode cX10_isFit 65 = .ok (.invokestatic 110, 3) := by decide +kernel
theorem dX10_isFit_68 : decode cX10_isFit 68 = .ok (.ireturn, 1) := by decide +kernel
theorem dX10_isFit_69 : decode cX10_isFit 69 = .ok (.iload_n 1, 1) := by decide +kernel
theorem dX10_isFit_70 : decode cX10_isFit 70 = .ok (.iconst 0, 1) := by decide +kernel
theorem dX10_isFit_71 : decode cX10_isFit 71 = .ok (.sipush 999, 3) := by decide +kernel
theorem dX10_isFit_74 : decode cX10_isFit 74 = .ok (.invokestatic 110, 3) := by decide +kernel
theorem dX10_isFit_77 : decode cX10_isFit 77 = .ok (.ireturn, 1) := by decide +kernel
theorem dX10_isFit_78 : decode cX10_isFit 78 = .ok (.iload_n 1, 1) := by decide +kernel
theorem dX10_isFit_79 : decode cX10_isFit 79 = .ok (.iconst 1, 1) := by decide +kernel
theorem dX10_isFit_80 : decode cX10_isFit 80 = .ok (.sipush 999, 3) := by decide +kernel
theorem dX10_isFit_83 : decode cX10_isFit 83 = .ok (.invokestatic 110, 3) := by decide +kernel
theorem dX10_isFit_86 : decode cX10_isFit 86 = .ok (.ireturn, 1) := by decide +kernel
theorem dX10_isFit_87 : decode cX10_isFit 87 = .ok (.iload_n 1, 1) := by decide +kernel
theorem dX10_isFit_88 : decode cX10_isFit 88 = .ok (.iconst 0, 1) := by decide +kernel
theorem dX10_isFit_89 : decode cX10_isFit 89 = .ok (.bipush 9, 2) := by decide +kernel
theorem dX10_isFit_91 : decode cX10_isFit 91 = .ok (.invokestatic 110, 3) := by decide +kernel
theorem dX10_isFit_94 : decode cX10_isFit 94 = .ok (.ireturn, 1) := by decide +kernel
abbrev rX10_isFit : Room := { frames := 2, cells := 0, slots := 0, locals := 42 }
def mX10_isFit (σ : gS) (p0 : Int32) (p1 : Int32) : Option (Bool × gS) := if p0 = 2 then (gBind (mX10_isDay σ p1) (fun r1 s2 => some (r1, s2))) else (if p0 = 3 then (gBind (mX10_within σ p1 1 24) (fun r3 s4 => some (r3, s4))) else (if p0 = 4 then (gBind (mX10_within σ p1 0 99) (fun r5 s6 => some (r5, s6))) else (if p0 = 5 then (gBind (mX10_within σ p1 0 999) (fun r7 s8 => some (r7, s8))) else (if p0 = 6 then (gBind (mX10_within σ p1 1 999) (fun r9 s10 => some (r9, s10))) else (if p0 = 7 then (gBind (mX10_within σ p1 0 9) (fun r11 s12 => some (r11, s12))) else (if p0 = 8 then (gBind (mX10_within σ p1 0 9) (fun r13 s14 => some (r13, s14))) else (if p0 = 9 then (gBind (mX10_isDay σ p1) (fun r15 s16 => some (r15, s16))) else (gBind (mX10_within σ p1 0 9) (fun r17 s18 => some (r17, s18))))))))))
set_option maxHeartbeats 4000000 in
set_option maxRecDepth 100000 in
theorem tX10_isFit (l : Launch) (G : gE) (σ : gS) (p0 : Int32) (p1 : Int32) : gM l G yX10_isFit cX10_isFit 2 (some .boolean) rX10_isFit iZ [.int p0, .int p1] σ (mX10_isFit σ p0 p1) := by
  refine gM_of (by decide) (Nat.le_of_ble_eq_true rfl) ?_
  intro p e s m args below meth c hC
  unfold mX10_isFit
  show gT p l e rX10_isFit s m args below meth c G 2 iZ σ 0 [(0, .int p0), (1, .int p1)] [] _
  refine g_iload_n (pc := 0) (q := 0) hC dX10_isFit_0 rfl rfl ?_
  refine gT_if (fun c100 => ?_) (fun c100 => ?_)
  · refine g_tabIn (tgt := 48) (off := 47) hC dX10_isFit_1 c100 (by decide) (by decide) (by decide) (by decide) ?_
    refine g_iload_n (pc := 48) (q := 1) hC dX10_isFit_48 rfl rfl ?_
    refine g_callSz (pc := 49) (As := [.int p1]) (rest := []) hC lk_RX10_121 (tX10_isDay _ _ σ p1) rfl rfl (Nat.le_of_ble_eq_true rfl) ⟨rfl, rfl, Nat.le_of_ble_eq_true rfl, Nat.le_of_ble_eq_true rfl⟩ dX10_isFit_49 (fun r1 s2 => ?_)
    exact g_zret (pc := 52) hC dX10_isFit_52
  · refine gT_if (fun c101 => ?_) (fun c101 => ?_)
    · refine g_tabIn (tgt := 53) (off := 52) hC dX10_isFit_1 c101 (by decide) (by decide) (by decide) (by decide) ?_
      refine g_iload_n (pc := 53) (q := 1) hC dX10_isFit_53 rfl rfl ?_
      refine g_iconst (pc := 54) (v := 1) hC dX10_isFit_54 (by decide) ?_
      refine g_bipush (pc := 55) (v := 24) hC dX10_isFit_55 (by decide) ?_
      refine g_callSz (pc := 57) (As := [.int p1, .int 1, .int 24]) (rest := []) hC lk_RX10_110 (tX10_within _ _ σ p1 1 24) rfl rfl (Nat.le_of_ble_eq_true rfl) ⟨rfl, rfl, Nat.le_of_ble_eq_true rfl, Nat.le_of_ble_eq_true rfl⟩ dX10_isFit_57 (fun r3 s4 => ?_)
      exact g_zret (pc := 60) hC dX10_isFit_60
    · refine gT_if (fun c102 => ?_) (fun c102 => ?_)
      · refine g_tabIn (tgt := 61) (off := 60) hC dX10_isFit_1 c102 (by decide) (by decide) (by decide) (by decide) ?_
        refine g_iload_n (pc := 61) (q := 1) hC dX10_isFit_61 rfl rfl ?_
        refine g_iconst (pc := 62) (v := 0) hC dX10_isFit_62 (by decide) ?_
        refine g_bipush (pc := 63) (v := 99) hC dX10_isFit_63 (by decide) ?_
        refine g_callSz (pc := 65) (As := [.int p1, .int 0, .int 99]) (rest := []) hC lk_RX10_110 (tX10_within _ _ σ p1 0 99) rfl rfl (Nat.le_of_ble_eq_true rfl) ⟨rfl, rfl, Nat.le_of_ble_eq_true rfl, Nat.le_of_ble_eq_true rfl⟩ dX10_isFit_65 (fun r5 s6 => ?_)
        exact g_zret (pc := 68) hC dX10_isFit_68
      · refine gT_if (fun c103 => ?_) (fun c103 => ?_)
        · refine g_tabIn (tgt := 69) (off := 68) hC dX10_isFit_1 c103 (by decide) (by decide) (by decide) (by decide) ?_
          refine g_iload_n (pc := 69) (q := 1) hC dX10_isFit_69 rfl rfl ?_
          refine g_iconst (pc := 70) (v := 0) hC dX10_isFit_70 (by decide) ?_
          refine g_sipush (pc := 71) (v := 999) hC dX10_isFit_71 (by decide) ?_
          refine g_callSz (pc := 74) (As := [.int p1, .int 0, .int 999]) (rest := []) hC lk_RX10_110 (tX10_within _ _ σ p1 0 999) rfl rfl (Nat.le_of_ble_eq_true rfl) ⟨rfl, rfl, Nat.le_of_ble_eq_true rfl, Nat.le_of_ble_eq_true rfl⟩ dX10_isFit_74 (fun r7 s8 => ?_)
          exact g_zret (pc := 77) hC dX10_isFit_77
        · refine gT_if (fun c104 => ?_) (fun c104 => ?_)
          · refine g_tabIn (tgt := 78) (off := 77) hC dX10_isFit_1 c104 (by decide) (by decide) (by decide) (by decide) ?_
            refine g_iload_n (pc := 78) (q := 1) hC dX10_isFit_78 rfl rfl ?_
            refine g_iconst (pc := 79) (v := 1) hC dX10_isFit_79 (by decide) ?_
            refine g_sipush (pc := 80) (v := 999) hC dX10_isFit_80 (by decide) ?_
            refine g_callSz (pc := 83) (As := [.int p1, .int 1, .int 999]) (rest := []) hC lk_RX10_110 (tX10_within _ _ σ p1 1 999) rfl rfl (Nat.le_of_ble_eq_true rfl) ⟨rfl, rfl, Nat.le_of_ble_eq_true rfl, Nat.le_of_ble_eq_true rfl⟩ dX10_isFit_83 (fun r9 s10 => ?_)
            exact g_zret (pc := 86) hC dX10_isFit_86
          · refine gT_if (fun c105 => ?_) (fun c105 => ?_)
            · refine g_tabIn (tgt := 87) (off := 86) hC dX10_isFit_1 c105 (by decide) (by decide) (by decide) (by decide) ?_
              refine g_iload_n (pc := 87) (q := 1) hC dX10_isFit_87 rfl rfl ?_
              refine g_iconst (pc := 88) (v := 0) hC dX10_isFit_88 (by decide) ?_
              refine g_bipush (pc := 89) (v := 9) hC dX10_isFit_89 (by decide) ?_
              refine g_callSz (pc := 91) (As := [.int p1, .int 0, .int 9]) (rest := []) hC lk_RX10_110 (tX10_within _ _ σ p1 0 9) rfl rfl (Nat.le_of_ble_eq_true rfl) ⟨rfl, rfl, Nat.le_of_ble_eq_true rfl, Nat.le_of_ble_eq_true rfl⟩ dX10_isFit_91 (fun r11 s12 => ?_)
              exact g_zret (pc := 94) hC dX10_isFit_94
            · refine gT_if (fun c106 => ?_) (fun c106 => ?_)
              · refine g_tabIn (tgt := 87) (off := 86) hC dX10_isFit_1 c106 (by decide) (by decide) (by decide) (by decide) ?_
                refine g_iload_n (pc := 87) (q := 1) hC dX10_isFit_87 rfl rfl ?_
                refine g_iconst (pc := 88) (v := 0) hC dX10_isFit_88 (by decide) ?_
                refine g_bipush (pc := 89) (v := 9) hC dX10_isFit_89 (by decide) ?_
                refine g_callSz (pc := 91) (As := [.int p1, .int 0, .int 9]) (rest := []) hC lk_RX10_110 (tX10_within _ _ σ p1 0 9) rfl rfl (Nat.le_of_ble_eq_true rfl) ⟨rfl, rfl, Nat.le_of_ble_eq_true rfl, Nat.le_of_ble_eq_true rfl⟩ dX10_isFit_91 (fun r13 s14 => ?_)
                exact g_zret (pc := 94) hC dX10_isFit_94
              · refine gT_if (fun c107 => ?_) (fun c107 => ?_)
                · refine g_tabIn (tgt := 48) (off := 47) hC dX10_isFit_1 c107 (by decide) (by decide) (by decide) (by decide) ?_
                  refine g_iload_n (pc := 48) (q := 1) hC dX10_isFit_48 rfl rfl ?_
                  refine g_callSz (pc := 49) (As := [.int p1]) (rest := []) hC lk_RX10_121 (tX10_isDay _ _ σ p1) rfl rfl (Nat.le_of_ble_eq_true rfl) ⟨rfl, rfl, Nat.le_of_ble_eq_true rfl, Nat.le_of_ble_eq_true rfl⟩ dX10_isFit_49 (fun r15 s16 => ?_)
                  exact g_zret (pc := 52) hC dX10_isFit_52
                · refine g_tabOut (tgt := 87) hC dX10_isFit_1 (by have q0 := gne c100 (n := 2) rfl; have q1 := gne c101 (n := 3) rfl; have q2 := gne c102 (n := 4) rfl; have q3 := gne c103 (n := 5) rfl; have q4 := gne c104 (n := 6) rfl; have q5 := gne c105 (n := 7) rfl; have q6 := gne c106 (n := 8) rfl; have q7 := gne c107 (n := 9) rfl; omega) (by decide) ?_
                  refine g_iload_n (pc := 87) (q := 1) hC dX10_isFit_87 rfl rfl ?_
                  refine g_iconst (pc := 88) (v := 0) hC dX10_isFit_88 (by decide) ?_
                  refine g_bipush (pc := 89) (v := 9) hC dX10_isFit_89 (by decide) ?_
                  refine g_callSz (pc := 91) (As := [.int p1, .int 0, .int 9]) (rest := []) hC lk_RX10_110 (tX10_within _ _ σ p1 0 9) rfl rfl (Nat.le_of_ble_eq_true rfl) ⟨rfl, rfl, Nat.le_of_ble_eq_true rfl, Nat.le_of_ble_eq_true rfl⟩ dX10_isFit_91 (fun r17 s18 => ?_)
                  exact g_zret (pc := 94) hC dX10_isFit_94
theorem dX10_get_0 : decode cX10_get 0 = .ok (.iload_n 2, 1) := by decide +kernel
theorem dX10_get_1 : decode cX10_get 1 = .ok (.tableswitch 70 0 4 #[35, 42, 49, 56, 63], 35) := by decide +kernel
theorem dX10_get_36 : decode cX10_get 36 = .ok (.aload_n 0, 1) := by decide +kernel
theorem dX10_get_37 : decode cX10_get 37 = .ok (.getfield 9, 3) := by decide +kernel
theorem dX10_get_40 : decode cX10_get 40 = .ok (.iload_n 1, 1) := by decide +kernel
theorem dX10_get_41 : decode cX10_get 41 = .ok (.iaload, 1) := by decide +kernel
theorem dX10_get_42 : decode cX10_get 42 = .ok (.ireturn, 1) := by decide +kernel
theorem dX10_get_43 : decode cX10_get 43 = .ok (.aload_n 0, 1) := by decide +kernel
theorem dX10_get_44 : decode cX10_get 44 = .ok (.getfield 15, 3) := by decide +kernel
theorem dX10_get_47 : decode cX10_get 47 = .ok (.iload_n 1, 1) := by decide +kernel
theorem dX10_get_48 : decode cX10_get 48 = .ok (.iaload, 1) := by decide +kernel
theorem dX10_get_49 : decode cX10_get 49 = .ok (.ireturn, 1) := by decide +kernel
theorem dX10_get_50 : decode cX10_get 50 = .ok (.aload_n 0, 1) := by decide +kernel
theorem dX10_get_51 : decode cX10_get 51 = .ok (.getfield 21, 3) := by decide +kernel
theorem dX10_get_54 : decode cX10_get 54 = .ok (.iload_n 1, 1) := by decide +kernel
theorem dX10_get_55 : decode cX10_get 55 = .ok (.iaload, 1) := by decide +kernel
theorem dX10_get_56 : decode cX10_get 56 = .ok (.ireturn, 1) := by decide +kernel
theorem dX10_get_57 : decode cX10_get 57 = .ok (.aload_n 0, 1) := by decide +kernel
theorem dX10_get_58 : decode cX10_get 58 = .ok (.getfield 24, 3) := by decide +kernel
theorem dX10_get_61 : decode cX10_get 61 = .ok (.iload_n 1, 1) := by decide +kernel
theorem dX10_get_62 : decode cX10_get 62 = .ok (.iaload, 1) := by decide +kernel
theorem dX10_get_63 : decode cX10_get 63 = .ok (.ireturn, 1) := by decide +kernel
theorem dX10_get_64 : decode cX10_get 64 = .ok (.aload_n 0, 1) := by decide +kernel
theorem dX10_get_65 : decode cX10_get 65 = .ok (.getfield 27, 3) := by decide +kernel
theorem dX10_get_68 : decode cX10_get 68 = .ok (.iload_n 1, 1) := by decide +kernel
theorem dX10_get_69 : decode cX10_get 69 = .ok (.iaload, 1) := by decide +kernel
theorem dX10_get_70 : decode cX10_get 70 = .ok (.ireturn, 1) := by decide +kernel
theorem dX10_get_71 : decode cX10_get 71 = .ok (.aload_n 0, 1) := by decide +kernel
theorem dX10_get_72 : decode cX10_get 72 = .ok (.getfield 30, 3) := by decide +kernel
theorem dX10_get_75 : decode cX10_get 75 = .ok (.iload_n 2, 1) := by decide +kernel
theorem dX10_get_76 : decode cX10_get 76 = .ok (.iconst 5, 1) := by decide +kernel
theorem dX10_get_77 : decode cX10_get 77 = .ok (.isub, 1) := by decide +kernel
theorem dX10_get_78 : decode cX10_get 78 = .ok (.iaload, 1) := by decide +kernel
theorem dX10_get_79 : decode cX10_get 79 = .ok (.ireturn, 1) := by decide +kernel
abbrev rX10_get : Room := { frames := 0, cells := 0, slots := 0, locals := 0 }
def mX10_get (σ : gS) (p0 : Int32) (p1 : Int32) : Option (Int32 × gS) := if p1 = 0 then (if inbB p0 6 = true then (some ((σ.1 53 (Int32.toNatClampNeg p0)), σ)) else none) else (if p1 = 1 then (if inbB p0 6 = true then (some ((σ.1 54 (Int32.toNatClampNeg p0)), σ)) else none) else (if p1 = 2 then (if inbB p0 12 = true then (some ((σ.1 56 (Int32.toNatClampNeg p0)), σ)) else none) else (if p1 = 3 then (if inbB p0 12 = true then (some ((σ.1 57 (Int32.toNatClampNeg p0)), σ)) else none) else (if p1 = 4 then (if inbB p0 12 = true then (some ((σ.1 58 (Int32.toNatClampNeg p0)), σ)) else none) else (if inbB (p1 - 5) 5 = true then (some ((σ.1 59 (Int32.toNatClampNeg (p1 - 5))), σ)) else none)))))
set_option maxHeartbeats 4000000 in
set_option maxRecDepth 100000 in
theorem tX10_get (l : Launch) (G : gE) (σ : gS) (p0 : Int32) (p1 : Int32) : gM l G yX10_get cX10_get 3 (some .int) rX10_get iI [.ref (G.2.1 52), .int p0, .int p1] σ (mX10_get σ p0 p1) := by
  refine gM_of (by decide) (Nat.le_of_ble_eq_true rfl) ?_
  intro p e s m args below meth c hC
  unfold mX10_get
  show gT p l e rX10_get s m args below meth c G 3 iI σ 0 [(0, .ref (G.2.1 52)), (1, .int p0), (2, .int p1)] [] _
  refine g_iload_n (pc := 0) (q := 2) hC dX10_get_0 rfl rfl ?_
  refine gT_if (fun c100 => ?_) (fun c100 => ?_)
  · refine g_tabIn (tgt := 36) (off := 35) hC dX10_get_1 c100 (by decide) (by decide) (by decide) (by decide) ?_
    refine g_aload_n (pc := 36) (q := 0) hC dX10_get_36 rfl rfl ?_
    refine g_get (pc := 37) (v := .ref (G.2.1 53)) hC kX10 rfl 1 (by decide) fl_RX10_9 rfl dX10_get_37 ?_
    refine g_iload_n (pc := 40) (q := 1) hC dX10_get_40 rfl rfl ?_
    refine g_iald (pc := 41) hC 6 rfl (by decide) dX10_get_41 ?_
    exact g_iret (pc := 42) hC dX10_get_42
  · refine gT_if (fun c101 => ?_) (fun c101 => ?_)
    · refine g_tabIn (tgt := 43) (off := 42) hC dX10_get_1 c101 (by decide) (by decide) (by decide) (by decide) ?_
      refine g_aload_n (pc := 43) (q := 0) hC dX10_get_43 rfl rfl ?_
      refine g_get (pc := 44) (v := .ref (G.2.1 54)) hC kX10 rfl 2 (by decide) fl_RX10_15 rfl dX10_get_44 ?_
      refine g_iload_n (pc := 47) (q := 1) hC dX10_get_47 rfl rfl ?_
      refine g_iald (pc := 48) hC 6 rfl (by decide) dX10_get_48 ?_
      exact g_iret (pc := 49) hC dX10_get_49
    · refine gT_if (fun c102 => ?_) (fun c102 => ?_)
      · refine g_tabIn (tgt := 50) (off := 49) hC dX10_get_1 c102 (by decide) (by decide) (by decide) (by decide) ?_
        refine g_aload_n (pc := 50) (q := 0) hC dX10_get_50 rfl rfl ?_
        refine g_get (pc := 51) (v := .ref (G.2.1 56)) hC kX10 rfl 5 (by decide) fl_RX10_21 rfl dX10_get_51 ?_
        refine g_iload_n (pc := 54) (q := 1) hC dX10_get_54 rfl rfl ?_
        refine g_iald (pc := 55) hC 12 rfl (by decide) dX10_get_55 ?_
        exact g_iret (pc := 56) hC dX10_get_56
      · refine gT_if (fun c103 => ?_) (fun c103 => ?_)
        · refine g_tabIn (tgt := 57) (off := 56) hC dX10_get_1 c103 (by decide) (by decide) (by decide) (by decide) ?_
          refine g_aload_n (pc := 57) (q := 0) hC dX10_get_57 rfl rfl ?_
          refine g_get (pc := 58) (v := .ref (G.2.1 57)) hC kX10 rfl 6 (by decide) fl_RX10_24 rfl dX10_get_58 ?_
          refine g_iload_n (pc := 61) (q := 1) hC dX10_get_61 rfl rfl ?_
          refine g_iald (pc := 62) hC 12 rfl (by decide) dX10_get_62 ?_
          exact g_iret (pc := 63) hC dX10_get_63
        · refine gT_if (fun c104 => ?_) (fun c104 => ?_)
          · refine g_tabIn (tgt := 64) (off := 63) hC dX10_get_1 c104 (by decide) (by decide) (by decide) (by decide) ?_
            refine g_aload_n (pc := 64) (q := 0) hC dX10_get_64 rfl rfl ?_
            refine g_get (pc := 65) (v := .ref (G.2.1 58)) hC kX10 rfl 7 (by decide) fl_RX10_27 rfl dX10_get_65 ?_
            refine g_iload_n (pc := 68) (q := 1) hC dX10_get_68 rfl rfl ?_
            refine g_iald (pc := 69) hC 12 rfl (by decide) dX10_get_69 ?_
            exact g_iret (pc := 70) hC dX10_get_70
          · refine g_tabOut (tgt := 71) hC dX10_get_1 (by have q0 := gne c100 (n := 0) rfl; have q1 := gne c101 (n := 1) rfl; have q2 := gne c102 (n := 2) rfl; have q3 := gne c103 (n := 3) rfl; have q4 := gne c104 (n := 4) rfl; omega) (by decide) ?_
            refine g_aload_n (pc := 71) (q := 0) hC dX10_get_71 rfl rfl ?_
            refine g_get (pc := 72) (v := .ref (G.2.1 59)) hC kX10 rfl 8 (by decide) fl_RX10_30 rfl dX10_get_72 ?_
            refine g_iload_n (pc := 75) (q := 2) hC dX10_get_75 rfl rfl ?_
            refine g_iconst (pc := 76) (v := 5) hC dX10_get_76 (by decide) ?_
            refine g_isub (pc := 77) hC dX10_get_77 ?_
            refine g_iald (pc := 78) hC 5 rfl (by decide) dX10_get_78 ?_
            exact g_iret (pc := 79) hC dX10_get_79
theorem dX10_becomes_0 : decode cX10_becomes 0 = .ok (.iload_n 2, 1) := by decide +kernel
theorem dX10_becomes_1 : decode cX10_becomes 1 = .ok (.tableswitch 75 0 4 #[35, 43, 51, 59, 67], 35) := by decide +kernel
theorem dX10_becomes_36 : decode cX10_becomes 36 = .ok (.aload_n 0, 1) := by decide +kernel
theorem dX10_becomes_37 : decode cX10_becomes 37 = .ok (.getfield 9, 3) := by decide +kernel
theorem dX10_becomes_40 : decode cX10_becomes 40 = .ok (.iload_n 1, 1) := by decide +kernel
theorem dX10_becomes_41 : decode cX10_becomes 41 = .ok (.iload_n 3, 1) := by decide +kernel
theorem dX10_becomes_42 : decode cX10_becomes 42 = .ok (.iastore, 1) := by decide +kernel
theorem dX10_becomes_43 : decode cX10_becomes 43 = .ok (.return_, 1) := by decide +kernel
theorem dX10_becomes_44 : decode cX10_becomes 44 = .ok (.aload_n 0, 1) := by decide +kernel
theorem dX10_becomes_45 : decode cX10_becomes 45 = .ok (.getfield 15, 3) := by decide +kernel
theorem dX10_becomes_48 : decode cX10_becomes 48 = .ok (.iload_n 1, 1) := by decide +kernel
theorem dX10_becomes_49 : decode cX10_becomes 49 = .ok (.iload_n 3, 1) := by decide +kernel
theorem dX10_becomes_50 : decode cX10_becomes 50 = .ok (.iastore, 1) := by decide +kernel
theorem dX10_becomes_51 : decode cX10_becomes 51 = .ok (.return_, 1) := by decide +kernel
theorem dX10_becomes_52 : decode cX10_becomes 52 = .ok (.aload_n 0, 1) := by decide +kernel
theorem dX10_becomes_53 : decode cX10_becomes 53 = .ok (.getfield 21, 3) := by decide +kernel
theorem dX10_becomes_56 : decode cX10_becomes 56 = .ok (.iload_n 1, 1) := by decide +kernel
theorem dX10_becomes_57 : decode cX10_becomes 57 = .ok (.iload_n 3, 1) := by decide +kernel
theorem dX10_becomes_58 : decode cX10_becomes 58 = .ok (.iastore, 1) := by decide +kernel
theorem dX10_becomes_59 : decode cX10_becomes 59 = .ok (.return_, 1) := by decide +kernel
theorem dX10_becomes_60 : decode cX10_becomes 60 = .ok (.aload_n 0, 1) := by decide +kernel
theorem dX10_becomes_61 : decode cX10_becomes 61 = .ok (.getfield 24, 3) := by decide +kernel
theorem dX10_becomes_64 : decode cX10_becomes 64 = .ok (.iload_n 1, 1) := by decide +kernel
theorem dX10_becomes_65 : decode cX10_becomes 65 = .ok (.iload_n 3, 1) := by decide +kernel
theorem dX10_becomes_66 : decode cX10_becomes 66 = .ok (.iastore, 1) := by decide +kernel
theorem dX10_becomes_67 : decode cX10_becomes 67 = .ok (.return_, 1) := by decide +kernel
theorem dX10_becomes_68 : decode cX10_becomes 68 = .ok (.aload_n 0, 1) := by decide +kernel
theorem dX10_becomes_69 : decode cX10_becomes 69 = .ok (.getfield 27, 3) := by decide +kernel
theorem dX10_becomes_72 : decode cX10_becomes 72 = .ok (.iload_n 1, 1) := by decide +kernel
theorem dX10_becomes_73 : decode cX10_becomes 73 = .ok (.iload_n 3, 1) := by decide +kernel
theorem dX10_becomes_74 : decode cX10_becomes 74 = .ok (.iastore, 1) := by decide +kernel
theorem dX10_becomes_75 : decode cX10_becomes 75 = .ok (.return_, 1) := by decide +kernel
theorem dX10_becomes_76 : decode cX10_becomes 76 = .ok (.aload_n 0, 1) := by decide +kernel
theorem dX10_becomes_77 : decode cX10_becomes 77 = .ok (.getfield 30, 3) := by decide +kernel
theorem dX10_becomes_80 : decode cX10_becomes 80 = .ok (.iload_n 2, 1) := by decide +kernel
theorem dX10_becomes_81 : decode cX10_becomes 81 = .ok (.iconst 5, 1) := by decide +kernel
theorem dX10_becomes_82 : decode cX10_becomes 82 = .ok (.isub, 1) := by decide +kernel
theorem dX10_becomes_83 : decode cX10_becomes 83 = .ok (.iload_n 3, 1) := by decide +kernel
theorem dX10_becomes_84 : decode cX10_becomes 84 = .ok (.iastore, 1) := by decide +kernel
theorem dX10_becomes_85 : decode cX10_becomes 85 = .ok (.return_, 1) := by decide +kernel
abbrev rX10_becomes : Room := { frames := 0, cells := 0, slots := 0, locals := 0 }
def mX10_becomes (σ : gS) (p0 : Int32) (p1 : Int32) (p2 : Int32) : Option (Unit × gS) := if p1 = 0 then (if inbB p0 6 = true then gLet (gUI σ 53 (Int32.toNatClampNeg p0) p2) (fun s1 => some ((), s1)) else none) else (if p1 = 1 then (if inbB p0 6 = true then gLet (gUI σ 54 (Int32.toNatClampNeg p0) p2) (fun s2 => some ((), s2)) else none) else (if p1 = 2 then (if inbB p0 12 = true then gLet (gUI σ 56 (Int32.toNatClampNeg p0) p2) (fun s3 => some ((), s3)) else none) else (if p1 = 3 then (if inbB p0 12 = true then gLet (gUI σ 57 (Int32.toNatClampNeg p0) p2) (fun s4 => some ((), s4)) else none) else (if p1 = 4 then (if inbB p0 12 = true then gLet (gUI σ 58 (Int32.toNatClampNeg p0) p2) (fun s5 => some ((), s5)) else none) else (if inbB (p1 - 5) 5 = true then gLet (gUI σ 59 (Int32.toNatClampNeg (p1 - 5)) p2) (fun s6 => some ((), s6)) else none)))))
set_option maxHeartbeats 4000000 in
set_option maxRecDepth 100000 in
theorem tX10_becomes (l : Launch) (G : gE) (σ : gS) (p0 : Int32) (p1 : Int32) (p2 : Int32) : gM l G yX10_becomes cX10_becomes 4 (none) rX10_becomes iV [.ref (G.2.1 52), .int p0, .int p1, .int p2] σ (mX10_becomes σ p0 p1 p2) := by
  refine gM_of (by decide) (Nat.le_of_ble_eq_true rfl) ?_
  intro p e s m args below meth c hC
  unfold mX10_becomes
  show gT p l e rX10_becomes s m args below meth c G 4 iV σ 0 [(0, .ref (G.2.1 52)), (1, .int p0), (2, .int p1), (3, .int p2)] [] _
  refine g_iload_n (pc := 0) (q := 2) hC dX10_becomes_0 rfl rfl ?_
  refine gT_if (fun c100 => ?_) (fun c100 => ?_)
  · refine g_tabIn (tgt := 36) (off := 35) hC dX10_becomes_1 c100 (by decide) (by decide) (by decide) (by decide) ?_
    refine g_aload_n (pc := 36) (q := 0) hC dX10_becomes_36 rfl rfl ?_
    refine g_get (pc := 37) (v := .ref (G.2.1 53)) hC kX10 rfl 1 (by decide) fl_RX10_9 rfl dX10_becomes_37 ?_
    refine g_iload_n (pc := 40) (q := 1) hC dX10_becomes_40 rfl rfl ?_
    refine g_iload_n (pc := 41) (q := 3) hC dX10_becomes_41 rfl rfl ?_
    refine g_iast (pc := 42) hC 6 rfl (by decide) dX10_becomes_42 (fun s1 => ?_)
    exact g_vret (pc := 43) hC dX10_becomes_43
  · refine gT_if (fun c101 => ?_) (fun c101 => ?_)
    · refine g_tabIn (tgt := 44) (off := 43) hC dX10_becomes_1 c101 (by decide) (by decide) (by decide) (by decide) ?_
      refine g_aload_n (pc := 44) (q := 0) hC dX10_becomes_44 rfl rfl ?_
      refine g_get (pc := 45) (v := .ref (G.2.1 54)) hC kX10 rfl 2 (by decide) fl_RX10_15 rfl dX10_becomes_45 ?_
      refine g_iload_n (pc := 48) (q := 1) hC dX10_becomes_48 rfl rfl ?_
      refine g_iload_n (pc := 49) (q := 3) hC dX10_becomes_49 rfl rfl ?_
      refine g_iast (pc := 50) hC 6 rfl (by decide) dX10_becomes_50 (fun s2 => ?_)
      exact g_vret (pc := 51) hC dX10_becomes_51
    · refine gT_if (fun c102 => ?_) (fun c102 => ?_)
      · refine g_tabIn (tgt := 52) (off := 51) hC dX10_becomes_1 c102 (by decide) (by decide) (by decide) (by decide) ?_
        refine g_aload_n (pc := 52) (q := 0) hC dX10_becomes_52 rfl rfl ?_
        refine g_get (pc := 53) (v := .ref (G.2.1 56)) hC kX10 rfl 5 (by decide) fl_RX10_21 rfl dX10_becomes_53 ?_
        refine g_iload_n (pc := 56) (q := 1) hC dX10_becomes_56 rfl rfl ?_
        refine g_iload_n (pc := 57) (q := 3) hC dX10_becomes_57 rfl rfl ?_
        refine g_iast (pc := 58) hC 12 rfl (by decide) dX10_becomes_58 (fun s3 => ?_)
        exact g_vret (pc := 59) hC dX10_becomes_59
      · refine gT_if (fun c103 => ?_) (fun c103 => ?_)
        · refine g_tabIn (tgt := 60) (off := 59) hC dX10_becomes_1 c103 (by decide) (by decide) (by decide) (by decide) ?_
          refine g_aload_n (pc := 60) (q := 0) hC dX10_becomes_60 rfl rfl ?_
          refine g_get (pc := 61) (v := .ref (G.2.1 57)) hC kX10 rfl 6 (by decide) fl_RX10_24 rfl dX10_becomes_61 ?_
          refine g_iload_n (pc := 64) (q := 1) hC dX10_becomes_64 rfl rfl ?_
          refine g_iload_n (pc := 65) (q := 3) hC dX10_becomes_65 rfl rfl ?_
          refine g_iast (pc := 66) hC 12 rfl (by decide) dX10_becomes_66 (fun s4 => ?_)
          exact g_vret (pc := 67) hC dX10_becomes_67
        · refine gT_if (fun c104 => ?_) (fun c104 => ?_)
          · refine g_tabIn (tgt := 68) (off := 67) hC dX10_becomes_1 c104 (by decide) (by decide) (by decide) (by decide) ?_
            refine g_aload_n (pc := 68) (q := 0) hC dX10_becomes_68 rfl rfl ?_
            refine g_get (pc := 69) (v := .ref (G.2.1 58)) hC kX10 rfl 7 (by decide) fl_RX10_27 rfl dX10_becomes_69 ?_
            refine g_iload_n (pc := 72) (q := 1) hC dX10_becomes_72 rfl rfl ?_
            refine g_iload_n (pc := 73) (q := 3) hC dX10_becomes_73 rfl rfl ?_
            refine g_iast (pc := 74) hC 12 rfl (by decide) dX10_becomes_74 (fun s5 => ?_)
            exact g_vret (pc := 75) hC dX10_becomes_75
          · refine g_tabOut (tgt := 76) hC dX10_becomes_1 (by have q0 := gne c100 (n := 0) rfl; have q1 := gne c101 (n := 1) rfl; have q2 := gne c102 (n := 2) rfl; have q3 := gne c103 (n := 3) rfl; have q4 := gne c104 (n := 4) rfl; omega) (by decide) ?_
            refine g_aload_n (pc := 76) (q := 0) hC dX10_becomes_76 rfl rfl ?_
            refine g_get (pc := 77) (v := .ref (G.2.1 59)) hC kX10 rfl 8 (by decide) fl_RX10_30 rfl dX10_becomes_77 ?_
            refine g_iload_n (pc := 80) (q := 2) hC dX10_becomes_80 rfl rfl ?_
            refine g_iconst (pc := 81) (v := 5) hC dX10_becomes_81 (by decide) ?_
            refine g_isub (pc := 82) hC dX10_becomes_82 ?_
            refine g_iload_n (pc := 83) (q := 3) hC dX10_becomes_83 rfl rfl ?_
            refine g_iast (pc := 84) hC 5 rfl (by decide) dX10_becomes_84 (fun s6 => ?_)
            exact g_vret (pc := 85) hC dX10_becomes_85
theorem fl_RX10_158 : Cond.fieldLink RX10 158 "WinterShedModel" "done" "I" ∈ gBig := (gBig_tab 1084 (by decide +kernel) (by decide +kernel))
theorem fl_RX10_161 : Cond.fieldLink RX10 161 "WinterShedModel" "changes" "I" ∈ gBig := (gBig_tab 1083 (by decide +kernel) (by decide +kernel))
theorem lk_RX10_154 : gLV RX10 154 RX10 yX10_becomes cX10_becomes 4 (none) 3 := ⟨(gBig_tab 1255 (by decide +kernel) (by decide +kernel)), (gBig_tab 1257 (by decide +kernel) (by decide +kernel)), (gBig_sel 51 (by decide +kernel) (by decide +kernel)), (gBig_tab 11 (by decide +kernel) (by decide +kernel)), (gBig_tab 1258 (by decide +kernel) (by decide +kernel)), rfl, by decide +kernel, by decide +kernel, by decide +kernel⟩
theorem lk_RX10_151 : gLV RX10 151 RX10 yX10_get cX10_get 3 (some .int) 2 := ⟨(gBig_tab 1251 (by decide +kernel) (by decide +kernel)), (gBig_tab 1253 (by decide +kernel) (by decide +kernel)), (gBig_sel 50 (by decide +kernel) (by decide +kernel)), (gBig_tab 11 (by decide +kernel) (by decide +kernel)), (gBig_tab 1254 (by decide +kernel) (by decide +kernel)), rfl, by decide +kernel, by decide +kernel, by decide +kernel⟩
theorem lk_RX10_148 : gLS RX10 148 yX10_isFit cX10_isFit 2 (some .boolean) 2 := ⟨(gBig_tab 1248 (by decide +kernel) (by decide +kernel)), (gBig_tab 1249 (by decide +kernel) (by decide +kernel)), (gBig_tab 11 (by decide +kernel) (by decide +kernel)), (gBig_tab 1250 (by decide +kernel) (by decide +kernel)), by decide +kernel, by decide +kernel, by decide +kernel⟩
theorem lk_RX10_144 : gLV RX10 144 RX10 yX10_isOf cX10_isOf 3 (some .boolean) 2 := ⟨(gBig_tab 1240 (by decide +kernel) (by decide +kernel)), (gBig_tab 1242 (by decide +kernel) (by decide +kernel)), (gBig_sel 48 (by decide +kernel) (by decide +kernel)), (gBig_tab 11 (by decide +kernel) (by decide +kernel)), (gBig_tab 1243 (by decide +kernel) (by decide +kernel)), rfl, by decide +kernel, by decide +kernel, by decide +kernel⟩
theorem dX10_mend_0 : decode cX10_mend 0 = .ok (.aload_n 0, 1) := by decide +kernel
theorem dX10_mend_1 : decode cX10_mend 1 = .ok (.iload_n 1, 1) := by decide +kernel
theorem dX10_mend_2 : decode cX10_mend 2 = .ok (.iload_n 2, 1) := by decide +kernel
theorem dX10_mend_3 : decode cX10_mend 3 = .ok (.invokevirtual 144, 3) := by decide +kernel
theorem dX10_mend_6 : decode cX10_mend 6 = .ok (.ifCond .eq 11, 3) := by decide +kernel
theorem dX10_mend_9 : decode cX10_mend 9 = .ok (.iload_n 2, 1) := by decide +kernel
theorem dX10_mend_10 : decode cX10_mend 10 = .ok (.iload_n 3, 1) := by decide +kernel
theorem dX10_mend_11 : decode cX10_mend 11 = .ok (.invokestatic 148, 3) := by decide +kernel
theorem dX10_mend_14 : decode cX10_mend 14 = .ok (.ifCond .ne 5, 3) := by decide +kernel
theorem dX10_mend_17 : decode cX10_mend 17 = .ok (.iconst (-1), 1) := by decide +kernel
theorem dX10_mend_18 : decode cX10_mend 18 = .ok (.ireturn, 1) := by decide +kernel
theorem dX10_mend_19 : decode cX10_mend 19 = .ok (.aload_n 0, 1) := by decide +kernel
theorem dX10_mend_20 : decode cX10_mend 20 = .ok (.iload_n 1, 1) := by decide +kernel
theorem dX10_mend_21 : decode cX10_mend 21 = .ok (.iload_n 2, 1) := by decide +kernel
theorem dX10_mend_22 : decode cX10_mend 22 = .ok (.invokevirtual 151, 3) := by decide +kernel
theorem dX10_mend_25 : decode cX10_mend 25 = .ok (.istore 4, 2) := by decide +kernel
theorem dX10_mend_27 : decode cX10_mend 27 = .ok (.iload 4, 2) := by decide +kernel
theorem dX10_mend_29 : decode cX10_mend 29 = .ok (.iload_n 3, 1) := by decide +kernel
theorem dX10_mend_30 : decode cX10_mend 30 = .ok (.if_icmp .ne 6, 3) := by decide +kernel
theorem dX10_mend_33 : decode cX10_mend 33 = .ok (.iload 4, 2) := by decide +kernel
theorem dX10_mend_35 : decode cX10_mend 35 = .ok (.ireturn, 1) := by decide +kernel
theorem dX10_mend_36 : decode cX10_mend 36 = .ok (.aload_n 0, 1) := by decide +kernel
theorem dX10_mend_37 : decode cX10_mend 37 = .ok (.iload_n 1, 1) := by decide +kernel
theorem dX10_mend_38 : decode cX10_mend 38 = .ok (.iload_n 2, 1) := by decide +kernel
theorem dX10_mend_39 : decode cX10_mend 39 = .ok (.iload_n 3, 1) := by decide +kernel
theorem dX10_mend_40 : decode cX10_mend 40 = .ok (.invokevirtual 154, 3) := by decide +kernel
theorem dX10_mend_43 : decode cX10_mend 43 = .ok (.aload_n 0, 1) := by decide +kernel
theorem dX10_mend_44 : decode cX10_mend 44 = .ok (.getfield 158, 3) := by decide +kernel
theorem dX10_mend_47 : decode cX10_mend 47 = .ok (.bipush 40, 2) := by decide +kernel
theorem dX10_mend_49 : decode cX10_mend 49 = .ok (.if_icmp .ne 46, 3) := by decide +kernel
theorem dX10_mend_52 : decode cX10_mend 52 = .ok (.iconst 0, 1) := by decide +kernel
theorem dX10_mend_53 : decode cX10_mend 53 = .ok (.istore 5, 2) := by decide +kernel
theorem dX10_mend_55 : decode cX10_mend 55 = .ok (.iload 5, 2) := by decide +kernel
theorem dX10_mend_57 : decode cX10_mend 57 = .ok (.sipush 156, 3) := by decide +kernel
theorem dX10_mend_60 : decode cX10_mend 60 = .ok (.if_icmp .ge 25, 3) := by decide +kernel
theorem dX10_mend_63 : decode cX10_mend 63 = .ok (.aload_n 0, 1) := by decide +kernel
theorem dX10_mend_64 : decode cX10_mend 64 = .ok (.getfield 72, 3) := by decide +kernel
theorem dX10_mend_67 : decode cX10_mend 67 = .ok (.iload 5, 2) := by decide +kernel
theorem dX10_mend_69 : decode cX10_mend 69 = .ok (.aload_n 0, 1) := by decide +kernel
theorem dX10_mend_70 : decode cX10_mend 70 = .ok (.getfield 72, 3) := by decide +kernel
theorem dX10_mend_73 : decode cX10_mend 73 = .ok (.iload 5, 2) := by decide +kernel
theorem dX10_mend_75 : decode cX10_mend 75 = .ok (.iconst 4, 1) := by decide +kernel
theorem dX10_mend_76 : decode cX10_mend 76 = .ok (.iadd, 1) := by decide +kernel
theorem dX10_mend_77 : decode cX10_mend 77 = .ok (.iaload, 1) := by decide +kernel
theorem dX10_mend_78 : decode cX10_mend 78 = .ok (.iastore, 1) := by decide +kernel
theorem dX10_mend_79 : decode cX10_mend 79 = .ok (.iinc 5 1, 3) := by decide +kernel
theorem dX10_mend_82 : decode cX10_mend 82 = .ok (.goto (-27), 3) := by decide +kernel
theorem dX10_mend_85 : decode cX10_mend 85 = .ok (.aload_n 0, 1) := by decide +kernel
theorem dX10_mend_86 : decode cX10_mend 86 = .ok (.dup, 1) := by decide +kernel
theorem dX10_mend_87 : decode cX10_mend 87 = .ok (.getfield 158, 3) := by decide +kernel
theorem dX10_mend_90 : decode cX10_mend 90 = .ok (.iconst 1, 1) := by decide +kernel
theorem dX10_mend_91 : decode cX10_mend 91 = .ok (.isub, 1) := by decide +kernel
theorem dX10_mend_92 : decode cX10_mend 92 = .ok (.putfield 158, 3) := by decide +kernel
theorem dX10_mend_95 : decode cX10_mend 95 = .ok (.aload_n 0, 1) := by decide +kernel
theorem dX10_mend_96 : decode cX10_mend 96 = .ok (.getfield 72, 3) := by decide +kernel
theorem dX10_mend_99 : decode cX10_mend 99 = .ok (.iconst 4, 1) := by decide +kernel
theorem dX10_mend_100 : decode cX10_mend 100 = .ok (.aload_n 0, 1) := by decide +kernel
theorem dX10_mend_101 : decode cX10_mend 101 = .ok (.getfield 158, 3) := by decide +kernel
theorem dX10_mend_104 : decode cX10_mend 104 = .ok (.imul, 1) := by decide +kernel
theorem dX10_mend_105 : decode cX10_mend 105 = .ok (.iload_n 1, 1) := by decide +kernel
theorem dX10_mend_106 : decode cX10_mend 106 = .ok (.iastore, 1) := by decide +kernel
theorem dX10_mend_107 : decode cX10_mend 107 = .ok (.aload_n 0, 1) := by decide +kernel
theorem dX10_mend_108 : decode cX10_mend 108 = .ok (.getfield 72, 3) := by decide +kernel
theorem dX10_mend_111 : decode cX10_mend 111 = .ok (.iconst 4, 1) := by decide +kernel
theorem dX10_mend_112 : decode cX10_mend 112 = .ok (.aload_n 0, 1) := by decide +kernel
theorem dX10_mend_113 : decode cX10_mend 113 = .ok (.getfield 158, 3) := by decide +kernel
theorem dX10_mend_116 : decode cX10_mend 116 = .ok (.imul, 1) := by decide +kernel
theorem dX10_mend_117 : decode cX10_mend 117 = .ok (.iconst 1, 1) := by decide +kernel
theorem dX10_mend_118 : decode cX10_mend 118 = .ok (.iadd, 1) := by decide +kernel
theorem dX10_mend_119 : decode cX10_mend 119 = .ok (.iload_n 2, 1) := by decide +kernel
theorem dX10_mend_120 : decode cX10_mend 120 = .ok (.iastore, 1) := by decide +kernel
theorem dX10_mend_121 : decode cX10_mend 121 = .ok (.aload_n 0, 1) := by decide +kernel
theorem dX10_mend_122 : decode cX10_mend 122 = .ok (.getfield 72, 3) := by decide +kernel
theorem dX10_mend_125 : decode cX10_mend 125 = .ok (.iconst 4, 1) := by decide +kernel
theorem dX10_mend_126 : decode cX10_mend 126 = .ok (.aload_n 0, 1) := by decide +kernel
theorem dX10_mend_127 : decode cX10_mend 127 = .ok (.getfield 158, 3) := by decide +kernel
theorem dX10_mend_130 : decode cX10_mend 130 = .ok (.imul, 1) := by decide +kernel
theorem dX10_mend_131 : decode cX10_mend 131 = .ok (.iconst 2, 1) := by decide +kernel
theorem dX10_mend_132 : decode cX10_mend 132 = .ok (.iadd, 1) := by decide +kernel
theorem dX10_mend_133 : decode cX10_mend 133 = .ok (.iload 4, 2) := by decide +kernel
theorem dX10_mend_135 : decode cX10_mend 135 = .ok (.iastore, 1) := by decide +kernel
theorem dX10_mend_136 : decode cX10_mend 136 = .ok (.aload_n 0, 1) := by decide +kernel
theorem dX10_mend_137 : decode cX10_mend 137 = .ok (.getfield 72, 3) := by decide +kernel
theorem dX10_mend_140 : decode cX10_mend 140 = .ok (.iconst 4, 1) := by decide +kernel
theorem dX10_mend_141 : decode cX10_mend 141 = .ok (.aload_n 0, 1) := by decide +kernel
theorem dX10_mend_142 : decode cX10_mend 142 = .ok (.getfield 158, 3) := by decide +kernel
theorem dX10_mend_145 : decode cX10_mend 145 = .ok (.imul, 1) := by decide +kernel
theorem dX10_mend_146 : decode cX10_mend 146 = .ok (.iconst 3, 1) := by decide +kernel
theorem dX10_mend_147 : decode cX10_mend 147 = .ok (.iadd, 1) := by decide +kernel
theorem dX10_mend_148 : decode cX10_mend 148 = .ok (.iload_n 3, 1) := by decide +kernel
theorem dX10_mend_149 : decode cX10_mend 149 = .ok (.iastore, 1) := by decide +kernel
theorem dX10_mend_150 : decode cX10_mend 150 = .ok (.aload_n 0, 1) := by decide +kernel
theorem dX10_mend_151 : decode cX10_mend 151 = .ok (.dup, 1) := by decide +kernel
theorem dX10_mend_152 : decode cX10_mend 152 = .ok (.getfield 158, 3) := by decide +kernel
theorem dX10_mend_155 : decode cX10_mend 155 = .ok (.iconst 1, 1) := by decide +kernel
theorem dX10_mend_156 : decode cX10_mend 156 = .ok (.iadd, 1) := by decide +kernel
theorem dX10_mend_157 : decode cX10_mend 157 = .ok (.putfield 158, 3) := by decide +kernel
theorem dX10_mend_160 : decode cX10_mend 160 = .ok (.aload_n 0, 1) := by decide +kernel
theorem dX10_mend_161 : decode cX10_mend 161 = .ok (.aload_n 0, 1) := by decide +kernel
theorem dX10_mend_162 : decode cX10_mend 162 = .ok (.getfield 158, 3) := by decide +kernel
theorem dX10_mend_165 : decode cX10_mend 165 = .ok (.putfield 161, 3) := by decide +kernel
theorem dX10_mend_168 : decode cX10_mend 168 = .ok (.iload 4, 2) := by decide +kernel
theorem dX10_mend_170 : decode cX10_mend 170 = .ok (.ireturn, 1) := by decide +kernel
abbrev rX10_mend : Room := { frames := 3, cells := 0, slots := 0, locals := 65 }
def mX10_mend_b95    (σ : gS) (x10 : Int32) (x11 : Int32) (x12 : Int32) (x13 : Int32) : Option (Int32 × gS) := if inbB (4 * (σ.1 52 31)) 160 = true then gLet (gUI σ 73 (Int32.toNatClampNeg (4 * (σ.1 52 31))) x10) (fun s14 => if inbB ((4 * (s14.1 52 31)) + 1) 160 = true then gLet (gUI s14 73 (Int32.toNatClampNeg ((4 * (s14.1 52 31)) + 1)) x11) (fun s15 => if inbB ((4 * (s15.1 52 31)) + 2) 160 = true then gLet (gUI s15 73 (Int32.toNatClampNeg ((4 * (s15.1 52 31)) + 2)) x13) (fun s16 => if inbB ((4 * (s16.1 52 31)) + 3) 160 = true then gLet (gUI s16 73 (Int32.toNatClampNeg ((4 * (s16.1 52 31)) + 3)) x12) (fun s17 => gLet (gUI s17 52 31 ((s17.1 52 31) + 1)) (fun s18 => gLet (gUI s18 52 30 (s18.1 52 31)) (fun s19 => some (x13, s19)))) else none) else none) else none) else none
set_option maxHeartbeats 4000000 in
set_option maxRecDepth 100000 in
theorem wX10_mend_b95 {p : Program} {l : Launch} {e : Env} {s : State} {m : MethodId} {args : Array Value} {below : List Frame} {meth : Method} {c : Code} {G : gE} (hC : gCx p s m args meth c G RX10 cX10_mend 6 (some .int))     (σ : gS) (x10 : Int32) (x11 : Int32) (x12 : Int32) (x13 : Int32)  : gT p l e rX10_mend s m args below meth c G 6 iI σ 95 [(0, .ref (G.2.1 52)), (1, .int x10), (2, .int x11), (3, .int x12), (4, .int x13)] [] (mX10_mend_b95  σ x10 x11 x12 x13) := by
  unfold mX10_mend_b95
  refine g_aload_n (pc := 95) (q := 0) hC dX10_mend_95 rfl rfl ?_
  refine g_get (pc := 96) (v := .ref (G.2.1 73)) hC kX10 rfl 32 (by decide) fl_RX10_72 rfl dX10_mend_96 ?_
  refine g_iconst (pc := 99) (v := 4) hC dX10_mend_99 (by decide) ?_
  refine g_aload_n (pc := 100) (q := 0) hC dX10_mend_100 rfl rfl ?_
  refine g_get (pc := 101) (v := .int (σ.1 52 31)) hC kX10 rfl 31 (by decide) fl_RX10_158 rfl dX10_mend_101 ?_
  refine g_imul (pc := 104) hC dX10_mend_104 ?_
  refine g_iload_n (pc := 105) (q := 1) hC dX10_mend_105 rfl rfl ?_
  refine g_iast (pc := 106) hC 160 rfl (by decide) dX10_mend_106 (fun s14 => ?_)
  refine g_aload_n (pc := 107) (q := 0) hC dX10_mend_107 rfl rfl ?_
  refine g_get (pc := 108) (v := .ref (G.2.1 73)) hC kX10 rfl 32 (by decide) fl_RX10_72 rfl dX10_mend_108 ?_
  refine g_iconst (pc := 111) (v := 4) hC dX10_mend_111 (by decide) ?_
  refine g_aload_n (pc := 112) (q := 0) hC dX10_mend_112 rfl rfl ?_
  refine g_get (pc := 113) (v := .int (s14.1 52 31)) hC kX10 rfl 31 (by decide) fl_RX10_158 rfl dX10_mend_113 ?_
  refine g_imul (pc := 116) hC dX10_mend_116 ?_
  refine g_iconst (pc := 117) (v := 1) hC dX10_mend_117 (by decide) ?_
  refine g_iadd (pc := 118) hC dX10_mend_118 ?_
  refine g_iload_n (pc := 119) (q := 2) hC dX10_mend_119 rfl rfl ?_
  refine g_iast (pc := 120) hC 160 rfl (by decide) dX10_mend_120 (fun s15 => ?_)
  refine g_aload_n (pc := 121) (q := 0) hC dX10_mend_121 rfl rfl ?_
  refine g_get (pc := 122) (v := .ref (G.2.1 73)) hC kX10 rfl 32 (by decide) fl_RX10_72 rfl dX10_mend_122 ?_
  refine g_iconst (pc := 125) (v := 4) hC dX10_mend_125 (by decide) ?_
  refine g_aload_n (pc := 126) (q := 0) hC dX10_mend_126 rfl rfl ?_
  refine g_get (pc := 127) (v := .int (s15.1 52 31)) hC kX10 rfl 31 (by decide) fl_RX10_158 rfl dX10_mend_127 ?_
  refine g_imul (pc := 130) hC dX10_mend_130 ?_
  refine g_iconst (pc := 131) (v := 2) hC dX10_mend_131 (by decide) ?_
  refine g_iadd (pc := 132) hC dX10_mend_132 ?_
  refine g_iload (pc := 133) (q := 4) hC dX10_mend_133 rfl ?_
  refine g_iast (pc := 135) hC 160 rfl (by decide) dX10_mend_135 (fun s16 => ?_)
  refine g_aload_n (pc := 136) (q := 0) hC dX10_mend_136 rfl rfl ?_
  refine g_get (pc := 137) (v := .ref (G.2.1 73)) hC kX10 rfl 32 (by decide) fl_RX10_72 rfl dX10_mend_137 ?_
  refine g_iconst (pc := 140) (v := 4) hC dX10_mend_140 (by decide) ?_
  refine g_aload_n (pc := 141) (q := 0) hC dX10_mend_141 rfl rfl ?_
  refine g_get (pc := 142) (v := .int (s16.1 52 31)) hC kX10 rfl 31 (by decide) fl_RX10_158 rfl dX10_mend_142 ?_
  refine g_imul (pc := 145) hC dX10_mend_145 ?_
  refine g_iconst (pc := 146) (v := 3) hC dX10_mend_146 (by decide) ?_
  refine g_iadd (pc := 147) hC dX10_mend_147 ?_
  refine g_iload_n (pc := 148) (q := 3) hC dX10_mend_148 rfl rfl ?_
  refine g_iast (pc := 149) hC 160 rfl (by decide) dX10_mend_149 (fun s17 => ?_)
  refine g_aload_n (pc := 150) (q := 0) hC dX10_mend_150 rfl rfl ?_
  refine g_dup (pc := 151) hC dX10_mend_151 rfl ?_
  refine g_get (pc := 152) (v := .int (s17.1 52 31)) hC kX10 rfl 31 (by decide) fl_RX10_158 rfl dX10_mend_152 ?_
  refine g_iconst (pc := 155) (v := 1) hC dX10_mend_155 (by decide) ?_
  refine g_iadd (pc := 156) hC dX10_mend_156 ?_
  refine g_puti (pc := 157) (fty := .int) hC kX10 rfl 31 (by decide) fl_RX10_158 rfl rfl rfl rfl (fun _ _ => Nat.le_of_ble_eq_true rfl) (fun _ _ => rfl) dX10_mend_157 (fun s18 => ?_)
  refine g_aload_n (pc := 160) (q := 0) hC dX10_mend_160 rfl rfl ?_
  refine g_aload_n (pc := 161) (q := 0) hC dX10_mend_161 rfl rfl ?_
  refine g_get (pc := 162) (v := .int (s18.1 52 31)) hC kX10 rfl 31 (by decide) fl_RX10_158 rfl dX10_mend_162 ?_
  refine g_puti (pc := 165) (fty := .int) hC kX10 rfl 30 (by decide) fl_RX10_161 rfl rfl rfl rfl (fun _ _ => Nat.le_of_ble_eq_true rfl) (fun _ _ => rfl) dX10_mend_165 (fun s19 => ?_)
  refine g_iload (pc := 168) (q := 4) hC dX10_mend_168 rfl ?_
  exact g_iret (pc := 170) hC dX10_mend_170
def mX10_mend_b55    : Nat → gS → Int32 → Int32 → Int32 → Int32 → Int32 → Option (Int32 × gS)
  | 0, _, _, _, _, _, _ => none
  | n + 1, σ, x21, x22, x23, x24, x25 => if 156 ≤ x25 then (gLet (gUI σ 52 31 ((σ.1 52 31) - 1)) (fun s26 => (mX10_mend_b95  s26 x21 x22 x23 x24))) else (if inbB (x25 + 4) 160 = true then (if inbB x25 160 = true then gLet (gUI σ 73 (Int32.toNatClampNeg x25) (σ.1 73 (Int32.toNatClampNeg (x25 + 4)))) (fun s27 => gLet (x25 + 1) (fun v28 => ((mX10_mend_b55  n) s27 x21 x22 x23 x24 v28))) else none) else none)
set_option maxHeartbeats 4000000 in
set_option maxRecDepth 100000 in
theorem wX10_mend_b55 {p : Program} {l : Launch} {e : Env} {s : State} {m : MethodId} {args : Array Value} {below : List Frame} {meth : Method} {c : Code} {G : gE} (hC : gCx p s m args meth c G RX10 cX10_mend 6 (some .int))     (n : Nat) (σ : gS) (x21 : Int32) (x22 : Int32) (x23 : Int32) (x24 : Int32) (x25 : Int32)  : gT p l e rX10_mend s m args below meth c G 6 iI σ 55 [(0, .ref (G.2.1 52)), (1, .int x21), (2, .int x22), (3, .int x23), (4, .int x24), (5, .int x25)] [] (mX10_mend_b55  n σ x21 x22 x23 x24 x25) := by
  induction n generalizing σ x21 x22 x23 x24 x25 with
  | zero => exact gT_none
  | succ n ih =>
    unfold mX10_mend_b55
    refine g_iload (pc := 55) (q := 5) hC dX10_mend_55 rfl ?_
    refine g_sipush (pc := 57) (v := 156) hC dX10_mend_57 (by decide) ?_
    refine g_icmp_ge (pc := 60) (tgt := 85) hC dX10_mend_60 (by decide) ?_ ?_
    · refine g_aload_n (pc := 85) (q := 0) hC dX10_mend_85 rfl rfl ?_
      refine g_dup (pc := 86) hC dX10_mend_86 rfl ?_
      refine g_get (pc := 87) (v := .int (σ.1 52 31)) hC kX10 rfl 31 (by decide) fl_RX10_158 rfl dX10_mend_87 ?_
      refine g_iconst (pc := 90) (v := 1) hC dX10_mend_90 (by decide) ?_
      refine g_isub (pc := 91) hC dX10_mend_91 ?_
      refine g_puti (pc := 92) (fty := .int) hC kX10 rfl 31 (by decide) fl_RX10_158 rfl rfl rfl rfl (fun _ _ => Nat.le_of_ble_eq_true rfl) (fun _ _ => rfl) dX10_mend_92 (fun s26 => ?_)
      exact gT_sub [0, 1, 2, 3, 4] rfl (wX10_mend_b95 hC  s26 x21 x22 x23 x24)
    · refine g_aload_n (pc := 63) (q := 0) hC dX10_mend_63 rfl rfl ?_
      refine g_get (pc := 64) (v := .ref (G.2.1 73)) hC kX10 rfl 32 (by decide) fl_RX10_72 rfl dX10_mend_64 ?_
      refine g_iload (pc := 67) (q := 5) hC dX10_mend_67 rfl ?_
      refine g_aload_n (pc := 69) (q := 0) hC dX10_mend_69 rfl rfl ?_
      refine g_get (pc := 70) (v := .ref (G.2.1 73)) hC kX10 rfl 32 (by decide) fl_RX10_72 rfl dX10_mend_70 ?_
      refine g_iload (pc := 73) (q := 5) hC dX10_mend_73 rfl ?_
      refine g_iconst (pc := 75) (v := 4) hC dX10_mend_75 (by decide) ?_
      refine g_iadd (pc := 76) hC dX10_mend_76 ?_
      refine g_iald (pc := 77) hC 160 rfl (by decide) dX10_mend_77 ?_
      refine g_iast (pc := 78) hC 160 rfl (by decide) dX10_mend_78 (fun s27 => ?_)
      refine g_iinc (pc := 79) (q := 5) (w := 1) (lv' := fun v28 => [(5, .int v28), (0, .ref (G.2.1 52)), (1, .int x21), (2, .int x22), (3, .int x23), (4, .int x24)]) hC dX10_mend_79 rfl (by decide) (by decide) (fun _ => rfl) (fun v28 => ?_)
      refine g_goto (pc := 82) (tgt := 55) hC dX10_mend_82 (by decide) ?_
      exact gT_sub [1, 2, 3, 4, 5, 0] rfl (ih s27 x21 x22 x23 x24 v28)
def mX10_mend (σ : gS) (p0 : Int32) (p1 : Int32) (p2 : Int32) : Option (Int32 × gS) := gBind (mX10_isOf σ p0 p1) (fun r1 s2 => if r1 = true then (gBind (mX10_isFit s2 p1 p2) (fun r3 s4 => if r3 = true then (gBind (mX10_get s4 p0 p1) (fun r5 s6 => gLet r5 (fun v7 => if v7 = p2 then (some (v7, s6)) else (gBind (mX10_becomes s6 p0 p1 p2) (fun r8 s9 => if (s9.1 52 31) = 40 then (gLet 0 (fun v20 => (mX10_mend_b55  1100 s9 p0 p1 p2 v7 v20))) else ((mX10_mend_b95  s9 p0 p1 p2 v7))))))) else (some ((-1), s4)))) else (some ((-1), s2)))
set_option maxHeartbeats 4000000 in
set_option maxRecDepth 100000 in
theorem tX10_mend (l : Launch) (G : gE) (σ : gS) (p0 : Int32) (p1 : Int32) (p2 : Int32) : gM l G yX10_mend cX10_mend 6 (some .int) rX10_mend iI [.ref (G.2.1 52), .int p0, .int p1, .int p2] σ (mX10_mend σ p0 p1 p2) := by
  refine gM_of (by decide) (Nat.le_of_ble_eq_true rfl) ?_
  intro p e s m args below meth c hC
  unfold mX10_mend
  show gT p l e rX10_mend s m args below meth c G 6 iI σ 0 [(0, .ref (G.2.1 52)), (1, .int p0), (2, .int p1), (3, .int p2)] [] _
  refine g_aload_n (pc := 0) (q := 0) hC dX10_mend_0 rfl rfl ?_
  refine g_iload_n (pc := 1) (q := 1) hC dX10_mend_1 rfl rfl ?_
  refine g_iload_n (pc := 2) (q := 2) hC dX10_mend_2 rfl rfl ?_
  refine g_callVz (pc := 3) (As := [.int p0, .int p1]) (rest := []) hC lk_RX10_144 kX10 rfl (tX10_isOf _ _ σ p0 p1) rfl rfl (Nat.le_of_ble_eq_true rfl) ⟨rfl, rfl, Nat.le_of_ble_eq_true rfl, Nat.le_of_ble_eq_true rfl⟩ dX10_mend_3 (fun r1 s2 => ?_)
  refine g_bif_eq (pc := 6) (tgt := 17) hC dX10_mend_6 (by decide) ?_ ?_
  · refine g_iconst (pc := 17) (v := (-1)) hC dX10_mend_17 (by decide) ?_
    exact g_iret (pc := 18) hC dX10_mend_18
  · refine g_iload_n (pc := 9) (q := 2) hC dX10_mend_9 rfl rfl ?_
    refine g_iload_n (pc := 10) (q := 3) hC dX10_mend_10 rfl rfl ?_
    refine g_callSz (pc := 11) (As := [.int p1, .int p2]) (rest := []) hC lk_RX10_148 (tX10_isFit _ _ s2 p1 p2) rfl rfl (Nat.le_of_ble_eq_true rfl) ⟨rfl, rfl, Nat.le_of_ble_eq_true rfl, Nat.le_of_ble_eq_true rfl⟩ dX10_mend_11 (fun r3 s4 => ?_)
    refine g_bif_ne (pc := 14) (tgt := 19) hC dX10_mend_14 (by decide) ?_ ?_
    · refine g_aload_n (pc := 19) (q := 0) hC dX10_mend_19 rfl rfl ?_
      refine g_iload_n (pc := 20) (q := 1) hC dX10_mend_20 rfl rfl ?_
      refine g_iload_n (pc := 21) (q := 2) hC dX10_mend_21 rfl rfl ?_
      refine g_callVi (pc := 22) (As := [.int p0, .int p1]) (rest := []) hC lk_RX10_151 kX10 rfl (tX10_get _ _ s4 p0 p1) rfl rfl (Nat.le_of_ble_eq_true rfl) ⟨rfl, rfl, Nat.le_of_ble_eq_true rfl, Nat.le_of_ble_eq_true rfl⟩ dX10_mend_22 (fun r5 s6 => ?_)
      refine g_istore (pc := 25) (lv' := fun v7 => [(4, .int v7), (0, .ref (G.2.1 52)), (1, .int p0), (2, .int p1), (3, .int p2)]) hC dX10_mend_25 (by decide) (fun _ => rfl) (fun v7 => ?_)
      refine g_iload (pc := 27) (q := 0) hC dX10_mend_27 rfl ?_
      refine g_iload_n (pc := 29) (q := 4) hC dX10_mend_29 rfl rfl ?_
      refine g_icmp_ne (pc := 30) (tgt := 36) hC dX10_mend_30 (by decide) ?_ ?_
      · refine g_aload_n (pc := 36) (q := 1) hC dX10_mend_36 rfl rfl ?_
        refine g_iload_n (pc := 37) (q := 2) hC dX10_mend_37 rfl rfl ?_
        refine g_iload_n (pc := 38) (q := 3) hC dX10_mend_38 rfl rfl ?_
        refine g_iload_n (pc := 39) (q := 4) hC dX10_mend_39 rfl rfl ?_
        refine g_callVv (pc := 40) (As := [.int p0, .int p1, .int p2]) (rest := []) hC lk_RX10_154 kX10 rfl (tX10_becomes _ _ s6 p0 p1 p2) rfl rfl (Nat.le_of_ble_eq_true rfl) ⟨rfl, rfl, Nat.le_of_ble_eq_true rfl, Nat.le_of_ble_eq_true rfl⟩ dX10_mend_40 (fun r8 s9 => ?_)
        refine g_aload_n (pc := 43) (q := 1) hC dX10_mend_43 rfl rfl ?_
        refine g_get (pc := 44) (v := .int (s9.1 52 31)) hC kX10 rfl 31 (by decide) fl_RX10_158 rfl dX10_mend_44 ?_
        refine g_bipush (pc := 47) (v := 40) hC dX10_mend_47 (by decide) ?_
        refine g_icmp_ne (pc := 49) (tgt := 95) hC dX10_mend_49 (by decide) ?_ ?_
        · exact gT_sub [1, 2, 3, 4, 0] rfl (wX10_mend_b95 hC  s9 p0 p1 p2 v7)
        · refine g_iconst (pc := 52) (v := 0) hC dX10_mend_52 (by decide) ?_
          refine g_istore (pc := 53) (lv' := fun v20 => [(5, .int v20), (4, .int v7), (0, .ref (G.2.1 52)), (1, .int p0), (2, .int p1), (3, .int p2)]) hC dX10_mend_53 (by decide) (fun _ => rfl) (fun v20 => ?_)
          exact gT_sub [2, 3, 4, 5, 1, 0] rfl (wX10_mend_b55 hC  1100 s9 p0 p1 p2 v7 v20)
      · refine g_iload (pc := 33) (q := 0) hC dX10_mend_33 rfl ?_
        exact g_iret (pc := 35) hC dX10_mend_35
    · refine g_iconst (pc := 17) (v := (-1)) hC dX10_mend_17 (by decide) ?_
      exact g_iret (pc := 18) hC dX10_mend_18
theorem dX10_of_0 : decode cX10_of 0 = .ok (.iload_n 2, 1) := by decide +kernel
theorem dX10_of_1 : decode cX10_of 1 = .ok (.bipush 10, 2) := by decide +kernel
theorem dX10_of_3 : decode cX10_of 3 = .ok (.if_icmp .ne 22, 3) := by decide +kernel
theorem dX10_of_6 : decode cX10_of 6 = .ok (.aload_n 0, 1) := by decide +kernel
theorem dX10_of_7 : decode cX10_of 7 = .ok (.iload_n 1, 1) := by decide +kernel
theorem dX10_of_8 : decode cX10_of 8 = .ok (.invokevirtual 141, 3) := by decide +kernel
theorem dX10_of_11 : decode cX10_of 11 = .ok (.ifCond .eq 12, 3) := by decide +kernel
theorem dX10_of_14 : decode cX10_of 14 = .ok (.aload_n 0, 1) := by decide +kernel
theorem dX10_of_15 : decode cX10_of 15 = .ok (.getfield 18, 3) := by decide +kernel
theorem dX10_of_18 : decode cX10_of 18 = .ok (.iload_n 1, 1) := by decide +kernel
theorem dX10_of_19 : decode cX10_of 19 = .ok (.iaload, 1) := by decide +kernel
theorem dX10_of_20 : decode cX10_of 20 = .ok (.goto 4, 3) := by decide +kernel
theorem dX10_of_23 : decode cX10_of 23 = .ok (.iconst (-1), 1) := by decide +kernel
theorem dX10_of_24 : decode cX10_of 24 = .ok (.ireturn, 1) := by decide +kernel
theorem dX10_of_25 : decode cX10_of 25 = .ok (.aload_n 0, 1) := by decide +kernel
theorem dX10_of_26 : decode cX10_of 26 = .ok (.iload_n 1, 1) := by decide +kernel
theorem dX10_of_27 : decode cX10_of 27 = .ok (.iload_n 2, 1) := by decide +kernel
theorem dX10_of_28 : decode cX10_of 28 = .ok (.invokevirtual 144, 3) := by decide +kernel
theorem dX10_of_31 : decode cX10_of 31 = .ok (.ifCond .eq 12, 3) := by decide +kernel
theorem dX10_of_34 : decode cX10_of 34 = .ok (.aload_n 0, 1) := by decide +kernel
theorem dX10_of_35 : decode cX10_of 35 = .ok (.iload_n 1, 1) := by decide +kernel
theorem dX10_of_36 : decode cX10_of 36 = .ok (.iload_n 2, 1) := by decide +kernel
theorem dX10_of_37 : decode cX10_of 37 = .ok (.invokevirtual 151, 3) := by decide +kernel
theorem dX10_of_40 : decode cX10_of 40 = .ok (.goto 4, 3) := by decide +kernel
theorem dX10_of_43 : decode cX10_of 43 = .ok (.iconst (-1), 1) := by decide +kernel
theorem dX10_of_44 : decode cX10_of 44 = .ok (.ireturn, 1) := by decide +kernel
abbrev rX10_of : Room := { frames := 3, cells := 0, slots := 0, locals := 65 }
def mX10_of (σ : gS) (p0 : Int32) (p1 : Int32) : Option (Int32 × gS) := if p1 = 10 then (gBind (mX10_isWant σ p0) (fun r5 s6 => if r5 = true then (if inbB p0 12 = true then (some ((s6.1 55 (Int32.toNatClampNeg p0)), s6)) else none) else (some ((-1), s6)))) else (gBind (mX10_isOf σ p0 p1) (fun r1 s2 => if r1 = true then (gBind (mX10_get s2 p0 p1) (fun r3 s4 => some (r3, s4))) else (some ((-1), s2))))
set_option maxHeartbeats 4000000 in
set_option maxRecDepth 100000 in
theorem tX10_of (l : Launch) (G : gE) (σ : gS) (p0 : Int32) (p1 : Int32) : gM l G yX10_of cX10_of 3 (some .int) rX10_of iI [.ref (G.2.1 52), .int p0, .int p1] σ (mX10_of σ p0 p1) := by
  refine gM_of (by decide) (Nat.le_of_ble_eq_true rfl) ?_
  intro p e s m args below meth c hC
  unfold mX10_of
  show gT p l e rX10_of s m args below meth c G 3 iI σ 0 [(0, .ref (G.2.1 52)), (1, .int p0), (2, .int p1)] [] _
  refine g_iload_n (pc := 0) (q := 2) hC dX10_of_0 rfl rfl ?_
  refine g_bipush (pc := 1) (v := 10) hC dX10_of_1 (by decide) ?_
  refine g_icmp_ne (pc := 3) (tgt := 25) hC dX10_of_3 (by decide) ?_ ?_
  · refine g_aload_n (pc := 25) (q := 0) hC dX10_of_25 rfl rfl ?_
    refine g_iload_n (pc := 26) (q := 1) hC dX10_of_26 rfl rfl ?_
    refine g_iload_n (pc := 27) (q := 2) hC dX10_of_27 rfl rfl ?_
    refine g_callVz (pc := 28) (As := [.int p0, .int p1]) (rest := []) hC lk_RX10_144 kX10 rfl (tX10_isOf _ _ σ p0 p1) rfl rfl (Nat.le_of_ble_eq_true rfl) ⟨rfl, rfl, Nat.le_of_ble_eq_true rfl, Nat.le_of_ble_eq_true rfl⟩ dX10_of_28 (fun r1 s2 => ?_)
    refine g_bif_eq (pc := 31) (tgt := 43) hC dX10_of_31 (by decide) ?_ ?_
    · refine g_iconst (pc := 43) (v := (-1)) hC dX10_of_43 (by decide) ?_
      exact g_iret (pc := 44) hC dX10_of_44
    · refine g_aload_n (pc := 34) (q := 0) hC dX10_of_34 rfl rfl ?_
      refine g_iload_n (pc := 35) (q := 1) hC dX10_of_35 rfl rfl ?_
      refine g_iload_n (pc := 36) (q := 2) hC dX10_of_36 rfl rfl ?_
      refine g_callVi (pc := 37) (As := [.int p0, .int p1]) (rest := []) hC lk_RX10_151 kX10 rfl (tX10_get _ _ s2 p0 p1) rfl rfl (Nat.le_of_ble_eq_true rfl) ⟨rfl, rfl, Nat.le_of_ble_eq_true rfl, Nat.le_of_ble_eq_true rfl⟩ dX10_of_37 (fun r3 s4 => ?_)
      refine g_goto (pc := 40) (tgt := 44) hC dX10_of_40 (by decide) ?_
      exact g_iret (pc := 44) hC dX10_of_44
  · refine g_aload_n (pc := 6) (q := 0) hC dX10_of_6 rfl rfl ?_
    refine g_iload_n (pc := 7) (q := 1) hC dX10_of_7 rfl rfl ?_
    refine g_callVz (pc := 8) (As := [.int p0]) (rest := []) hC lk_RX10_141 kX10 rfl (tX10_isWant _ _ σ p0) rfl rfl (Nat.le_of_ble_eq_true rfl) ⟨rfl, rfl, Nat.le_of_ble_eq_true rfl, Nat.le_of_ble_eq_true rfl⟩ dX10_of_8 (fun r5 s6 => ?_)
    refine g_bif_eq (pc := 11) (tgt := 23) hC dX10_of_11 (by decide) ?_ ?_
    · refine g_iconst (pc := 23) (v := (-1)) hC dX10_of_23 (by decide) ?_
      exact g_iret (pc := 24) hC dX10_of_24
    · refine g_aload_n (pc := 14) (q := 0) hC dX10_of_14 rfl rfl ?_
      refine g_get (pc := 15) (v := .ref (G.2.1 55)) hC kX10 rfl 4 (by decide) fl_RX10_18 rfl dX10_of_15 ?_
      refine g_iload_n (pc := 18) (q := 1) hC dX10_of_18 rfl rfl ?_
      refine g_iald (pc := 19) hC 12 rfl (by decide) dX10_of_19 ?_
      refine g_goto (pc := 20) (tgt := 24) hC dX10_of_20 (by decide) ?_
      exact g_iret (pc := 24) hC dX10_of_24
theorem dX10_undo_0 : decode cX10_undo 0 = .ok (.aload_n 0, 1) := by decide +kernel
theorem dX10_undo_1 : decode cX10_undo 1 = .ok (.getfield 158, 3) := by decide +kernel
theorem dX10_undo_4 : decode cX10_undo 4 = .ok (.ifCond .ne 6, 3) := by decide +kernel
theorem dX10_undo_7 : decode cX10_undo 7 = .ok (.bipush (-5), 2) := by decide +kernel
theorem dX10_undo_9 : decode cX10_undo 9 = .ok (.ireturn, 1) := by decide +kernel
theorem dX10_undo_10 : decode cX10_undo 10 = .ok (.aload_n 0, 1) := by decide +kernel
theorem dX10_undo_11 : decode cX10_undo 11 = .ok (.dup, 1) := by decide +kernel
theorem dX10_undo_12 : decode cX10_undo 12 = .ok (.getfield 158, 3) := by decide +kernel
theorem dX10_undo_15 : decode cX10_undo 15 = .ok (.iconst 1, 1) := by decide +kernel
theorem dX10_undo_16 : decode cX10_undo 16 = .ok (.isub, 1) := by decide +kernel
theorem dX10_undo_17 : decode cX10_undo 17 = .ok (.putfield 158, 3) := by decide +kernel
theorem dX10_undo_20 : decode cX10_undo 20 = .ok (.aload_n 0, 1) := by decide +kernel
theorem dX10_undo_21 : decode cX10_undo 21 = .ok (.aload_n 0, 1) := by decide +kernel
theorem dX10_undo_22 : decode cX10_undo 22 = .ok (.getfield 72, 3) := by decide +kernel
theorem dX10_undo_25 : decode cX10_undo 25 = .ok (.iconst 4, 1) := by decide +kernel
theorem dX10_undo_26 : decode cX10_undo 26 = .ok (.aload_n 0, 1) := by decide +kernel
theorem dX10_undo_27 : decode cX10_undo 27 = .ok (.getfield 158, 3) := by decide +kernel
theorem dX10_undo_30 : decode cX10_undo 30 = .ok (.imul, 1) := by decide +kernel
theorem dX10_undo_31 : decode cX10_undo 31 = .ok (.iaload, 1) := by decide +kernel
theorem dX10_undo_32 : decode cX10_undo 32 = .ok (.aload_n 0, 1) := by decide +kernel
theorem dX10_undo_33 : decode cX10_undo 33 = .ok (.getfield 72, 3) := by decide +kernel
theorem dX10_undo_36 : decode cX10_undo 36 = .ok (.iconst 4, 1) := by decide +kernel
theorem dX10_undo_37 : decode cX10_undo 37 = .ok (.aload_n 0, 1) := by decide +kernel
theorem dX10_undo_38 : decode cX10_undo 38 = .ok (.getfield 158, 3) := by decide +kernel
theorem dX10_undo_41 : decode cX10_undo 41 = .ok (.imul, 1) := by decide +kernel
theorem dX10_undo_42 : decode cX10_undo 42 = .ok (.iconst 1, 1) := by decide +kernel
theorem dX10_undo_43 : decode cX10_undo 43 = .ok (.iadd, 1) := by decide +kernel
theorem dX10_undo_44 : decode cX10_undo 44 = .ok (.iaload, 1) := by decide +kernel
theorem dX10_undo_45 : decode cX10_undo 45 = .ok (.aload_n 0, 1) := by decide +kernel
theorem dX10_undo_46 : decode cX10_undo 46 = .ok (.getfield 72, 3) := by decide +kernel
theorem dX10_undo_49 : decode cX10_undo 49 = .ok (.iconst 4, 1) := by decide +kernel
theorem dX10_undo_50 : decode cX10_undo 50 = .ok (.aload_n 0, 1) := by decide +kernel
theorem dX10_undo_51 : decode cX10_undo 51 = .ok (.getfield 158, 3) := by decide +kernel
theorem dX10_undo_54 : decode cX10_undo 54 = .ok (.imul, 1) := by decide +kernel
theorem dX10_undo_55 : decode cX10_undo 55 = .ok (.iconst 2, 1) := by decide +kernel
theorem dX10_undo_56 : decode cX10_undo 56 = .ok (.iadd, 1) := by decide +kernel
theorem dX10_undo_57 : decode cX10_undo 57 = .ok (.iaload, 1) := by decide +kernel
theorem dX10_undo_58 : decode cX10_undo 58 = .ok (.invokevirtual 154, 3) := by decide +kernel
theorem dX10_undo_61 : decode cX10_undo 61 = .ok (.aload_n 0, 1) := by decide +kernel
theorem dX10_undo_62 : decode cX10_undo 62 = .ok (.getfield 158, 3) := by decide +kernel
theorem dX10_undo_65 : decode cX10_undo 65 = .ok (.ireturn, 1) := by decide +kernel
abbrev rX10_undo : Room := { frames := 1, cells := 0, slots := 0, locals := 23 }
def mX10_undo (σ : gS)  : Option (Int32 × gS) := if (σ.1 52 31) = 0 then (some ((-5), σ)) else (gLet (gUI σ 52 31 ((σ.1 52 31) - 1)) (fun s1 => if inbB (4 * (s1.1 52 31)) 160 = true then (if inbB ((4 * (s1.1 52 31)) + 1) 160 = true then (if inbB ((4 * (s1.1 52 31)) + 2) 160 = true then (gBind (mX10_becomes s1 (s1.1 73 (Int32.toNatClampNeg (4 * (s1.1 52 31)))) (s1.1 73 (Int32.toNatClampNeg ((4 * (s1.1 52 31)) + 1))) (s1.1 73 (Int32.toNatClampNeg ((4 * (s1.1 52 31)) + 2)))) (fun r2 s3 => some ((s3.1 52 31), s3))) else none) else none) else none))
set_option maxHeartbeats 4000000 in
set_option maxRecDepth 100000 in
theorem tX10_undo (l : Launch) (G : gE) (σ : gS)  : gM l G yX10_undo cX10_undo 1 (some .int) rX10_undo iI [.ref (G.2.1 52)] σ (mX10_undo σ ) := by
  refine gM_of (by decide) (Nat.le_of_ble_eq_true rfl) ?_
  intro p e s m args below meth c hC
  unfold mX10_undo
  show gT p l e rX10_undo s m args below meth c G 1 iI σ 0 [(0, .ref (G.2.1 52))] [] _
  refine g_aload_n (pc := 0) (q := 0) hC dX10_undo_0 rfl rfl ?_
  refine g_get (pc := 1) (v := .int (σ.1 52 31)) hC kX10 rfl 31 (by decide) fl_RX10_158 rfl dX10_undo_1 ?_
  refine g_if_ne (pc := 4) (tgt := 10) hC dX10_undo_4 (by decide) ?_ ?_
  · refine g_aload_n (pc := 10) (q := 0) hC dX10_undo_10 rfl rfl ?_
    refine g_dup (pc := 11) hC dX10_undo_11 rfl ?_
    refine g_get (pc := 12) (v := .int (σ.1 52 31)) hC kX10 rfl 31 (by decide) fl_RX10_158 rfl dX10_undo_12 ?_
    refine g_iconst (pc := 15) (v := 1) hC dX10_undo_15 (by decide) ?_
    refine g_isub (pc := 16) hC dX10_undo_16 ?_
    refine g_puti (pc := 17) (fty := .int) hC kX10 rfl 31 (by decide) fl_RX10_158 rfl rfl rfl rfl (fun _ _ => Nat.le_of_ble_eq_true rfl) (fun _ _ => rfl) dX10_undo_17 (fun s1 => ?_)
    refine g_aload_n (pc := 20) (q := 0) hC dX10_undo_20 rfl rfl ?_
    refine g_aload_n (pc := 21) (q := 0) hC dX10_undo_21 rfl rfl ?_
    refine g_get (pc := 22) (v := .ref (G.2.1 73)) hC kX10 rfl 32 (by decide) fl_RX10_72 rfl dX10_undo_22 ?_
    refine g_iconst (pc := 25) (v := 4) hC dX10_undo_25 (by decide) ?_
    refine g_aload_n (pc := 26) (q := 0) hC dX10_undo_26 rfl rfl ?_
    refine g_get (pc := 27) (v := .int (s1.1 52 31)) hC kX10 rfl 31 (by decide) fl_RX10_158 rfl dX10_undo_27 ?_
    refine g_imul (pc := 30) hC dX10_undo_30 ?_
    refine g_iald (pc := 31) hC 160 rfl (by decide) dX10_undo_31 ?_
    refine g_aload_n (pc := 32) (q := 0) hC dX10_undo_32 rfl rfl ?_
    refine g_get (pc := 33) (v := .ref (G.2.1 73)) hC kX10 rfl 32 (by decide) fl_RX10_72 rfl dX10_undo_33 ?_
    refine g_iconst (pc := 36) (v := 4) hC dX10_undo_36 (by decide) ?_
    refine g_aload_n (pc := 37) (q := 0) hC dX10_undo_37 rfl rfl ?_
    refine g_get (pc := 38) (v := .int (s1.1 52 31)) hC kX10 rfl 31 (by decide) fl_RX10_158 rfl dX10_undo_38 ?_
    refine g_imul (pc := 41) hC dX10_undo_41 ?_
    refine g_iconst (pc := 42) (v := 1) hC dX10_undo_42 (by decide) ?_
    refine g_iadd (pc := 43) hC dX10_undo_43 ?_
    refine g_iald (pc := 44) hC 160 rfl (by decide) dX10_undo_44 ?_
    refine g_aload_n (pc := 45) (q := 0) hC dX10_undo_45 rfl rfl ?_
    refine g_get (pc := 46) (v := .ref (G.2.1 73)) hC kX10 rfl 32 (by decide) fl_RX10_72 rfl dX10_undo_46 ?_
    refine g_iconst (pc := 49) (v := 4) hC dX10_undo_49 (by decide) ?_
    refine g_aload_n (pc := 50) (q := 0) hC dX10_undo_50 rfl rfl ?_
    refine g_get (pc := 51) (v := .int (s1.1 52 31)) hC kX10 rfl 31 (by decide) fl_RX10_158 rfl dX10_undo_51 ?_
    refine g_imul (pc := 54) hC dX10_undo_54 ?_
    refine g_iconst (pc := 55) (v := 2) hC dX10_undo_55 (by decide) ?_
    refine g_iadd (pc := 56) hC dX10_undo_56 ?_
    refine g_iald (pc := 57) hC 160 rfl (by decide) dX10_undo_57 ?_
    refine g_callVv (pc := 58) (As := [.int (s1.1 73 (Int32.toNatClampNeg (4 * (s1.1 52 31)))), .int (s1.1 73 (Int32.toNatClampNeg ((4 * (s1.1 52 31)) + 1))), .int (s1.1 73 (Int32.toNatClampNeg ((4 * (s1.1 52 31)) + 2)))]) (rest := []) hC lk_RX10_154 kX10 rfl (tX10_becomes _ _ s1 (s1.1 73 (Int32.toNatClampNeg (4 * (s1.1 52 31)))) (s1.1 73 (Int32.toNatClampNeg ((4 * (s1.1 52 31)) + 1))) (s1.1 73 (Int32.toNatClampNeg ((4 * (s1.1 52 31)) + 2)))) rfl rfl (Nat.le_of_ble_eq_true rfl) ⟨rfl, rfl, Nat.le_of_ble_eq_true rfl, Nat.le_of_ble_eq_true rfl⟩ dX10_undo_58 (fun r2 s3 => ?_)
    refine g_aload_n (pc := 61) (q := 0) hC dX10_undo_61 rfl rfl ?_
    refine g_get (pc := 62) (v := .int (s3.1 52 31)) hC kX10 rfl 31 (by decide) fl_RX10_158 rfl dX10_undo_62 ?_
    exact g_iret (pc := 65) hC dX10_undo_65
  · refine g_bipush (pc := 7) (v := (-5)) hC dX10_undo_7 (by decide) ?_
    exact g_iret (pc := 9) hC dX10_undo_9
theorem dX10_redo_0 : decode cX10_redo 0 = .ok (.aload_n 0, 1) := by decide +kernel
theorem dX10_redo_1 : decode cX10_redo 1 = .ok (.getfield 158, 3) := by decide +kernel
theorem dX10_redo_4 : decode cX10_redo 4 = .ok (.aload_n 0, 1) := by decide +kernel
theorem dX10_redo_5 : decode cX10_redo 5 = .ok (.getfield 161, 3) := by decide +kernel
theorem dX10_redo_8 : decode cX10_redo 8 = .ok (.if_icmp .ne 6, 3) := by decide +kernel
theorem dX10_redo_11 : decode cX10_redo 11 = .ok (.bipush (-5), 2) := by decide +kernel
theorem dX10_redo_13 : decode cX10_redo 13 = .ok (.ireturn, 1) := by decide +kernel
theorem dX10_redo_14 : decode cX10_redo 14 = .ok (.aload_n 0, 1) := by decide +kernel
theorem dX10_redo_15 : decode cX10_redo 15 = .ok (.aload_n 0, 1) := by decide +kernel
theorem dX10_redo_16 : decode cX10_redo 16 = .ok (.getfield 72, 3) := by decide +kernel
theorem dX10_redo_19 : decode cX10_redo 19 = .ok (.iconst 4, 1) := by decide +kernel
theorem dX10_redo_20 : decode cX10_redo 20 = .ok (.aload_n 0, 1) := by decide +kernel
theorem dX10_redo_21 : decode cX10_redo 21 = .ok (.getfield 158, 3) := by decide +kernel
theorem dX10_redo_24 : decode cX10_redo 24 = .ok (.imul, 1) := by decide +kernel
theorem dX10_redo_25 : decode cX10_redo 25 = .ok (.iaload, 1) := by decide +kernel
theorem dX10_redo_26 : decode cX10_redo 26 = .ok (.aload_n 0, 1) := by decide +kernel
theorem dX10_redo_27 : decode cX10_redo 27 = .ok (.getfield 72, 3) := by decide +kernel
theorem dX10_redo_30 : decode cX10_redo 30 = .ok (.iconst 4, 1) := by decide +kernel
theorem dX10_redo_31 : decode cX10_redo 31 = .ok (.aload_n 0, 1) := by decide +kernel
theorem dX10_redo_32 : decode cX10_redo 32 = .ok (.getfield 158, 3) := by decide +kernel
theorem dX10_redo_35 : decode cX10_redo 35 = .ok (.imul, 1) := by decide +kernel
theorem dX10_redo_36 : decode cX10_redo 36 = .ok (.iconst 1, 1) := by decide +kernel
theorem dX10_redo_37 : decode cX10_redo 37 = .ok (.iadd, 1) := by decide +kernel
theorem dX10_redo_38 : decode cX10_redo 38 = .ok (.iaload, 1) := by decide +kernel
theorem dX10_redo_39 : decode cX10_redo 39 = .ok (.aload_n 0, 1) := by decide +kernel
theorem dX10_redo_40 : decode cX10_redo 40 = .ok (.getfield 72, 3) := by decide +kernel
theorem dX10_redo_43 : decode cX10_redo 43 = .ok (.iconst 4, 1) := by decide +kernel
theorem dX10_redo_44 : decode cX10_redo 44 = .ok (.aload_n 0, 1) := by decide +kernel
theorem dX10_redo_45 : decode cX10_redo 45 = .ok (.getfield 158, 3) := by decide +kernel
theorem dX10_redo_48 : decode cX10_redo 48 = .ok (.imul, 1) := by decide +kernel
theorem dX10_redo_49 : decode cX10_redo 49 = .ok (.iconst 3, 1) := by decide +kernel
theorem dX10_redo_50 : decode cX10_redo 50 = .ok (.iadd, 1) := by decide +kernel
theorem dX10_redo_51 : decode cX10_redo 51 = .ok (.iaload, 1) := by decide +kernel
theorem dX10_redo_52 : decode cX10_redo 52 = .ok (.invokevirtual 154, 3) := by decide +kernel
theorem dX10_redo_55 : decode cX10_redo 55 = .ok (.aload_n 0, 1) := by decide +kernel
theorem dX10_redo_56 : decode cX10_redo 56 = .ok (.dup, 1) := by decide +kernel
theorem dX10_redo_57 : decode cX10_redo 57 = .ok (.getfield 158, 3) := by decide +kernel
theorem dX10_redo_60 : decode cX10_redo 60 = .ok (.iconst 1, 1) := by decide +kernel
theorem dX10_redo_61 : decode cX10_redo 61 = .ok (.iadd, 1) := by decide +kernel
theorem dX10_redo_62 : decode cX10_redo 62 = .ok (.putfield 158, 3) := by decide +kernel
theorem dX10_redo_65 : decode cX10_redo 65 = .ok (.aload_n 0, 1) := by decide +kernel
theorem dX10_redo_66 : decode cX10_redo 66 = .ok (.getfield 161, 3) := by decide +kernel
theorem dX10_redo_69 : decode cX10_redo 69 = .ok (.aload_n 0, 1) := by decide +kernel
theorem dX10_redo_70 : decode cX10_redo 70 = .ok (.getfield 158, 3) := by decide +kernel
theorem dX10_redo_73 : decode cX10_redo 73 = .ok (.isub, 1) := by decide +kernel
theorem dX10_redo_74 : decode cX10_redo 74 = .ok (.ireturn, 1) := by decide +kernel
abbrev rX10_redo : Room := { frames := 1, cells := 0, slots := 0, locals := 23 }
def mX10_redo (σ : gS)  : Option (Int32 × gS) := if (σ.1 52 31) = (σ.1 52 30) then (some ((-5), σ)) else (if inbB (4 * (σ.1 52 31)) 160 = true then (if inbB ((4 * (σ.1 52 31)) + 1) 160 = true then (if inbB ((4 * (σ.1 52 31)) + 3) 160 = true then (gBind (mX10_becomes σ (σ.1 73 (Int32.toNatClampNeg (4 * (σ.1 52 31)))) (σ.1 73 (Int32.toNatClampNeg ((4 * (σ.1 52 31)) + 1))) (σ.1 73 (Int32.toNatClampNeg ((4 * (σ.1 52 31)) + 3)))) (fun r1 s2 => gLet (gUI s2 52 31 ((s2.1 52 31) + 1)) (fun s3 => some (((s3.1 52 30) - (s3.1 52 31)), s3)))) else none) else none) else none)
set_option maxHeartbeats 4000000 in
set_option maxRecDepth 100000 in
theorem tX10_redo (l : Launch) (G : gE) (σ : gS)  : gM l G yX10_redo cX10_redo 1 (some .int) rX10_redo iI [.ref (G.2.1 52)] σ (mX10_redo σ ) := by
  refine gM_of (by decide) (Nat.le_of_ble_eq_true rfl) ?_
  intro p e s m args below meth c hC
  unfold mX10_redo
  show gT p l e rX10_redo s m args below meth c G 1 iI σ 0 [(0, .ref (G.2.1 52))] [] _
  refine g_aload_n (pc := 0) (q := 0) hC dX10_redo_0 rfl rfl ?_
  refine g_get (pc := 1) (v := .int (σ.1 52 31)) hC kX10 rfl 31 (by decide) fl_RX10_158 rfl dX10_redo_1 ?_
  refine g_aload_n (pc := 4) (q := 0) hC dX10_redo_4 rfl rfl ?_
  refine g_get (pc := 5) (v := .int (σ.1 52 30)) hC kX10 rfl 30 (by decide) fl_RX10_161 rfl dX10_redo_5 ?_
  refine g_icmp_ne (pc := 8) (tgt := 14) hC dX10_redo_8 (by decide) ?_ ?_
  · refine g_aload_n (pc := 14) (q := 0) hC dX10_redo_14 rfl rfl ?_
    refine g_aload_n (pc := 15) (q := 0) hC dX10_redo_15 rfl rfl ?_
    refine g_get (pc := 16) (v := .ref (G.2.1 73)) hC kX10 rfl 32 (by decide) fl_RX10_72 rfl dX10_redo_16 ?_
    refine g_iconst (pc := 19) (v := 4) hC dX10_redo_19 (by decide) ?_
    refine g_aload_n (pc := 20) (q := 0) hC dX10_redo_20 rfl rfl ?_
    refine g_get (pc := 21) (v := .int (σ.1 52 31)) hC kX10 rfl 31 (by decide) fl_RX10_158 rfl dX10_redo_21 ?_
    refine g_imul (pc := 24) hC dX10_redo_24 ?_
    refine g_iald (pc := 25) hC 160 rfl (by decide) dX10_redo_25 ?_
    refine g_aload_n (pc := 26) (q := 0) hC dX10_redo_26 rfl rfl ?_
    refine g_get (pc := 27) (v := .ref (G.2.1 73)) hC kX10 rfl 32 (by decide) fl_RX10_72 rfl dX10_redo_27 ?_
    refine g_iconst (pc := 30) (v := 4) hC dX10_redo_30 (by decide) ?_
    refine g_aload_n (pc := 31) (q := 0) hC dX10_redo_31 rfl rfl ?_
    refine g_get (pc := 32) (v := .int (σ.1 52 31)) hC kX10 rfl 31 (by decide) fl_RX10_158 rfl dX10_redo_32 ?_
    refine g_imul (pc := 35) hC dX10_redo_35 ?_
    refine g_iconst (pc := 36) (v := 1) hC dX10_redo_36 (by decide) ?_
    refine g_iadd (pc := 37) hC dX10_redo_37 ?_
    refine g_iald (pc := 38) hC 160 rfl (by decide) dX10_redo_38 ?_
    refine g_aload_n (pc := 39) (q := 0) hC dX10_redo_39 rfl rfl ?_
    refine g_get (pc := 40) (v := .ref (G.2.1 73)) hC kX10 rfl 32 (by decide) fl_RX10_72 rfl dX10_redo_40 ?_
    refine g_iconst (pc := 43) (v := 4) hC dX10_redo_43 (by decide) ?_
    refine g_aload_n (pc := 44) (q := 0) hC dX10_redo_44 rfl rfl ?_
    refine g_get (pc := 45) (v := .int (σ.1 52 31)) hC kX10 rfl 31 (by decide) fl_RX10_158 rfl dX10_redo_45 ?_
    refine g_imul (pc := 48) hC dX10_redo_48 ?_
    refine g_iconst (pc := 49) (v := 3) hC dX10_redo_49 (by decide) ?_
    refine g_iadd (pc := 50) hC dX10_redo_50 ?_
    refine g_iald (pc := 51) hC 160 rfl (by decide) dX10_redo_51 ?_
    refine g_callVv (pc := 52) (As := [.int (σ.1 73 (Int32.toNatClampNeg (4 * (σ.1 52 31)))), .int (σ.1 73 (Int32.toNatClampNeg ((4 * (σ.1 52 31)) + 1))), .int (σ.1 73 (Int32.toNatClampNeg ((4 * (σ.1 52 31)) + 3)))]) (rest := []) hC lk_RX10_154 kX10 rfl (tX10_becomes _ _ σ (σ.1 73 (Int32.toNatClampNeg (4 * (σ.1 52 31)))) (σ.1 73 (Int32.toNatClampNeg ((4 * (σ.1 52 31)) + 1))) (σ.1 73 (Int32.toNatClampNeg ((4 * (σ.1 52 31)) + 3)))) rfl rfl (Nat.le_of_ble_eq_true rfl) ⟨rfl, rfl, Nat.le_of_ble_eq_true rfl, Nat.le_of_ble_eq_true rfl⟩ dX10_redo_52 (fun r1 s2 => ?_)
    refine g_aload_n (pc := 55) (q := 0) hC dX10_redo_55 rfl rfl ?_
    refine g_dup (pc := 56) hC dX10_redo_56 rfl ?_
    refine g_get (pc := 57) (v := .int (s2.1 52 31)) hC kX10 rfl 31 (by decide) fl_RX10_158 rfl dX10_redo_57 ?_
    refine g_iconst (pc := 60) (v := 1) hC dX10_redo_60 (by decide) ?_
    refine g_iadd (pc := 61) hC dX10_redo_61 ?_
    refine g_puti (pc := 62) (fty := .int) hC kX10 rfl 31 (by decide) fl_RX10_158 rfl rfl rfl rfl (fun _ _ => Nat.le_of_ble_eq_true rfl) (fun _ _ => rfl) dX10_redo_62 (fun s3 => ?_)
    refine g_aload_n (pc := 65) (q := 0) hC dX10_redo_65 rfl rfl ?_
    refine g_get (pc := 66) (v := .int (s3.1 52 30)) hC kX10 rfl 30 (by decide) fl_RX10_161 rfl dX10_redo_66 ?_
    refine g_aload_n (pc := 69) (q := 0) hC dX10_redo_69 rfl rfl ?_
    refine g_get (pc := 70) (v := .int (s3.1 52 31)) hC kX10 rfl 31 (by decide) fl_RX10_158 rfl dX10_redo_70 ?_
    refine g_isub (pc := 73) hC dX10_redo_73 ?_
    exact g_iret (pc := 74) hC dX10_redo_74
  · refine g_bipush (pc := 11) (v := (-5)) hC dX10_redo_11 (by decide) ?_
    exact g_iret (pc := 13) hC dX10_redo_13
theorem fl_RX10_164 : Cond.fieldLink RX10 164 "WinterShedModel" "taped" "I" ∈ gBig := (gBig_tab 1062 (by decide +kernel) (by decide +kernel))
theorem dX10_feed_0 : decode cX10_feed 0 = .ok (.iload_n 1, 1) := by decide +kernel
theorem dX10_feed_1 : decode cX10_feed 1 = .ok (.iconst 0, 1) := by decide +kernel
theorem dX10_feed_2 : decode cX10_feed 2 = .ok (.sipush 255, 3) := by decide +kernel
theorem dX10_feed_5 : decode cX10_feed 5 = .ok (.invokestatic 110, 3) := by decide +kernel
theorem dX10_feed_8 : decode cX10_feed 8 = .ok (.ifCond .ne 5, 3) := by decide +kernel
theorem dX10_feed_11 : decode cX10_feed 11 = .ok (.iconst (-1), 1) := by decide +kernel
theorem dX10_feed_12 : decode cX10_feed 12 = .ok (.ireturn, 1) := by decide +kernel
theorem dX10_feed_13 : decode cX10_feed 13 = .ok (.aload_n 0, 1) := by decide +kernel
theorem dX10_feed_14 : decode cX10_feed 14 = .ok (.getfield 164, 3) := by decide +kernel
theorem dX10_feed_17 : decode cX10_feed 17 = .ok (.bipush 120, 2) := by decide +kernel
theorem dX10_feed_19 : decode cX10_feed 19 = .ok (.if_icmp .ne 6, 3) := by decide +kernel
theorem dX10_feed_22 : decode cX10_feed 22 = .ok (.bipush (-3), 2) := by decide +kernel
theorem dX10_feed_24 : decode cX10_feed 24 = .ok (.ireturn, 1) := by decide +kernel
theorem dX10_feed_25 : decode cX10_feed 25 = .ok (.aload_n 0, 1) := by decide +kernel
theorem dX10_feed_26 : decode cX10_feed 26 = .ok (.getfield 33, 3) := by decide +kernel
theorem dX10_feed_29 : decode cX10_feed 29 = .ok (.aload_n 0, 1) := by decide +kernel
theorem dX10_feed_30 : decode cX10_feed 30 = .ok (.dup, 1) := by decide +kernel
theorem dX10_feed_31 : decode cX10_feed 31 = .ok (.getfield 164, 3) := by decide +kernel
theorem dX10_feed_34 : decode cX10_feed 34 = .ok (.dup_x1, 1) := by decide +kernel
theorem dX10_feed_35 : decode cX10_feed 35 = .ok (.iconst 1, 1) := by decide +kernel
theorem dX10_feed_36 : decode cX10_feed 36 = .ok (.iadd, 1) := by decide +kernel
theorem dX10_feed_37 : decode cX10_feed 37 = .ok (.putfield 164, 3) := by decide +kernel
theorem dX10_feed_40 : decode cX10_feed 40 = .ok (.iload_n 1, 1) := by decide +kernel
theorem dX10_feed_41 : decode cX10_feed 41 = .ok (.iastore, 1) := by decide +kernel
theorem dX10_feed_42 : decode cX10_feed 42 = .ok (.aload_n 0, 1) := by decide +kernel
theorem dX10_feed_43 : decode cX10_feed 43 = .ok (.getfield 164, 3) := by decide +kernel
theorem dX10_feed_46 : decode cX10_feed 46 = .ok (.ireturn, 1) := by decide +kernel
abbrev rX10_feed : Room := { frames := 1, cells := 0, slots := 0, locals := 22 }
def mX10_feed (σ : gS) (p0 : Int32) : Option (Int32 × gS) := gBind (mX10_within σ p0 0 255) (fun r1 s2 => if r1 = true then (if (s2.1 52 9) = 120 then (some ((-3), s2)) else (gLet (gUI s2 52 9 ((s2.1 52 9) + 1)) (fun s3 => if inbB (s2.1 52 9) 120 = true then gLet (gUI s3 60 (Int32.toNatClampNeg (s2.1 52 9)) p0) (fun s4 => some ((s4.1 52 9), s4)) else none))) else (some ((-1), s2)))
set_option maxHeartbeats 4000000 in
set_option maxRecDepth 100000 in
theorem tX10_feed (l : Launch) (G : gE) (σ : gS) (p0 : Int32) : gM l G yX10_feed cX10_feed 2 (some .int) rX10_feed iI [.ref (G.2.1 52), .int p0] σ (mX10_feed σ p0) := by
  refine gM_of (by decide) (Nat.le_of_ble_eq_true rfl) ?_
  intro p e s m args below meth c hC
  unfold mX10_feed
  show gT p l e rX10_feed s m args below meth c G 2 iI σ 0 [(0, .ref (G.2.1 52)), (1, .int p0)] [] _
  refine g_iload_n (pc := 0) (q := 1) hC dX10_feed_0 rfl rfl ?_
  refine g_iconst (pc := 1) (v := 0) hC dX10_feed_1 (by decide) ?_
  refine g_sipush (pc := 2) (v := 255) hC dX10_feed_2 (by decide) ?_
  refine g_callSz (pc := 5) (As := [.int p0, .int 0, .int 255]) (rest := []) hC lk_RX10_110 (tX10_within _ _ σ p0 0 255) rfl rfl (Nat.le_of_ble_eq_true rfl) ⟨rfl, rfl, Nat.le_of_ble_eq_true rfl, Nat.le_of_ble_eq_true rfl⟩ dX10_feed_5 (fun r1 s2 => ?_)
  refine g_bif_ne (pc := 8) (tgt := 13) hC dX10_feed_8 (by decide) ?_ ?_
  · refine g_aload_n (pc := 13) (q := 0) hC dX10_feed_13 rfl rfl ?_
    refine g_get (pc := 14) (v := .int (s2.1 52 9)) hC kX10 rfl 9 (by decide) fl_RX10_164 rfl dX10_feed_14 ?_
    refine g_bipush (pc := 17) (v := 120) hC dX10_feed_17 (by decide) ?_
    refine g_icmp_ne (pc := 19) (tgt := 25) hC dX10_feed_19 (by decide) ?_ ?_
    · refine g_aload_n (pc := 25) (q := 0) hC dX10_feed_25 rfl rfl ?_
      refine g_get (pc := 26) (v := .ref (G.2.1 60)) hC kX10 rfl 10 (by decide) fl_RX10_33 rfl dX10_feed_26 ?_
      refine g_aload_n (pc := 29) (q := 0) hC dX10_feed_29 rfl rfl ?_
      refine g_dup (pc := 30) hC dX10_feed_30 rfl ?_
      refine g_get (pc := 31) (v := .int (s2.1 52 9)) hC kX10 rfl 9 (by decide) fl_RX10_164 rfl dX10_feed_31 ?_
      refine g_dup_x1 (pc := 34) hC dX10_feed_34 rfl rfl ?_
      refine g_iconst (pc := 35) (v := 1) hC dX10_feed_35 (by decide) ?_
      refine g_iadd (pc := 36) hC dX10_feed_36 ?_
      refine g_puti (pc := 37) (fty := .int) hC kX10 rfl 9 (by decide) fl_RX10_164 rfl rfl rfl rfl (fun _ _ => Nat.le_of_ble_eq_true rfl) (fun _ _ => rfl) dX10_feed_37 (fun s3 => ?_)
      refine g_iload_n (pc := 40) (q := 1) hC dX10_feed_40 rfl rfl ?_
      refine g_iast (pc := 41) hC 120 rfl (by decide) dX10_feed_41 (fun s4 => ?_)
      refine g_aload_n (pc := 42) (q := 0) hC dX10_feed_42 rfl rfl ?_
      refine g_get (pc := 43) (v := .int (s4.1 52 9)) hC kX10 rfl 9 (by decide) fl_RX10_164 rfl dX10_feed_43 ?_
      exact g_iret (pc := 46) hC dX10_feed_46
    · refine g_bipush (pc := 22) (v := (-3)) hC dX10_feed_22 (by decide) ?_
      exact g_iret (pc := 24) hC dX10_feed_24
  · refine g_iconst (pc := 11) (v := (-1)) hC dX10_feed_11 (by decide) ?_
    exact g_iret (pc := 12) hC dX10_feed_12
theorem fl_RX10_167 : Cond.fieldLink RX10 167 "WinterShedModel" "at" "I" ∈ gBig := (gBig_tab 1070 (by decide +kernel) (by decide +kernel))
theorem dX10_sign_0 : decode cX10_sign 0 = .ok (.aload_n 0, 1) := by decide +kernel
theorem dX10_sign_1 : decode cX10_sign 1 = .ok (.getfield 167, 3) := by decide +kernel
theorem dX10_sign_4 : decode cX10_sign 4 = .ok (.aload_n 0, 1) := by decide +kernel
theorem dX10_sign_5 : decode cX10_sign 5 = .ok (.getfield 164, 3) := by decide +kernel
theorem dX10_sign_8 : decode cX10_sign 8 = .ok (.if_icmp .ge 15, 3) := by decide +kernel
theorem dX10_sign_11 : decode cX10_sign 11 = .ok (.aload_n 0, 1) := by decide +kernel
theorem dX10_sign_12 : decode cX10_sign 12 = .ok (.getfield 33, 3) := by decide +kernel
theorem dX10_sign_15 : decode cX10_sign 15 = .ok (.aload_n 0, 1) := by decide +kernel
theorem dX10_sign_16 : decode cX10_sign 16 = .ok (.getfield 167, 3) := by decide +kernel
theorem dX10_sign_19 : decode cX10_sign 19 = .ok (.iaload, 1) := by decide +kernel
theorem dX10_sign_20 : decode cX10_sign 20 = .ok (.goto 4, 3) := by decide +kernel
theorem dX10_sign_23 : decode cX10_sign 23 = .ok (.iconst (-1), 1) := by decide +kernel
theorem dX10_sign_24 : decode cX10_sign 24 = .ok (.ireturn, 1) := by decide +kernel
abbrev rX10_sign : Room := { frames := 0, cells := 0, slots := 0, locals := 0 }
def mX10_sign (σ : gS)  : Option (Int32 × gS) := if (σ.1 52 9) ≤ (σ.1 52 17) then (some ((-1), σ)) else (if inbB (σ.1 52 17) 120 = true then (some ((σ.1 60 (Int32.toNatClampNeg (σ.1 52 17))), σ)) else none)
set_option maxHeartbeats 4000000 in
set_option maxRecDepth 100000 in
theorem tX10_sign (l : Launch) (G : gE) (σ : gS)  : gM l G yX10_sign cX10_sign 1 (some .int) rX10_sign iI [.ref (G.2.1 52)] σ (mX10_sign σ ) := by
  refine gM_of (by decide) (Nat.le_of_ble_eq_true rfl) ?_
  intro p e s m args below meth c hC
  unfold mX10_sign
  show gT p l e rX10_sign s m args below meth c G 1 iI σ 0 [(0, .ref (G.2.1 52))] [] _
  refine g_aload_n (pc := 0) (q := 0) hC dX10_sign_0 rfl rfl ?_
  refine g_get (pc := 1) (v := .int (σ.1 52 17)) hC kX10 rfl 17 (by decide) fl_RX10_167 rfl dX10_sign_1 ?_
  refine g_aload_n (pc := 4) (q := 0) hC dX10_sign_4 rfl rfl ?_
  refine g_get (pc := 5) (v := .int (σ.1 52 9)) hC kX10 rfl 9 (by decide) fl_RX10_164 rfl dX10_sign_5 ?_
  refine g_icmp_ge (pc := 8) (tgt := 23) hC dX10_sign_8 (by decide) ?_ ?_
  · refine g_iconst (pc := 23) (v := (-1)) hC dX10_sign_23 (by decide) ?_
    exact g_iret (pc := 24) hC dX10_sign_24
  · refine g_aload_n (pc := 11) (q := 0) hC dX10_sign_11 rfl rfl ?_
    refine g_get (pc := 12) (v := .ref (G.2.1 60)) hC kX10 rfl 10 (by decide) fl_RX10_33 rfl dX10_sign_12 ?_
    refine g_aload_n (pc := 15) (q := 0) hC dX10_sign_15 rfl rfl ?_
    refine g_get (pc := 16) (v := .int (σ.1 52 17)) hC kX10 rfl 17 (by decide) fl_RX10_167 rfl dX10_sign_16 ?_
    refine g_iald (pc := 19) hC 120 rfl (by decide) dX10_sign_19 ?_
    refine g_goto (pc := 20) (tgt := 24) hC dX10_sign_20 (by decide) ?_
    exact g_iret (pc := 24) hC dX10_sign_24
theorem lk_RX10_170 : gLV RX10 170 RX10 yX10_sign cX10_sign 1 (some .int) 0 := ⟨(gBig_tab 1311 (by decide +kernel) (by decide +kernel)), (gBig_tab 1313 (by decide +kernel) (by decide +kernel)), (gBig_sel 60 (by decide +kernel) (by decide +kernel)), (gBig_tab 11 (by decide +kernel) (by decide +kernel)), (gBig_tab 1314 (by decide +kernel) (by decide +kernel)), rfl, by decide +kernel, by decide +kernel, by decide +kernel⟩
theorem dX10_is_0 : decode cX10_is 0 = .ok (.aload_n 0, 1) := by decide +kernel
theorem dX10_is_1 : decode cX10_is 1 = .ok (.invokevirtual 170, 3) := by decide +kernel
theorem dX10_is_4 : decode cX10_is 4 = .ok (.iload_n 1, 1) := by decide +kernel
theorem dX10_is_5 : decode cX10_is 5 = .ok (.if_icmp .eq 5, 3) := by decide +kernel
theorem dX10_is_8 : decode cX10_is 8 = .ok (.iconst 0, 1) := by decide +kernel
theorem dX10_is_9 : decode cX10_is 9 = .ok (.ireturn, 1) := by decide +kernel
theorem dX10_is_10 : decode cX10_is 10 = .ok (.aload_n 0, 1) := by decide +kernel
theorem dX10_is_11 : decode cX10_is 11 = .ok (.dup, 1) := by decide +kernel
theorem dX10_is_12 : decode cX10_is 12 = .ok (.getfield 167, 3) := by decide +kernel
theorem dX10_is_15 : decode cX10_is 15 = .ok (.iconst 1, 1) := by decide +kernel
theorem dX10_is_16 : decode cX10_is 16 = .ok (.iadd, 1) := by decide +kernel
theorem dX10_is_17 : decode cX10_is 17 = .ok (.putfield 167, 3) := by decide +kernel
theorem dX10_is_20 : decode cX10_is 20 = .ok (.iconst 1, 1) := by decide +kernel
theorem dX10_is_21 : decode cX10_is 21 = .ok (.ireturn, 1) := by decide +kernel
abbrev rX10_is : Room := { frames := 1, cells := 0, slots := 0, locals := 20 }
def mX10_is (σ : gS) (p0 : Int32) : Option (Bool × gS) := gBind (mX10_sign σ ) (fun r1 s2 => if r1 = p0 then (gLet (gUI s2 52 17 ((s2.1 52 17) + 1)) (fun s3 => some (true, s3))) else (some (false, s2)))
set_option maxHeartbeats 4000000 in
set_option maxRecDepth 100000 in
theorem tX10_is (l : Launch) (G : gE) (σ : gS) (p0 : Int32) : gM l G yX10_is cX10_is 2 (some .boolean) rX10_is iZ [.ref (G.2.1 52), .int p0] σ (mX10_is σ p0) := by
  refine gM_of (by decide) (Nat.le_of_ble_eq_true rfl) ?_
  intro p e s m args below meth c hC
  unfold mX10_is
  show gT p l e rX10_is s m args below meth c G 2 iZ σ 0 [(0, .ref (G.2.1 52)), (1, .int p0)] [] _
  refine g_aload_n (pc := 0) (q := 0) hC dX10_is_0 rfl rfl ?_
  refine g_callVi (pc := 1) (As := []) (rest := []) hC lk_RX10_170 kX10 rfl (tX10_sign _ _ σ ) rfl rfl (Nat.le_of_ble_eq_true rfl) ⟨rfl, rfl, Nat.le_of_ble_eq_true rfl, Nat.le_of_ble_eq_true rfl⟩ dX10_is_1 (fun r1 s2 => ?_)
  refine g_iload_n (pc := 4) (q := 1) hC dX10_is_4 rfl rfl ?_
  refine g_icmp_eq (pc := 5) (tgt := 10) hC dX10_is_5 (by decide) ?_ ?_
  · refine g_aload_n (pc := 10) (q := 0) hC dX10_is_10 rfl rfl ?_
    refine g_dup (pc := 11) hC dX10_is_11 rfl ?_
    refine g_get (pc := 12) (v := .int (s2.1 52 17)) hC kX10 rfl 17 (by decide) fl_RX10_167 rfl dX10_is_12 ?_
    refine g_iconst (pc := 15) (v := 1) hC dX10_is_15 (by decide) ?_
    refine g_iadd (pc := 16) hC dX10_is_16 ?_
    refine g_puti (pc := 17) (fty := .int) hC kX10 rfl 17 (by decide) fl_RX10_167 rfl rfl rfl rfl (fun _ _ => Nat.le_of_ble_eq_true rfl) (fun _ _ => rfl) dX10_is_17 (fun s3 => ?_)
    refine g_iconst (pc := 20) (v := 1) hC dX10_is_20 (by decide) ?_
    exact g_zret1 (pc := 21) hC dX10_is_21
  · refine g_iconst (pc := 8) (v := 0) hC dX10_is_8 (by decide) ?_
    exact g_zret0 (pc := 9) hC dX10_is_9
theorem fl_RX10_174 : Cond.fieldLink RX10 174 "WinterShedModel" "coded" "I" ∈ gBig := (gBig_tab 1072 (by decide +kernel) (by decide +kernel))
theorem dX10_codes_0 : decode cX10_codes 0 = .ok (.aload_n 0, 1) := by decide +kernel
theorem dX10_codes_1 : decode cX10_codes 1 = .ok (.getfield 57, 3) := by decide +kernel
theorem dX10_codes_4 : decode cX10_codes 4 = .ok (.aload_n 0, 1) := by decide +kernel
theorem dX10_codes_5 : decode cX10_codes 5 = .ok (.dup, 1) := by decide +kernel
theorem dX10_codes_6 : decode cX10_codes 6 = .ok (.getfield 174, 3) := by decide +kernel
theorem dX10_codes_9 : decode cX10_codes 9 = .ok (.dup_x1, 1) := by decide +kernel
theorem dX10_codes_10 : decode cX10_codes 10 = .ok (.iconst 1, 1) := by decide +kernel
theorem dX10_codes_11 : decode cX10_codes 11 = .ok (.iadd, 1) := by decide +kernel
theorem dX10_codes_12 : decode cX10_codes 12 = .ok (.putfield 174, 3) := by decide +kernel
theorem dX10_codes_15 : decode cX10_codes 15 = .ok (.iload_n 1, 1) := by decide +kernel
theorem dX10_codes_16 : decode cX10_codes 16 = .ok (.iastore, 1) := by decide +kernel
theorem dX10_codes_17 : decode cX10_codes 17 = .ok (.iconst 1, 1) := by decide +kernel
theorem dX10_codes_18 : decode cX10_codes 18 = .ok (.ireturn, 1) := by decide +kernel
abbrev rX10_codes : Room := { frames := 0, cells := 0, slots := 0, locals := 0 }
def mX10_codes (σ : gS) (p0 : Int32) : Option (Bool × gS) := gLet (gUI σ 52 19 ((σ.1 52 19) + 1)) (fun s1 => if inbB (σ.1 52 19) 200 = true then gLet (gUI s1 68 (Int32.toNatClampNeg (σ.1 52 19)) p0) (fun s2 => some (true, s2)) else none)
set_option maxHeartbeats 4000000 in
set_option maxRecDepth 100000 in
theorem tX10_codes (l : Launch) (G : gE) (σ : gS) (p0 : Int32) : gM l G yX10_codes cX10_codes 2 (some .boolean) rX10_codes iZ [.ref (G.2.1 52), .int p0] σ (mX10_codes σ p0) := by
  refine gM_of (by decide) (Nat.le_of_ble_eq_true rfl) ?_
  intro p e s m args below meth c hC
  unfold mX10_codes
  show gT p l e rX10_codes s m args below meth c G 2 iZ σ 0 [(0, .ref (G.2.1 52)), (1, .int p0)] [] _
  refine g_aload_n (pc := 0) (q := 0) hC dX10_codes_0 rfl rfl ?_
  refine g_get (pc := 1) (v := .ref (G.2.1 68)) hC kX10 rfl 24 (by decide) fl_RX10_57 rfl dX10_codes_1 ?_
  refine g_aload_n (pc := 4) (q := 0) hC dX10_codes_4 rfl rfl ?_
  refine g_dup (pc := 5) hC dX10_codes_5 rfl ?_
  refine g_get (pc := 6) (v := .int (σ.1 52 19)) hC kX10 rfl 19 (by decide) fl_RX10_174 rfl dX10_codes_6 ?_
  refine g_dup_x1 (pc := 9) hC dX10_codes_9 rfl rfl ?_
  refine g_iconst (pc := 10) (v := 1) hC dX10_codes_10 (by decide) ?_
  refine g_iadd (pc := 11) hC dX10_codes_11 ?_
  refine g_puti (pc := 12) (fty := .int) hC kX10 rfl 19 (by decide) fl_RX10_174 rfl rfl rfl rfl (fun _ _ => Nat.le_of_ble_eq_true rfl) (fun _ _ => rfl) dX10_codes_12 (fun s1 => ?_)
  refine g_iload_n (pc := 15) (q := 1) hC dX10_codes_15 rfl rfl ?_
  refine g_iast (pc := 16) hC 200 rfl (by decide) dX10_codes_16 (fun s2 => ?_)
  refine g_iconst (pc := 17) (v := 1) hC dX10_codes_17 (by decide) ?_
  exact g_zret1 (pc := 18) hC dX10_codes_18
theorem dX10_isDigit_0 : decode cX10_isDigit 0 = .ok (.aload_n 0, 1) := by decide +kernel
theorem dX10_isDigit_1 : decode cX10_isDigit 1 = .ok (.invokevirtual 170, 3) := by decide +kernel
theorem dX10_isDigit_4 : decode cX10_isDigit 4 = .ok (.bipush 48, 2) := by decide +kernel
theorem dX10_isDigit_6 : decode cX10_isDigit 6 = .ok (.if_icmp .lt 16, 3) := by decide +kernel
theorem dX10_isDigit_9 : decode cX10_isDigit 9 = .ok (.aload_n 0, 1) := by decide +kernel
theorem dX10_isDigit_10 : decode cX10_isDigit 10 = .ok (.invokevirtual 170, 3) := by decide +kernel
theorem dX10_isDigit_13 : decode cX10_isDigit 13 = .ok (.bipush 57, 2) := by decide +kernel
theorem dX10_isDigit_15 : decode cX10_isDigit 15 = .ok (.if_icmp .gt 7, 3) := by decide +kernel
theorem dX10_isDigit_18 : decode cX10_isDigit 18 = .ok (.iconst 1, 1) := by decide +kernel
theorem dX10_isDigit_19 : decode cX10_isDigit 19 = .ok (.goto 4, 3) := by decide +kernel
theorem dX10_isDigit_22 : decode cX10_isDigit 22 = .ok (.iconst 0, 1) := by decide +kernel
theorem dX10_isDigit_23 : decode cX10_isDigit 23 = .ok (.ireturn, 1) := by decide +kernel
abbrev rX10_isDigit : Room := { frames := 1, cells := 0, slots := 0, locals := 20 }
def mX10_isDigit (σ : gS)  : Option (Bool × gS) := gBind (mX10_sign σ ) (fun r1 s2 => if r1 < 48 then (some (false, s2)) else (gBind (mX10_sign s2 ) (fun r3 s4 => if 57 < r3 then (some (false, s4)) else (some (true, s4)))))
set_option maxHeartbeats 4000000 in
set_option maxRecDepth 100000 in
theorem tX10_isDigit (l : Launch) (G : gE) (σ : gS)  : gM l G yX10_isDigit cX10_isDigit 1 (some .boolean) rX10_isDigit iZ [.ref (G.2.1 52)] σ (mX10_isDigit σ ) := by
  refine gM_of (by decide) (Nat.le_of_ble_eq_true rfl) ?_
  intro p e s m args below meth c hC
  unfold mX10_isDigit
  show gT p l e rX10_isDigit s m args below meth c G 1 iZ σ 0 [(0, .ref (G.2.1 52))] [] _
  refine g_aload_n (pc := 0) (q := 0) hC dX10_isDigit_0 rfl rfl ?_
  refine g_callVi (pc := 1) (As := []) (rest := []) hC lk_RX10_170 kX10 rfl (tX10_sign _ _ σ ) rfl rfl (Nat.le_of_ble_eq_true rfl) ⟨rfl, rfl, Nat.le_of_ble_eq_true rfl, Nat.le_of_ble_eq_true rfl⟩ dX10_isDigit_1 (fun r1 s2 => ?_)
  refine g_bipush (pc := 4) (v := 48) hC dX10_isDigit_4 (by decide) ?_
  refine g_icmp_lt (pc := 6) (tgt := 22) hC dX10_isDigit_6 (by decide) ?_ ?_
  · refine g_iconst (pc := 22) (v := 0) hC dX10_isDigit_22 (by decide) ?_
    exact g_zret0 (pc := 23) hC dX10_isDigit_23
  · refine g_aload_n (pc := 9) (q := 0) hC dX10_isDigit_9 rfl rfl ?_
    refine g_callVi (pc := 10) (As := []) (rest := []) hC lk_RX10_170 kX10 rfl (tX10_sign _ _ s2 ) rfl rfl (Nat.le_of_ble_eq_true rfl) ⟨rfl, rfl, Nat.le_of_ble_eq_true rfl, Nat.le_of_ble_eq_true rfl⟩ dX10_isDigit_10 (fun r3 s4 => ?_)
    refine g_bipush (pc := 13) (v := 57) hC dX10_isDigit_13 (by decide) ?_
    refine g_icmp_gt (pc := 15) (tgt := 22) hC dX10_isDigit_15 (by decide) ?_ ?_
    · refine g_iconst (pc := 22) (v := 0) hC dX10_isDigit_22 (by decide) ?_
      exact g_zret0 (pc := 23) hC dX10_isDigit_23
    · refine g_iconst (pc := 18) (v := 1) hC dX10_isDigit_18 (by decide) ?_
      refine g_goto (pc := 19) (tgt := 23) hC dX10_isDigit_19 (by decide) ?_
      exact g_zret1 (pc := 23) hC dX10_isDigit_23
theorem dX10_nameOf_0 : decode cX10_nameOf 0 = .ok (.iload_n 0, 1) := by decide +kernel
theorem dX10_nameOf_1 : decode cX10_nameOf 1 = .ok (.tableswitch 71 98 108 #[69, 59, 67, 71, 71, 63, 71, 71, 71, 65, 61], 59) := by decide +kernel
theorem dX10_nameOf_60 : decode cX10_nameOf 60 = .ok (.iconst 0, 1) := by decide +kernel
theorem dX10_nameOf_61 : decode cX10_nameOf 61 = .ok (.ireturn, 1) := by decide +kernel
theorem dX10_nameOf_62 : decode cX10_nameOf 62 = .ok (.iconst 1, 1) := by decide +kernel
theorem dX10_nameOf_63 : decode cX10_nameOf 63 = .ok (.ireturn, 1) := by decide +kernel
theorem dX10_nameOf_64 : decode cX10_nameOf 64 = .ok (.iconst 2, 1) := by decide +kernel
theorem dX10_nameOf_65 : decode cX10_nameOf 65 = .ok (.ireturn, 1) := by decide +kernel
theorem dX10_nameOf_66 : decode cX10_nameOf 66 = .ok (.iconst 3, 1) := by decide +kernel
theorem dX10_nameOf_67 : decode cX10_nameOf 67 = .ok (.ireturn, 1) := by decide +kernel
theorem dX10_nameOf_68 : decode cX10_nameOf 68 = .ok (.iconst 4, 1) := by decide +kernel
theorem dX10_nameOf_69 : decode cX10_nameOf 69 = .ok (.ireturn, 1) := by decide +kernel
theorem dX10_nameOf_70 : decode cX10_nameOf 70 = .ok (.iconst 5, 1) := by decide +kernel
theorem dX10_nameOf_71 : decode cX10_nameOf 71 = .ok (.ireturn, 1) := by decide +kernel
theorem dX10_nameOf_72 : decode cX10_nameOf 72 = .ok (.iconst (-1), 1) := by decide +kernel
theorem dX10_nameOf_73 : decode cX10_nameOf 73 = .ok (.ireturn, 1) := by decide +kernel
abbrev rX10_nameOf : Room := { frames := 0, cells := 0, slots := 0, locals := 0 }
def mX10_nameOf (σ : gS) (p0 : Int32) : Option (Int32 × gS) := if p0 = 98 then (some (5, σ)) else (if p0 = 99 then (some (0, σ)) else (if p0 = 100 then (some (4, σ)) else (if p0 = 101 then (some ((-1), σ)) else (if p0 = 102 then (some ((-1), σ)) else (if p0 = 103 then (some (2, σ)) else (if p0 = 104 then (some ((-1), σ)) else (if p0 = 105 then (some ((-1), σ)) else (if p0 = 106 then (some ((-1), σ)) else (if p0 = 107 then (some (3, σ)) else (if p0 = 108 then (some (1, σ)) else (some ((-1), σ))))))))))))
set_option maxHeartbeats 4000000 in
set_option maxRecDepth 100000 in
theorem tX10_nameOf (l : Launch) (G : gE) (σ : gS) (p0 : Int32) : gM l G yX10_nameOf cX10_nameOf 1 (some .int) rX10_nameOf iI [.int p0] σ (mX10_nameOf σ p0) := by
  refine gM_of (by decide) (Nat.le_of_ble_eq_true rfl) ?_
  intro p e s m args below meth c hC
  unfold mX10_nameOf
  show gT p l e rX10_nameOf s m args below meth c G 1 iI σ 0 [(0, .int p0)] [] _
  refine g_iload_n (pc := 0) (q := 0) hC dX10_nameOf_0 rfl rfl ?_
  refine gT_if (fun c100 => ?_) (fun c100 => ?_)
  · refine g_tabIn (tgt := 70) (off := 69) hC dX10_nameOf_1 c100 (by decide) (by decide) (by decide) (by decide) ?_
    refine g_iconst (pc := 70) (v := 5) hC dX10_nameOf_70 (by decide) ?_
    exact g_iret (pc := 71) hC dX10_nameOf_71
  · refine gT_if (fun c101 => ?_) (fun c101 => ?_)
    · refine g_tabIn (tgt := 60) (off := 59) hC dX10_nameOf_1 c101 (by decide) (by decide) (by decide) (by decide) ?_
      refine g_iconst (pc := 60) (v := 0) hC dX10_nameOf_60 (by decide) ?_
      exact g_iret (pc := 61) hC dX10_nameOf_61
    · refine gT_if (fun c102 => ?_) (fun c102 => ?_)
      · refine g_tabIn (tgt := 68) (off := 67) hC dX10_nameOf_1 c102 (by decide) (by decide) (by decide) (by decide) ?_
        refine g_iconst (pc := 68) (v := 4) hC dX10_nameOf_68 (by decide) ?_
        exact g_iret (pc := 69) hC dX10_nameOf_69
      · refine gT_if (fun c103 => ?_) (fun c103 => ?_)
        · refine g_tabIn (tgt := 72) (off := 71) hC dX10_nameOf_1 c103 (by decide) (by decide) (by decide) (by decide) ?_
          refine g_iconst (pc := 72) (v := (-1)) hC dX10_nameOf_72 (by decide) ?_
          exact g_iret (pc := 73) hC dX10_nameOf_73
        · refine gT_if (fun c104 => ?_) (fun c104 => ?_)
          · refine g_tabIn (tgt := 72) (off := 71) hC dX10_nameOf_1 c104 (by decide) (by decide) (by decide) (by decide) ?_
            refine g_iconst (pc := 72) (v := (-1)) hC dX10_nameOf_72 (by decide) ?_
            exact g_iret (pc := 73) hC dX10_nameOf_73
          · refine gT_if (fun c105 => ?_) (fun c105 => ?_)
            · refine g_tabIn (tgt := 64) (off := 63) hC dX10_nameOf_1 c105 (by decide) (by decide) (by decide) (by decide) ?_
              refine g_iconst (pc := 64) (v := 2) hC dX10_nameOf_64 (by decide) ?_
              exact g_iret (pc := 65) hC dX10_nameOf_65
            · refine gT_if (fun c106 => ?_) (fun c106 => ?_)
              · refine g_tabIn (tgt := 72) (off := 71) hC dX10_nameOf_1 c106 (by decide) (by decide) (by decide) (by decide) ?_
                refine g_iconst (pc := 72) (v := (-1)) hC dX10_nameOf_72 (by decide) ?_
                exact g_iret (pc := 73) hC dX10_nameOf_73
              · refine gT_if (fun c107 => ?_) (fun c107 => ?_)
                · refine g_tabIn (tgt := 72) (off := 71) hC dX10_nameOf_1 c107 (by decide) (by decide) (by decide) (by decide) ?_
                  refine g_iconst (pc := 72) (v := (-1)) hC dX10_nameOf_72 (by decide) ?_
                  exact g_iret (pc := 73) hC dX10_nameOf_73
                · refine gT_if (fun c108 => ?_) (fun c108 => ?_)
                  · refine g_tabIn (tgt := 72) (off := 71) hC dX10_nameOf_1 c108 (by decide) (by decide) (by decide) (by decide) ?_
                    refine g_iconst (pc := 72) (v := (-1)) hC dX10_nameOf_72 (by decide) ?_
                    exact g_iret (pc := 73) hC dX10_nameOf_73
                  · refine gT_if (fun c109 => ?_) (fun c109 => ?_)
                    · refine g_tabIn (tgt := 66) (off := 65) hC dX10_nameOf_1 c109 (by decide) (by decide) (by decide) (by decide) ?_
                      refine g_iconst (pc := 66) (v := 3) hC dX10_nameOf_66 (by decide) ?_
                      exact g_iret (pc := 67) hC dX10_nameOf_67
                    · refine gT_if (fun c110 => ?_) (fun c110 => ?_)
                      · refine g_tabIn (tgt := 62) (off := 61) hC dX10_nameOf_1 c110 (by decide) (by decide) (by decide) (by decide) ?_
                        refine g_iconst (pc := 62) (v := 1) hC dX10_nameOf_62 (by decide) ?_
                        exact g_iret (pc := 63) hC dX10_nameOf_63
                      · refine g_tabOut (tgt := 72) hC dX10_nameOf_1 (by have q0 := gne c100 (n := 98) rfl; have q1 := gne c101 (n := 99) rfl; have q2 := gne c102 (n := 100) rfl; have q3 := gne c103 (n := 101) rfl; have q4 := gne c104 (n := 102) rfl; have q5 := gne c105 (n := 103) rfl; have q6 := gne c106 (n := 104) rfl; have q7 := gne c107 (n := 105) rfl; have q8 := gne c108 (n := 106) rfl; have q9 := gne c109 (n := 107) rfl; have q10 := gne c110 (n := 108) rfl; omega) (by decide) ?_
                        refine g_iconst (pc := 72) (v := (-1)) hC dX10_nameOf_72 (by decide) ?_
                        exact g_iret (pc := 73) hC dX10_nameOf_73
theorem dX10_both_0 : decode cX10_both 0 = .ok (.iload_n 0, 1) := by decide +kernel
theorem dX10_both_1 : decode cX10_both 1 = .ok (.tableswitch 136 6 14 #[51, 65, 79, 90, 101, 112, 116, 120, 124], 51) := by decide +kernel
theorem dX10_both_52 : decode cX10_both 52 = .ok (.iload_n 1, 1) := by decide +kernel
theorem dX10_both_53 : decode cX10_both 53 = .ok (.ifCond .ne 7, 3) := by decide +kernel
theorem dX10_both_56 : decode cX10_both 56 = .ok (.iload_n 2, 1) := by decide +kernel
theorem dX10_both_57 : decode cX10_both 57 = .ok (.ifCond .eq 7, 3) := by decide +kernel
theorem dX10_both_60 : decode cX10_both 60 = .ok (.iconst 1, 1) := by decide +kernel
theorem dX10_both_61 : decode cX10_both 61 = .ok (.goto 4, 3) := by decide +kernel
theorem dX10_both_64 : decode cX10_both 64 = .ok (.iconst 0, 1) := by decide +kernel
theorem dX10_both_65 : decode cX10_both 65 = .ok (.ireturn, 1) := by decide +kernel
theorem dX10_both_66 : decode cX10_both 66 = .ok (.iload_n 1, 1) := by decide +kernel
theorem dX10_both_67 : decode cX10_both 67 = .ok (.ifCond .eq 11, 3) := by decide +kernel
theorem dX10_both_70 : decode cX10_both 70 = .ok (.iload_n 2, 1) := by decide +kernel
theorem dX10_both_71 : decode cX10_both 71 = .ok (.ifCond .eq 7, 3) := by decide +kernel
theorem dX10_both_74 : decode cX10_both 74 = .ok (.iconst 1, 1) := by decide +kernel
theorem dX10_both_75 : decode cX10_both 75 = .ok (.goto 4, 3) := by decide +kernel
theorem dX10_both_78 : decode cX10_both 78 = .ok (.iconst 0, 1) := by decide +kernel
theorem dX10_both_79 : decode cX10_both 79 = .ok (.ireturn, 1) := by decide +kernel
theorem dX10_both_80 : decode cX10_both 80 = .ok (.iload_n 1, 1) := by decide +kernel
theorem dX10_both_81 : decode cX10_both 81 = .ok (.iload_n 2, 1) := by decide +kernel
theorem dX10_both_82 : decode cX10_both 82 = .ok (.if_icmp .ge 7, 3) := by decide +kernel
theorem dX10_both_85 : decode cX10_both 85 = .ok (.iconst 1, 1) := by decide +kernel
theorem dX10_both_86 : decode cX10_both 86 = .ok (.goto 4, 3) := by decide +kernel
theorem dX10_both_89 : decode cX10_both 89 = .ok (.iconst 0, 1) := by decide +kernel
theorem dX10_both_90 : decode cX10_both 90 = .ok (.ireturn, 1) := by decide +kernel
theorem dX10_both_91 : decode cX10_both 91 = .ok (.iload_n 1, 1) := by decide +kernel
theorem dX10_both_92 : decode cX10_both 92 = .ok (.iload_n 2, 1) := by decide +kernel
theorem dX10_both_93 : decode cX10_both 93 = .ok (.if_icmp .ne 7, 3) := by decide +kernel
theorem dX10_both_96 : decode cX10_both 96 = .ok (.iconst 1, 1) := by decide +kernel
theorem dX10_both_97 : decode cX10_both 97 = .ok (.goto 4, 3) := by decide +kernel
theorem dX10_both_100 : decode cX10_both 100 = .ok (.iconst 0, 1) := by decide +kernel
theorem dX10_both_101 : decode cX10_both 101 = .ok (.ireturn, 1) := by decide +kernel
theorem dX10_both_102 : decode cX10_both 102 = .ok (.iload_n 1, 1) := by decide +kernel
theorem dX10_both_103 : decode cX10_both 103 = .ok (.iload_n 2, 1) := by decide +kernel
theorem dX10_both_104 : decode cX10_both 104 = .ok (.if_icmp .le 7, 3) := by decide +kernel
theorem dX10_both_107 : decode cX10_both 107 = .ok (.iconst 1, 1) := by decide +kernel
theorem dX10_both_108 : decode cX10_both 108 = .ok (.goto 4, 3) := by decide +kernel
theorem dX10_both_111 : decode cX10_both 111 = .ok (.iconst 0, 1) := by decide +kernel
theorem dX10_both_112 : decode cX10_both 112 = .ok (.ireturn, 1) := by decide +kernel
theorem dX10_both_113 : decode cX10_both 113 = .ok (.iload_n 1, 1) := by decide +kernel
theorem dX10_both_114 : decode cX10_both 114 = .ok (.iload_n 2, 1) := by decide +kernel
theorem dX10_both_115 : decode cX10_both 115 = .ok (.iadd, 1) := by decide +kernel
theorem dX10_both_116 : decode cX10_both 116 = .ok (.ireturn, 1) := by decide +kernel
theorem dX10_both_117 : decode cX10_both 117 = .ok (.iload_n 1, 1) := by decide +kernel
theorem dX10_both_118 : decode cX10_both 118 = .ok (.iload_n 2, 1) := by decide +kernel
theorem dX10_both_119 : decode cX10_both 119 = .ok (.isub, 1) := by decide +kernel
theorem dX10_both_120 : decode cX10_both 120 = .ok (.ireturn, 1) := by decide +kernel
theorem dX10_both_121 : decode cX10_both 121 = .ok (.iload_n 1, 1) := by decide +kernel
theorem dX10_both_122 : decode cX10_both 122 = .ok (.iload_n 2, 1) := by decide +kernel
theorem dX10_both_123 : decode cX10_both 123 = .ok (.imul, 1) := by decide +kernel
theorem dX10_both_124 : decode cX10_both 124 = .ok (.ireturn, 1) := by decide +kernel
theorem dX10_both_125 : decode cX10_both 125 = .ok (.iload_n 2, 1) := by decide +kernel
theorem dX10_both_126 : decode cX10_both 126 = .ok (.ifCond .ne 7, 3) := by decide +kernel
theorem dX10_both_129 : decode cX10_both 129 = .ok (.iconst 0, 1) := by decide +kernel
theorem dX10_both_130 : decode cX10_both 130 = .ok (.goto 6, 3) := by decide +kernel
theorem dX10_both_133 : decode cX10_both 133 = .ok (.iload_n 1, 1) := by decide +kernel
theorem dX10_both_134 : decode cX10_both 134 = .ok (.iload_n 2, 1) := by decide +kernel
theorem dX10_both_135 : decode cX10_both 135 = .ok (.idiv, 1) := by decide +kernel
theorem dX10_both_136 : decode cX10_both 136 = .ok (.ireturn, 1) := by decide +kernel
theorem dX10_both_137 : decode cX10_both 137 = .ok (.iload_n 2, 1) := by decide +kernel
theorem dX10_both_138 : decode cX10_both 138 = .ok (.ifCond .ne 7, 3) := by decide +kernel
theorem dX10_both_141 : decode cX10_both 141 = .ok (.iconst 0, 1) := by decide +kernel
theorem dX10_both_142 : decode cX10_both 142 = .ok (.goto 6, 3) := by decide +kernel
theorem dX10_both_145 : decode cX10_both 145 = .ok (.iload_n 1, 1) := by decide +kernel
theorem dX10_both_146 : decode cX10_both 146 = .ok (.iload_n 2, 1) := by decide +kernel
theorem dX10_both_147 : decode cX10_both 147 = .ok (.irem, 1) := by decide +kernel
theorem dX10_both_148 : decode cX10_both 148 = .ok (.ireturn, 1) := by decide +kernel
abbrev rX10_both : Room := { frames := 0, cells := 0, slots := 0, locals := 0 }
def mX10_both_b60    (σ : gS)  : Option (Int32 × gS) := some (1, σ)
set_option maxHeartbeats 4000000 in
set_option maxRecDepth 100000 in
theorem wX10_both_b60 {p : Program} {l : Launch} {e : Env} {s : State} {m : MethodId} {args : Array Value} {below : List Frame} {meth : Method} {c : Code} {G : gE} (hC : gCx p s m args meth c G RX10 cX10_both 3 (some .int))     (σ : gS)   : gT p l e rX10_both s m args below meth c G 3 iI σ 60 [] [] (mX10_both_b60  σ ) := by
  unfold mX10_both_b60
  refine g_iconst (pc := 60) (v := 1) hC dX10_both_60 (by decide) ?_
  refine g_goto (pc := 61) (tgt := 65) hC dX10_both_61 (by decide) ?_
  exact g_iret (pc := 65) hC dX10_both_65
def mX10_both (σ : gS) (p0 : Int32) (p1 : Int32) (p2 : Int32) : Option (Int32 × gS) := if p0 = 6 then (if p1 = 0 then (if p2 = 0 then (some (0, σ)) else ((mX10_both_b60  σ ))) else ((mX10_both_b60  σ ))) else (if p0 = 7 then (if p1 = 0 then (some (0, σ)) else (if p2 = 0 then (some (0, σ)) else (some (1, σ)))) else (if p0 = 8 then (if p2 ≤ p1 then (some (0, σ)) else (some (1, σ))) else (if p0 = 9 then (if p1 = p2 then (some (1, σ)) else (some (0, σ))) else (if p0 = 10 then (if p1 ≤ p2 then (some (0, σ)) else (some (1, σ))) else (if p0 = 11 then (some ((p1 + p2), σ)) else (if p0 = 12 then (some ((p1 - p2), σ)) else (if p0 = 13 then (some ((p1 * p2), σ)) else (if p0 = 14 then (if p2 = 0 then (some (0, σ)) else (if p2 = 0 then none else some ((p1 / p2), σ))) else (if p2 = 0 then (some (0, σ)) else (if p2 = 0 then none else some ((gRem p1 p2), σ)))))))))))
set_option maxHeartbeats 4000000 in
set_option maxRecDepth 100000 in
theorem tX10_both (l : Launch) (G : gE) (σ : gS) (p0 : Int32) (p1 : Int32) (p2 : Int32) : gM l G yX10_both cX10_both 3 (some .int) rX10_both iI [.int p0, .int p1, .int p2] σ (mX10_both σ p0 p1 p2) := by
  refine gM_of (by decide) (Nat.le_of_ble_eq_true rfl) ?_
  intro p e s m args below meth c hC
  unfold mX10_both
  show gT p l e rX10_both s m args below meth c G 3 iI σ 0 [(0, .int p0), (1, .int p1), (2, .int p2)] [] _
  refine g_iload_n (pc := 0) (q := 0) hC dX10_both_0 rfl rfl ?_
  refine gT_if (fun c100 => ?_) (fun c100 => ?_)
  · refine g_tabIn (tgt := 52) (off := 51) hC dX10_both_1 c100 (by decide) (by decide) (by decide) (by decide) ?_
    refine g_iload_n (pc := 52) (q := 1) hC dX10_both_52 rfl rfl ?_
    refine g_if_ne (pc := 53) (tgt := 60) hC dX10_both_53 (by decide) ?_ ?_
    · exact gT_sub [] rfl (wX10_both_b60 hC  σ )
    · refine g_iload_n (pc := 56) (q := 2) hC dX10_both_56 rfl rfl ?_
      refine g_if_eq (pc := 57) (tgt := 64) hC dX10_both_57 (by decide) ?_ ?_
      · refine g_iconst (pc := 64) (v := 0) hC dX10_both_64 (by decide) ?_
        exact g_iret (pc := 65) hC dX10_both_65
      · exact gT_sub [] rfl (wX10_both_b60 hC  σ )
  · refine gT_if (fun c101 => ?_) (fun c101 => ?_)
    · refine g_tabIn (tgt := 66) (off := 65) hC dX10_both_1 c101 (by decide) (by decide) (by decide) (by decide) ?_
      refine g_iload_n (pc := 66) (q := 1) hC dX10_both_66 rfl rfl ?_
      refine g_if_eq (pc := 67) (tgt := 78) hC dX10_both_67 (by decide) ?_ ?_
      · refine g_iconst (pc := 78) (v := 0) hC dX10_both_78 (by decide) ?_
        exact g_iret (pc := 79) hC dX10_both_79
      · refine g_iload_n (pc := 70) (q := 2) hC dX10_both_70 rfl rfl ?_
        refine g_if_eq (pc := 71) (tgt := 78) hC dX10_both_71 (by decide) ?_ ?_
        · refine g_iconst (pc := 78) (v := 0) hC dX10_both_78 (by decide) ?_
          exact g_iret (pc := 79) hC dX10_both_79
        · refine g_iconst (pc := 74) (v := 1) hC dX10_both_74 (by decide) ?_
          refine g_goto (pc := 75) (tgt := 79) hC dX10_both_75 (by decide) ?_
          exact g_iret (pc := 79) hC dX10_both_79
    · refine gT_if (fun c102 => ?_) (fun c102 => ?_)
      · refine g_tabIn (tgt := 80) (off := 79) hC dX10_both_1 c102 (by decide) (by decide) (by decide) (by decide) ?_
        refine g_iload_n (pc := 80) (q := 1) hC dX10_both_80 rfl rfl ?_
        refine g_iload_n (pc := 81) (q := 2) hC dX10_both_81 rfl rfl ?_
        refine g_icmp_ge (pc := 82) (tgt := 89) hC dX10_both_82 (by decide) ?_ ?_
        · refine g_iconst (pc := 89) (v := 0) hC dX10_both_89 (by decide) ?_
          exact g_iret (pc := 90) hC dX10_both_90
        · refine g_iconst (pc := 85) (v := 1) hC dX10_both_85 (by decide) ?_
          refine g_goto (pc := 86) (tgt := 90) hC dX10_both_86 (by decide) ?_
          exact g_iret (pc := 90) hC dX10_both_90
      · refine gT_if (fun c103 => ?_) (fun c103 => ?_)
        · refine g_tabIn (tgt := 91) (off := 90) hC dX10_both_1 c103 (by decide) (by decide) (by decide) (by decide) ?_
          refine g_iload_n (pc := 91) (q := 1) hC dX10_both_91 rfl rfl ?_
          refine g_iload_n (pc := 92) (q := 2) hC dX10_both_92 rfl rfl ?_
          refine g_icmp_ne (pc := 93) (tgt := 100) hC dX10_both_93 (by decide) ?_ ?_
          · refine g_iconst (pc := 100) (v := 0) hC dX10_both_100 (by decide) ?_
            exact g_iret (pc := 101) hC dX10_both_101
          · refine g_iconst (pc := 96) (v := 1) hC dX10_both_96 (by decide) ?_
            refine g_goto (pc := 97) (tgt := 101) hC dX10_both_97 (by decide) ?_
            exact g_iret (pc := 101) hC dX10_both_101
        · refine gT_if (fun c104 => ?_) (fun c104 => ?_)
          · refine g_tabIn (tgt := 102) (off := 101) hC dX10_both_1 c104 (by decide) (by decide) (by decide) (by decide) ?_
            refine g_iload_n (pc := 102) (q := 1) hC dX10_both_102 rfl rfl ?_
            refine g_iload_n (pc := 103) (q := 2) hC dX10_both_103 rfl rfl ?_
            refine g_icmp_le (pc := 104) (tgt := 111) hC dX10_both_104 (by decide) ?_ ?_
            · refine g_iconst (pc := 111) (v := 0) hC dX10_both_111 (by decide) ?_
              exact g_iret (pc := 112) hC dX10_both_112
            · refine g_iconst (pc := 107) (v := 1) hC dX10_both_107 (by decide) ?_
              refine g_goto (pc := 108) (tgt := 112) hC dX10_both_108 (by decide) ?_
              exact g_iret (pc := 112) hC dX10_both_112
          · refine gT_if (fun c105 => ?_) (fun c105 => ?_)
            · refine g_tabIn (tgt := 113) (off := 112) hC dX10_both_1 c105 (by decide) (by decide) (by decide) (by decide) ?_
              refine g_iload_n (pc := 113) (q := 1) hC dX10_both_113 rfl rfl ?_
              refine g_iload_n (pc := 114) (q := 2) hC dX10_both_114 rfl rfl ?_
              refine g_iadd (pc := 115) hC dX10_both_115 ?_
              exact g_iret (pc := 116) hC dX10_both_116
            · refine gT_if (fun c106 => ?_) (fun c106 => ?_)
              · refine g_tabIn (tgt := 117) (off := 116) hC dX10_both_1 c106 (by decide) (by decide) (by decide) (by decide) ?_
                refine g_iload_n (pc := 117) (q := 1) hC dX10_both_117 rfl rfl ?_
                refine g_iload_n (pc := 118) (q := 2) hC dX10_both_118 rfl rfl ?_
                refine g_isub (pc := 119) hC dX10_both_119 ?_
                exact g_iret (pc := 120) hC dX10_both_120
              · refine gT_if (fun c107 => ?_) (fun c107 => ?_)
                · refine g_tabIn (tgt := 121) (off := 120) hC dX10_both_1 c107 (by decide) (by decide) (by decide) (by decide) ?_
                  refine g_iload_n (pc := 121) (q := 1) hC dX10_both_121 rfl rfl ?_
                  refine g_iload_n (pc := 122) (q := 2) hC dX10_both_122 rfl rfl ?_
                  refine g_imul (pc := 123) hC dX10_both_123 ?_
                  exact g_iret (pc := 124) hC dX10_both_124
                · refine gT_if (fun c108 => ?_) (fun c108 => ?_)
                  · refine g_tabIn (tgt := 125) (off := 124) hC dX10_both_1 c108 (by decide) (by decide) (by decide) (by decide) ?_
                    refine g_iload_n (pc := 125) (q := 2) hC dX10_both_125 rfl rfl ?_
                    refine g_if_ne (pc := 126) (tgt := 133) hC dX10_both_126 (by decide) ?_ ?_
                    · refine g_iload_n (pc := 133) (q := 1) hC dX10_both_133 rfl rfl ?_
                      refine g_iload_n (pc := 134) (q := 2) hC dX10_both_134 rfl rfl ?_
                      refine g_idiv (pc := 135) hC dX10_both_135 ?_
                      exact g_iret (pc := 136) hC dX10_both_136
                    · refine g_iconst (pc := 129) (v := 0) hC dX10_both_129 (by decide) ?_
                      refine g_goto (pc := 130) (tgt := 136) hC dX10_both_130 (by decide) ?_
                      exact g_iret (pc := 136) hC dX10_both_136
                  · refine g_tabOut (tgt := 137) hC dX10_both_1 (by have q0 := gne c100 (n := 6) rfl; have q1 := gne c101 (n := 7) rfl; have q2 := gne c102 (n := 8) rfl; have q3 := gne c103 (n := 9) rfl; have q4 := gne c104 (n := 10) rfl; have q5 := gne c105 (n := 11) rfl; have q6 := gne c106 (n := 12) rfl; have q7 := gne c107 (n := 13) rfl; have q8 := gne c108 (n := 14) rfl; omega) (by decide) ?_
                    refine g_iload_n (pc := 137) (q := 2) hC dX10_both_137 rfl rfl ?_
                    refine g_if_ne (pc := 138) (tgt := 145) hC dX10_both_138 (by decide) ?_ ?_
                    · refine g_iload_n (pc := 145) (q := 1) hC dX10_both_145 rfl rfl ?_
                      refine g_iload_n (pc := 146) (q := 2) hC dX10_both_146 rfl rfl ?_
                      refine g_irem (pc := 147) hC dX10_both_147 ?_
                      exact g_iret (pc := 148) hC dX10_both_148
                    · refine g_iconst (pc := 141) (v := 0) hC dX10_both_141 (by decide) ?_
                      refine g_goto (pc := 142) (tgt := 148) hC dX10_both_142 (by decide) ?_
                      exact g_iret (pc := 148) hC dX10_both_148
theorem lk_RX10_225 : gLS RX10 225 yX10_both cX10_both 3 (some .int) 3 := ⟨(gBig_tab 1364 (by decide +kernel) (by decide +kernel)), (gBig_tab 1365 (by decide +kernel) (by decide +kernel)), (gBig_tab 11 (by decide +kernel) (by decide +kernel)), (gBig_tab 1366 (by decide +kernel) (by decide +kernel)), by decide +kernel, by decide +kernel, by decide +kernel⟩
theorem dX10_worked_0 : decode cX10_worked 0 = .ok (.iconst 0, 1) := by decide +kernel
theorem dX10_worked_1 : decode cX10_worked 1 = .ok (.istore_n 3, 1) := by decide +kernel
theorem dX10_worked_2 : decode cX10_worked 2 = .ok (.iload_n 1, 1) := by decide +kernel
theorem dX10_worked_3 : decode cX10_worked 3 = .ok (.istore 4, 2) := by decide +kernel
theorem dX10_worked_5 : decode cX10_worked 5 = .ok (.iload 4, 2) := by decide +kernel
theorem dX10_worked_7 : decode cX10_worked 7 = .ok (.iload_n 2, 1) := by decide +kernel
theorem dX10_worked_8 : decode cX10_worked 8 = .ok (.if_icmp .ge 155, 3) := by decide +kernel
theorem dX10_worked_11 : decode cX10_worked 11 = .ok (.aload_n 0, 1) := by decide +kernel
theorem dX10_worked_12 : decode cX10_worked 12 = .ok (.getfield 45, 3) := by decide +kernel
theorem dX10_worked_15 : decode cX10_worked 15 = .ok (.iload 4, 2) := by decide +kernel
theorem dX10_worked_17 : decode cX10_worked 17 = .ok (.iaload, 1) := by decide +kernel
theorem dX10_worked_18 : decode cX10_worked 18 = .ok (.istore 5, 2) := by decide +kernel
theorem dX10_worked_20 : decode cX10_worked 20 = .ok (.iload 5, 2) := by decide +kernel
theorem dX10_worked_22 : decode cX10_worked 22 = .ok (.bipush 18, 2) := by decide +kernel
theorem dX10_worked_24 : decode cX10_worked 24 = .ok (.if_icmp .ge 9, 3) := by decide +kernel
theorem dX10_worked_27 : decode cX10_worked 27 = .ok (.iload 5, 2) := by decide +kernel
theorem dX10_worked_29 : decode cX10_worked 29 = .ok (.iconst 5, 1) := by decide +kernel
theorem dX10_worked_30 : decode cX10_worked 30 = .ok (.if_icmp .gt 37, 3) := by decide +kernel
theorem dX10_worked_33 : decode cX10_worked 33 = .ok (.aload_n 0, 1) := by decide +kernel
theorem dX10_worked_34 : decode cX10_worked 34 = .ok (.getfield 60, 3) := by decide +kernel
theorem dX10_worked_37 : decode cX10_worked 37 = .ok (.iload_n 3, 1) := by decide +kernel
theorem dX10_worked_38 : decode cX10_worked 38 = .ok (.iinc 3 1, 3) := by decide +kernel
theorem dX10_worked_41 : decode cX10_worked 41 = .ok (.iload 5, 2) := by decide +kernel
theorem dX10_worked_43 : decode cX10_worked 43 = .ok (.bipush 18, 2) := by decide +kernel
theorem dX10_worked_45 : decode cX10_worked 45 = .ok (.if_icmp .lt 11, 3) := by decide +kernel
theorem dX10_worked_48 : decode cX10_worked 48 = .ok (.iload 5, 2) := by decide +kernel
theorem dX10_worked_50 : decode cX10_worked 50 = .ok (.bipush 18, 2) := by decide +kernel
theorem dX10_worked_52 : decode cX10_worked 52 = .ok (.isub, 1) := by decide +kernel
theorem dX10_worked_53 : decode cX10_worked 53 = .ok (.goto 10, 3) := by decide +kernel
theorem dX10_worked_56 : decode cX10_worked 56 = .ok (.aload_n 0, 1) := by decide +kernel
theorem dX10_worked_57 : decode cX10_worked 57 = .ok (.getfield 63, 3) := by decide +kernel
theorem dX10_worked_60 : decode cX10_worked 60 = .ok (.iload 5, 2) := by decide +kernel
theorem dX10_worked_62 : decode cX10_worked 62 = .ok (.iaload, 1) := by decide +kernel
theorem dX10_worked_63 : decode cX10_worked 63 = .ok (.iastore, 1) := by decide +kernel
theorem dX10_worked_64 : decode cX10_worked 64 = .ok (.goto 93, 3) := by decide +kernel
theorem dX10_worked_67 : decode cX10_worked 67 = .ok (.iload 5, 2) := by decide +kernel
theorem dX10_worked_69 : decode cX10_worked 69 = .ok (.bipush 16, 2) := by decide +kernel
theorem dX10_worked_71 : decode cX10_worked 71 = .ok (.if_icmp .eq 10, 3) := by decide +kernel
theorem dX10_worked_74 : decode cX10_worked 74 = .ok (.iload 5, 2) := by decide +kernel
theorem dX10_worked_76 : decode cX10_worked 76 = .ok (.bipush 17, 2) := by decide +kernel
theorem dX10_worked_78 : decode cX10_worked 78 = .ok (.if_icmp .ne 49, 3) := by decide +kernel
theorem dX10_worked_81 : decode cX10_worked 81 = .ok (.aload_n 0, 1) := by decide +kernel
theorem dX10_worked_82 : decode cX10_worked 82 = .ok (.getfield 60, 3) := by decide +kernel
theorem dX10_worked_85 : decode cX10_worked 85 = .ok (.iload_n 3, 1) := by decide +kernel
theorem dX10_worked_86 : decode cX10_worked 86 = .ok (.iconst 1, 1) := by decide +kernel
theorem dX10_worked_87 : decode cX10_worked 87 = .ok (.isub, 1) := by decide +kernel
theorem dX10_worked_88 : decode cX10_worked 88 = .ok (.iload 5, 2) := by decide +kernel
theorem dX10_worked_90 : decode cX10_worked 90 = .ok (.bipush 17, 2) := by decide +kernel
theorem dX10_worked_92 : decode cX10_worked 92 = .ok (.if_icmp .ne 15, 3) := by decide +kernel
theorem dX10_worked_95 : decode cX10_worked 95 = .ok (.aload_n 0, 1) := by decide +kernel
theorem dX10_worked_96 : decode cX10_worked 96 = .ok (.getfield 60, 3) := by decide +kernel
theorem dX10_worked_99 : decode cX10_worked 99 = .ok (.iload_n 3, 1) := by decide +kernel
theorem dX10_worked_100 : decode cX10_worked 100 = .ok (.iconst 1, 1) := by decide +kernel
theorem dX10_worked_101 : decode cX10_worked 101 = .ok (.isub, 1) := by decide +kernel
theorem dX10_worked_102 : decode cX10_worked 102 = .ok (.iaload, 1) := by decide +kernel
theorem dX10_worked_103 : decode cX10_worked 103 = .ok (.ineg, 1) := by decide +kernel
theorem dX10_worked_104 : decode cX10_worked 104 = .ok (.goto 19, 3) := by decide +kernel
theorem dX10_worked_107 : decode cX10_worked 107 = .ok (.aload_n 0, 1) := by decide +kernel
theorem dX10_worked_108 : decode cX10_worked 108 = .ok (.getfield 60, 3) := by decide +kernel
theorem dX10_worked_111 : decode cX10_worked 111 = .ok (.iload_n 3, 1) := by decide +kernel
theorem dX10_worked_112 : decode cX10_worked 112 = .ok (.iconst 1, 1) := by decide +kernel
theorem dX10_worked_113 : decode cX10_worked 113 = .ok (.isub, 1) := by decide +kernel
theorem dX10_worked_114 : decode cX10_worked 114 = .ok (.iaload, 1) := by decide +kernel
theorem dX10_worked_115 : decode cX10_worked 115 = .ok (.ifCond .ne 7, 3) := by decide +kernel
theorem dX10_worked_118 : decode cX10_worked 118 = .ok (.iconst 1, 1) := by decide +kernel
theorem dX10_worked_119 : decode cX10_worked 119 = .ok (.goto 4, 3) := by decide +kernel
theorem dX10_worked_122 : decode cX10_worked 122 = .ok (.iconst 0, 1) := by decide +kernel
theorem dX10_worked_123 : decode cX10_worked 123 = .ok (.iastore, 1) := by decide +kernel
theorem dX10_worked_124 : decode cX10_worked 124 = .ok (.goto 33, 3) := by decide +kernel
theorem dX10_worked_127 : decode cX10_worked 127 = .ok (.iinc 3 (-1), 3) := by decide +kernel
theorem dX10_worked_130 : decode cX10_worked 130 = .ok (.aload_n 0, 1) := by decide +kernel
theorem dX10_worked_131 : decode cX10_worked 131 = .ok (.getfield 60, 3) := by decide +kernel
theorem dX10_worked_134 : decode cX10_worked 134 = .ok (.iload_n 3, 1) := by decide +kernel
theorem dX10_worked_135 : decode cX10_worked 135 = .ok (.iconst 1, 1) := by decide +kernel
theorem dX10_worked_136 : decode cX10_worked 136 = .ok (.isub, 1) := by decide +kernel
theorem dX10_worked_137 : decode cX10_worked 137 = .ok (.iload 5, 2) := by decide +kernel
theorem dX10_worked_139 : decode cX10_worked 139 = .ok (.aload_n 0, 1) := by decide +kernel
theorem dX10_worked_140 : decode cX10_worked 140 = .ok (.getfield 60, 3) := by decide +kernel
theorem dX10_worked_143 : decode cX10_worked 143 = .ok (.iload_n 3, 1) := by decide +kernel
theorem dX10_worked_144 : decode cX10_worked 144 = .ok (.iconst 1, 1) := by decide +kernel
theorem dX10_worked_145 : decode cX10_worked 145 = .ok (.isub, 1) := by decide +kernel
theorem dX10_worked_146 : decode cX10_worked 146 = .ok (.iaload, 1) := by decide +kernel
theorem dX10_worked_147 : decode cX10_worked 147 = .ok (.aload_n 0, 1) := by decide +kernel
theorem dX10_worked_148 : decode cX10_worked 148 = .ok (.getfield 60, 3) := by decide +kernel
theorem dX10_worked_151 : decode cX10_worked 151 = .ok (.iload_n 3, 1) := by decide +kernel
theorem dX10_worked_152 : decode cX10_worked 152 = .ok (.iaload, 1) := by decide +kernel
theorem dX10_worked_153 : decode cX10_worked 153 = .ok (.invokestatic 225, 3) := by decide +kernel
theorem dX10_worked_156 : decode cX10_worked 156 = .ok (.iastore, 1) := by decide +kernel
theorem dX10_worked_157 : decode cX10_worked 157 = .ok (.iinc 4 1, 3) := by decide +kernel
theorem dX10_worked_160 : decode cX10_worked 160 = .ok (.goto (-155), 3) := by decide +kernel
theorem dX10_worked_163 : decode cX10_worked 163 = .ok (.aload_n 0, 1) := by decide +kernel
theorem dX10_worked_164 : decode cX10_worked 164 = .ok (.getfield 60, 3) := by decide +kernel
theorem dX10_worked_167 : decode cX10_worked 167 = .ok (.iconst 0, 1) := by decide +kernel
theorem dX10_worked_168 : decode cX10_worked 168 = .ok (.iaload, 1) := by decide +kernel
theorem dX10_worked_169 : decode cX10_worked 169 = .ok (.ireturn, 1) := by decide +kernel
abbrev rX10_worked : Room := { frames := 1, cells := 0, slots := 0, locals := 22 }
def mX10_worked_b157   (k5 : gS → Int32 → Int32 → Int32 → Option (Int32 × gS)) (σ : gS) (x18 : Int32) (x19 : Int32) (x20 : Int32) : Option (Int32 × gS) := gLet (x20 + 1) (fun v21 => (k5 σ x18 x19 v21))
set_option maxHeartbeats 4000000 in
set_option maxRecDepth 100000 in
theorem wX10_worked_b157 {p : Program} {l : Launch} {e : Env} {s : State} {m : MethodId} {args : Array Value} {below : List Frame} {meth : Method} {c : Code} {G : gE} (hC : gCx p s m args meth c G RX10 cX10_worked 6 (some .int))    {k5 : gS → Int32 → Int32 → Int32 → Option (Int32 × gS)} (hk5 : ∀ (σ : gS) (x3 : Int32) (x4 : Int32) (x5 : Int32), gT p l e rX10_worked s m args below meth c G 6 iI σ 5 [(0, .ref (G.2.1 52)), (2, .int x3), (3, .int x4), (4, .int x5)] [] (k5 σ x3 x4 x5)) (σ : gS) (x18 : Int32) (x19 : Int32) (x20 : Int32)  : gT p l e rX10_worked s m args below meth c G 6 iI σ 157 [(0, .ref (G.2.1 52)), (2, .int x18), (3, .int x19), (4, .int x20)] [] (mX10_worked_b157 k5 σ x18 x19 x20) := by
  unfold mX10_worked_b157
  refine g_iinc (pc := 157) (q := 3) (w := 1) (lv' := fun v21 => [(4, .int v21), (0, .ref (G.2.1 52)), (2, .int x18), (3, .int x19)]) hC dX10_worked_157 rfl (by decide) (by decide) (fun _ => rfl) (fun v21 => ?_)
  refine g_goto (pc := 160) (tgt := 5) hC dX10_worked_160 (by decide) ?_
  exact gT_sub [1, 2, 3, 0] rfl (hk5 σ x18 x19 v21)
def mX10_worked_b63   (k5 : gS → Int32 → Int32 → Int32 → Option (Int32 × gS)) (σ : gS) (x12 : Int32) (x13 : Int32) (x14 : Int32) (x15 : Int32) (x16 : Int32) : Option (Int32 × gS) := if inbB x16 200 = true then gLet (gUI σ 69 (Int32.toNatClampNeg x16) x15) (fun s17 => (mX10_worked_b157 k5 s17 x12 x13 x14)) else none
set_option maxHeartbeats 4000000 in
set_option maxRecDepth 100000 in
theorem wX10_worked_b63 {p : Program} {l : Launch} {e : Env} {s : State} {m : MethodId} {args : Array Value} {below : List Frame} {meth : Method} {c : Code} {G : gE} (hC : gCx p s m args meth c G RX10 cX10_worked 6 (some .int))    {k5 : gS → Int32 → Int32 → Int32 → Option (Int32 × gS)} (hk5 : ∀ (σ : gS) (x3 : Int32) (x4 : Int32) (x5 : Int32), gT p l e rX10_worked s m args below meth c G 6 iI σ 5 [(0, .ref (G.2.1 52)), (2, .int x3), (3, .int x4), (4, .int x5)] [] (k5 σ x3 x4 x5)) (σ : gS) (x12 : Int32) (x13 : Int32) (x14 : Int32) (x15 : Int32) (x16 : Int32)  : gT p l e rX10_worked s m args below meth c G 6 iI σ 63 [(0, .ref (G.2.1 52)), (2, .int x12), (3, .int x13), (4, .int x14)] [.int x15, .int x16, .ref (G.2.1 69)] (mX10_worked_b63 k5 σ x12 x13 x14 x15 x16) := by
  unfold mX10_worked_b63
  refine g_iast (pc := 63) hC 200 rfl (by decide) dX10_worked_63 (fun s17 => ?_)
  refine g_goto (pc := 64) (tgt := 157) hC dX10_worked_64 (by decide) ?_
  exact gT_sub [0, 1, 2, 3] rfl (wX10_worked_b157 hC hk5 s17 x12 x13 x14)
def mX10_worked_b33   (k5 : gS → Int32 → Int32 → Int32 → Option (Int32 × gS)) (σ : gS) (x7 : Int32) (x8 : Int32) (x9 : Int32) (x10 : Int32) : Option (Int32 × gS) := gLet (x8 + 1) (fun v11 => if x10 < 18 then (if inbB x10 6 = true then ((mX10_worked_b63 k5 σ x7 v11 x9 (σ.1 70 (Int32.toNatClampNeg x10)) x8)) else none) else ((mX10_worked_b63 k5 σ x7 v11 x9 (x10 - 18) x8)))
set_option maxHeartbeats 4000000 in
set_option maxRecDepth 100000 in
theorem wX10_worked_b33 {p : Program} {l : Launch} {e : Env} {s : State} {m : MethodId} {args : Array Value} {below : List Frame} {meth : Method} {c : Code} {G : gE} (hC : gCx p s m args meth c G RX10 cX10_worked 6 (some .int))    {k5 : gS → Int32 → Int32 → Int32 → Option (Int32 × gS)} (hk5 : ∀ (σ : gS) (x3 : Int32) (x4 : Int32) (x5 : Int32), gT p l e rX10_worked s m args below meth c G 6 iI σ 5 [(0, .ref (G.2.1 52)), (2, .int x3), (3, .int x4), (4, .int x5)] [] (k5 σ x3 x4 x5)) (σ : gS) (x7 : Int32) (x8 : Int32) (x9 : Int32) (x10 : Int32)  : gT p l e rX10_worked s m args below meth c G 6 iI σ 33 [(0, .ref (G.2.1 52)), (2, .int x7), (3, .int x8), (4, .int x9), (5, .int x10)] [] (mX10_worked_b33 k5 σ x7 x8 x9 x10) := by
  unfold mX10_worked_b33
  refine g_aload_n (pc := 33) (q := 0) hC dX10_worked_33 rfl rfl ?_
  refine g_get (pc := 34) (v := .ref (G.2.1 69)) hC kX10 rfl 25 (by decide) fl_RX10_60 rfl dX10_worked_34 ?_
  refine g_iload_n (pc := 37) (q := 2) hC dX10_worked_37 rfl rfl ?_
  refine g_iinc (pc := 38) (q := 2) (w := 1) (lv' := fun v11 => [(3, .int v11), (0, .ref (G.2.1 52)), (2, .int x7), (4, .int x9), (5, .int x10)]) hC dX10_worked_38 rfl (by decide) (by decide) (fun _ => rfl) (fun v11 => ?_)
  refine g_iload (pc := 41) (q := 4) hC dX10_worked_41 rfl ?_
  refine g_bipush (pc := 43) (v := 18) hC dX10_worked_43 (by decide) ?_
  refine g_icmp_lt (pc := 45) (tgt := 56) hC dX10_worked_45 (by decide) ?_ ?_
  · refine g_aload_n (pc := 56) (q := 1) hC dX10_worked_56 rfl rfl ?_
    refine g_get (pc := 57) (v := .ref (G.2.1 70)) hC kX10 rfl 26 (by decide) fl_RX10_63 rfl dX10_worked_57 ?_
    refine g_iload (pc := 60) (q := 4) hC dX10_worked_60 rfl ?_
    refine g_iald (pc := 62) hC 6 rfl (by decide) dX10_worked_62 ?_
    exact gT_sub [1, 2, 0, 3] rfl (wX10_worked_b63 hC hk5 σ x7 v11 x9 (σ.1 70 (Int32.toNatClampNeg x10)) x8)
  · refine g_iload (pc := 48) (q := 4) hC dX10_worked_48 rfl ?_
    refine g_bipush (pc := 50) (v := 18) hC dX10_worked_50 (by decide) ?_
    refine g_isub (pc := 52) hC dX10_worked_52 ?_
    refine g_goto (pc := 53) (tgt := 63) hC dX10_worked_53 (by decide) ?_
    exact gT_sub [1, 2, 0, 3] rfl (wX10_worked_b63 hC hk5 σ x7 v11 x9 (x10 - 18) x8)
def mX10_worked_b123   (k5 : gS → Int32 → Int32 → Int32 → Option (Int32 × gS)) (σ : gS) (x26 : Int32) (x27 : Int32) (x28 : Int32) (x29 : Int32) (x30 : Int32) : Option (Int32 × gS) := if inbB x30 200 = true then gLet (gUI σ 69 (Int32.toNatClampNeg x30) x29) (fun s31 => (mX10_worked_b157 k5 s31 x26 x27 x28)) else none
set_option maxHeartbeats 4000000 in
set_option maxRecDepth 100000 in
theorem wX10_worked_b123 {p : Program} {l : Launch} {e : Env} {s : State} {m : MethodId} {args : Array Value} {below : List Frame} {meth : Method} {c : Code} {G : gE} (hC : gCx p s m args meth c G RX10 cX10_worked 6 (some .int))    {k5 : gS → Int32 → Int32 → Int32 → Option (Int32 × gS)} (hk5 : ∀ (σ : gS) (x3 : Int32) (x4 : Int32) (x5 : Int32), gT p l e rX10_worked s m args below meth c G 6 iI σ 5 [(0, .ref (G.2.1 52)), (2, .int x3), (3, .int x4), (4, .int x5)] [] (k5 σ x3 x4 x5)) (σ : gS) (x26 : Int32) (x27 : Int32) (x28 : Int32) (x29 : Int32) (x30 : Int32)  : gT p l e rX10_worked s m args below meth c G 6 iI σ 123 [(0, .ref (G.2.1 52)), (2, .int x26), (3, .int x27), (4, .int x28)] [.int x29, .int x30, .ref (G.2.1 69)] (mX10_worked_b123 k5 σ x26 x27 x28 x29 x30) := by
  unfold mX10_worked_b123
  refine g_iast (pc := 123) hC 200 rfl (by decide) dX10_worked_123 (fun s31 => ?_)
  refine g_goto (pc := 124) (tgt := 157) hC dX10_worked_124 (by decide) ?_
  exact gT_sub [0, 1, 2, 3] rfl (wX10_worked_b157 hC hk5 s31 x26 x27 x28)
def mX10_worked_b81   (k5 : gS → Int32 → Int32 → Int32 → Option (Int32 × gS)) (σ : gS) (x22 : Int32) (x23 : Int32) (x24 : Int32) (x25 : Int32) : Option (Int32 × gS) := if x25 = 17 then (if inbB (x23 - 1) 200 = true then ((mX10_worked_b123 k5 σ x22 x23 x24 (-(σ.1 69 (Int32.toNatClampNeg (x23 - 1)))) (x23 - 1))) else none) else (if inbB (x23 - 1) 200 = true then (if (σ.1 69 (Int32.toNatClampNeg (x23 - 1))) = 0 then ((mX10_worked_b123 k5 σ x22 x23 x24 1 (x23 - 1))) else ((mX10_worked_b123 k5 σ x22 x23 x24 0 (x23 - 1)))) else none)
set_option maxHeartbeats 4000000 in
set_option maxRecDepth 100000 in
theorem wX10_worked_b81 {p : Program} {l : Launch} {e : Env} {s : State} {m : MethodId} {args : Array Value} {below : List Frame} {meth : Method} {c : Code} {G : gE} (hC : gCx p s m args meth c G RX10 cX10_worked 6 (some .int))    {k5 : gS → Int32 → Int32 → Int32 → Option (Int32 × gS)} (hk5 : ∀ (σ : gS) (x3 : Int32) (x4 : Int32) (x5 : Int32), gT p l e rX10_worked s m args below meth c G 6 iI σ 5 [(0, .ref (G.2.1 52)), (2, .int x3), (3, .int x4), (4, .int x5)] [] (k5 σ x3 x4 x5)) (σ : gS) (x22 : Int32) (x23 : Int32) (x24 : Int32) (x25 : Int32)  : gT p l e rX10_worked s m args below meth c G 6 iI σ 81 [(0, .ref (G.2.1 52)), (2, .int x22), (3, .int x23), (4, .int x24), (5, .int x25)] [] (mX10_worked_b81 k5 σ x22 x23 x24 x25) := by
  unfold mX10_worked_b81
  refine g_aload_n (pc := 81) (q := 0) hC dX10_worked_81 rfl rfl ?_
  refine g_get (pc := 82) (v := .ref (G.2.1 69)) hC kX10 rfl 25 (by decide) fl_RX10_60 rfl dX10_worked_82 ?_
  refine g_iload_n (pc := 85) (q := 2) hC dX10_worked_85 rfl rfl ?_
  refine g_iconst (pc := 86) (v := 1) hC dX10_worked_86 (by decide) ?_
  refine g_isub (pc := 87) hC dX10_worked_87 ?_
  refine g_iload (pc := 88) (q := 4) hC dX10_worked_88 rfl ?_
  refine g_bipush (pc := 90) (v := 17) hC dX10_worked_90 (by decide) ?_
  refine g_icmp_ne (pc := 92) (tgt := 107) hC dX10_worked_92 (by decide) ?_ ?_
  · refine g_aload_n (pc := 107) (q := 0) hC dX10_worked_107 rfl rfl ?_
    refine g_get (pc := 108) (v := .ref (G.2.1 69)) hC kX10 rfl 25 (by decide) fl_RX10_60 rfl dX10_worked_108 ?_
    refine g_iload_n (pc := 111) (q := 2) hC dX10_worked_111 rfl rfl ?_
    refine g_iconst (pc := 112) (v := 1) hC dX10_worked_112 (by decide) ?_
    refine g_isub (pc := 113) hC dX10_worked_113 ?_
    refine g_iald (pc := 114) hC 200 rfl (by decide) dX10_worked_114 ?_
    refine g_if_ne (pc := 115) (tgt := 122) hC dX10_worked_115 (by decide) ?_ ?_
    · refine g_iconst (pc := 122) (v := 0) hC dX10_worked_122 (by decide) ?_
      exact gT_sub [0, 1, 2, 3] rfl (wX10_worked_b123 hC hk5 σ x22 x23 x24 0 (x23 - 1))
    · refine g_iconst (pc := 118) (v := 1) hC dX10_worked_118 (by decide) ?_
      refine g_goto (pc := 119) (tgt := 123) hC dX10_worked_119 (by decide) ?_
      exact gT_sub [0, 1, 2, 3] rfl (wX10_worked_b123 hC hk5 σ x22 x23 x24 1 (x23 - 1))
  · refine g_aload_n (pc := 95) (q := 0) hC dX10_worked_95 rfl rfl ?_
    refine g_get (pc := 96) (v := .ref (G.2.1 69)) hC kX10 rfl 25 (by decide) fl_RX10_60 rfl dX10_worked_96 ?_
    refine g_iload_n (pc := 99) (q := 2) hC dX10_worked_99 rfl rfl ?_
    refine g_iconst (pc := 100) (v := 1) hC dX10_worked_100 (by decide) ?_
    refine g_isub (pc := 101) hC dX10_worked_101 ?_
    refine g_iald (pc := 102) hC 200 rfl (by decide) dX10_worked_102 ?_
    refine g_ineg (pc := 103) hC dX10_worked_103 ?_
    refine g_goto (pc := 104) (tgt := 123) hC dX10_worked_104 (by decide) ?_
    exact gT_sub [0, 1, 2, 3] rfl (wX10_worked_b123 hC hk5 σ x22 x23 x24 (-(σ.1 69 (Int32.toNatClampNeg (x23 - 1)))) (x23 - 1))
def mX10_worked_b5    : Nat → gS → Int32 → Int32 → Int32 → Option (Int32 × gS)
  | 0, _, _, _, _ => none
  | n + 1, σ, x3, x4, x5 => if x3 ≤ x5 then (if inbB 0 200 = true then (some ((σ.1 69 (Int32.toNatClampNeg 0)), σ)) else none) else (if inbB x5 200 = true then (gLet (σ.1 64 (Int32.toNatClampNeg x5)) (fun v6 => if 18 ≤ v6 then ((mX10_worked_b33 (mX10_worked_b5  n) σ x3 x4 x5 v6)) else (if 5 < v6 then (if v6 = 16 then ((mX10_worked_b81 (mX10_worked_b5  n) σ x3 x4 x5 v6)) else (if v6 = 17 then ((mX10_worked_b81 (mX10_worked_b5  n) σ x3 x4 x5 v6)) else (gLet (x4 + (-1)) (fun v32 => if inbB (v32 - 1) 200 = true then (if inbB v32 200 = true then (gBind (mX10_both σ v6 (σ.1 69 (Int32.toNatClampNeg (v32 - 1))) (σ.1 69 (Int32.toNatClampNeg v32))) (fun r33 s34 => if inbB (v32 - 1) 200 = true then gLet (gUI s34 69 (Int32.toNatClampNeg (v32 - 1)) r33) (fun s35 => (mX10_worked_b157 (mX10_worked_b5  n) s35 x3 v32 x5)) else none)) else none) else none)))) else ((mX10_worked_b33 (mX10_worked_b5  n) σ x3 x4 x5 v6))))) else none)
set_option maxHeartbeats 4000000 in
set_option maxRecDepth 100000 in
theorem wX10_worked_b5 {p : Program} {l : Launch} {e : Env} {s : State} {m : MethodId} {args : Array Value} {below : List Frame} {meth : Method} {c : Code} {G : gE} (hC : gCx p s m args meth c G RX10 cX10_worked 6 (some .int))     (n : Nat) (σ : gS) (x3 : Int32) (x4 : Int32) (x5 : Int32)  : gT p l e rX10_worked s m args below meth c G 6 iI σ 5 [(0, .ref (G.2.1 52)), (2, .int x3), (3, .int x4), (4, .int x5)] [] (mX10_worked_b5  n σ x3 x4 x5) := by
  induction n generalizing σ x3 x4 x5 with
  | zero => exact gT_none
  | succ n ih =>
    unfold mX10_worked_b5
    refine g_iload (pc := 5) (q := 3) hC dX10_worked_5 rfl ?_
    refine g_iload_n (pc := 7) (q := 1) hC dX10_worked_7 rfl rfl ?_
    refine g_icmp_ge (pc := 8) (tgt := 163) hC dX10_worked_8 (by decide) ?_ ?_
    · refine g_aload_n (pc := 163) (q := 0) hC dX10_worked_163 rfl rfl ?_
      refine g_get (pc := 164) (v := .ref (G.2.1 69)) hC kX10 rfl 25 (by decide) fl_RX10_60 rfl dX10_worked_164 ?_
      refine g_iconst (pc := 167) (v := 0) hC dX10_worked_167 (by decide) ?_
      refine g_iald (pc := 168) hC 200 rfl (by decide) dX10_worked_168 ?_
      exact g_iret (pc := 169) hC dX10_worked_169
    · refine g_aload_n (pc := 11) (q := 0) hC dX10_worked_11 rfl rfl ?_
      refine g_get (pc := 12) (v := .ref (G.2.1 64)) hC kX10 rfl 16 (by decide) fl_RX10_45 rfl dX10_worked_12 ?_
      refine g_iload (pc := 15) (q := 3) hC dX10_worked_15 rfl ?_
      refine g_iald (pc := 17) hC 200 rfl (by decide) dX10_worked_17 ?_
      refine g_istore (pc := 18) (lv' := fun v6 => [(5, .int v6), (0, .ref (G.2.1 52)), (2, .int x3), (3, .int x4), (4, .int x5)]) hC dX10_worked_18 (by decide) (fun _ => rfl) (fun v6 => ?_)
      refine g_iload (pc := 20) (q := 0) hC dX10_worked_20 rfl ?_
      refine g_bipush (pc := 22) (v := 18) hC dX10_worked_22 (by decide) ?_
      refine g_icmp_ge (pc := 24) (tgt := 33) hC dX10_worked_24 (by decide) ?_ ?_
      · exact gT_sub [1, 2, 3, 4, 0] rfl (wX10_worked_b33 hC ih σ x3 x4 x5 v6)
      · refine g_iload (pc := 27) (q := 0) hC dX10_worked_27 rfl ?_
        refine g_iconst (pc := 29) (v := 5) hC dX10_worked_29 (by decide) ?_
        refine g_icmp_gt (pc := 30) (tgt := 67) hC dX10_worked_30 (by decide) ?_ ?_
        · refine g_iload (pc := 67) (q := 0) hC dX10_worked_67 rfl ?_
          refine g_bipush (pc := 69) (v := 16) hC dX10_worked_69 (by decide) ?_
          refine g_icmp_eq (pc := 71) (tgt := 81) hC dX10_worked_71 (by decide) ?_ ?_
          · exact gT_sub [1, 2, 3, 4, 0] rfl (wX10_worked_b81 hC ih σ x3 x4 x5 v6)
          · refine g_iload (pc := 74) (q := 0) hC dX10_worked_74 rfl ?_
            refine g_bipush (pc := 76) (v := 17) hC dX10_worked_76 (by decide) ?_
            refine g_icmp_ne (pc := 78) (tgt := 127) hC dX10_worked_78 (by decide) ?_ ?_
            · refine g_iinc (pc := 127) (q := 3) (w := (-1)) (lv' := fun v32 => [(3, .int v32), (5, .int v6), (0, .ref (G.2.1 52)), (2, .int x3), (4, .int x5)]) hC dX10_worked_127 rfl (by decide) (by decide) (fun _ => rfl) (fun v32 => ?_)
              refine g_aload_n (pc := 130) (q := 2) hC dX10_worked_130 rfl rfl ?_
              refine g_get (pc := 131) (v := .ref (G.2.1 69)) hC kX10 rfl 25 (by decide) fl_RX10_60 rfl dX10_worked_131 ?_
              refine g_iload_n (pc := 134) (q := 0) hC dX10_worked_134 rfl rfl ?_
              refine g_iconst (pc := 135) (v := 1) hC dX10_worked_135 (by decide) ?_
              refine g_isub (pc := 136) hC dX10_worked_136 ?_
              refine g_iload (pc := 137) (q := 1) hC dX10_worked_137 rfl ?_
              refine g_aload_n (pc := 139) (q := 2) hC dX10_worked_139 rfl rfl ?_
              refine g_get (pc := 140) (v := .ref (G.2.1 69)) hC kX10 rfl 25 (by decide) fl_RX10_60 rfl dX10_worked_140 ?_
              refine g_iload_n (pc := 143) (q := 0) hC dX10_worked_143 rfl rfl ?_
              refine g_iconst (pc := 144) (v := 1) hC dX10_worked_144 (by decide) ?_
              refine g_isub (pc := 145) hC dX10_worked_145 ?_
              refine g_iald (pc := 146) hC 200 rfl (by decide) dX10_worked_146 ?_
              refine g_aload_n (pc := 147) (q := 2) hC dX10_worked_147 rfl rfl ?_
              refine g_get (pc := 148) (v := .ref (G.2.1 69)) hC kX10 rfl 25 (by decide) fl_RX10_60 rfl dX10_worked_148 ?_
              refine g_iload_n (pc := 151) (q := 0) hC dX10_worked_151 rfl rfl ?_
              refine g_iald (pc := 152) hC 200 rfl (by decide) dX10_worked_152 ?_
              refine g_callSi (pc := 153) (As := [.int v6, .int (σ.1 69 (Int32.toNatClampNeg (v32 - 1))), .int (σ.1 69 (Int32.toNatClampNeg v32))]) (rest := [.int (v32 - 1), .ref (G.2.1 69)]) hC lk_RX10_225 (tX10_both _ _ σ v6 (σ.1 69 (Int32.toNatClampNeg (v32 - 1))) (σ.1 69 (Int32.toNatClampNeg v32))) rfl rfl (Nat.le_of_ble_eq_true rfl) ⟨rfl, rfl, Nat.le_of_ble_eq_true rfl, Nat.le_of_ble_eq_true rfl⟩ dX10_worked_153 (fun r33 s34 => ?_)
              refine g_iast (pc := 156) hC 200 rfl (by decide) dX10_worked_156 (fun s35 => ?_)
              exact gT_sub [2, 3, 0, 4] rfl (wX10_worked_b157 hC ih s35 x3 v32 x5)
            · exact gT_sub [1, 2, 3, 4, 0] rfl (wX10_worked_b81 hC ih σ x3 x4 x5 v6)
        · exact gT_sub [1, 2, 3, 4, 0] rfl (wX10_worked_b33 hC ih σ x3 x4 x5 v6)
def mX10_worked (σ : gS) (p0 : Int32) (p1 : Int32) : Option (Int32 × gS) := gLet 0 (fun v1 => gLet p0 (fun v2 => (mX10_worked_b5  1100 σ p1 v1 v2)))
set_option maxHeartbeats 4000000 in
set_option maxRecDepth 100000 in
theorem tX10_worked (l : Launch) (G : gE) (σ : gS) (p0 : Int32) (p1 : Int32) : gM l G yX10_worked cX10_worked 6 (some .int) rX10_worked iI [.ref (G.2.1 52), .int p0, .int p1] σ (mX10_worked σ p0 p1) := by
  refine gM_of (by decide) (Nat.le_of_ble_eq_true rfl) ?_
  intro p e s m args below meth c hC
  unfold mX10_worked
  show gT p l e rX10_worked s m args below meth c G 6 iI σ 0 [(0, .ref (G.2.1 52)), (1, .int p0), (2, .int p1)] [] _
  refine g_iconst (pc := 0) (v := 0) hC dX10_worked_0 (by decide) ?_
  refine g_istore_n (pc := 1) (lv' := fun v1 => [(3, .int v1), (0, .ref (G.2.1 52)), (1, .int p0), (2, .int p1)]) hC dX10_worked_1 rfl (by decide) (fun _ => rfl) (fun v1 => ?_)
  refine g_iload_n (pc := 2) (q := 2) hC dX10_worked_2 rfl rfl ?_
  refine g_istore (pc := 3) (lv' := fun v2 => [(4, .int v2), (3, .int v1), (0, .ref (G.2.1 52)), (1, .int p0), (2, .int p1)]) hC dX10_worked_3 (by decide) (fun _ => rfl) (fun v2 => ?_)
  exact gT_sub [2, 4, 1, 0] rfl (wX10_worked_b5 hC  1100 σ p1 v1 v2)
theorem fl_RX10_218 : Cond.fieldLink RX10 218 "WinterShedModel" "isTold" "Z" ∈ gBig := (gBig_tab 1064 (by decide +kernel) (by decide +kernel))
theorem fl_RX10_222 : Cond.fieldLink RX10 222 "WinterShedModel" "lines" "I" ∈ gBig := (gBig_tab 1065 (by decide +kernel) (by decide +kernel))
theorem mth_RX10_232 : gMn RX10 232 := ⟨(gBig_tab 1346 (by decide +kernel) (by decide +kernel)), (gBig_tab 479 (by decide +kernel) (by decide +kernel)), (gBig_tab 13 (by decide +kernel) (by decide +kernel)), (gBig_tab 480 (by decide +kernel) (by decide +kernel))⟩
theorem mth_RX10_237 : gMx RX10 237 := ⟨(gBig_tab 1347 (by decide +kernel) (by decide +kernel)), (gBig_tab 482 (by decide +kernel) (by decide +kernel)), (gBig_tab 13 (by decide +kernel) (by decide +kernel)), (gBig_tab 483 (by decide +kernel) (by decide +kernel))⟩
theorem lk_RX10_229 : gLV RX10 229 RX10 yX10_worked cX10_worked 6 (some .int) 2 := ⟨(gBig_tab 1360 (by decide +kernel) (by decide +kernel)), (gBig_tab 1362 (by decide +kernel) (by decide +kernel)), (gBig_sel 70 (by decide +kernel) (by decide +kernel)), (gBig_tab 11 (by decide +kernel) (by decide +kernel)), (gBig_tab 1363 (by decide +kernel) (by decide +kernel)), rfl, by decide +kernel, by decide +kernel, by decide +kernel⟩
theorem dX10_change_0 : decode cX10_change 0 = .ok (.aload_n 0, 1) := by decide +kernel
theorem dX10_change_1 : decode cX10_change 1 = .ok (.getfield 218, 3) := by decide +kernel
theorem dX10_change_4 : decode cX10_change 4 = .ok (.ifCond .ne 27, 3) := by decide +kernel
theorem dX10_change_7 : decode cX10_change 7 = .ok (.iload_n 2, 1) := by decide +kernel
theorem dX10_change_8 : decode cX10_change 8 = .ok (.ifCond .ne 12, 3) := by decide +kernel
theorem dX10_change_11 : decode cX10_change 11 = .ok (.aload_n 0, 1) := by decide +kernel
theorem dX10_change_12 : decode cX10_change 12 = .ok (.getfield 30, 3) := by decide +kernel
theorem dX10_change_15 : decode cX10_change 15 = .ok (.iconst 2, 1) := by decide +kernel
theorem dX10_change_16 : decode cX10_change 16 = .ok (.iaload, 1) := by decide +kernel
theorem dX10_change_17 : decode cX10_change 17 = .ok (.goto 4, 3) := by decide +kernel
theorem dX10_change_20 : decode cX10_change 20 = .ok (.iconst 0, 1) := by decide +kernel
theorem dX10_change_21 : decode cX10_change 21 = .ok (.aload_n 0, 1) := by decide +kernel
theorem dX10_change_22 : decode cX10_change 22 = .ok (.getfield 30, 3) := by decide +kernel
theorem dX10_change_25 : decode cX10_change 25 = .ok (.iconst 3, 1) := by decide +kernel
theorem dX10_change_26 : decode cX10_change 26 = .ok (.iaload, 1) := by decide +kernel
theorem dX10_change_27 : decode cX10_change 27 = .ok (.iconst 2, 1) := by decide +kernel
theorem dX10_change_28 : decode cX10_change 28 = .ok (.idiv, 1) := by decide +kernel
theorem dX10_change_29 : decode cX10_change 29 = .ok (.isub, 1) := by decide +kernel
theorem dX10_change_30 : decode cX10_change 30 = .ok (.ireturn, 1) := by decide +kernel
theorem dX10_change_31 : decode cX10_change 31 = .ok (.aload_n 0, 1) := by decide +kernel
theorem dX10_change_32 : decode cX10_change 32 = .ok (.getfield 63, 3) := by decide +kernel
theorem dX10_change_35 : decode cX10_change 35 = .ok (.iconst 0, 1) := by decide +kernel
theorem dX10_change_36 : decode cX10_change 36 = .ok (.iload_n 1, 1) := by decide +kernel
theorem dX10_change_37 : decode cX10_change 37 = .ok (.iastore, 1) := by decide +kernel
theorem dX10_change_38 : decode cX10_change 38 = .ok (.aload_n 0, 1) := by decide +kernel
theorem dX10_change_39 : decode cX10_change 39 = .ok (.getfield 63, 3) := by decide +kernel
theorem dX10_change_42 : decode cX10_change 42 = .ok (.iconst 1, 1) := by decide +kernel
theorem dX10_change_43 : decode cX10_change 43 = .ok (.iload_n 2, 1) := by decide +kernel
theorem dX10_change_44 : decode cX10_change 44 = .ok (.iastore, 1) := by decide +kernel
theorem dX10_change_45 : decode cX10_change 45 = .ok (.aload_n 0, 1) := by decide +kernel
theorem dX10_change_46 : decode cX10_change 46 = .ok (.getfield 63, 3) := by decide +kernel
theorem dX10_change_49 : decode cX10_change 49 = .ok (.iconst 2, 1) := by decide +kernel
theorem dX10_change_50 : decode cX10_change 50 = .ok (.aload_n 0, 1) := by decide +kernel
theorem dX10_change_51 : decode cX10_change 51 = .ok (.getfield 30, 3) := by decide +kernel
theorem dX10_change_54 : decode cX10_change 54 = .ok (.iconst 2, 1) := by decide +kernel
theorem dX10_change_55 : decode cX10_change 55 = .ok (.iaload, 1) := by decide +kernel
theorem dX10_change_56 : decode cX10_change 56 = .ok (.iastore, 1) := by decide +kernel
theorem dX10_change_57 : decode cX10_change 57 = .ok (.aload_n 0, 1) := by decide +kernel
theorem dX10_change_58 : decode cX10_change 58 = .ok (.getfield 63, 3) := by decide +kernel
theorem dX10_change_61 : decode cX10_change 61 = .ok (.iconst 3, 1) := by decide +kernel
theorem dX10_change_62 : decode cX10_change 62 = .ok (.aload_n 0, 1) := by decide +kernel
theorem dX10_change_63 : decode cX10_change 63 = .ok (.getfield 30, 3) := by decide +kernel
theorem dX10_change_66 : decode cX10_change 66 = .ok (.iconst 3, 1) := by decide +kernel
theorem dX10_change_67 : decode cX10_change 67 = .ok (.iaload, 1) := by decide +kernel
theorem dX10_change_68 : decode cX10_change 68 = .ok (.iastore, 1) := by decide +kernel
theorem dX10_change_69 : decode cX10_change 69 = .ok (.aload_n 0, 1) := by decide +kernel
theorem dX10_change_70 : decode cX10_change 70 = .ok (.getfield 63, 3) := by decide +kernel
theorem dX10_change_73 : decode cX10_change 73 = .ok (.iconst 4, 1) := by decide +kernel
theorem dX10_change_74 : decode cX10_change 74 = .ok (.iload_n 3, 1) := by decide +kernel
theorem dX10_change_75 : decode cX10_change 75 = .ok (.iastore, 1) := by decide +kernel
theorem dX10_change_76 : decode cX10_change 76 = .ok (.aload_n 0, 1) := by decide +kernel
theorem dX10_change_77 : decode cX10_change 77 = .ok (.getfield 63, 3) := by decide +kernel
theorem dX10_change_80 : decode cX10_change 80 = .ok (.iconst 5, 1) := by decide +kernel
theorem dX10_change_81 : decode cX10_change 81 = .ok (.aload_n 0, 1) := by decide +kernel
theorem dX10_change_82 : decode cX10_change 82 = .ok (.getfield 30, 3) := by decide +kernel
theorem dX10_change_85 : decode cX10_change 85 = .ok (.iconst 1, 1) := by decide +kernel
theorem dX10_change_86 : decode cX10_change 86 = .ok (.iaload, 1) := by decide +kernel
theorem dX10_change_87 : decode cX10_change 87 = .ok (.iastore, 1) := by decide +kernel
theorem dX10_change_88 : decode cX10_change 88 = .ok (.iconst 0, 1) := by decide +kernel
theorem dX10_change_89 : decode cX10_change 89 = .ok (.istore 4, 2) := by decide +kernel
theorem dX10_change_91 : decode cX10_change 91 = .ok (.iload 4, 2) := by decide +kernel
theorem dX10_change_93 : decode cX10_change 93 = .ok (.aload_n 0, 1) := by decide +kernel
theorem dX10_change_94 : decode cX10_change 94 = .ok (.getfield 222, 3) := by decide +kernel
theorem dX10_change_97 : decode cX10_change 97 = .ok (.if_icmp .ge 79, 3) := by decide +kernel
theorem dX10_change_100 : decode cX10_change 100 = .ok (.aload_n 0, 1) := by decide +kernel
theorem dX10_change_101 : decode cX10_change 101 = .ok (.getfield 39, 3) := by decide +kernel
theorem dX10_change_104 : decode cX10_change 104 = .ok (.iload 4, 2) := by decide +kernel
theorem dX10_change_106 : decode cX10_change 106 = .ok (.iaload, 1) := by decide +kernel
theorem dX10_change_107 : decode cX10_change 107 = .ok (.aload_n 0, 1) := by decide +kernel
theorem dX10_change_108 : decode cX10_change 108 = .ok (.getfield 36, 3) := by decide +kernel
theorem dX10_change_111 : decode cX10_change 111 = .ok (.iload 4, 2) := by decide +kernel
theorem dX10_change_113 : decode cX10_change 113 = .ok (.iaload, 1) := by decide +kernel
theorem dX10_change_114 : decode cX10_change 114 = .ok (.if_icmp .le 27, 3) := by decide +kernel
theorem dX10_change_117 : decode cX10_change 117 = .ok (.aload_n 0, 1) := by decide +kernel
theorem dX10_change_118 : decode cX10_change 118 = .ok (.aload_n 0, 1) := by decide +kernel
theorem dX10_change_119 : decode cX10_change 119 = .ok (.getfield 36, 3) := by decide +kernel
theorem dX10_change_122 : decode cX10_change 122 = .ok (.iload 4, 2) := by decide +kernel
theorem dX10_change_124 : decode cX10_change 124 = .ok (.iaload, 1) := by decide +kernel
theorem dX10_change_125 : decode cX10_change 125 = .ok (.aload_n 0, 1) := by decide +kernel
theorem dX10_change_126 : decode cX10_change 126 = .ok (.getfield 39, 3) := by decide +kernel
theorem dX10_change_129 : decode cX10_change 129 = .ok (.iload 4, 2) := by decide +kernel
theorem dX10_change_131 : decode cX10_change 131 = .ok (.iaload, 1) := by decide +kernel
theorem dX10_change_132 : decode cX10_change 132 = .ok (.invokevirtual 229, 3) := by decide +kernel
theorem dX10_change_135 : decode cX10_change 135 = .ok (.ifCond .ne 6, 3) := by decide +kernel
theorem dX10_change_138 : decode cX10_change 138 = .ok (.goto 32, 3) := by decide +kernel
theorem dX10_change_141 : decode cX10_change 141 = .ok (.bipush (-99), 2) := by decide +kernel
theorem dX10_change_143 : decode cX10_change 143 = .ok (.bipush 99, 2) := by decide +kernel
theorem dX10_change_145 : decode cX10_change 145 = .ok (.aload_n 0, 1) := by decide +kernel
theorem dX10_change_146 : decode cX10_change 146 = .ok (.aload_n 0, 1) := by decide +kernel
theorem dX10_change_147 : decode cX10_change 147 = .ok (.getfield 39, 3) := by decide +kernel
theorem dX10_change_150 : decode cX10_change 150 = .ok (.iload 4, 2) := by decide +kernel
theorem dX10_change_152 : decode cX10_change 152 = .ok (.iaload, 1) := by decide +kernel
theorem dX10_change_153 : decode cX10_change 153 = .ok (.aload_n 0, 1) := by decide +kernel
theorem dX10_change_154 : decode cX10_change 154 = .ok (.getfield 42, 3) := by decide +kernel
theorem dX10_change_157 : decode cX10_change 157 = .ok (.iload 4, 2) := by decide +kernel
theorem dX10_change_159 : decode cX10_change 159 = .ok (.iaload, 1) := by decide +kernel
theorem dX10_change_160 : decode cX10_change 160 = .ok (.invokevirtual 229, 3) := by decide +kernel
theorem dX10_change_163 : decode cX10_change 163 = .ok (.invokestatic 232, 3) := by decide +kernel
theorem dX10_change_166 : decode cX10_change 166 = .ok (.invokestatic 237, 3) := by decide +kernel
theorem dX10_change_169 : decode cX10_change 169 = .ok (.ireturn, 1) := by decide +kernel
theorem dX10_change_170 : decode cX10_change 170 = .ok (.iinc 4 1, 3) := by decide +kernel
theorem dX10_change_173 : decode cX10_change 173 = .ok (.goto (-82), 3) := by decide +kernel
theorem dX10_change_176 : decode cX10_change 176 = .ok (.iconst 0, 1) := by decide +kernel
theorem dX10_change_177 : decode cX10_change 177 = .ok (.ireturn, 1) := by decide +kernel
abbrev rX10_change : Room := { frames := 2, cells := 0, slots := 0, locals := 47 }
def mX10_change_b141    (σ : gS) (x9 : Int32) : Option (Int32 × gS) := if inbB x9 60 = true then (if inbB x9 60 = true then (gBind (mX10_worked σ (σ.1 62 (Int32.toNatClampNeg x9)) (σ.1 63 (Int32.toNatClampNeg x9))) (fun r10 s11 => some ((gMax (-99) (gMin 99 r10)), s11))) else none) else none
set_option maxHeartbeats 4000000 in
set_option maxRecDepth 100000 in
theorem wX10_change_b141 {p : Program} {l : Launch} {e : Env} {s : State} {m : MethodId} {args : Array Value} {below : List Frame} {meth : Method} {c : Code} {G : gE} (hC : gCx p s m args meth c G RX10 cX10_change 5 (some .int))     (σ : gS) (x9 : Int32)  : gT p l e rX10_change s m args below meth c G 5 iI σ 141 [(0, .ref (G.2.1 52)), (4, .int x9)] [] (mX10_change_b141  σ x9) := by
  unfold mX10_change_b141
  refine g_bipush (pc := 141) (v := (-99)) hC dX10_change_141 (by decide) ?_
  refine g_bipush (pc := 143) (v := 99) hC dX10_change_143 (by decide) ?_
  refine g_aload_n (pc := 145) (q := 0) hC dX10_change_145 rfl rfl ?_
  refine g_aload_n (pc := 146) (q := 0) hC dX10_change_146 rfl rfl ?_
  refine g_get (pc := 147) (v := .ref (G.2.1 62)) hC kX10 rfl 14 (by decide) fl_RX10_39 rfl dX10_change_147 ?_
  refine g_iload (pc := 150) (q := 1) hC dX10_change_150 rfl ?_
  refine g_iald (pc := 152) hC 60 rfl (by decide) dX10_change_152 ?_
  refine g_aload_n (pc := 153) (q := 0) hC dX10_change_153 rfl rfl ?_
  refine g_get (pc := 154) (v := .ref (G.2.1 63)) hC kX10 rfl 15 (by decide) fl_RX10_42 rfl dX10_change_154 ?_
  refine g_iload (pc := 157) (q := 1) hC dX10_change_157 rfl ?_
  refine g_iald (pc := 159) hC 60 rfl (by decide) dX10_change_159 ?_
  refine g_callVi (pc := 160) (As := [.int (σ.1 62 (Int32.toNatClampNeg x9)), .int (σ.1 63 (Int32.toNatClampNeg x9))]) (rest := [.int 99, .int (-99)]) hC lk_RX10_229 kX10 rfl (tX10_worked _ _ σ (σ.1 62 (Int32.toNatClampNeg x9)) (σ.1 63 (Int32.toNatClampNeg x9))) rfl rfl (Nat.le_of_ble_eq_true rfl) ⟨rfl, rfl, Nat.le_of_ble_eq_true rfl, Nat.le_of_ble_eq_true rfl⟩ dX10_change_160 (fun r10 s11 => ?_)
  refine g_min (pc := 163) hC mth_RX10_232 ⟨Nat.le_of_ble_eq_true rfl, Nat.le_of_ble_eq_true rfl⟩ (Nat.le_of_ble_eq_true rfl) dX10_change_163 ?_
  refine g_max (pc := 166) hC mth_RX10_237 ⟨Nat.le_of_ble_eq_true rfl, Nat.le_of_ble_eq_true rfl⟩ (Nat.le_of_ble_eq_true rfl) dX10_change_166 ?_
  exact g_iret (pc := 169) hC dX10_change_169
def mX10_change_b91    : Nat → gS → Int32 → Option (Int32 × gS)
  | 0, _, _ => none
  | n + 1, σ, x8 => if (σ.1 52 12) ≤ x8 then (some (0, σ)) else (if inbB x8 60 = true then (if inbB x8 60 = true then (if (σ.1 62 (Int32.toNatClampNeg x8)) ≤ (σ.1 61 (Int32.toNatClampNeg x8)) then ((mX10_change_b141  σ x8)) else (if inbB x8 60 = true then (if inbB x8 60 = true then (gBind (mX10_worked σ (σ.1 61 (Int32.toNatClampNeg x8)) (σ.1 62 (Int32.toNatClampNeg x8))) (fun r12 s13 => if r12 = 0 then (gLet (x8 + 1) (fun v14 => ((mX10_change_b91  n) s13 v14))) else ((mX10_change_b141  s13 x8)))) else none) else none)) else none) else none)
set_option maxHeartbeats 4000000 in
set_option maxRecDepth 100000 in
theorem wX10_change_b91 {p : Program} {l : Launch} {e : Env} {s : State} {m : MethodId} {args : Array Value} {below : List Frame} {meth : Method} {c : Code} {G : gE} (hC : gCx p s m args meth c G RX10 cX10_change 5 (some .int))     (n : Nat) (σ : gS) (x8 : Int32)  : gT p l e rX10_change s m args below meth c G 5 iI σ 91 [(0, .ref (G.2.1 52)), (4, .int x8)] [] (mX10_change_b91  n σ x8) := by
  induction n generalizing σ x8 with
  | zero => exact gT_none
  | succ n ih =>
    unfold mX10_change_b91
    refine g_iload (pc := 91) (q := 1) hC dX10_change_91 rfl ?_
    refine g_aload_n (pc := 93) (q := 0) hC dX10_change_93 rfl rfl ?_
    refine g_get (pc := 94) (v := .int (σ.1 52 12)) hC kX10 rfl 12 (by decide) fl_RX10_222 rfl dX10_change_94 ?_
    refine g_icmp_ge (pc := 97) (tgt := 176) hC dX10_change_97 (by decide) ?_ ?_
    · refine g_iconst (pc := 176) (v := 0) hC dX10_change_176 (by decide) ?_
      exact g_iret (pc := 177) hC dX10_change_177
    · refine g_aload_n (pc := 100) (q := 0) hC dX10_change_100 rfl rfl ?_
      refine g_get (pc := 101) (v := .ref (G.2.1 62)) hC kX10 rfl 14 (by decide) fl_RX10_39 rfl dX10_change_101 ?_
      refine g_iload (pc := 104) (q := 1) hC dX10_change_104 rfl ?_
      refine g_iald (pc := 106) hC 60 rfl (by decide) dX10_change_106 ?_
      refine g_aload_n (pc := 107) (q := 0) hC dX10_change_107 rfl rfl ?_
      refine g_get (pc := 108) (v := .ref (G.2.1 61)) hC kX10 rfl 13 (by decide) fl_RX10_36 rfl dX10_change_108 ?_
      refine g_iload (pc := 111) (q := 1) hC dX10_change_111 rfl ?_
      refine g_iald (pc := 113) hC 60 rfl (by decide) dX10_change_113 ?_
      refine g_icmp_le (pc := 114) (tgt := 141) hC dX10_change_114 (by decide) ?_ ?_
      · exact gT_sub [0, 1] rfl (wX10_change_b141 hC  σ x8)
      · refine g_aload_n (pc := 117) (q := 0) hC dX10_change_117 rfl rfl ?_
        refine g_aload_n (pc := 118) (q := 0) hC dX10_change_118 rfl rfl ?_
        refine g_get (pc := 119) (v := .ref (G.2.1 61)) hC kX10 rfl 13 (by decide) fl_RX10_36 rfl dX10_change_119 ?_
        refine g_iload (pc := 122) (q := 1) hC dX10_change_122 rfl ?_
        refine g_iald (pc := 124) hC 60 rfl (by decide) dX10_change_124 ?_
        refine g_aload_n (pc := 125) (q := 0) hC dX10_change_125 rfl rfl ?_
        refine g_get (pc := 126) (v := .ref (G.2.1 62)) hC kX10 rfl 14 (by decide) fl_RX10_39 rfl dX10_change_126 ?_
        refine g_iload (pc := 129) (q := 1) hC dX10_change_129 rfl ?_
        refine g_iald (pc := 131) hC 60 rfl (by decide) dX10_change_131 ?_
        refine g_callVi (pc := 132) (As := [.int (σ.1 61 (Int32.toNatClampNeg x8)), .int (σ.1 62 (Int32.toNatClampNeg x8))]) (rest := []) hC lk_RX10_229 kX10 rfl (tX10_worked _ _ σ (σ.1 61 (Int32.toNatClampNeg x8)) (σ.1 62 (Int32.toNatClampNeg x8))) rfl rfl (Nat.le_of_ble_eq_true rfl) ⟨rfl, rfl, Nat.le_of_ble_eq_true rfl, Nat.le_of_ble_eq_true rfl⟩ dX10_change_132 (fun r12 s13 => ?_)
        refine g_if_ne (pc := 135) (tgt := 141) hC dX10_change_135 (by decide) ?_ ?_
        · exact gT_sub [0, 1] rfl (wX10_change_b141 hC  s13 x8)
        · refine g_goto (pc := 138) (tgt := 170) hC dX10_change_138 (by decide) ?_
          refine g_iinc (pc := 170) (q := 1) (w := 1) (lv' := fun v14 => [(4, .int v14), (0, .ref (G.2.1 52))]) hC dX10_change_170 rfl (by decide) (by decide) (fun _ => rfl) (fun v14 => ?_)
          refine g_goto (pc := 173) (tgt := 91) hC dX10_change_173 (by decide) ?_
          exact gT_sub [1, 0] rfl (ih s13 v14)
def mX10_change_b21    (σ : gS) (x15 : Int32) : Option (Int32 × gS) := if inbB 3 5 = true then (some ((x15 - ((σ.1 59 (Int32.toNatClampNeg 3)) / 2)), σ)) else none
set_option maxHeartbeats 4000000 in
set_option maxRecDepth 100000 in
theorem wX10_change_b21 {p : Program} {l : Launch} {e : Env} {s : State} {m : MethodId} {args : Array Value} {below : List Frame} {meth : Method} {c : Code} {G : gE} (hC : gCx p s m args meth c G RX10 cX10_change 5 (some .int))     (σ : gS) (x15 : Int32)  : gT p l e rX10_change s m args below meth c G 5 iI σ 21 [(0, .ref (G.2.1 52))] [.int x15] (mX10_change_b21  σ x15) := by
  unfold mX10_change_b21
  refine g_aload_n (pc := 21) (q := 0) hC dX10_change_21 rfl rfl ?_
  refine g_get (pc := 22) (v := .ref (G.2.1 59)) hC kX10 rfl 8 (by decide) fl_RX10_30 rfl dX10_change_22 ?_
  refine g_iconst (pc := 25) (v := 3) hC dX10_change_25 (by decide) ?_
  refine g_iald (pc := 26) hC 5 rfl (by decide) dX10_change_26 ?_
  refine g_iconst (pc := 27) (v := 2) hC dX10_change_27 (by decide) ?_
  refine g_idivL (pc := 28) hC dX10_change_28 (by decide) ?_
  refine g_isub (pc := 29) hC dX10_change_29 ?_
  exact g_iret (pc := 30) hC dX10_change_30
def mX10_change (σ : gS) (p0 : Int32) (p1 : Int32) (p2 : Int32) : Option (Int32 × gS) := if (σ.1 52 11) = 0 then (if p1 = 0 then (if inbB 2 5 = true then ((mX10_change_b21  σ (σ.1 59 (Int32.toNatClampNeg 2)))) else none) else ((mX10_change_b21  σ 0))) else (if inbB 0 6 = true then gLet (gUI σ 70 (Int32.toNatClampNeg 0) p0) (fun s1 => if inbB 1 6 = true then gLet (gUI s1 70 (Int32.toNatClampNeg 1) p1) (fun s2 => if inbB 2 5 = true then (if inbB 2 6 = true then gLet (gUI s2 70 (Int32.toNatClampNeg 2) (s2.1 59 (Int32.toNatClampNeg 2))) (fun s3 => if inbB 3 5 = true then (if inbB 3 6 = true then gLet (gUI s3 70 (Int32.toNatClampNeg 3) (s3.1 59 (Int32.toNatClampNeg 3))) (fun s4 => if inbB 4 6 = true then gLet (gUI s4 70 (Int32.toNatClampNeg 4) p2) (fun s5 => if inbB 1 5 = true then (if inbB 5 6 = true then gLet (gUI s5 70 (Int32.toNatClampNeg 5) (s5.1 59 (Int32.toNatClampNeg 1))) (fun s6 => gLet 0 (fun v7 => (mX10_change_b91  1100 s6 v7))) else none) else none) else none) else none) else none) else none) else none) else none) else none)
set_option maxHeartbeats 4000000 in
set_option maxRecDepth 100000 in
theorem tX10_change (l : Launch) (G : gE) (σ : gS) (p0 : Int32) (p1 : Int32) (p2 : Int32) : gM l G yX10_change cX10_change 5 (some .int) rX10_change iI [.ref (G.2.1 52), .int p0, .int p1, .int p2] σ (mX10_change σ p0 p1 p2) := by
  refine gM_of (by decide) (Nat.le_of_ble_eq_true rfl) ?_
  intro p e s m args below meth c hC
  unfold mX10_change
  show gT p l e rX10_change s m args below meth c G 5 iI σ 0 [(0, .ref (G.2.1 52)), (1, .int p0), (2, .int p1), (3, .int p2)] [] _
  refine g_aload_n (pc := 0) (q := 0) hC dX10_change_0 rfl rfl ?_
  refine g_get (pc := 1) (v := .int (σ.1 52 11)) hC kX10 rfl 11 (by decide) fl_RX10_218 rfl dX10_change_1 ?_
  refine g_if_ne (pc := 4) (tgt := 31) hC dX10_change_4 (by decide) ?_ ?_
  · refine g_aload_n (pc := 31) (q := 0) hC dX10_change_31 rfl rfl ?_
    refine g_get (pc := 32) (v := .ref (G.2.1 70)) hC kX10 rfl 26 (by decide) fl_RX10_63 rfl dX10_change_32 ?_
    refine g_iconst (pc := 35) (v := 0) hC dX10_change_35 (by decide) ?_
    refine g_iload_n (pc := 36) (q := 1) hC dX10_change_36 rfl rfl ?_
    refine g_iast (pc := 37) hC 6 rfl (by decide) dX10_change_37 (fun s1 => ?_)
    refine g_aload_n (pc := 38) (q := 0) hC dX10_change_38 rfl rfl ?_
    refine g_get (pc := 39) (v := .ref (G.2.1 70)) hC kX10 rfl 26 (by decide) fl_RX10_63 rfl dX10_change_39 ?_
    refine g_iconst (pc := 42) (v := 1) hC dX10_change_42 (by decide) ?_
    refine g_iload_n (pc := 43) (q := 2) hC dX10_change_43 rfl rfl ?_
    refine g_iast (pc := 44) hC 6 rfl (by decide) dX10_change_44 (fun s2 => ?_)
    refine g_aload_n (pc := 45) (q := 0) hC dX10_change_45 rfl rfl ?_
    refine g_get (pc := 46) (v := .ref (G.2.1 70)) hC kX10 rfl 26 (by decide) fl_RX10_63 rfl dX10_change_46 ?_
    refine g_iconst (pc := 49) (v := 2) hC dX10_change_49 (by decide) ?_
    refine g_aload_n (pc := 50) (q := 0) hC dX10_change_50 rfl rfl ?_
    refine g_get (pc := 51) (v := .ref (G.2.1 59)) hC kX10 rfl 8 (by decide) fl_RX10_30 rfl dX10_change_51 ?_
    refine g_iconst (pc := 54) (v := 2) hC dX10_change_54 (by decide) ?_
    refine g_iald (pc := 55) hC 5 rfl (by decide) dX10_change_55 ?_
    refine g_iast (pc := 56) hC 6 rfl (by decide) dX10_change_56 (fun s3 => ?_)
    refine g_aload_n (pc := 57) (q := 0) hC dX10_change_57 rfl rfl ?_
    refine g_get (pc := 58) (v := .ref (G.2.1 70)) hC kX10 rfl 26 (by decide) fl_RX10_63 rfl dX10_change_58 ?_
    refine g_iconst (pc := 61) (v := 3) hC dX10_change_61 (by decide) ?_
    refine g_aload_n (pc := 62) (q := 0) hC dX10_change_62 rfl rfl ?_
    refine g_get (pc := 63) (v := .ref (G.2.1 59)) hC kX10 rfl 8 (by decide) fl_RX10_30 rfl dX10_change_63 ?_
    refine g_iconst (pc := 66) (v := 3) hC dX10_change_66 (by decide) ?_
    refine g_iald (pc := 67) hC 5 rfl (by decide) dX10_change_67 ?_
    refine g_iast (pc := 68) hC 6 rfl (by decide) dX10_change_68 (fun s4 => ?_)
    refine g_aload_n (pc := 69) (q := 0) hC dX10_change_69 rfl rfl ?_
    refine g_get (pc := 70) (v := .ref (G.2.1 70)) hC kX10 rfl 26 (by decide) fl_RX10_63 rfl dX10_change_70 ?_
    refine g_iconst (pc := 73) (v := 4) hC dX10_change_73 (by decide) ?_
    refine g_iload_n (pc := 74) (q := 3) hC dX10_change_74 rfl rfl ?_
    refine g_iast (pc := 75) hC 6 rfl (by decide) dX10_change_75 (fun s5 => ?_)
    refine g_aload_n (pc := 76) (q := 0) hC dX10_change_76 rfl rfl ?_
    refine g_get (pc := 77) (v := .ref (G.2.1 70)) hC kX10 rfl 26 (by decide) fl_RX10_63 rfl dX10_change_77 ?_
    refine g_iconst (pc := 80) (v := 5) hC dX10_change_80 (by decide) ?_
    refine g_aload_n (pc := 81) (q := 0) hC dX10_change_81 rfl rfl ?_
    refine g_get (pc := 82) (v := .ref (G.2.1 59)) hC kX10 rfl 8 (by decide) fl_RX10_30 rfl dX10_change_82 ?_
    refine g_iconst (pc := 85) (v := 1) hC dX10_change_85 (by decide) ?_
    refine g_iald (pc := 86) hC 5 rfl (by decide) dX10_change_86 ?_
    refine g_iast (pc := 87) hC 6 rfl (by decide) dX10_change_87 (fun s6 => ?_)
    refine g_iconst (pc := 88) (v := 0) hC dX10_change_88 (by decide) ?_
    refine g_istore (pc := 89) (lv' := fun v7 => [(4, .int v7), (0, .ref (G.2.1 52)), (1, .int p0), (2, .int p1), (3, .int p2)]) hC dX10_change_89 (by decide) (fun _ => rfl) (fun v7 => ?_)
    exact gT_sub [1, 0] rfl (wX10_change_b91 hC  1100 s6 v7)
  · refine g_iload_n (pc := 7) (q := 2) hC dX10_change_7 rfl rfl ?_
    refine g_if_ne (pc := 8) (tgt := 20) hC dX10_change_8 (by decide) ?_ ?_
    · refine g_iconst (pc := 20) (v := 0) hC dX10_change_20 (by decide) ?_
      exact gT_sub [0] rfl (wX10_change_b21 hC  σ 0)
    · refine g_aload_n (pc := 11) (q := 0) hC dX10_change_11 rfl rfl ?_
      refine g_get (pc := 12) (v := .ref (G.2.1 59)) hC kX10 rfl 8 (by decide) fl_RX10_30 rfl dX10_change_12 ?_
      refine g_iconst (pc := 15) (v := 2) hC dX10_change_15 (by decide) ?_
      refine g_iald (pc := 16) hC 5 rfl (by decide) dX10_change_16 ?_
      refine g_goto (pc := 17) (tgt := 21) hC dX10_change_17 (by decide) ?_
      exact gT_sub [0] rfl (wX10_change_b21 hC  σ (σ.1 59 (Int32.toNatClampNeg 2)))
theorem lk_RX10_240 : gLV RX10 240 RX10 yX10_change cX10_change 5 (some .int) 3 := ⟨(gBig_tab 1356 (by decide +kernel) (by decide +kernel)), (gBig_tab 1358 (by decide +kernel) (by decide +kernel)), (gBig_sel 69 (by decide +kernel) (by decide +kernel)), (gBig_tab 11 (by decide +kernel) (by decide +kernel)), (gBig_tab 1359 (by decide +kernel) (by decide +kernel)), rfl, by decide +kernel, by decide +kernel, by decide +kernel⟩
theorem dX10_nextCold_0 : decode cX10_nextCold 0 = .ok (.iconst 0, 1) := by decide +kernel
theorem dX10_nextCold_1 : decode cX10_nextCold 1 = .ok (.sipush 999, 3) := by decide +kernel
theorem dX10_nextCold_4 : decode cX10_nextCold 4 = .ok (.iload_n 1, 1) := by decide +kernel
theorem dX10_nextCold_5 : decode cX10_nextCold 5 = .ok (.aload_n 0, 1) := by decide +kernel
theorem dX10_nextCold_6 : decode cX10_nextCold 6 = .ok (.iload_n 1, 1) := by decide +kernel
theorem dX10_nextCold_7 : decode cX10_nextCold 7 = .ok (.iload_n 2, 1) := by decide +kernel
theorem dX10_nextCold_8 : decode cX10_nextCold 8 = .ok (.iload_n 3, 1) := by decide +kernel
theorem dX10_nextCold_9 : decode cX10_nextCold 9 = .ok (.invokevirtual 240, 3) := by decide +kernel
theorem dX10_nextCold_12 : decode cX10_nextCold 12 = .ok (.iadd, 1) := by decide +kernel
theorem dX10_nextCold_13 : decode cX10_nextCold 13 = .ok (.invokestatic 232, 3) := by decide +kernel
theorem dX10_nextCold_16 : decode cX10_nextCold 16 = .ok (.invokestatic 237, 3) := by decide +kernel
theorem dX10_nextCold_19 : decode cX10_nextCold 19 = .ok (.ireturn, 1) := by decide +kernel
abbrev rX10_nextCold : Room := { frames := 3, cells := 0, slots := 0, locals := 71 }
def mX10_nextCold (σ : gS) (p0 : Int32) (p1 : Int32) (p2 : Int32) : Option (Int32 × gS) := gBind (mX10_change σ p0 p1 p2) (fun r1 s2 => some ((gMax 0 (gMin 999 (p0 + r1))), s2))
set_option maxHeartbeats 4000000 in
set_option maxRecDepth 100000 in
theorem tX10_nextCold (l : Launch) (G : gE) (σ : gS) (p0 : Int32) (p1 : Int32) (p2 : Int32) : gM l G yX10_nextCold cX10_nextCold 4 (some .int) rX10_nextCold iI [.ref (G.2.1 52), .int p0, .int p1, .int p2] σ (mX10_nextCold σ p0 p1 p2) := by
  refine gM_of (by decide) (Nat.le_of_ble_eq_true rfl) ?_
  intro p e s m args below meth c hC
  unfold mX10_nextCold
  show gT p l e rX10_nextCold s m args below meth c G 4 iI σ 0 [(0, .ref (G.2.1 52)), (1, .int p0), (2, .int p1), (3, .int p2)] [] _
  refine g_iconst (pc := 0) (v := 0) hC dX10_nextCold_0 (by decide) ?_
  refine g_sipush (pc := 1) (v := 999) hC dX10_nextCold_1 (by decide) ?_
  refine g_iload_n (pc := 4) (q := 1) hC dX10_nextCold_4 rfl rfl ?_
  refine g_aload_n (pc := 5) (q := 0) hC dX10_nextCold_5 rfl rfl ?_
  refine g_iload_n (pc := 6) (q := 1) hC dX10_nextCold_6 rfl rfl ?_
  refine g_iload_n (pc := 7) (q := 2) hC dX10_nextCold_7 rfl rfl ?_
  refine g_iload_n (pc := 8) (q := 3) hC dX10_nextCold_8 rfl rfl ?_
  refine g_callVi (pc := 9) (As := [.int p0, .int p1, .int p2]) (rest := [.int p0, .int 999, .int 0]) hC lk_RX10_240 kX10 rfl (tX10_change _ _ σ p0 p1 p2) rfl rfl (Nat.le_of_ble_eq_true rfl) ⟨rfl, rfl, Nat.le_of_ble_eq_true rfl, Nat.le_of_ble_eq_true rfl⟩ dX10_nextCold_9 (fun r1 s2 => ?_)
  refine g_iadd (pc := 12) hC dX10_nextCold_12 ?_
  refine g_min (pc := 13) hC mth_RX10_232 ⟨Nat.le_of_ble_eq_true rfl, Nat.le_of_ble_eq_true rfl⟩ (Nat.le_of_ble_eq_true rfl) dX10_nextCold_13 ?_
  refine g_max (pc := 16) hC mth_RX10_237 ⟨Nat.le_of_ble_eq_true rfl, Nat.le_of_ble_eq_true rfl⟩ (Nat.le_of_ble_eq_true rfl) dX10_nextCold_16 ?_
  exact g_iret (pc := 19) hC dX10_nextCold_19
theorem dX10_noRow_0 : decode cX10_noRow 0 = .ok (.aload_n 0, 1) := by decide +kernel
theorem dX10_noRow_1 : decode cX10_noRow 1 = .ok (.getfield 81, 3) := by decide +kernel
theorem dX10_noRow_4 : decode cX10_noRow 4 = .ok (.iload_n 1, 1) := by decide +kernel
theorem dX10_noRow_5 : decode cX10_noRow 5 = .ok (.iaload, 1) := by decide +kernel
theorem dX10_noRow_6 : decode cX10_noRow 6 = .ok (.iconst (-1), 1) := by decide +kernel
theorem dX10_noRow_7 : decode cX10_noRow 7 = .ok (.if_icmp .ne 8, 3) := by decide +kernel
theorem dX10_noRow_10 : decode cX10_noRow 10 = .ok (.bipush (-11), 2) := by decide +kernel
theorem dX10_noRow_12 : decode cX10_noRow 12 = .ok (.goto 19, 3) := by decide +kernel
theorem dX10_noRow_15 : decode cX10_noRow 15 = .ok (.aload_n 0, 1) := by decide +kernel
theorem dX10_noRow_16 : decode cX10_noRow 16 = .ok (.getfield 81, 3) := by decide +kernel
theorem dX10_noRow_19 : decode cX10_noRow 19 = .ok (.iload_n 1, 1) := by decide +kernel
theorem dX10_noRow_20 : decode cX10_noRow 20 = .ok (.iaload, 1) := by decide +kernel
theorem dX10_noRow_21 : decode cX10_noRow 21 = .ok (.iload_n 2, 1) := by decide +kernel
theorem dX10_noRow_22 : decode cX10_noRow 22 = .ok (.if_icmp .eq 8, 3) := by decide +kernel
theorem dX10_noRow_25 : decode cX10_noRow 25 = .ok (.bipush (-12), 2) := by decide +kernel
theorem dX10_noRow_27 : decode cX10_noRow 27 = .ok (.goto 4, 3) := by decide +kernel
theorem dX10_noRow_30 : decode cX10_noRow 30 = .ok (.iconst 0, 1) := by decide +kernel
theorem dX10_noRow_31 : decode cX10_noRow 31 = .ok (.ireturn, 1) := by decide +kernel
abbrev rX10_noRow : Room := { frames := 0, cells := 0, slots := 0, locals := 0 }
def mX10_noRow (σ : gS) (p0 : Int32) (p1 : Int32) : Option (Int32 × gS) := if inbB p0 6 = true then (if (σ.1 76 (Int32.toNatClampNeg p0)) = (-1) then (some ((-11), σ)) else (if inbB p0 6 = true then (if (σ.1 76 (Int32.toNatClampNeg p0)) = p1 then (some (0, σ)) else (some ((-12), σ))) else none)) else none
set_option maxHeartbeats 4000000 in
set_option maxRecDepth 100000 in
theorem tX10_noRow (l : Launch) (G : gE) (σ : gS) (p0 : Int32) (p1 : Int32) : gM l G yX10_noRow cX10_noRow 3 (some .int) rX10_noRow iI [.ref (G.2.1 52), .int p0, .int p1] σ (mX10_noRow σ p0 p1) := by
  refine gM_of (by decide) (Nat.le_of_ble_eq_true rfl) ?_
  intro p e s m args below meth c hC
  unfold mX10_noRow
  show gT p l e rX10_noRow s m args below meth c G 3 iI σ 0 [(0, .ref (G.2.1 52)), (1, .int p0), (2, .int p1)] [] _
  refine g_aload_n (pc := 0) (q := 0) hC dX10_noRow_0 rfl rfl ?_
  refine g_get (pc := 1) (v := .ref (G.2.1 76)) hC kX10 rfl 37 (by decide) fl_RX10_81 rfl dX10_noRow_1 ?_
  refine g_iload_n (pc := 4) (q := 1) hC dX10_noRow_4 rfl rfl ?_
  refine g_iald (pc := 5) hC 6 rfl (by decide) dX10_noRow_5 ?_
  refine g_iconst (pc := 6) (v := (-1)) hC dX10_noRow_6 (by decide) ?_
  refine g_icmp_ne (pc := 7) (tgt := 15) hC dX10_noRow_7 (by decide) ?_ ?_
  · refine g_aload_n (pc := 15) (q := 0) hC dX10_noRow_15 rfl rfl ?_
    refine g_get (pc := 16) (v := .ref (G.2.1 76)) hC kX10 rfl 37 (by decide) fl_RX10_81 rfl dX10_noRow_16 ?_
    refine g_iload_n (pc := 19) (q := 1) hC dX10_noRow_19 rfl rfl ?_
    refine g_iald (pc := 20) hC 6 rfl (by decide) dX10_noRow_20 ?_
    refine g_iload_n (pc := 21) (q := 2) hC dX10_noRow_21 rfl rfl ?_
    refine g_icmp_eq (pc := 22) (tgt := 30) hC dX10_noRow_22 (by decide) ?_ ?_
    · refine g_iconst (pc := 30) (v := 0) hC dX10_noRow_30 (by decide) ?_
      exact g_iret (pc := 31) hC dX10_noRow_31
    · refine g_bipush (pc := 25) (v := (-12)) hC dX10_noRow_25 (by decide) ?_
      refine g_goto (pc := 27) (tgt := 31) hC dX10_noRow_27 (by decide) ?_
      exact g_iret (pc := 31) hC dX10_noRow_31
  · refine g_bipush (pc := 10) (v := (-11)) hC dX10_noRow_10 (by decide) ?_
    refine g_goto (pc := 12) (tgt := 31) hC dX10_noRow_12 (by decide) ?_
    exact g_iret (pc := 31) hC dX10_noRow_31
theorem dX10_now_0 : decode cX10_now 0 = .ok (.aload_n 0, 1) := by decide +kernel
theorem dX10_now_1 : decode cX10_now 1 = .ok (.getfield 30, 3) := by decide +kernel
theorem dX10_now_4 : decode cX10_now 4 = .ok (.iconst 4, 1) := by decide +kernel
theorem dX10_now_5 : decode cX10_now 5 = .ok (.iaload, 1) := by decide +kernel
theorem dX10_now_6 : decode cX10_now 6 = .ok (.ireturn, 1) := by decide +kernel
abbrev rX10_now : Room := { frames := 0, cells := 0, slots := 0, locals := 0 }
def mX10_now (σ : gS)  : Option (Int32 × gS) := if inbB 4 5 = true then (some ((σ.1 59 (Int32.toNatClampNeg 4)), σ)) else none
set_option maxHeartbeats 4000000 in
set_option maxRecDepth 100000 in
theorem tX10_now (l : Launch) (G : gE) (σ : gS)  : gM l G yX10_now cX10_now 1 (some .int) rX10_now iI [.ref (G.2.1 52)] σ (mX10_now σ ) := by
  refine gM_of (by decide) (Nat.le_of_ble_eq_true rfl) ?_
  intro p e s m args below meth c hC
  unfold mX10_now
  show gT p l e rX10_now s m args below meth c G 1 iI σ 0 [(0, .ref (G.2.1 52))] [] _
  refine g_aload_n (pc := 0) (q := 0) hC dX10_now_0 rfl rfl ?_
  refine g_get (pc := 1) (v := .ref (G.2.1 59)) hC kX10 rfl 8 (by decide) fl_RX10_30 rfl dX10_now_1 ?_
  refine g_iconst (pc := 4) (v := 4) hC dX10_now_4 (by decide) ?_
  refine g_iald (pc := 5) hC 5 rfl (by decide) dX10_now_5 ?_
  exact g_iret (pc := 6) hC dX10_now_6
