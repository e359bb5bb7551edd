theorem dX0_takeFrom_0 : decode cX0_takeFrom 0 = .ok (.aload_n 0, 1) := by decide +kernel
theorem dX0_takeFrom_1 : decode cX0_takeFrom 1 = .ok (.aload_n 1, 1) := by decide +kernel
theorem dX0_takeFrom_2 : decode cX0_takeFrom 2 = .ok (.getfield 7, 3) := by decide +kernel
theorem dX0_takeFrom_5 : decode cX0_takeFrom 5 = .ok (.putfield 7, 3) := by decide +kernel
theorem dX0_takeFrom_8 : decode cX0_takeFrom 8 = .ok (.aload_n 0, 1) := by decide +kernel
theorem dX0_takeFrom_9 : decode cX0_takeFrom 9 = .ok (.aload_n 1, 1) := by decide +kernel
theorem dX0_takeFrom_10 : decode cX0_takeFrom 10 = .ok (.getfield 13, 3) := by decide +kernel
theorem dX0_takeFrom_13 : decode cX0_takeFrom 13 = .ok (.putfield 13, 3) := by decide +kernel
theorem dX0_takeFrom_16 : decode cX0_takeFrom 16 = .ok (.aload_n 0, 1) := by decide +kernel
theorem dX0_takeFrom_17 : decode cX0_takeFrom 17 = .ok (.aload_n 1, 1) := by decide +kernel
theorem dX0_takeFrom_18 : decode cX0_takeFrom 18 = .ok (.getfield 16, 3) := by decide +kernel
theorem dX0_takeFrom_21 : decode cX0_takeFrom 21 = .ok (.putfield 16, 3) := by decide +kernel
theorem dX0_takeFrom_24 : decode cX0_takeFrom 24 = .ok (.aload_n 0, 1) := by decide +kernel
theorem dX0_takeFrom_25 : decode cX0_takeFrom 25 = .ok (.aload_n 1, 1) := by decide +kernel
theorem dX0_takeFrom_26 : decode cX0_takeFrom 26 = .ok (.getfield 19, 3) := by decide +kernel
theorem dX0_takeFrom_29 : decode cX0_takeFrom 29 = .ok (.putfield 19, 3) := by decide +kernel
theorem dX0_takeFrom_32 : decode cX0_takeFrom 32 = .ok (.aload_n 0, 1) := by decide +kernel
theorem dX0_takeFrom_33 : decode cX0_takeFrom 33 = .ok (.aload_n 1, 1) := by decide +kernel
theorem dX0_takeFrom_34 : decode cX0_takeFrom 34 = .ok (.getfield 22, 3) := by decide +kernel
theorem dX0_takeFrom_37 : decode cX0_takeFrom 37 = .ok (.putfield 22, 3) := by decide +kernel
theorem dX0_takeFrom_40 : decode cX0_takeFrom 40 = .ok (.return_, 1) := by decide +kernel
abbrev rX0_takeFrom : Room := { frames := 0, cells := 0, slots := 0, locals := 0 }
def mX0_takeFrom (σ : gS) (k0 : Nat) (q0 : Nat) : Option (Unit × gS) := if gk k0 = 0 then (if gk q0 = 0 then (gLet (gUI σ k0 0 (σ.1 q0 0)) (fun s1 => gLet (gUI s1 k0 1 (s1.1 q0 1)) (fun s2 => gLet (gUI s2 k0 2 (s2.1 q0 2)) (fun s3 => gLet (gUI s3 k0 3 (s3.1 q0 3)) (fun s4 => gLet (gUI s4 k0 4 (s4.1 q0 4)) (fun s5 => some ((), s5))))))) else none) else none
set_option maxHeartbeats 4000000 in
set_option maxRecDepth 100000 in
theorem tX0_takeFrom (l : Launch) (G : gE) (σ : gS) (k0 : Nat) (q0 : Nat) : gM l G yX0_takeFrom cX0_takeFrom 2 (none) rX0_takeFrom iV [.ref (G.2.1 k0), .ref (G.2.1 q0)] σ (mX0_takeFrom σ k0 q0) := by
  refine gM_of (by decide) (Nat.le_of_ble_eq_true rfl) ?_
  intro p e s m args below meth c hC
  unfold mX0_takeFrom
  refine gT_if (fun hk0 => ?_) (fun _ => gT_none)
  refine gT_if (fun hq0 => ?_) (fun _ => gT_none)
  show gT p l e rX0_takeFrom s m args below meth c G 2 iV σ 0 [(0, .ref (G.2.1 k0)), (1, .ref (G.2.1 q0))] [] _
  refine g_aload_n (pc := 0) (q := 0) hC dX0_takeFrom_0 rfl rfl ?_
  refine g_aload_n (pc := 1) (q := 1) hC dX0_takeFrom_1 rfl rfl ?_
  refine g_get (pc := 2) (v := .int (σ.1 q0 0)) hC kX0 hq0 0 (by decide) fl_RX0_7 rfl dX0_takeFrom_2 ?_
  refine g_puti (pc := 5) (fty := .int) hC kX0 hk0 0 (by decide) fl_RX0_7 rfl rfl rfl rfl (fun _ _ => Nat.le_of_ble_eq_true rfl) (fun _ _ => rfl) dX0_takeFrom_5 (fun s1 => ?_)
  refine g_aload_n (pc := 8) (q := 0) hC dX0_takeFrom_8 rfl rfl ?_
  refine g_aload_n (pc := 9) (q := 1) hC dX0_takeFrom_9 rfl rfl ?_
  refine g_get (pc := 10) (v := .int (s1.1 q0 1)) hC kX0 hq0 1 (by decide) fl_RX0_13 rfl dX0_takeFrom_10 ?_
  refine g_puti (pc := 13) (fty := .int) hC kX0 hk0 1 (by decide) fl_RX0_13 rfl rfl rfl rfl (fun _ _ => Nat.le_of_ble_eq_true rfl) (fun _ _ => rfl) dX0_takeFrom_13 (fun s2 => ?_)
  refine g_aload_n (pc := 16) (q := 0) hC dX0_takeFrom_16 rfl rfl ?_
  refine g_aload_n (pc := 17) (q := 1) hC dX0_takeFrom_17 rfl rfl ?_
  refine g_get (pc := 18) (v := .int (s2.1 q0 2)) hC kX0 hq0 2 (by decide) fl_RX0_16 rfl dX0_takeFrom_18 ?_
  refine g_puti (pc := 21) (fty := .int) hC kX0 hk0 2 (by decide) fl_RX0_16 rfl rfl rfl rfl (fun _ _ => Nat.le_of_ble_eq_true rfl) (fun _ _ => rfl) dX0_takeFrom_21 (fun s3 => ?_)
  refine g_aload_n (pc := 24) (q := 0) hC dX0_takeFrom_24 rfl rfl ?_
  refine g_aload_n (pc := 25) (q := 1) hC dX0_takeFrom_25 rfl rfl ?_
  refine g_get (pc := 26) (v := .int (s3.1 q0 3)) hC kX0 hq0 3 (by decide) fl_RX0_19 rfl dX0_takeFrom_26 ?_
  refine g_puti (pc := 29) (fty := .int) hC kX0 hk0 3 (by decide) fl_RX0_19 rfl rfl rfl rfl (fun _ _ => Nat.le_of_ble_eq_true rfl) (fun _ _ => rfl) dX0_takeFrom_29 (fun s4 => ?_)
  refine g_aload_n (pc := 32) (q := 0) hC dX0_takeFrom_32 rfl rfl ?_
  refine g_aload_n (pc := 33) (q := 1) hC dX0_takeFrom_33 rfl rfl ?_
  refine g_get (pc := 34) (v := .int (s4.1 q0 4)) hC kX0 hq0 4 (by decide) fl_RX0_22 rfl dX0_takeFrom_34 ?_
  refine g_puti (pc := 37) (fty := .int) hC kX0 hk0 4 (by decide) fl_RX0_22 rfl rfl rfl rfl (fun _ _ => Nat.le_of_ble_eq_true rfl) (fun _ _ => rfl) dX0_takeFrom_37 (fun s5 => ?_)
  exact g_vret (pc := 40) hC dX0_takeFrom_40
theorem dX5_takeFrom_0 : decode cX5_takeFrom 0 = .ok (.aload_n 0, 1) := by decide +kernel
theorem dX5_takeFrom_1 : decode cX5_takeFrom 1 = .ok (.aload_n 1, 1) := by decide +kernel
theorem dX5_takeFrom_2 : decode cX5_takeFrom 2 = .ok (.getfield 9, 3) := by decide +kernel
theorem dX5_takeFrom_5 : decode cX5_takeFrom 5 = .ok (.putfield 9, 3) := by decide +kernel
theorem dX5_takeFrom_8 : decode cX5_takeFrom 8 = .ok (.aload_n 0, 1) := by decide +kernel
theorem dX5_takeFrom_9 : decode cX5_takeFrom 9 = .ok (.aload_n 1, 1) := by decide +kernel
theorem dX5_takeFrom_10 : decode cX5_takeFrom 10 = .ok (.getfield 15, 3) := by decide +kernel
theorem dX5_takeFrom_13 : decode cX5_takeFrom 13 = .ok (.putfield 15, 3) := by decide +kernel
theorem dX5_takeFrom_16 : decode cX5_takeFrom 16 = .ok (.aload_n 0, 1) := by decide +kernel
theorem dX5_takeFrom_17 : decode cX5_takeFrom 17 = .ok (.aload_n 1, 1) := by decide +kernel
theorem dX5_takeFrom_18 : decode cX5_takeFrom 18 = .ok (.getfield 18, 3) := by decide +kernel
theorem dX5_takeFrom_21 : decode cX5_takeFrom 21 = .ok (.putfield 18, 3) := by decide +kernel
theorem dX5_takeFrom_24 : decode cX5_takeFrom 24 = .ok (.aload_n 0, 1) := by decide +kernel
theorem dX5_takeFrom_25 : decode cX5_takeFrom 25 = .ok (.aload_n 1, 1) := by decide +kernel
theorem dX5_takeFrom_26 : decode cX5_takeFrom 26 = .ok (.getfield 21, 3) := by decide +kernel
theorem dX5_takeFrom_29 : decode cX5_takeFrom 29 = .ok (.putfield 21, 3) := by decide +kernel
theorem dX5_takeFrom_32 : decode cX5_takeFrom 32 = .ok (.aload_n 0, 1) := by decide +kernel
theorem dX5_takeFrom_33 : decode cX5_takeFrom 33 = .ok (.aload_n 1, 1) := by decide +kernel
theorem dX5_takeFrom_34 : decode cX5_takeFrom 34 = .ok (.getfield 24, 3) := by decide +kernel
theorem dX5_takeFrom_37 : decode cX5_takeFrom 37 = .ok (.putfield 24, 3) := by decide +kernel
theorem dX5_takeFrom_40 : decode cX5_takeFrom 40 = .ok (.return_, 1) := by decide +kernel
abbrev rX5_takeFrom : Room := { frames := 0, cells := 0, slots := 0, locals := 0 }
def mX5_takeFrom (σ : gS) (k0 : Nat) (q0 : Nat) : Option (Unit × gS) := if gk k0 = 5 then (if gk q0 = 5 then (gLet (gUI σ k0 0 (σ.1 q0 0)) (fun s1 => gLet (gUI s1 k0 1 (s1.1 q0 1)) (fun s2 => gLet (gUI s2 k0 2 (s2.1 q0 2)) (fun s3 => gLet (gUI s3 k0 3 (s3.1 q0 3)) (fun s4 => gLet (gUI s4 k0 4 (s4.1 q0 4)) (fun s5 => some ((), s5))))))) else none) else none
set_option maxHeartbeats 4000000 in
set_option maxRecDepth 100000 in
theorem tX5_takeFrom (l : Launch) (G : gE) (σ : gS) (k0 : Nat) (q0 : Nat) : gM l G yX5_takeFrom cX5_takeFrom 2 (none) rX5_takeFrom iV [.ref (G.2.1 k0), .ref (G.2.1 q0)] σ (mX5_takeFrom σ k0 q0) := by
  refine gM_of (by decide) (Nat.le_of_ble_eq_true rfl) ?_
  intro p e s m args below meth c hC
  unfold mX5_takeFrom
  refine gT_if (fun hk0 => ?_) (fun _ => gT_none)
  refine gT_if (fun hq0 => ?_) (fun _ => gT_none)
  show gT p l e rX5_takeFrom s m args below meth c G 2 iV σ 0 [(0, .ref (G.2.1 k0)), (1, .ref (G.2.1 q0))] [] _
  refine g_aload_n (pc := 0) (q := 0) hC dX5_takeFrom_0 rfl rfl ?_
  refine g_aload_n (pc := 1) (q := 1) hC dX5_takeFrom_1 rfl rfl ?_
  refine g_get (pc := 2) (v := .int (σ.1 q0 0)) hC kX5 hq0 0 (by decide) fl_RX5_9 rfl dX5_takeFrom_2 ?_
  refine g_puti (pc := 5) (fty := .int) hC kX5 hk0 0 (by decide) fl_RX5_9 rfl rfl rfl rfl (fun _ _ => Nat.le_of_ble_eq_true rfl) (fun _ _ => rfl) dX5_takeFrom_5 (fun s1 => ?_)
  refine g_aload_n (pc := 8) (q := 0) hC dX5_takeFrom_8 rfl rfl ?_
  refine g_aload_n (pc := 9) (q := 1) hC dX5_takeFrom_9 rfl rfl ?_
  refine g_get (pc := 10) (v := .int (s1.1 q0 1)) hC kX5 hq0 1 (by decide) fl_RX5_15 rfl dX5_takeFrom_10 ?_
  refine g_puti (pc := 13) (fty := .int) hC kX5 hk0 1 (by decide) fl_RX5_15 rfl rfl rfl rfl (fun _ _ => Nat.le_of_ble_eq_true rfl) (fun _ _ => rfl) dX5_takeFrom_13 (fun s2 => ?_)
  refine g_aload_n (pc := 16) (q := 0) hC dX5_takeFrom_16 rfl rfl ?_
  refine g_aload_n (pc := 17) (q := 1) hC dX5_takeFrom_17 rfl rfl ?_
  refine g_get (pc := 18) (v := .int (s2.1 q0 2)) hC kX5 hq0 2 (by decide) fl_RX5_18 rfl dX5_takeFrom_18 ?_
  refine g_puti (pc := 21) (fty := .int) hC kX5 hk0 2 (by decide) fl_RX5_18 rfl rfl rfl rfl (fun _ _ => Nat.le_of_ble_eq_true rfl) (fun _ _ => rfl) dX5_takeFrom_21 (fun s3 => ?_)
  refine g_aload_n (pc := 24) (q := 0) hC dX5_takeFrom_24 rfl rfl ?_
  refine g_aload_n (pc := 25) (q := 1) hC dX5_takeFrom_25 rfl rfl ?_
  refine g_get (pc := 26) (v := .int (s3.1 q0 3)) hC kX5 hq0 3 (by decide) fl_RX5_21 rfl dX5_takeFrom_26 ?_
  refine g_puti (pc := 29) (fty := .int) hC kX5 hk0 3 (by decide) fl_RX5_21 rfl rfl rfl rfl (fun _ _ => Nat.le_of_ble_eq_true rfl) (fun _ _ => rfl) dX5_takeFrom_29 (fun s4 => ?_)
  refine g_aload_n (pc := 32) (q := 0) hC dX5_takeFrom_32 rfl rfl ?_
  refine g_aload_n (pc := 33) (q := 1) hC dX5_takeFrom_33 rfl rfl ?_
  refine g_get (pc := 34) (v := .int (s4.1 q0 4)) hC kX5 hq0 4 (by decide) fl_RX5_24 rfl dX5_takeFrom_34 ?_
  refine g_puti (pc := 37) (fty := .int) hC kX5 hk0 4 (by decide) fl_RX5_24 rfl rfl rfl rfl (fun _ _ => Nat.le_of_ble_eq_true rfl) (fun _ _ => rfl) dX5_takeFrom_37 (fun s5 => ?_)
  exact g_vret (pc := 40) hC dX5_takeFrom_40
theorem dX5_givesAt_0 : decode cX5_givesAt 0 = .ok (.iload_n 1, 1) := by decide +kernel
theorem dX5_givesAt_1 : decode cX5_givesAt 1 = .ok (.bipush 29, 2) := by decide +kernel
theorem dX5_givesAt_3 : decode cX5_givesAt 3 = .ok (.if_icmp .gt 15, 3) := by decide +kernel
theorem dX5_givesAt_6 : decode cX5_givesAt 6 = .ok (.iload_n 2, 1) := by decide +kernel
theorem dX5_givesAt_7 : decode cX5_givesAt 7 = .ok (.aload_n 0, 1) := by decide +kernel
theorem dX5_givesAt_8 : decode cX5_givesAt 8 = .ok (.getfield 15, 3) := by decide +kernel
theorem dX5_givesAt_11 : decode cX5_givesAt 11 = .ok (.if_icmp .le 7, 3) := by decide +kernel
theorem dX5_givesAt_14 : decode cX5_givesAt 14 = .ok (.iconst 1, 1) := by decide +kernel
theorem dX5_givesAt_15 : decode cX5_givesAt 15 = .ok (.goto 4, 3) := by decide +kernel
theorem dX5_givesAt_18 : decode cX5_givesAt 18 = .ok (.iconst 0, 1) := by decide +kernel
theorem dX5_givesAt_19 : decode cX5_givesAt 19 = .ok (.ireturn, 1) := by decide +kernel
abbrev rX5_givesAt : Room := { frames := 0, cells := 0, slots := 0, locals := 0 }
def mX5_givesAt (σ : gS) (k0 : Nat) (p0 : Int32) (p1 : Int32) : Option (Bool × gS) := if gk k0 = 5 then (if 29 < p0 then (some (false, σ)) else (if p1 ≤ (σ.1 k0 1) then (some (false, σ)) else (some (true, σ)))) else none
set_option maxHeartbeats 4000000 in
set_option maxRecDepth 100000 in
theorem tX5_givesAt (l : Launch) (G : gE) (σ : gS) (k0 : Nat) (p0 : Int32) (p1 : Int32) : gM l G yX5_givesAt cX5_givesAt 3 (some .boolean) rX5_givesAt iZ [.ref (G.2.1 k0), .int p0, .int p1] σ (mX5_givesAt σ k0 p0 p1) := by
  refine gM_of (by decide) (Nat.le_of_ble_eq_true rfl) ?_
  intro p e s m args below meth c hC
  unfold mX5_givesAt
  refine gT_if (fun hk0 => ?_) (fun _ => gT_none)
  show gT p l e rX5_givesAt s m args below meth c G 3 iZ σ 0 [(0, .ref (G.2.1 k0)), (1, .int p0), (2, .int p1)] [] _
  refine g_iload_n (pc := 0) (q := 1) hC dX5_givesAt_0 rfl rfl ?_
  refine g_bipush (pc := 1) (v := 29) hC dX5_givesAt_1 (by decide) ?_
  refine g_icmp_gt (pc := 3) (tgt := 18) hC dX5_givesAt_3 (by decide) ?_ ?_
  · refine g_iconst (pc := 18) (v := 0) hC dX5_givesAt_18 (by decide) ?_
    exact g_zret0 (pc := 19) hC dX5_givesAt_19
  · refine g_iload_n (pc := 6) (q := 2) hC dX5_givesAt_6 rfl rfl ?_
    refine g_aload_n (pc := 7) (q := 0) hC dX5_givesAt_7 rfl rfl ?_
    refine g_get (pc := 8) (v := .int (σ.1 k0 1)) hC kX5 hk0 1 (by decide) fl_RX5_15 rfl dX5_givesAt_8 ?_
    refine g_icmp_le (pc := 11) (tgt := 18) hC dX5_givesAt_11 (by decide) ?_ ?_
    · refine g_iconst (pc := 18) (v := 0) hC dX5_givesAt_18 (by decide) ?_
      exact g_zret0 (pc := 19) hC dX5_givesAt_19
    · refine g_iconst (pc := 14) (v := 1) hC dX5_givesAt_14 (by decide) ?_
      refine g_goto (pc := 15) (tgt := 19) hC dX5_givesAt_15 (by decide) ?_
      exact g_zret1 (pc := 19) hC dX5_givesAt_19
theorem lk_RX5_27 : gLV RX5 27 RX5 yX5_givesAt cX5_givesAt 3 (some .boolean) 2 := ⟨(gBig_tab 643 (by decide +kernel) (by decide +kernel)), (gBig_tab 636 (by decide +kernel) (by decide +kernel)), (gBig_tab 637 (by decide +kernel) (by decide +kernel)), (gBig_tab 3 (by decide +kernel) (by decide +kernel)), (gBig_tab 638 (by decide +kernel) (by decide +kernel)), rfl, by decide +kernel, by decide +kernel, by decide +kernel⟩
theorem dX5_atDawn_0 : decode cX5_atDawn 0 = .ok (.aload_n 0, 1) := by decide +kernel
theorem dX5_atDawn_1 : decode cX5_atDawn 1 = .ok (.iload_n 1, 1) := by decide +kernel
theorem dX5_atDawn_2 : decode cX5_atDawn 2 = .ok (.iload_n 2, 1) := by decide +kernel
theorem dX5_atDawn_3 : decode cX5_atDawn 3 = .ok (.invokevirtual 27, 3) := by decide +kernel
theorem dX5_atDawn_6 : decode cX5_atDawn 6 = .ok (.ifCond .eq 7, 3) := by decide +kernel
theorem dX5_atDawn_9 : decode cX5_atDawn 9 = .ok (.iconst 0, 1) := by decide +kernel
theorem dX5_atDawn_10 : decode cX5_atDawn 10 = .ok (.goto 4, 3) := by decide +kernel
theorem dX5_atDawn_13 : decode cX5_atDawn 13 = .ok (.iload_n 2, 1) := by decide +kernel
theorem dX5_atDawn_14 : decode cX5_atDawn 14 = .ok (.ireturn, 1) := by decide +kernel
abbrev rX5_atDawn : Room := { frames := 1, cells := 0, slots := 0, locals := 22 }
def mX5_atDawn (σ : gS) (k0 : Nat) (p0 : Int32) (p1 : Int32) : Option (Int32 × gS) := if gk k0 = 5 then (gBind (mX5_givesAt σ k0 p0 p1) (fun r1 s2 => if r1 = true then (some (0, s2)) else (some (p1, s2)))) else none
set_option maxHeartbeats 4000000 in
set_option maxRecDepth 100000 in
theorem tX5_atDawn (l : Launch) (G : gE) (σ : gS) (k0 : Nat) (p0 : Int32) (p1 : Int32) : gM l G yX5_atDawn cX5_atDawn 3 (some .int) rX5_atDawn iI [.ref (G.2.1 k0), .int p0, .int p1] σ (mX5_atDawn σ k0 p0 p1) := by
  refine gM_of (by decide) (Nat.le_of_ble_eq_true rfl) ?_
  intro p e s m args below meth c hC
  unfold mX5_atDawn
  refine gT_if (fun hk0 => ?_) (fun _ => gT_none)
  show gT p l e rX5_atDawn s m args below meth c G 3 iI σ 0 [(0, .ref (G.2.1 k0)), (1, .int p0), (2, .int p1)] [] _
  refine g_aload_n (pc := 0) (q := 0) hC dX5_atDawn_0 rfl rfl ?_
  refine g_iload_n (pc := 1) (q := 1) hC dX5_atDawn_1 rfl rfl ?_
  refine g_iload_n (pc := 2) (q := 2) hC dX5_atDawn_2 rfl rfl ?_
  refine g_callVz (pc := 3) (As := [.int p0, .int p1]) (rest := []) hC lk_RX5_27 kX5 hk0 (tX5_givesAt _ _ σ k0 p0 p1) rfl rfl (Nat.le_of_ble_eq_true rfl) ⟨rfl, rfl, Nat.le_of_ble_eq_true rfl, Nat.le_of_ble_eq_true rfl⟩ dX5_atDawn_3 (fun r1 s2 => ?_)
  refine g_bif_eq (pc := 6) (tgt := 13) hC dX5_atDawn_6 (by decide) ?_ ?_
  · refine g_iload_n (pc := 13) (q := 2) hC dX5_atDawn_13 rfl rfl ?_
    exact g_iret (pc := 14) hC dX5_atDawn_14
  · refine g_iconst (pc := 9) (v := 0) hC dX5_atDawn_9 (by decide) ?_
    refine g_goto (pc := 10) (tgt := 14) hC dX5_atDawn_10 (by decide) ?_
    exact g_iret (pc := 14) hC dX5_atDawn_14
theorem dJ7_fill_53178_0 : decode cJ7_fill_53178 0 = .ok (.iconst 0, 1) := by decide +kernel
theorem dJ7_fill_53178_1 : decode cJ7_fill_53178 1 = .ok (.istore_n 2, 1) := by decide +kernel
theorem dJ7_fill_53178_2 : decode cJ7_fill_53178 2 = .ok (.aload_n 0, 1) := by decide +kernel
theorem dJ7_fill_53178_3 : decode cJ7_fill_53178 3 = .ok (.arraylength, 1) := by decide +kernel
theorem dJ7_fill_53178_4 : decode cJ7_fill_53178 4 = .ok (.istore_n 3, 1) := by decide +kernel
theorem dJ7_fill_53178_5 : decode cJ7_fill_53178 5 = .ok (.iload_n 2, 1) := by decide +kernel
theorem dJ7_fill_53178_6 : decode cJ7_fill_53178 6 = .ok (.iload_n 3, 1) := by decide +kernel
theorem dJ7_fill_53178_7 : decode cJ7_fill_53178 7 = .ok (.if_icmp .ge 13, 3) := by decide +kernel
theorem dJ7_fill_53178_10 : decode cJ7_fill_53178 10 = .ok (.aload_n 0, 1) := by decide +kernel
theorem dJ7_fill_53178_11 : decode cJ7_fill_53178 11 = .ok (.iload_n 2, 1) := by decide +kernel
theorem dJ7_fill_53178_12 : decode cJ7_fill_53178 12 = .ok (.iload_n 1, 1) := by decide +kernel
theorem dJ7_fill_53178_13 : decode cJ7_fill_53178 13 = .ok (.iastore, 1) := by decide +kernel
theorem dJ7_fill_53178_14 : decode cJ7_fill_53178 14 = .ok (.iinc 2 1, 3) := by decide +kernel
theorem dJ7_fill_53178_17 : decode cJ7_fill_53178 17 = .ok (.goto (-12), 3) := by decide +kernel
theorem dJ7_fill_53178_20 : decode cJ7_fill_53178 20 = .ok (.return_, 1) := by decide +kernel
abbrev rJ7_fill_53178 : Room := { frames := 0, cells := 0, slots := 0, locals := 0 }
def mJ7_fill_53178_b5  (q0 : Nat)  : Nat → gS → Int32 → Int32 → Int32 → Option (Unit × gS)
  | 0, _, _, _, _ => none
  | n + 1, σ, x3, x4, x5 => if x5 ≤ x4 then (some ((), σ)) else (if inbB x4 30 = true then gLet (gUI σ q0 (Int32.toNatClampNeg x4) x3) (fun s6 => gLet (x4 + 1) (fun v7 => ((mJ7_fill_53178_b5 q0 n) s6 x3 v7 x5))) else none)
set_option maxHeartbeats 4000000 in
set_option maxRecDepth 100000 in
theorem wJ7_fill_53178_b5 {p : Program} {l : Launch} {e : Env} {s : State} {m : MethodId} {args : Array Value} {below : List Frame} {meth : Method} {c : Code} {G : gE} (hC : gCx p s m args meth c G RJ7 cJ7_fill_53178 4 (none))  (q0 : Nat) (hq0 : gk q0 = 1030)  (n : Nat) (σ : gS) (x3 : Int32) (x4 : Int32) (x5 : Int32)  : gT p l e rJ7_fill_53178 s m args below meth c G 4 iV σ 5 [(0, .ref (G.2.1 q0)), (1, .int x3), (2, .int x4), (3, .int x5)] [] (mJ7_fill_53178_b5 q0 n σ x3 x4 x5) := by
  induction n generalizing σ x3 x4 x5 with
  | zero => exact gT_none
  | succ n ih =>
    unfold mJ7_fill_53178_b5
    refine g_iload_n (pc := 5) (q := 2) hC dJ7_fill_53178_5 rfl rfl ?_
    refine g_iload_n (pc := 6) (q := 3) hC dJ7_fill_53178_6 rfl rfl ?_
    refine g_icmp_ge (pc := 7) (tgt := 20) hC dJ7_fill_53178_7 (by decide) ?_ ?_
    · exact g_vret (pc := 20) hC dJ7_fill_53178_20
    · refine g_aload_n (pc := 10) (q := 0) hC dJ7_fill_53178_10 rfl rfl ?_
      refine g_iload_n (pc := 11) (q := 2) hC dJ7_fill_53178_11 rfl rfl ?_
      refine g_iload_n (pc := 12) (q := 1) hC dJ7_fill_53178_12 rfl rfl ?_
      refine g_iast (pc := 13) hC 30 hq0 (by decide) dJ7_fill_53178_13 (fun s6 => ?_)
      refine g_iinc (pc := 14) (q := 2) (w := 1) (lv' := fun v7 => [(2, .int v7), (0, .ref (G.2.1 q0)), (1, .int x3), (3, .int x5)]) hC dJ7_fill_53178_14 rfl (by decide) (by decide) (fun _ => rfl) (fun v7 => ?_)
      refine g_goto (pc := 17) (tgt := 5) hC dJ7_fill_53178_17 (by decide) ?_
      exact gT_sub [1, 2, 0, 3] rfl (ih s6 x3 v7 x5)
def mJ7_fill_53178 (σ : gS) (q0 : Nat) (p1 : Int32) : Option (Unit × gS) := if gk q0 = 1030 then (gLet 0 (fun v1 => gLet 30 (fun v2 => (mJ7_fill_53178_b5 q0 1100 σ p1 v1 v2)))) else none
set_option maxHeartbeats 4000000 in
set_option maxRecDepth 100000 in
theorem tJ7_fill_53178 (l : Launch) (G : gE) (σ : gS) (q0 : Nat) (p1 : Int32) : gM l G yJ7_fill_53178 cJ7_fill_53178 4 (none) rJ7_fill_53178 iV [.ref (G.2.1 q0), .int p1] σ (mJ7_fill_53178 σ q0 p1) := by
  refine gM_of (by decide) (Nat.le_of_ble_eq_true rfl) ?_
  intro p e s m args below meth c hC
  unfold mJ7_fill_53178
  refine gT_if (fun hq0 => ?_) (fun _ => gT_none)
  show gT p l e rJ7_fill_53178 s m args below meth c G 4 iV σ 0 [(0, .ref (G.2.1 q0)), (1, .int p1)] [] _
  refine g_iconst (pc := 0) (v := 0) hC dJ7_fill_53178_0 (by decide) ?_
  refine g_istore_n (pc := 1) (lv' := fun v1 => [(2, .int v1), (0, .ref (G.2.1 q0)), (1, .int p1)]) hC dJ7_fill_53178_1 rfl (by decide) (fun _ => rfl) (fun v1 => ?_)
  refine g_aload_n (pc := 2) (q := 1) hC dJ7_fill_53178_2 rfl rfl ?_
  refine g_alen (pc := 3) (v := 30) hC 30 hq0 (by decide) (by decide) dJ7_fill_53178_3 ?_
  refine g_istore_n (pc := 4) (lv' := fun v2 => [(3, .int v2), (2, .int v1), (0, .ref (G.2.1 q0)), (1, .int p1)]) hC dJ7_fill_53178_4 rfl (by decide) (fun _ => rfl) (fun v2 => ?_)
  exact gT_sub [2, 3, 1, 0] rfl (wJ7_fill_53178_b5 hC q0 hq0 1100 σ p1 v1 v2)
theorem dJ7_fill_d0a16_0 : decode cJ7_fill_d0a16 0 = .ok (.iconst 0, 1) := by decide +kernel
theorem dJ7_fill_d0a16_1 : decode cJ7_fill_d0a16 1 = .ok (.istore_n 3, 1) := by decide +kernel
theorem dJ7_fill_d0a16_2 : decode cJ7_fill_d0a16 2 = .ok (.aload_n 0, 1) := by decide +kernel
theorem dJ7_fill_d0a16_3 : decode cJ7_fill_d0a16 3 = .ok (.arraylength, 1) := by decide +kernel
theorem dJ7_fill_d0a16_4 : decode cJ7_fill_d0a16 4 = .ok (.istore 4, 2) := by decide +kernel
theorem dJ7_fill_d0a16_6 : decode cJ7_fill_d0a16 6 = .ok (.iload_n 3, 1) := by decide +kernel
theorem dJ7_fill_d0a16_7 : decode cJ7_fill_d0a16 7 = .ok (.iload 4, 2) := by decide +kernel
theorem dJ7_fill_d0a16_9 : decode cJ7_fill_d0a16 9 = .ok (.if_icmp .ge 13, 3) := by decide +kernel
theorem dJ7_fill_d0a16_12 : decode cJ7_fill_d0a16 12 = .ok (.aload_n 0, 1) := by decide +kernel
theorem dJ7_fill_d0a16_13 : decode cJ7_fill_d0a16 13 = .ok (.iload_n 3, 1) := by decide +kernel
theorem dJ7_fill_d0a16_14 : decode cJ7_fill_d0a16 14 = .ok (.lload_n 1, 1) := by decide +kernel
theorem dJ7_fill_d0a16_15 : decode cJ7_fill_d0a16 15 = .ok (.lastore, 1) := by decide +kernel
theorem dJ7_fill_d0a16_16 : decode cJ7_fill_d0a16 16 = .ok (.iinc 3 1, 3) := by decide +kernel
theorem dJ7_fill_d0a16_19 : decode cJ7_fill_d0a16 19 = .ok (.goto (-13), 3) := by decide +kernel
theorem dJ7_fill_d0a16_22 : decode cJ7_fill_d0a16 22 = .ok (.return_, 1) := by decide +kernel
abbrev rJ7_fill_d0a16 : Room := { frames := 0, cells := 0, slots := 0, locals := 0 }
def mJ7_fill_d0a16_b6  (q0 : Nat)  : Nat → gS → Int64 → Int32 → Int32 → Option (Unit × gS)
  | 0, _, _, _, _ => none
  | n + 1, σ, j3, x4, x5 => if x5 ≤ x4 then (some ((), σ)) else (if inbB x4 60 = true then gLet (gUJ σ q0 (Int32.toNatClampNeg x4) j3) (fun s6 => gLet (x4 + 1) (fun v7 => ((mJ7_fill_d0a16_b6 q0 n) s6 j3 v7 x5))) else none)
set_option maxHeartbeats 4000000 in
set_option maxRecDepth 100000 in
theorem wJ7_fill_d0a16_b6 {p : Program} {l : Launch} {e : Env} {s : State} {m : MethodId} {args : Array Value} {below : List Frame} {meth : Method} {c : Code} {G : gE} (hC : gCx p s m args meth c G RJ7 cJ7_fill_d0a16 5 (none))  (q0 : Nat) (hq0 : gk q0 = 2060)  (n : Nat) (σ : gS) (j3 : Int64) (x4 : Int32) (x5 : Int32)  : gT p l e rJ7_fill_d0a16 s m args below meth c G 5 iV σ 6 [(0, .ref (G.2.1 q0)), (1, .long j3), (3, .int x4), (4, .int x5)] [] (mJ7_fill_d0a16_b6 q0 n σ j3 x4 x5) := by
  induction n generalizing σ j3 x4 x5 with
  | zero => exact gT_none
  | succ n ih =>
    unfold mJ7_fill_d0a16_b6
    refine g_iload_n (pc := 6) (q := 2) hC dJ7_fill_d0a16_6 rfl rfl ?_
    refine g_iload (pc := 7) (q := 3) hC dJ7_fill_d0a16_7 rfl ?_
    refine g_icmp_ge (pc := 9) (tgt := 22) hC dJ7_fill_d0a16_9 (by decide) ?_ ?_
    · exact g_vret (pc := 22) hC dJ7_fill_d0a16_22
    · refine g_aload_n (pc := 12) (q := 0) hC dJ7_fill_d0a16_12 rfl rfl ?_
      refine g_iload_n (pc := 13) (q := 2) hC dJ7_fill_d0a16_13 rfl rfl ?_
      refine g_lload_n (pc := 14) (q := 1) hC dJ7_fill_d0a16_14 rfl rfl ?_
      refine g_last (pc := 15) hC 60 hq0 dJ7_fill_d0a16_15 (fun s6 => ?_)
      refine g_iinc (pc := 16) (q := 2) (w := 1) (lv' := fun v7 => [(3, .int v7), (0, .ref (G.2.1 q0)), (1, .long j3), (4, .int x5)]) hC dJ7_fill_d0a16_16 rfl (by decide) (by decide) (fun _ => rfl) (fun v7 => ?_)
      refine g_goto (pc := 19) (tgt := 6) hC dJ7_fill_d0a16_19 (by decide) ?_
      exact gT_sub [1, 2, 0, 3] rfl (ih s6 j3 v7 x5)
def mJ7_fill_d0a16 (σ : gS) (q0 : Nat) (p1 : Int64) : Option (Unit × gS) := if gk q0 = 2060 then (gLet 0 (fun v1 => gLet 60 (fun v2 => (mJ7_fill_d0a16_b6 q0 1100 σ p1 v1 v2)))) else none
set_option maxHeartbeats 4000000 in
set_option maxRecDepth 100000 in
theorem tJ7_fill_d0a16 (l : Launch) (G : gE) (σ : gS) (q0 : Nat) (p1 : Int64) : gM l G yJ7_fill_d0a16 cJ7_fill_d0a16 5 (none) rJ7_fill_d0a16 iV [.ref (G.2.1 q0), .long p1] σ (mJ7_fill_d0a16 σ q0 p1) := by
  refine gM_of (by decide) (Nat.le_of_ble_eq_true rfl) ?_
  intro p e s m args below meth c hC
  unfold mJ7_fill_d0a16
  refine gT_if (fun hq0 => ?_) (fun _ => gT_none)
  show gT p l e rJ7_fill_d0a16 s m args below meth c G 5 iV σ 0 [(0, .ref (G.2.1 q0)), (1, .long p1)] [] _
  refine g_iconst (pc := 0) (v := 0) hC dJ7_fill_d0a16_0 (by decide) ?_
  refine g_istore_n (pc := 1) (lv' := fun v1 => [(3, .int v1), (0, .ref (G.2.1 q0)), (1, .long p1)]) hC dJ7_fill_d0a16_1 rfl (by decide) (fun _ => rfl) (fun v1 => ?_)
  refine g_aload_n (pc := 2) (q := 1) hC dJ7_fill_d0a16_2 rfl rfl ?_
  refine g_alenJ (pc := 3) (v := 60) hC 60 hq0 (by decide) dJ7_fill_d0a16_3 ?_
  refine g_istore (pc := 4) (lv' := fun v2 => [(4, .int v2), (3, .int v1), (0, .ref (G.2.1 q0)), (1, .long p1)]) hC dJ7_fill_d0a16_4 (by decide) (fun _ => rfl) (fun v2 => ?_)
  exact gT_sub [2, 3, 1, 0] rfl (wJ7_fill_d0a16_b6 hC q0 hq0 1100 σ p1 v1 v2)
theorem lk_RX6_28 : gLS RX6 28 yJ7_fill_d0a16 cJ7_fill_d0a16 5 (none) 2 := ⟨(gBig_tab 1011 (by decide +kernel) (by decide +kernel)), (gBig_tab 1012 (by decide +kernel) (by decide +kernel)), (gBig_tab 19 (by decide +kernel) (by decide +kernel)), (gBig_tab 1013 (by decide +kernel) (by decide +kernel)), by decide +kernel, by decide +kernel, by decide +kernel⟩
theorem dX6_becomeRow_0 : decode cX6_becomeRow 0 = .ok (.aload_n 0, 1) := by decide +kernel
theorem dX6_becomeRow_1 : decode cX6_becomeRow 1 = .ok (.iconst 2, 1) := by decide +kernel
theorem dX6_becomeRow_2 : decode cX6_becomeRow 2 = .ok (.putfield 11, 3) := by decide +kernel
theorem dX6_becomeRow_5 : decode cX6_becomeRow 5 = .ok (.aload_n 0, 1) := by decide +kernel
theorem dX6_becomeRow_6 : decode cX6_becomeRow 6 = .ok (.iconst (-1), 1) := by decide +kernel
theorem dX6_becomeRow_7 : decode cX6_becomeRow 7 = .ok (.putfield 15, 3) := by decide +kernel
theorem dX6_becomeRow_10 : decode cX6_becomeRow 10 = .ok (.aload_n 0, 1) := by decide +kernel
theorem dX6_becomeRow_11 : decode cX6_becomeRow 11 = .ok (.iload_n 1, 1) := by decide +kernel
theorem dX6_becomeRow_12 : decode cX6_becomeRow 12 = .ok (.putfield 18, 3) := by decide +kernel
theorem dX6_becomeRow_15 : decode cX6_becomeRow 15 = .ok (.aload_n 0, 1) := by decide +kernel
theorem dX6_becomeRow_16 : decode cX6_becomeRow 16 = .ok (.iload_n 2, 1) := by decide +kernel
theorem dX6_becomeRow_17 : decode cX6_becomeRow 17 = .ok (.putfield 21, 3) := by decide +kernel
theorem dX6_becomeRow_20 : decode cX6_becomeRow 20 = .ok (.aload_n 0, 1) := by decide +kernel
theorem dX6_becomeRow_21 : decode cX6_becomeRow 21 = .ok (.getfield 24, 3) := by decide +kernel
theorem dX6_becomeRow_24 : decode cX6_becomeRow 24 = .ok (.lconst 0, 1) := by decide +kernel
theorem dX6_becomeRow_25 : decode cX6_becomeRow 25 = .ok (.invokestatic 28, 3) := by decide +kernel
theorem dX6_becomeRow_28 : decode cX6_becomeRow 28 = .ok (.return_, 1) := by decide +kernel
abbrev rX6_becomeRow : Room := { frames := 1, cells := 0, slots := 0, locals := 24 }
def mX6_becomeRow (σ : gS) (k0 : Nat) (p0 : Int32) (p1 : Int32) : Option (Unit × gS) := if gk k0 = 6 then (gLet (gUI σ k0 0 2) (fun s1 => gLet (gUI s1 k0 1 (-1)) (fun s2 => gLet (gUI s2 k0 2 p0) (fun s3 => gLet (gUI s3 k0 3 p1) (fun s4 => gBind (mJ7_fill_d0a16 s4 (k0 + 1) 0) (fun r5 s6 => some ((), s6))))))) else none
set_option maxHeartbeats 4000000 in
set_option maxRecDepth 100000 in
theorem tX6_becomeRow (l : Launch) (G : gE) (σ : gS) (k0 : Nat) (p0 : Int32) (p1 : Int32) : gM l G yX6_becomeRow cX6_becomeRow 3 (none) rX6_becomeRow iV [.ref (G.2.1 k0), .int p0, .int p1] σ (mX6_becomeRow σ k0 p0 p1) := by
  refine gM_of (by decide) (Nat.le_of_ble_eq_true rfl) ?_
  intro p e s m args below meth c hC
  unfold mX6_becomeRow
  refine gT_if (fun hk0 => ?_) (fun _ => gT_none)
  show gT p l e rX6_becomeRow s m args below meth c G 3 iV σ 0 [(0, .ref (G.2.1 k0)), (1, .int p0), (2, .int p1)] [] _
  refine g_aload_n (pc := 0) (q := 0) hC dX6_becomeRow_0 rfl rfl ?_
  refine g_iconst (pc := 1) (v := 2) hC dX6_becomeRow_1 (by decide) ?_
  refine g_puti (pc := 2) (fty := .int) hC kX6 hk0 0 (by decide) fl_RX6_11 rfl rfl rfl rfl (fun _ _ => Nat.le_of_ble_eq_true rfl) (fun _ _ => rfl) dX6_becomeRow_2 (fun s1 => ?_)
  refine g_aload_n (pc := 5) (q := 0) hC dX6_becomeRow_5 rfl rfl ?_
  refine g_iconst (pc := 6) (v := (-1)) hC dX6_becomeRow_6 (by decide) ?_
  refine g_puti (pc := 7) (fty := .int) hC kX6 hk0 1 (by decide) fl_RX6_15 rfl rfl rfl rfl (fun _ _ => Nat.le_of_ble_eq_true rfl) (fun _ _ => rfl) dX6_becomeRow_7 (fun s2 => ?_)
  refine g_aload_n (pc := 10) (q := 0) hC dX6_becomeRow_10 rfl rfl ?_
  refine g_iload_n (pc := 11) (q := 1) hC dX6_becomeRow_11 rfl rfl ?_
  refine g_puti (pc := 12) (fty := .int) hC kX6 hk0 2 (by decide) fl_RX6_18 rfl rfl rfl rfl (fun _ _ => Nat.le_of_ble_eq_true rfl) (fun _ _ => rfl) dX6_becomeRow_12 (fun s3 => ?_)
  refine g_aload_n (pc := 15) (q := 0) hC dX6_becomeRow_15 rfl rfl ?_
  refine g_iload_n (pc := 16) (q := 2) hC dX6_becomeRow_16 rfl rfl ?_
  refine g_puti (pc := 17) (fty := .int) hC kX6 hk0 3 (by decide) fl_RX6_21 rfl rfl rfl rfl (fun _ _ => Nat.le_of_ble_eq_true rfl) (fun _ _ => rfl) dX6_becomeRow_17 (fun s4 => ?_)
  refine g_aload_n (pc := 20) (q := 0) hC dX6_becomeRow_20 rfl rfl ?_
  refine g_get (pc := 21) (v := .ref (G.2.1 (k0 + 1))) hC kX6 hk0 4 (by decide) fl_RX6_24 rfl dX6_becomeRow_21 ?_
  refine g_lconst (pc := 24) (v := 0) hC dX6_becomeRow_24 (by decide) ?_
  refine g_callSv (pc := 25) (As := [.ref (G.2.1 (k0 + 1)), .long 0]) (rest := []) hC lk_RX6_28 (tJ7_fill_d0a16 _ _ s4 (k0 + 1) 0) rfl rfl (Nat.le_of_ble_eq_true rfl) ⟨rfl, rfl, Nat.le_of_ble_eq_true rfl, Nat.le_of_ble_eq_true rfl⟩ dX6_becomeRow_25 (fun r5 s6 => ?_)
  exact g_vret (pc := 28) hC dX6_becomeRow_28
theorem dX6_isRowOf_0 : decode cX6_isRowOf 0 = .ok (.aload_n 0, 1) := by decide +kernel
theorem dX6_isRowOf_1 : decode cX6_isRowOf 1 = .ok (.getfield 11, 3) := by decide +kernel
theorem dX6_isRowOf_4 : decode cX6_isRowOf 4 = .ok (.iconst 2, 1) := by decide +kernel
theorem dX6_isRowOf_5 : decode cX6_isRowOf 5 = .ok (.if_icmp .ne 15, 3) := by decide +kernel
theorem dX6_isRowOf_8 : decode cX6_isRowOf 8 = .ok (.aload_n 0, 1) := by decide +kernel
theorem dX6_isRowOf_9 : decode cX6_isRowOf 9 = .ok (.getfield 18, 3) := by decide +kernel
theorem dX6_isRowOf_12 : decode cX6_isRowOf 12 = .ok (.iload_n 1, 1) := by decide +kernel
theorem dX6_isRowOf_13 : decode cX6_isRowOf 13 = .ok (.if_icmp .ne 7, 3) := by decide +kernel
theorem dX6_isRowOf_16 : decode cX6_isRowOf 16 = .ok (.iconst 1, 1) := by decide +kernel
theorem dX6_isRowOf_17 : decode cX6_isRowOf 17 = .ok (.goto 4, 3) := by decide +kernel
theorem dX6_isRowOf_20 : decode cX6_isRowOf 20 = .ok (.iconst 0, 1) := by decide +kernel
theorem dX6_isRowOf_21 : decode cX6_isRowOf 21 = .ok (.ireturn, 1) := by decide +kernel
abbrev rX6_isRowOf : Room := { frames := 0, cells := 0, slots := 0, locals := 0 }
def mX6_isRowOf (σ : gS) (k0 : Nat) (p0 : Int32) : Option (Bool × gS) := if gk k0 = 6 then (if (σ.1 k0 0) = 2 then (if (σ.1 k0 2) = p0 then (some (true, σ)) else (some (false, σ))) else (some (false, σ))) else none
set_option maxHeartbeats 4000000 in
set_option maxRecDepth 100000 in
theorem tX6_isRowOf (l : Launch) (G : gE) (σ : gS) (k0 : Nat) (p0 : Int32) : gM l G yX6_isRowOf cX6_isRowOf 2 (some .boolean) rX6_isRowOf iZ [.ref (G.2.1 k0), .int p0] σ (mX6_isRowOf σ k0 p0) := by
  refine gM_of (by decide) (Nat.le_of_ble_eq_true rfl) ?_
  intro p e s m args below meth c hC
  unfold mX6_isRowOf
  refine gT_if (fun hk0 => ?_) (fun _ => gT_none)
  show gT p l e rX6_isRowOf s m args below meth c G 2 iZ σ 0 [(0, .ref (G.2.1 k0)), (1, .int p0)] [] _
  refine g_aload_n (pc := 0) (q := 0) hC dX6_isRowOf_0 rfl rfl ?_
  refine g_get (pc := 1) (v := .int (σ.1 k0 0)) hC kX6 hk0 0 (by decide) fl_RX6_11 rfl dX6_isRowOf_1 ?_
  refine g_iconst (pc := 4) (v := 2) hC dX6_isRowOf_4 (by decide) ?_
  refine g_icmp_ne (pc := 5) (tgt := 20) hC dX6_isRowOf_5 (by decide) ?_ ?_
  · refine g_iconst (pc := 20) (v := 0) hC dX6_isRowOf_20 (by decide) ?_
    exact g_zret0 (pc := 21) hC dX6_isRowOf_21
  · refine g_aload_n (pc := 8) (q := 0) hC dX6_isRowOf_8 rfl rfl ?_
    refine g_get (pc := 9) (v := .int (σ.1 k0 2)) hC kX6 hk0 2 (by decide) fl_RX6_18 rfl dX6_isRowOf_9 ?_
    refine g_iload_n (pc := 12) (q := 1) hC dX6_isRowOf_12 rfl rfl ?_
    refine g_icmp_ne (pc := 13) (tgt := 20) hC dX6_isRowOf_13 (by decide) ?_ ?_
    · refine g_iconst (pc := 20) (v := 0) hC dX6_isRowOf_20 (by decide) ?_
      exact g_zret0 (pc := 21) hC dX6_isRowOf_21
    · refine g_iconst (pc := 16) (v := 1) hC dX6_isRowOf_16 (by decide) ?_
      refine g_goto (pc := 17) (tgt := 21) hC dX6_isRowOf_17 (by decide) ?_
      exact g_zret1 (pc := 21) hC dX6_isRowOf_21
theorem dX6_hasPlaces_0 : decode cX6_hasPlaces 0 = .ok (.iload_n 1, 1) := by decide +kernel
theorem dX6_hasPlaces_1 : decode cX6_hasPlaces 1 = .ok (.ifCond .lt 29, 3) := by decide +kernel
theorem dX6_hasPlaces_4 : decode cX6_hasPlaces 4 = .ok (.iload_n 2, 1) := by decide +kernel
theorem dX6_hasPlaces_5 : decode cX6_hasPlaces 5 = .ok (.ifCond .lt 25, 3) := by decide +kernel
theorem dX6_hasPlaces_8 : decode cX6_hasPlaces 8 = .ok (.iload_n 2, 1) := by decide +kernel
theorem dX6_hasPlaces_9 : decode cX6_hasPlaces 9 = .ok (.aload_n 0, 1) := by decide +kernel
theorem dX6_hasPlaces_10 : decode cX6_hasPlaces 10 = .ok (.getfield 21, 3) := by decide +kernel
theorem dX6_hasPlaces_13 : decode cX6_hasPlaces 13 = .ok (.if_icmp .gt 17, 3) := by decide +kernel
theorem dX6_hasPlaces_16 : decode cX6_hasPlaces 16 = .ok (.iload_n 1, 1) := by decide +kernel
theorem dX6_hasPlaces_17 : decode cX6_hasPlaces 17 = .ok (.aload_n 0, 1) := by decide +kernel
theorem dX6_hasPlaces_18 : decode cX6_hasPlaces 18 = .ok (.getfield 21, 3) := by decide +kernel
theorem dX6_hasPlaces_21 : decode cX6_hasPlaces 21 = .ok (.iload_n 2, 1) := by decide +kernel
theorem dX6_hasPlaces_22 : decode cX6_hasPlaces 22 = .ok (.isub, 1) := by decide +kernel
theorem dX6_hasPlaces_23 : decode cX6_hasPlaces 23 = .ok (.if_icmp .gt 7, 3) := by decide +kernel
theorem dX6_hasPlaces_26 : decode cX6_hasPlaces 26 = .ok (.iconst 1, 1) := by decide +kernel
theorem dX6_hasPlaces_27 : decode cX6_hasPlaces 27 = .ok (.goto 4, 3) := by decide +kernel
theorem dX6_hasPlaces_30 : decode cX6_hasPlaces 30 = .ok (.iconst 0, 1) := by decide +kernel
theorem dX6_hasPlaces_31 : decode cX6_hasPlaces 31 = .ok (.ireturn, 1) := by decide +kernel
abbrev rX6_hasPlaces : Room := { frames := 0, cells := 0, slots := 0, locals := 0 }
def mX6_hasPlaces (σ : gS) (k0 : Nat) (p0 : Int32) (p1 : Int32) : Option (Bool × gS) := if gk k0 = 6 then (if p0 < 0 then (some (false, σ)) else (if p1 < 0 then (some (false, σ)) else (if (σ.1 k0 3) < p1 then (some (false, σ)) else (if ((σ.1 k0 3) - p1) < p0 then (some (false, σ)) else (some (true, σ)))))) else none
set_option maxHeartbeats 4000000 in
set_option maxRecDepth 100000 in
theorem tX6_hasPlaces (l : Launch) (G : gE) (σ : gS) (k0 : Nat) (p0 : Int32) (p1 : Int32) : gM l G yX6_hasPlaces cX6_hasPlaces 3 (some .boolean) rX6_hasPlaces iZ [.ref (G.2.1 k0), .int p0, .int p1] σ (mX6_hasPlaces σ k0 p0 p1) := by
  refine gM_of (by decide) (Nat.le_of_ble_eq_true rfl) ?_
  intro p e s m args below meth c hC
  unfold mX6_hasPlaces
  refine gT_if (fun hk0 => ?_) (fun _ => gT_none)
  show gT p l e rX6_hasPlaces s m args below meth c G 3 iZ σ 0 [(0, .ref (G.2.1 k0)), (1, .int p0), (2, .int p1)] [] _
  refine g_iload_n (pc := 0) (q := 1) hC dX6_hasPlaces_0 rfl rfl ?_
  refine g_if_lt (pc := 1) (tgt := 30) hC dX6_hasPlaces_1 (by decide) ?_ ?_
  · refine g_iconst (pc := 30) (v := 0) hC dX6_hasPlaces_30 (by decide) ?_
    exact g_zret0 (pc := 31) hC dX6_hasPlaces_31
  · refine g_iload_n (pc := 4) (q := 2) hC dX6_hasPlaces_4 rfl rfl ?_
    refine g_if_lt (pc := 5) (tgt := 30) hC dX6_hasPlaces_5 (by decide) ?_ ?_
    · refine g_iconst (pc := 30) (v := 0) hC dX6_hasPlaces_30 (by decide) ?_
      exact g_zret0 (pc := 31) hC dX6_hasPlaces_31
    · refine g_iload_n (pc := 8) (q := 2) hC dX6_hasPlaces_8 rfl rfl ?_
      refine g_aload_n (pc := 9) (q := 0) hC dX6_hasPlaces_9 rfl rfl ?_
      refine g_get (pc := 10) (v := .int (σ.1 k0 3)) hC kX6 hk0 3 (by decide) fl_RX6_21 rfl dX6_hasPlaces_10 ?_
      refine g_icmp_gt (pc := 13) (tgt := 30) hC dX6_hasPlaces_13 (by decide) ?_ ?_
      · refine g_iconst (pc := 30) (v := 0) hC dX6_hasPlaces_30 (by decide) ?_
        exact g_zret0 (pc := 31) hC dX6_hasPlaces_31
      · refine g_iload_n (pc := 16) (q := 1) hC dX6_hasPlaces_16 rfl rfl ?_
        refine g_aload_n (pc := 17) (q := 0) hC dX6_hasPlaces_17 rfl rfl ?_
        refine g_get (pc := 18) (v := .int (σ.1 k0 3)) hC kX6 hk0 3 (by decide) fl_RX6_21 rfl dX6_hasPlaces_18 ?_
        refine g_iload_n (pc := 21) (q := 2) hC dX6_hasPlaces_21 rfl rfl ?_
        refine g_isub (pc := 22) hC dX6_hasPlaces_22 ?_
        refine g_icmp_gt (pc := 23) (tgt := 30) hC dX6_hasPlaces_23 (by decide) ?_ ?_
        · refine g_iconst (pc := 30) (v := 0) hC dX6_hasPlaces_30 (by decide) ?_
          exact g_zret0 (pc := 31) hC dX6_hasPlaces_31
        · refine g_iconst (pc := 26) (v := 1) hC dX6_hasPlaces_26 (by decide) ?_
          refine g_goto (pc := 27) (tgt := 31) hC dX6_hasPlaces_27 (by decide) ?_
          exact g_zret1 (pc := 31) hC dX6_hasPlaces_31
theorem dX4_begin_0 : decode cX4_begin 0 = .ok (.aload_n 0, 1) := by decide +kernel
theorem dX4_begin_1 : decode cX4_begin 1 = .ok (.iload_n 1, 1) := by decide +kernel
theorem dX4_begin_2 : decode cX4_begin 2 = .ok (.putfield 9, 3) := by decide +kernel
theorem dX4_begin_5 : decode cX4_begin 5 = .ok (.aload_n 0, 1) := by decide +kernel
theorem dX4_begin_6 : decode cX4_begin 6 = .ok (.iconst 0, 1) := by decide +kernel
theorem dX4_begin_7 : decode cX4_begin 7 = .ok (.putfield 25, 3) := by decide +kernel
theorem dX4_begin_10 : decode cX4_begin 10 = .ok (.return_, 1) := by decide +kernel
abbrev rX4_begin : Room := { frames := 0, cells := 0, slots := 0, locals := 0 }
def mX4_begin (σ : gS) (p0 : Int32) : Option (Unit × gS) := gLet (gUI σ 14 0 p0) (fun s1 => gLet (gUI s1 14 4 0) (fun s2 => some ((), s2)))
set_option maxHeartbeats 4000000 in
set_option maxRecDepth 100000 in
theorem tX4_begin (l : Launch) (G : gE) (σ : gS) (p0 : Int32) : gM l G yX4_begin cX4_begin 2 (none) rX4_begin iV [.ref (G.2.1 14), .int p0] σ (mX4_begin σ p0) := by
  refine gM_of (by decide) (Nat.le_of_ble_eq_true rfl) ?_
  intro p e s m args below meth c hC
  unfold mX4_begin
  show gT p l e rX4_begin s m args below meth c G 2 iV σ 0 [(0, .ref (G.2.1 14)), (1, .int p0)] [] _
  refine g_aload_n (pc := 0) (q := 0) hC dX4_begin_0 rfl rfl ?_
  refine g_iload_n (pc := 1) (q := 1) hC dX4_begin_1 rfl rfl ?_
  refine g_puti (pc := 2) (fty := .int) hC kX4 rfl 0 (by decide) fl_RX4_9 rfl rfl rfl rfl (fun _ _ => Nat.le_of_ble_eq_true rfl) (fun _ _ => rfl) dX4_begin_2 (fun s1 => ?_)
  refine g_aload_n (pc := 5) (q := 0) hC dX4_begin_5 rfl rfl ?_
  refine g_iconst (pc := 6) (v := 0) hC dX4_begin_6 (by decide) ?_
  refine g_puti (pc := 7) (fty := .boolean) hC kX4 rfl 4 (by decide) fl_RX4_25 rfl rfl (by decide) rfl (fun _ _ => Nat.le_of_ble_eq_true rfl) (fun _ _ => rfl) dX4_begin_7 (fun s2 => ?_)
  exact g_vret (pc := 10) hC dX4_begin_10
theorem cpy_RX4_41 : gCy RX4 41 := ⟨(gBig_tab 734 (by decide +kernel) (by decide +kernel)), (gBig_tab 461 (by decide +kernel) (by decide +kernel)), (gBig_tab 460 (by decide +kernel) (by decide +kernel)), (gBig_tab 12 (by decide +kernel) (by decide +kernel))⟩
theorem dX4_offer_0 : decode cX4_offer 0 = .ok (.aload_n 0, 1) := by decide +kernel
theorem dX4_offer_1 : decode cX4_offer 1 = .ok (.getfield 25, 3) := by decide +kernel
theorem dX4_offer_4 : decode cX4_offer 4 = .ok (.ifCond .eq 11, 3) := by decide +kernel
theorem dX4_offer_7 : decode cX4_offer 7 = .ok (.iload_n 1, 1) := by decide +kernel
theorem dX4_offer_8 : decode cX4_offer 8 = .ok (.aload_n 0, 1) := by decide +kernel
theorem dX4_offer_9 : decode cX4_offer 9 = .ok (.getfield 15, 3) := by decide +kernel
theorem dX4_offer_12 : decode cX4_offer 12 = .ok (.if_icmp .le 27, 3) := by decide +kernel
theorem dX4_offer_15 : decode cX4_offer 15 = .ok (.aload_n 0, 1) := by decide +kernel
theorem dX4_offer_16 : decode cX4_offer 16 = .ok (.iconst 1, 1) := by decide +kernel
theorem dX4_offer_17 : decode cX4_offer 17 = .ok (.putfield 25, 3) := by decide +kernel
theorem dX4_offer_20 : decode cX4_offer 20 = .ok (.aload_n 0, 1) := by decide +kernel
theorem dX4_offer_21 : decode cX4_offer 21 = .ok (.iload_n 1, 1) := by decide +kernel
theorem dX4_offer_22 : decode cX4_offer 22 = .ok (.putfield 15, 3) := by decide +kernel
theorem dX4_offer_25 : decode cX4_offer 25 = .ok (.aload_n 0, 1) := by decide +kernel
theorem dX4_offer_26 : decode cX4_offer 26 = .ok (.getfield 18, 3) := by decide +kernel
theorem dX4_offer_29 : decode cX4_offer 29 = .ok (.iconst 0, 1) := by decide +kernel
theorem dX4_offer_30 : decode cX4_offer 30 = .ok (.aload_n 0, 1) := by decide +kernel
theorem dX4_offer_31 : decode cX4_offer 31 = .ok (.getfield 22, 3) := by decide +kernel
theorem dX4_offer_34 : decode cX4_offer 34 = .ok (.iconst 0, 1) := by decide +kernel
theorem dX4_offer_35 : decode cX4_offer 35 = .ok (.iconst 4, 1) := by decide +kernel
theorem dX4_offer_36 : decode cX4_offer 36 = .ok (.invokestatic 41, 3) := by decide +kernel
theorem dX4_offer_39 : decode cX4_offer 39 = .ok (.return_, 1) := by decide +kernel
abbrev rX4_offer : Room := { frames := 1, cells := 0, slots := 0, locals := 64 }
def mX4_offer_b15    (σ : gS) (x1 : Int32) : Option (Unit × gS) := gLet (gUI σ 14 4 1) (fun s2 => gLet (gUI s2 14 1 x1) (fun s3 => if gCpB 0 0 4 4 4 = true then gLet (gUA s3 16 (va_cpy (s3.1 15) (s3.1 16) (Int32.toNatClampNeg 0) (Int32.toNatClampNeg 0) (Int32.toNatClampNeg 4))) (fun s4 => some ((), s4)) else none))
set_option maxHeartbeats 4000000 in
set_option maxRecDepth 100000 in
theorem wX4_offer_b15 {p : Program} {l : Launch} {e : Env} {s : State} {m : MethodId} {args : Array Value} {below : List Frame} {meth : Method} {c : Code} {G : gE} (hC : gCx p s m args meth c G RX4 cX4_offer 2 (none))     (σ : gS) (x1 : Int32)  : gT p l e rX4_offer s m args below meth c G 2 iV σ 15 [(0, .ref (G.2.1 14)), (1, .int x1)] [] (mX4_offer_b15  σ x1) := by
  unfold mX4_offer_b15
  refine g_aload_n (pc := 15) (q := 0) hC dX4_offer_15 rfl rfl ?_
  refine g_iconst (pc := 16) (v := 1) hC dX4_offer_16 (by decide) ?_
  refine g_puti (pc := 17) (fty := .boolean) hC kX4 rfl 4 (by decide) fl_RX4_25 rfl rfl (by decide) rfl (fun _ _ => Nat.le_of_ble_eq_true rfl) (fun _ _ => rfl) dX4_offer_17 (fun s2 => ?_)
  refine g_aload_n (pc := 20) (q := 0) hC dX4_offer_20 rfl rfl ?_
  refine g_iload_n (pc := 21) (q := 1) hC dX4_offer_21 rfl rfl ?_
  refine g_puti (pc := 22) (fty := .int) hC kX4 rfl 1 (by decide) fl_RX4_15 rfl rfl rfl rfl (fun _ _ => Nat.le_of_ble_eq_true rfl) (fun _ _ => rfl) dX4_offer_22 (fun s3 => ?_)
  refine g_aload_n (pc := 25) (q := 0) hC dX4_offer_25 rfl rfl ?_
  refine g_get (pc := 26) (v := .ref (G.2.1 15)) hC kX4 rfl 2 (by decide) fl_RX4_18 rfl dX4_offer_26 ?_
  refine g_iconst (pc := 29) (v := 0) hC dX4_offer_29 (by decide) ?_
  refine g_aload_n (pc := 30) (q := 0) hC dX4_offer_30 rfl rfl ?_
  refine g_get (pc := 31) (v := .ref (G.2.1 16)) hC kX4 rfl 3 (by decide) fl_RX4_22 rfl dX4_offer_31 ?_
  refine g_iconst (pc := 34) (v := 0) hC dX4_offer_34 (by decide) ?_
  refine g_iconst (pc := 35) (v := 4) hC dX4_offer_35 (by decide) ?_
  refine g_copyi (pc := 36) hC 4 4 cpy_RX4_41 rfl rfl (by decide) (by decide) ⟨Nat.le_of_ble_eq_true rfl, by decide⟩ (Nat.le_of_ble_eq_true rfl) dX4_offer_36 (fun s4 => ?_)
  exact g_vret (pc := 39) hC dX4_offer_39
def mX4_offer (σ : gS) (p0 : Int32) : Option (Unit × gS) := if (σ.1 14 4) = 0 then ((mX4_offer_b15  σ p0)) else (if p0 ≤ (σ.1 14 1) then (some ((), σ)) else ((mX4_offer_b15  σ p0)))
set_option maxHeartbeats 4000000 in
set_option maxRecDepth 100000 in
theorem tX4_offer (l : Launch) (G : gE) (σ : gS) (p0 : Int32) : gM l G yX4_offer cX4_offer 2 (none) rX4_offer iV [.ref (G.2.1 14), .int p0] σ (mX4_offer σ p0) := by
  refine gM_of (by decide) (Nat.le_of_ble_eq_true rfl) ?_
  intro p e s m args below meth c hC
  unfold mX4_offer
  show gT p l e rX4_offer s m args below meth c G 2 iV σ 0 [(0, .ref (G.2.1 14)), (1, .int p0)] [] _
  refine g_aload_n (pc := 0) (q := 0) hC dX4_offer_0 rfl rfl ?_
  refine g_get (pc := 1) (v := .int (σ.1 14 4)) hC kX4 rfl 4 (by decide) fl_RX4_25 rfl dX4_offer_1 ?_
  refine g_if_eq (pc := 4) (tgt := 15) hC dX4_offer_4 (by decide) ?_ ?_
  · exact gT_sub [0, 1] rfl (wX4_offer_b15 hC  σ p0)
  · refine g_iload_n (pc := 7) (q := 1) hC dX4_offer_7 rfl rfl ?_
    refine g_aload_n (pc := 8) (q := 0) hC dX4_offer_8 rfl rfl ?_
    refine g_get (pc := 9) (v := .int (σ.1 14 1)) hC kX4 rfl 1 (by decide) fl_RX4_15 rfl dX4_offer_9 ?_
    refine g_icmp_le (pc := 12) (tgt := 39) hC dX4_offer_12 (by decide) ?_ ?_
    · exact g_vret (pc := 39) hC dX4_offer_39
    · exact gT_sub [0, 1] rfl (wX4_offer_b15 hC  σ p0)
theorem dX4_beginTurns_0 : decode cX4_beginTurns 0 = .ok (.aload_n 0, 1) := by decide +kernel
theorem dX4_beginTurns_1 : decode cX4_beginTurns 1 = .ok (.iload_n 1, 1) := by decide +kernel
theorem dX4_beginTurns_2 : decode cX4_beginTurns 2 = .ok (.putfield 29, 3) := by decide +kernel
theorem dX4_beginTurns_5 : decode cX4_beginTurns 5 = .ok (.aload_n 0, 1) := by decide +kernel
theorem dX4_beginTurns_6 : decode cX4_beginTurns 6 = .ok (.iload_n 2, 1) := by decide +kernel
theorem dX4_beginTurns_7 : decode cX4_beginTurns 7 = .ok (.putfield 32, 3) := by decide +kernel
theorem dX4_beginTurns_10 : decode cX4_beginTurns 10 = .ok (.aload_n 0, 1) := by decide +kernel
theorem dX4_beginTurns_11 : decode cX4_beginTurns 11 = .ok (.iload_n 3, 1) := by decide +kernel
theorem dX4_beginTurns_12 : decode cX4_beginTurns 12 = .ok (.putfield 35, 3) := by decide +kernel
theorem dX4_beginTurns_15 : decode cX4_beginTurns 15 = .ok (.aload_n 0, 1) := by decide +kernel
theorem dX4_beginTurns_16 : decode cX4_beginTurns 16 = .ok (.iload 4, 2) := by decide +kernel
theorem dX4_beginTurns_18 : decode cX4_beginTurns 18 = .ok (.putfield 38, 3) := by decide +kernel
theorem dX4_beginTurns_21 : decode cX4_beginTurns 21 = .ok (.return_, 1) := by decide +kernel
abbrev rX4_beginTurns : Room := { frames := 0, cells := 0, slots := 0, locals := 0 }
def mX4_beginTurns (σ : gS) (p0 : Int32) (p1 : Int32) (p2 : Int32) (p3 : Int32) : Option (Unit × gS) := gLet (gUI σ 14 5 p0) (fun s1 => gLet (gUI s1 14 6 p1) (fun s2 => gLet (gUI s2 14 7 p2) (fun s3 => gLet (gUI s3 14 8 p3) (fun s4 => some ((), s4)))))
set_option maxHeartbeats 4000000 in
set_option maxRecDepth 100000 in
theorem tX4_beginTurns (l : Launch) (G : gE) (σ : gS) (p0 : Int32) (p1 : Int32) (p2 : Int32) (p3 : Int32) : gM l G yX4_beginTurns cX4_beginTurns 5 (none) rX4_beginTurns iV [.ref (G.2.1 14), .int p0, .int p1, .int p2, .int p3] σ (mX4_beginTurns σ p0 p1 p2 p3) := by
  refine gM_of (by decide) (Nat.le_of_ble_eq_true rfl) ?_
  intro p e s m args below meth c hC
  unfold mX4_beginTurns
  show gT p l e rX4_beginTurns s m args below meth c G 5 iV σ 0 [(0, .ref (G.2.1 14)), (1, .int p0), (2, .int p1), (3, .int p2), (4, .int p3)] [] _
  refine g_aload_n (pc := 0) (q := 0) hC dX4_beginTurns_0 rfl rfl ?_
  refine g_iload_n (pc := 1) (q := 1) hC dX4_beginTurns_1 rfl rfl ?_
  refine g_puti (pc := 2) (fty := .int) hC kX4 rfl 5 (by decide) fl_RX4_29 rfl rfl rfl rfl (fun _ _ => Nat.le_of_ble_eq_true rfl) (fun _ _ => rfl) dX4_beginTurns_2 (fun s1 => ?_)
  refine g_aload_n (pc := 5) (q := 0) hC dX4_beginTurns_5 rfl rfl ?_
  refine g_iload_n (pc := 6) (q := 2) hC dX4_beginTurns_6 rfl rfl ?_
  refine g_puti (pc := 7) (fty := .int) hC kX4 rfl 6 (by decide) fl_RX4_32 rfl rfl rfl rfl (fun _ _ => Nat.le_of_ble_eq_true rfl) (fun _ _ => rfl) dX4_beginTurns_7 (fun s2 => ?_)
  refine g_aload_n (pc := 10) (q := 0) hC dX4_beginTurns_10 rfl rfl ?_
  refine g_iload_n (pc := 11) (q := 3) hC dX4_beginTurns_11 rfl rfl ?_
  refine g_puti (pc := 12) (fty := .int) hC kX4 rfl 7 (by decide) fl_RX4_35 rfl rfl rfl rfl (fun _ _ => Nat.le_of_ble_eq_true rfl) (fun _ _ => rfl) dX4_beginTurns_12 (fun s3 => ?_)
  refine g_aload_n (pc := 15) (q := 0) hC dX4_beginTurns_15 rfl rfl ?_
  refine g_iload (pc := 16) (q := 4) hC dX4_beginTurns_16 rfl ?_
  refine g_puti (pc := 18) (fty := .int) hC kX4 rfl 8 (by decide) fl_RX4_38 rfl rfl rfl rfl (fun _ _ => Nat.le_of_ble_eq_true rfl) (fun _ _ => rfl) dX4_beginTurns_18 (fun s4 => ?_)
  exact g_vret (pc := 21) hC dX4_beginTurns_21
theorem cpy_RX1_32 : gCy RX1 32 := ⟨(gBig_tab 459 (by decide +kernel) (by decide +kernel)), (gBig_tab 461 (by decide +kernel) (by decide +kernel)), (gBig_tab 460 (by decide +kernel) (by decide +kernel)), (gBig_tab 12 (by decide +kernel) (by decide +kernel))⟩
theorem dX1_forgetOldest_0 : decode cX1_forgetOldest 0 = .ok (.aload_n 0, 1) := by decide +kernel
theorem dX1_forgetOldest_1 : decode cX1_forgetOldest 1 = .ok (.bipush 39, 2) := by decide +kernel
theorem dX1_forgetOldest_3 : decode cX1_forgetOldest 3 = .ok (.putfield 22, 3) := by decide +kernel
theorem dX1_forgetOldest_6 : decode cX1_forgetOldest 6 = .ok (.aload_n 0, 1) := by decide +kernel
theorem dX1_forgetOldest_7 : decode cX1_forgetOldest 7 = .ok (.getfield 9, 3) := by decide +kernel
theorem dX1_forgetOldest_10 : decode cX1_forgetOldest 10 = .ok (.iconst 1, 1) := by decide +kernel
theorem dX1_forgetOldest_11 : decode cX1_forgetOldest 11 = .ok (.aload_n 0, 1) := by decide +kernel
theorem dX1_forgetOldest_12 : decode cX1_forgetOldest 12 = .ok (.getfield 9, 3) := by decide +kernel
theorem dX1_forgetOldest_15 : decode cX1_forgetOldest 15 = .ok (.iconst 0, 1) := by decide +kernel
theorem dX1_forgetOldest_16 : decode cX1_forgetOldest 16 = .ok (.aload_n 0, 1) := by decide +kernel
theorem dX1_forgetOldest_17 : decode cX1_forgetOldest 17 = .ok (.getfield 22, 3) := by decide +kernel
theorem dX1_forgetOldest_20 : decode cX1_forgetOldest 20 = .ok (.invokestatic 32, 3) := by decide +kernel
theorem dX1_forgetOldest_23 : decode cX1_forgetOldest 23 = .ok (.aload_n 0, 1) := by decide +kernel
theorem dX1_forgetOldest_24 : decode cX1_forgetOldest 24 = .ok (.getfield 13, 3) := by decide +kernel
theorem dX1_forgetOldest_27 : decode cX1_forgetOldest 27 = .ok (.iconst 1, 1) := by decide +kernel
theorem dX1_forgetOldest_28 : decode cX1_forgetOldest 28 = .ok (.aload_n 0, 1) := by decide +kernel
theorem dX1_forgetOldest_29 : decode cX1_forgetOldest 29 = .ok (.getfield 13, 3) := by decide +kernel
theorem dX1_forgetOldest_32 : decode cX1_forgetOldest 32 = .ok (.iconst 0, 1) := by decide +kernel
theorem dX1_forgetOldest_33 : decode cX1_forgetOldest 33 = .ok (.aload_n 0, 1) := by decide +kernel
theorem dX1_forgetOldest_34 : decode cX1_forgetOldest 34 = .ok (.getfield 22, 3) := by decide +kernel
theorem dX1_forgetOldest_37 : decode cX1_forgetOldest 37 = .ok (.invokestatic 32, 3) := by decide +kernel
theorem dX1_forgetOldest_40 : decode cX1_forgetOldest 40 = .ok (.aload_n 0, 1) := by decide +kernel
theorem dX1_forgetOldest_41 : decode cX1_forgetOldest 41 = .ok (.getfield 16, 3) := by decide +kernel
theorem dX1_forgetOldest_44 : decode cX1_forgetOldest 44 = .ok (.iconst 1, 1) := by decide +kernel
theorem dX1_forgetOldest_45 : decode cX1_forgetOldest 45 = .ok (.aload_n 0, 1) := by decide +kernel
theorem dX1_forgetOldest_46 : decode cX1_forgetOldest 46 = .ok (.getfield 16, 3) := by decide +kernel
theorem dX1_forgetOldest_49 : decode cX1_forgetOldest 49 = .ok (.iconst 0, 1) := by decide +kernel
theorem dX1_forgetOldest_50 : decode cX1_forgetOldest 50 = .ok (.aload_n 0, 1) := by decide +kernel
theorem dX1_forgetOldest_51 : decode cX1_forgetOldest 51 = .ok (.getfield 22, 3) := by decide +kernel
theorem dX1_forgetOldest_54 : decode cX1_forgetOldest 54 = .ok (.invokestatic 32, 3) := by decide +kernel
theorem dX1_forgetOldest_57 : decode cX1_forgetOldest 57 = .ok (.aload_n 0, 1) := by decide +kernel
theorem dX1_forgetOldest_58 : decode cX1_forgetOldest 58 = .ok (.getfield 19, 3) := by decide +kernel
theorem dX1_forgetOldest_61 : decode cX1_forgetOldest 61 = .ok (.iconst 1, 1) := by decide +kernel
theorem dX1_forgetOldest_62 : decode cX1_forgetOldest 62 = .ok (.aload_n 0, 1) := by decide +kernel
theorem dX1_forgetOldest_63 : decode cX1_forgetOldest 63 = .ok (.getfield 19, 3) := by decide +kernel
theorem dX1_forgetOldest_66 : decode cX1_forgetOldest 66 = .ok (.iconst 0, 1) := by decide +kernel
theorem dX1_forgetOldest_67 : decode cX1_forgetOldest 67 = .ok (.aload_n 0, 1) := by decide +kernel
theorem dX1_forgetOldest_68 : decode cX1_forgetOldest 68 = .ok (.getfield 22, 3) := by decide +kernel
theorem dX1_forgetOldest_71 : decode cX1_forgetOldest 71 = .ok (.invokestatic 32, 3) := by decide +kernel
theorem dX1_forgetOldest_74 : decode cX1_forgetOldest 74 = .ok (.return_, 1) := by decide +kernel
abbrev rX1_forgetOldest : Room := { frames := 1, cells := 0, slots := 0, locals := 64 }
def mX1_forgetOldest (σ : gS)  : Option (Unit × gS) := gLet (gUI σ 31 4 39) (fun s1 => if gCpB 1 0 (s1.1 31 4) 40 40 = true then gLet (gUA s1 32 (va_cpy (s1.1 32) (s1.1 32) (Int32.toNatClampNeg 1) (Int32.toNatClampNeg 0) (Int32.toNatClampNeg (s1.1 31 4)))) (fun s2 => if gCpB 1 0 (s2.1 31 4) 40 40 = true then gLet (gUA s2 33 (va_cpy (s2.1 33) (s2.1 33) (Int32.toNatClampNeg 1) (Int32.toNatClampNeg 0) (Int32.toNatClampNeg (s2.1 31 4)))) (fun s3 => if gCpB 1 0 (s3.1 31 4) 40 40 = true then gLet (gUA s3 34 (va_cpy (s3.1 34) (s3.1 34) (Int32.toNatClampNeg 1) (Int32.toNatClampNeg 0) (Int32.toNatClampNeg (s3.1 31 4)))) (fun s4 => if gCpB 1 0 (s4.1 31 4) 40 40 = true then gLet (gUA s4 35 (va_cpy (s4.1 35) (s4.1 35) (Int32.toNatClampNeg 1) (Int32.toNatClampNeg 0) (Int32.toNatClampNeg (s4.1 31 4)))) (fun s5 => some ((), s5)) else none) else none) else none) else none)
set_option maxHeartbeats 4000000 in
set_option maxRecDepth 100000 in
theorem tX1_forgetOldest (l : Launch) (G : gE) (σ : gS)  : gM l G yX1_forgetOldest cX1_forgetOldest 1 (none) rX1_forgetOldest iV [.ref (G.2.1 31)] σ (mX1_forgetOldest σ ) := by
  refine gM_of (by decide) (Nat.le_of_ble_eq_true rfl) ?_
  intro p e s m args below meth c hC
  unfold mX1_forgetOldest
  show gT p l e rX1_forgetOldest s m args below meth c G 1 iV σ 0 [(0, .ref (G.2.1 31))] [] _
  refine g_aload_n (pc := 0) (q := 0) hC dX1_forgetOldest_0 rfl rfl ?_
  refine g_bipush (pc := 1) (v := 39) hC dX1_forgetOldest_1 (by decide) ?_
  refine g_puti (pc := 3) (fty := .int) hC kX1 rfl 4 (by decide) fl_RX1_22 rfl rfl rfl rfl (fun _ _ => Nat.le_of_ble_eq_true rfl) (fun _ _ => rfl) dX1_forgetOldest_3 (fun s1 => ?_)
  refine g_aload_n (pc := 6) (q := 0) hC dX1_forgetOldest_6 rfl rfl ?_
  refine g_get (pc := 7) (v := .ref (G.2.1 32)) hC kX1 rfl 0 (by decide) fl_RX1_9 rfl dX1_forgetOldest_7 ?_
  refine g_iconst (pc := 10) (v := 1) hC dX1_forgetOldest_10 (by decide) ?_
  refine g_aload_n (pc := 11) (q := 0) hC dX1_forgetOldest_11 rfl rfl ?_
  refine g_get (pc := 12) (v := .ref (G.2.1 32)) hC kX1 rfl 0 (by decide) fl_RX1_9 rfl dX1_forgetOldest_12 ?_
  refine g_iconst (pc := 15) (v := 0) hC dX1_forgetOldest_15 (by decide) ?_
  refine g_aload_n (pc := 16) (q := 0) hC dX1_forgetOldest_16 rfl rfl ?_
  refine g_get (pc := 17) (v := .int (s1.1 31 4)) hC kX1 rfl 4 (by decide) fl_RX1_22 rfl dX1_forgetOldest_17 ?_
  refine g_copyi (pc := 20) hC 40 40 cpy_RX1_32 rfl rfl (by decide) (by decide) ⟨Nat.le_of_ble_eq_true rfl, by decide⟩ (Nat.le_of_ble_eq_true rfl) dX1_forgetOldest_20 (fun s2 => ?_)
  refine g_aload_n (pc := 23) (q := 0) hC dX1_forgetOldest_23 rfl rfl ?_
  refine g_get (pc := 24) (v := .ref (G.2.1 33)) hC kX1 rfl 1 (by decide) fl_RX1_13 rfl dX1_forgetOldest_24 ?_
  refine g_iconst (pc := 27) (v := 1) hC dX1_forgetOldest_27 (by decide) ?_
  refine g_aload_n (pc := 28) (q := 0) hC dX1_forgetOldest_28 rfl rfl ?_
  refine g_get (pc := 29) (v := .ref (G.2.1 33)) hC kX1 rfl 1 (by decide) fl_RX1_13 rfl dX1_forgetOldest_29 ?_
  refine g_iconst (pc := 32) (v := 0) hC dX1_forgetOldest_32 (by decide) ?_
  refine g_aload_n (pc := 33) (q := 0) hC dX1_forgetOldest_33 rfl rfl ?_
  refine g_get (pc := 34) (v := .int (s2.1 31 4)) hC kX1 rfl 4 (by decide) fl_RX1_22 rfl dX1_forgetOldest_34 ?_
  refine g_copyi (pc := 37) hC 40 40 cpy_RX1_32 rfl rfl (by decide) (by decide) ⟨Nat.le_of_ble_eq_true rfl, by decide⟩ (Nat.le_of_ble_eq_true rfl) dX1_forgetOldest_37 (fun s3 => ?_)
  refine g_aload_n (pc := 40) (q := 0) hC dX1_forgetOldest_40 rfl rfl ?_
  refine g_get (pc := 41) (v := .ref (G.2.1 34)) hC kX1 rfl 2 (by decide) fl_RX1_16 rfl dX1_forgetOldest_41 ?_
  refine g_iconst (pc := 44) (v := 1) hC dX1_forgetOldest_44 (by decide) ?_
  refine g_aload_n (pc := 45) (q := 0) hC dX1_forgetOldest_45 rfl rfl ?_
  refine g_get (pc := 46) (v := .ref (G.2.1 34)) hC kX1 rfl 2 (by decide) fl_RX1_16 rfl dX1_forgetOldest_46 ?_
  refine g_iconst (pc := 49) (v := 0) hC dX1_forgetOldest_49 (by decide) ?_
  refine g_aload_n (pc := 50) (q := 0) hC dX1_forgetOldest_50 rfl rfl ?_
  refine g_get (pc := 51) (v := .int (s3.1 31 4)) hC kX1 rfl 4 (by decide) fl_RX1_22 rfl dX1_forgetOldest_51 ?_
  refine g_copyi (pc := 54) hC 40 40 cpy_RX1_32 rfl rfl (by decide) (by decide) ⟨Nat.le_of_ble_eq_true rfl, by decide⟩ (Nat.le_of_ble_eq_true rfl) dX1_forgetOldest_54 (fun s4 => ?_)
  refine g_aload_n (pc := 57) (q := 0) hC dX1_forgetOldest_57 rfl rfl ?_
  refine g_get (pc := 58) (v := .ref (G.2.1 35)) hC kX1 rfl 3 (by decide) fl_RX1_19 rfl dX1_forgetOldest_58 ?_
  refine g_iconst (pc := 61) (v := 1) hC dX1_forgetOldest_61 (by decide) ?_
  refine g_aload_n (pc := 62) (q := 0) hC dX1_forgetOldest_62 rfl rfl ?_
  refine g_get (pc := 63) (v := .ref (G.2.1 35)) hC kX1 rfl 3 (by decide) fl_RX1_19 rfl dX1_forgetOldest_63 ?_
  refine g_iconst (pc := 66) (v := 0) hC dX1_forgetOldest_66 (by decide) ?_
  refine g_aload_n (pc := 67) (q := 0) hC dX1_forgetOldest_67 rfl rfl ?_
  refine g_get (pc := 68) (v := .int (s4.1 31 4)) hC kX1 rfl 4 (by decide) fl_RX1_22 rfl dX1_forgetOldest_68 ?_
  refine g_copyi (pc := 71) hC 40 40 cpy_RX1_32 rfl rfl (by decide) (by decide) ⟨Nat.le_of_ble_eq_true rfl, by decide⟩ (Nat.le_of_ble_eq_true rfl) dX1_forgetOldest_71 (fun s5 => ?_)
  exact g_vret (pc := 74) hC dX1_forgetOldest_74
theorem lk_RX1_29 : gLV RX1 29 RX1 yX1_forgetOldest cX1_forgetOldest 1 (none) 0 := ⟨(gBig_tab 455 (by decide +kernel) (by decide +kernel)), (gBig_tab 457 (by decide +kernel) (by decide +kernel)), (gBig_sel 5 (by decide +kernel) (by decide +kernel)), (gBig_tab 8 (by decide +kernel) (by decide +kernel)), (gBig_tab 458 (by decide +kernel) (by decide +kernel)), rfl, by decide +kernel, by decide +kernel, by decide +kernel⟩
theorem dX1_remember_0 : decode cX1_remember 0 = .ok (.aload_n 0, 1) := by decide +kernel
theorem dX1_remember_1 : decode cX1_remember 1 = .ok (.getfield 22, 3) := by decide +kernel
theorem dX1_remember_4 : decode cX1_remember 4 = .ok (.bipush 40, 2) := by decide +kernel
theorem dX1_remember_6 : decode cX1_remember 6 = .ok (.if_icmp .lt 7, 3) := by decide +kernel
theorem dX1_remember_9 : decode cX1_remember 9 = .ok (.aload_n 0, 1) := by decide +kernel
theorem dX1_remember_10 : decode cX1_remember 10 = .ok (.invokevirtual 29, 3) := by decide +kernel
theorem dX1_remember_13 : decode cX1_remember 13 = .ok (.aload_n 0, 1) := by decide +kernel
theorem dX1_remember_14 : decode cX1_remember 14 = .ok (.getfield 9, 3) := by decide +kernel
theorem dX1_remember_17 : decode cX1_remember 17 = .ok (.aload_n 0, 1) := by decide +kernel
theorem dX1_remember_18 : decode cX1_remember 18 = .ok (.getfield 22, 3) := by decide +kernel
theorem dX1_remember_21 : decode cX1_remember 21 = .ok (.iload_n 1, 1) := by decide +kernel
theorem dX1_remember_22 : decode cX1_remember 22 = .ok (.iastore, 1) := by decide +kernel
theorem dX1_remember_23 : decode cX1_remember 23 = .ok (.aload_n 0, 1) := by decide +kernel
theorem dX1_remember_24 : decode cX1_remember 24 = .ok (.getfield 13, 3) := by decide +kernel
theorem dX1_remember_27 : decode cX1_remember 27 = .ok (.aload_n 0, 1) := by decide +kernel
theorem dX1_remember_28 : decode cX1_remember 28 = .ok (.getfield 22, 3) := by decide +kernel
theorem dX1_remember_31 : decode cX1_remember 31 = .ok (.iload_n 2, 1) := by decide +kernel
theorem dX1_remember_32 : decode cX1_remember 32 = .ok (.iastore, 1) := by decide +kernel
theorem dX1_remember_33 : decode cX1_remember 33 = .ok (.aload_n 0, 1) := by decide +kernel
theorem dX1_remember_34 : decode cX1_remember 34 = .ok (.getfield 16, 3) := by decide +kernel
theorem dX1_remember_37 : decode cX1_remember 37 = .ok (.aload_n 0, 1) := by decide +kernel
theorem dX1_remember_38 : decode cX1_remember 38 = .ok (.getfield 22, 3) := by decide +kernel
theorem dX1_remember_41 : decode cX1_remember 41 = .ok (.iload_n 3, 1) := by decide +kernel
theorem dX1_remember_42 : decode cX1_remember 42 = .ok (.iastore, 1) := by decide +kernel
theorem dX1_remember_43 : decode cX1_remember 43 = .ok (.aload_n 0, 1) := by decide +kernel
theorem dX1_remember_44 : decode cX1_remember 44 = .ok (.getfield 19, 3) := by decide +kernel
theorem dX1_remember_47 : decode cX1_remember 47 = .ok (.aload_n 0, 1) := by decide +kernel
theorem dX1_remember_48 : decode cX1_remember 48 = .ok (.getfield 22, 3) := by decide +kernel
theorem dX1_remember_51 : decode cX1_remember 51 = .ok (.iload 4, 2) := by decide +kernel
theorem dX1_remember_53 : decode cX1_remember 53 = .ok (.iastore, 1) := by decide +kernel
theorem dX1_remember_54 : decode cX1_remember 54 = .ok (.aload_n 0, 1) := by decide +kernel
theorem dX1_remember_55 : decode cX1_remember 55 = .ok (.dup, 1) := by decide +kernel
theorem dX1_remember_56 : decode cX1_remember 56 = .ok (.getfield 22, 3) := by decide +kernel
theorem dX1_remember_59 : decode cX1_remember 59 = .ok (.iconst 1, 1) := by decide +kernel
theorem dX1_remember_60 : decode cX1_remember 60 = .ok (.iadd, 1) := by decide +kernel
theorem dX1_remember_61 : decode cX1_remember 61 = .ok (.putfield 22, 3) := by decide +kernel
theorem dX1_remember_64 : decode cX1_remember 64 = .ok (.aload_n 0, 1) := by decide +kernel
theorem dX1_remember_65 : decode cX1_remember 65 = .ok (.iconst 0, 1) := by decide +kernel
theorem dX1_remember_66 : decode cX1_remember 66 = .ok (.putfield 26, 3) := by decide +kernel
theorem dX1_remember_69 : decode cX1_remember 69 = .ok (.return_, 1) := by decide +kernel
abbrev rX1_remember : Room := { frames := 2, cells := 0, slots := 0, locals := 84 }
def mX1_remember_b13    (σ : gS) (x1 : Int32) (x2 : Int32) (x3 : Int32) (x4 : Int32) : Option (Unit × gS) := if inbB (σ.1 31 4) 40 = true then gLet (gUI σ 32 (Int32.toNatClampNeg (σ.1 31 4)) x1) (fun s5 => if inbB (s5.1 31 4) 40 = true then gLet (gUI s5 33 (Int32.toNatClampNeg (s5.1 31 4)) x2) (fun s6 => if inbB (s6.1 31 4) 40 = true then gLet (gUI s6 34 (Int32.toNatClampNeg (s6.1 31 4)) x3) (fun s7 => if inbB (s7.1 31 4) 40 = true then gLet (gUI s7 35 (Int32.toNatClampNeg (s7.1 31 4)) x4) (fun s8 => gLet (gUI s8 31 4 ((s8.1 31 4) + 1)) (fun s9 => gLet (gUI s9 31 5 0) (fun s10 => some ((), s10)))) else none) else none) else none) else none
set_option maxHeartbeats 4000000 in
set_option maxRecDepth 100000 in
theorem wX1_remember_b13 {p : Program} {l : Launch} {e : Env} {s : State} {m : MethodId} {args : Array Value} {below : List Frame} {meth : Method} {c : Code} {G : gE} (hC : gCx p s m args meth c G RX1 cX1_remember 5 (none))     (σ : gS) (x1 : Int32) (x2 : Int32) (x3 : Int32) (x4 : Int32)  : gT p l e rX1_remember s m args below meth c G 5 iV σ 13 [(0, .ref (G.2.1 31)), (1, .int x1), (2, .int x2), (3, .int x3), (4, .int x4)] [] (mX1_remember_b13  σ x1 x2 x3 x4) := by
  unfold mX1_remember_b13
  refine g_aload_n (pc := 13) (q := 0) hC dX1_remember_13 rfl rfl ?_
  refine g_get (pc := 14) (v := .ref (G.2.1 32)) hC kX1 rfl 0 (by decide) fl_RX1_9 rfl dX1_remember_14 ?_
  refine g_aload_n (pc := 17) (q := 0) hC dX1_remember_17 rfl rfl ?_
  refine g_get (pc := 18) (v := .int (σ.1 31 4)) hC kX1 rfl 4 (by decide) fl_RX1_22 rfl dX1_remember_18 ?_
  refine g_iload_n (pc := 21) (q := 1) hC dX1_remember_21 rfl rfl ?_
  refine g_iast (pc := 22) hC 40 rfl (by decide) dX1_remember_22 (fun s5 => ?_)
  refine g_aload_n (pc := 23) (q := 0) hC dX1_remember_23 rfl rfl ?_
  refine g_get (pc := 24) (v := .ref (G.2.1 33)) hC kX1 rfl 1 (by decide) fl_RX1_13 rfl dX1_remember_24 ?_
  refine g_aload_n (pc := 27) (q := 0) hC dX1_remember_27 rfl rfl ?_
  refine g_get (pc := 28) (v := .int (s5.1 31 4)) hC kX1 rfl 4 (by decide) fl_RX1_22 rfl dX1_remember_28 ?_
  refine g_iload_n (pc := 31) (q := 2) hC dX1_remember_31 rfl rfl ?_
  refine g_iast (pc := 32) hC 40 rfl (by decide) dX1_remember_32 (fun s6 => ?_)
  refine g_aload_n (pc := 33) (q := 0) hC dX1_remember_33 rfl rfl ?_
  refine g_get (pc := 34) (v := .ref (G.2.1 34)) hC kX1 rfl 2 (by decide) fl_RX1_16 rfl dX1_remember_34 ?_
  refine g_aload_n (pc := 37) (q := 0) hC dX1_remember_37 rfl rfl ?_
  refine g_get (pc := 38) (v := .int (s6.1 31 4)) hC kX1 rfl 4 (by decide) fl_RX1_22 rfl dX1_remember_38 ?_
  refine g_iload_n (pc := 41) (q := 3) hC dX1_remember_41 rfl rfl ?_
  refine g_iast (pc := 42) hC 40 rfl (by decide) dX1_remember_42 (fun s7 => ?_)
  refine g_aload_n (pc := 43) (q := 0) hC dX1_remember_43 rfl rfl ?_
  refine g_get (pc := 44) (v := .ref (G.2.1 35)) hC kX1 rfl 3 (by decide) fl_RX1_19 rfl dX1_remember_44 ?_
  refine g_aload_n (pc := 47) (q := 0) hC dX1_remember_47 rfl rfl ?_
  refine g_get (pc := 48) (v := .int (s7.1 31 4)) hC kX1 rfl 4 (by decide) fl_RX1_22 rfl dX1_remember_48 ?_
  refine g_iload (pc := 51) (q := 4) hC dX1_remember_51 rfl ?_
  refine g_iast (pc := 53) hC 40 rfl (by decide) dX1_remember_53 (fun s8 => ?_)
  refine g_aload_n (pc := 54) (q := 0) hC dX1_remember_54 rfl rfl ?_
  refine g_dup (pc := 55) hC dX1_remember_55 rfl ?_
  refine g_get (pc := 56) (v := .int (s8.1 31 4)) hC kX1 rfl 4 (by decide) fl_RX1_22 rfl dX1_remember_56 ?_
  refine g_iconst (pc := 59) (v := 1) hC dX1_remember_59 (by decide) ?_
  refine g_iadd (pc := 60) hC dX1_remember_60 ?_
  refine g_puti (pc := 61) (fty := .int) hC kX1 rfl 4 (by decide) fl_RX1_22 rfl rfl rfl rfl (fun _ _ => Nat.le_of_ble_eq_true rfl) (fun _ _ => rfl) dX1_remember_61 (fun s9 => ?_)
  refine g_aload_n (pc := 64) (q := 0) hC dX1_remember_64 rfl rfl ?_
  refine g_iconst (pc := 65) (v := 0) hC dX1_remember_65 (by decide) ?_
  refine g_puti (pc := 66) (fty := .int) hC kX1 rfl 5 (by decide) fl_RX1_26 rfl rfl rfl rfl (fun _ _ => Nat.le_of_ble_eq_true rfl) (fun _ _ => rfl) dX1_remember_66 (fun s10 => ?_)
  exact g_vret (pc := 69) hC dX1_remember_69
def mX1_remember (σ : gS) (p0 : Int32) (p1 : Int32) (p2 : Int32) (p3 : Int32) : Option (Unit × gS) := if (σ.1 31 4) < 40 then ((mX1_remember_b13  σ p0 p1 p2 p3)) else (gBind (mX1_forgetOldest σ ) (fun r11 s12 => (mX1_remember_b13  s12 p0 p1 p2 p3)))
set_option maxHeartbeats 4000000 in
set_option maxRecDepth 100000 in
theorem tX1_remember (l : Launch) (G : gE) (σ : gS) (p0 : Int32) (p1 : Int32) (p2 : Int32) (p3 : Int32) : gM l G yX1_remember cX1_remember 5 (none) rX1_remember iV [.ref (G.2.1 31), .int p0, .int p1, .int p2, .int p3] σ (mX1_remember σ p0 p1 p2 p3) := by
  refine gM_of (by decide) (Nat.le_of_ble_eq_true rfl) ?_
  intro p e s m args below meth c hC
  unfold mX1_remember
  show gT p l e rX1_remember s m args below meth c G 5 iV σ 0 [(0, .ref (G.2.1 31)), (1, .int p0), (2, .int p1), (3, .int p2), (4, .int p3)] [] _
  refine g_aload_n (pc := 0) (q := 0) hC dX1_remember_0 rfl rfl ?_
  refine g_get (pc := 1) (v := .int (σ.1 31 4)) hC kX1 rfl 4 (by decide) fl_RX1_22 rfl dX1_remember_1 ?_
  refine g_bipush (pc := 4) (v := 40) hC dX1_remember_4 (by decide) ?_
  refine g_icmp_lt (pc := 6) (tgt := 13) hC dX1_remember_6 (by decide) ?_ ?_
  · exact gT_sub [0, 1, 2, 3, 4] rfl (wX1_remember_b13 hC  σ p0 p1 p2 p3)
  · refine g_aload_n (pc := 9) (q := 0) hC dX1_remember_9 rfl rfl ?_
    refine g_callVv (pc := 10) (As := []) (rest := []) hC lk_RX1_29 kX1 rfl (tX1_forgetOldest _ _ σ ) rfl rfl (Nat.le_of_ble_eq_true rfl) ⟨rfl, rfl, Nat.le_of_ble_eq_true rfl, Nat.le_of_ble_eq_true rfl⟩ dX1_remember_10 (fun r11 s12 => ?_)
    exact gT_sub [0, 1, 2, 3, 4] rfl (wX1_remember_b13 hC  s12 p0 p1 p2 p3)
theorem dX1_stepBack_0 : decode cX1_stepBack 0 = .ok (.aload_n 0, 1) := by decide +kernel
theorem dX1_stepBack_1 : decode cX1_stepBack 1 = .ok (.getfield 22, 3) := by decide +kernel
theorem dX1_stepBack_4 : decode cX1_stepBack 4 = .ok (.ifCond .gt 5, 3) := by decide +kernel
theorem dX1_stepBack_7 : decode cX1_stepBack 7 = .ok (.iconst (-1), 1) := by decide +kernel
theorem dX1_stepBack_8 : decode cX1_stepBack 8 = .ok (.ireturn, 1) := by decide +kernel
theorem dX1_stepBack_9 : decode cX1_stepBack 9 = .ok (.aload_n 0, 1) := by decide +kernel
theorem dX1_stepBack_10 : decode cX1_stepBack 10 = .ok (.dup, 1) := by decide +kernel
theorem dX1_stepBack_11 : decode cX1_stepBack 11 = .ok (.getfield 22, 3) := by decide +kernel
theorem dX1_stepBack_14 : decode cX1_stepBack 14 = .ok (.iconst 1, 1) := by decide +kernel
theorem dX1_stepBack_15 : decode cX1_stepBack 15 = .ok (.isub, 1) := by decide +kernel
theorem dX1_stepBack_16 : decode cX1_stepBack 16 = .ok (.putfield 22, 3) := by decide +kernel
theorem dX1_stepBack_19 : decode cX1_stepBack 19 = .ok (.aload_n 0, 1) := by decide +kernel
theorem dX1_stepBack_20 : decode cX1_stepBack 20 = .ok (.dup, 1) := by decide +kernel
theorem dX1_stepBack_21 : decode cX1_stepBack 21 = .ok (.getfield 26, 3) := by decide +kernel
theorem dX1_stepBack_24 : decode cX1_stepBack 24 = .ok (.iconst 1, 1) := by decide +kernel
theorem dX1_stepBack_25 : decode cX1_stepBack 25 = .ok (.iadd, 1) := by decide +kernel
theorem dX1_stepBack_26 : decode cX1_stepBack 26 = .ok (.putfield 26, 3) := by decide +kernel
theorem dX1_stepBack_29 : decode cX1_stepBack 29 = .ok (.aload_n 0, 1) := by decide +kernel
theorem dX1_stepBack_30 : decode cX1_stepBack 30 = .ok (.getfield 22, 3) := by decide +kernel
theorem dX1_stepBack_33 : decode cX1_stepBack 33 = .ok (.ireturn, 1) := by decide +kernel
abbrev rX1_stepBack : Room := { frames := 0, cells := 0, slots := 0, locals := 0 }
def mX1_stepBack (σ : gS)  : Option (Int32 × gS) := if 0 < (σ.1 31 4) then (gLet (gUI σ 31 4 ((σ.1 31 4) - 1)) (fun s1 => gLet (gUI s1 31 5 ((s1.1 31 5) + 1)) (fun s2 => some ((s2.1 31 4), s2)))) else (some ((-1), σ))
set_option maxHeartbeats 4000000 in
set_option maxRecDepth 100000 in
theorem tX1_stepBack (l : Launch) (G : gE) (σ : gS)  : gM l G yX1_stepBack cX1_stepBack 1 (some .int) rX1_stepBack iI [.ref (G.2.1 31)] σ (mX1_stepBack σ ) := by
  refine gM_of (by decide) (Nat.le_of_ble_eq_true rfl) ?_
  intro p e s m args below meth c hC
  unfold mX1_stepBack
  show gT p l e rX1_stepBack s m args below meth c G 1 iI σ 0 [(0, .ref (G.2.1 31))] [] _
  refine g_aload_n (pc := 0) (q := 0) hC dX1_stepBack_0 rfl rfl ?_
  refine g_get (pc := 1) (v := .int (σ.1 31 4)) hC kX1 rfl 4 (by decide) fl_RX1_22 rfl dX1_stepBack_1 ?_
  refine g_if_gt (pc := 4) (tgt := 9) hC dX1_stepBack_4 (by decide) ?_ ?_
  · refine g_aload_n (pc := 9) (q := 0) hC dX1_stepBack_9 rfl rfl ?_
    refine g_dup (pc := 10) hC dX1_stepBack_10 rfl ?_
    refine g_get (pc := 11) (v := .int (σ.1 31 4)) hC kX1 rfl 4 (by decide) fl_RX1_22 rfl dX1_stepBack_11 ?_
    refine g_iconst (pc := 14) (v := 1) hC dX1_stepBack_14 (by decide) ?_
    refine g_isub (pc := 15) hC dX1_stepBack_15 ?_
    refine g_puti (pc := 16) (fty := .int) hC kX1 rfl 4 (by decide) fl_RX1_22 rfl rfl rfl rfl (fun _ _ => Nat.le_of_ble_eq_true rfl) (fun _ _ => rfl) dX1_stepBack_16 (fun s1 => ?_)
    refine g_aload_n (pc := 19) (q := 0) hC dX1_stepBack_19 rfl rfl ?_
    refine g_dup (pc := 20) hC dX1_stepBack_20 rfl ?_
    refine g_get (pc := 21) (v := .int (s1.1 31 5)) hC kX1 rfl 5 (by decide) fl_RX1_26 rfl dX1_stepBack_21 ?_
    refine g_iconst (pc := 24) (v := 1) hC dX1_stepBack_24 (by decide) ?_
    refine g_iadd (pc := 25) hC dX1_stepBack_25 ?_
    refine g_puti (pc := 26) (fty := .int) hC kX1 rfl 5 (by decide) fl_RX1_26 rfl rfl rfl rfl (fun _ _ => Nat.le_of_ble_eq_true rfl) (fun _ _ => rfl) dX1_stepBack_26 (fun s2 => ?_)
    refine g_aload_n (pc := 29) (q := 0) hC dX1_stepBack_29 rfl rfl ?_
    refine g_get (pc := 30) (v := .int (s2.1 31 4)) hC kX1 rfl 4 (by decide) fl_RX1_22 rfl dX1_stepBack_30 ?_
    exact g_iret (pc := 33) hC dX1_stepBack_33
  · refine g_iconst (pc := 7) (v := (-1)) hC dX1_stepBack_7 (by decide) ?_
    exact g_iret (pc := 8) hC dX1_stepBack_8
theorem dX1_stepOn_0 : decode cX1_stepOn 0 = .ok (.aload_n 0, 1) := by decide +kernel
theorem dX1_stepOn_1 : decode cX1_stepOn 1 = .ok (.getfield 26, 3) := by decide +kernel
theorem dX1_stepOn_4 : decode cX1_stepOn 4 = .ok (.ifCond .le 12, 3) := by decide +kernel
theorem dX1_stepOn_7 : decode cX1_stepOn 7 = .ok (.aload_n 0, 1) := by decide +kernel
theorem dX1_stepOn_8 : decode cX1_stepOn 8 = .ok (.getfield 22, 3) := by decide +kernel
theorem dX1_stepOn_11 : decode cX1_stepOn 11 = .ok (.bipush 40, 2) := by decide +kernel
theorem dX1_stepOn_13 : decode cX1_stepOn 13 = .ok (.if_icmp .lt 5, 3) := by decide +kernel
theorem dX1_stepOn_16 : decode cX1_stepOn 16 = .ok (.iconst (-1), 1) := by decide +kernel
theorem dX1_stepOn_17 : decode cX1_stepOn 17 = .ok (.ireturn, 1) := by decide +kernel
theorem dX1_stepOn_18 : decode cX1_stepOn 18 = .ok (.aload_n 0, 1) := by decide +kernel
theorem dX1_stepOn_19 : decode cX1_stepOn 19 = .ok (.dup, 1) := by decide +kernel
theorem dX1_stepOn_20 : decode cX1_stepOn 20 = .ok (.getfield 26, 3) := by decide +kernel
theorem dX1_stepOn_23 : decode cX1_stepOn 23 = .ok (.iconst 1, 1) := by decide +kernel
theorem dX1_stepOn_24 : decode cX1_stepOn 24 = .ok (.isub, 1) := by decide +kernel
theorem dX1_stepOn_25 : decode cX1_stepOn 25 = .ok (.putfield 26, 3) := by decide +kernel
theorem dX1_stepOn_28 : decode cX1_stepOn 28 = .ok (.aload_n 0, 1) := by decide +kernel
theorem dX1_stepOn_29 : decode cX1_stepOn 29 = .ok (.dup, 1) := by decide +kernel
theorem dX1_stepOn_30 : decode cX1_stepOn 30 = .ok (.getfield 22, 3) := by decide +kernel
theorem dX1_stepOn_33 : decode cX1_stepOn 33 = .ok (.iconst 1, 1) := by decide +kernel
theorem dX1_stepOn_34 : decode cX1_stepOn 34 = .ok (.iadd, 1) := by decide +kernel
theorem dX1_stepOn_35 : decode cX1_stepOn 35 = .ok (.putfield 22, 3) := by decide +kernel
theorem dX1_stepOn_38 : decode cX1_stepOn 38 = .ok (.aload_n 0, 1) := by decide +kernel
theorem dX1_stepOn_39 : decode cX1_stepOn 39 = .ok (.getfield 22, 3) := by decide +kernel
theorem dX1_stepOn_42 : decode cX1_stepOn 42 = .ok (.iconst 1, 1) := by decide +kernel
theorem dX1_stepOn_43 : decode cX1_stepOn 43 = .ok (.isub, 1) := by decide +kernel
theorem dX1_stepOn_44 : decode cX1_stepOn 44 = .ok (.ireturn, 1) := by decide +kernel
abbrev rX1_stepOn : Room := { frames := 0, cells := 0, slots := 0, locals := 0 }
def mX1_stepOn (σ : gS)  : Option (Int32 × gS) := if (σ.1 31 5) ≤ 0 then (some ((-1), σ)) else (if (σ.1 31 4) < 40 then (gLet (gUI σ 31 5 ((σ.1 31 5) - 1)) (fun s1 => gLet (gUI s1 31 4 ((s1.1 31 4) + 1)) (fun s2 => some (((s2.1 31 4) - 1), s2)))) else (some ((-1), σ)))
set_option maxHeartbeats 4000000 in
set_option maxRecDepth 100000 in
theorem tX1_stepOn (l : Launch) (G : gE) (σ : gS)  : gM l G yX1_stepOn cX1_stepOn 1 (some .int) rX1_stepOn iI [.ref (G.2.1 31)] σ (mX1_stepOn σ ) := by
  refine gM_of (by decide) (Nat.le_of_ble_eq_true rfl) ?_
  intro p e s m args below meth c hC
  unfold mX1_stepOn
  show gT p l e rX1_stepOn s m args below meth c G 1 iI σ 0 [(0, .ref (G.2.1 31))] [] _
  refine g_aload_n (pc := 0) (q := 0) hC dX1_stepOn_0 rfl rfl ?_
  refine g_get (pc := 1) (v := .int (σ.1 31 5)) hC kX1 rfl 5 (by decide) fl_RX1_26 rfl dX1_stepOn_1 ?_
  refine g_if_le (pc := 4) (tgt := 16) hC dX1_stepOn_4 (by decide) ?_ ?_
  · refine g_iconst (pc := 16) (v := (-1)) hC dX1_stepOn_16 (by decide) ?_
    exact g_iret (pc := 17) hC dX1_stepOn_17
  · refine g_aload_n (pc := 7) (q := 0) hC dX1_stepOn_7 rfl rfl ?_
    refine g_get (pc := 8) (v := .int (σ.1 31 4)) hC kX1 rfl 4 (by decide) fl_RX1_22 rfl dX1_stepOn_8 ?_
    refine g_bipush (pc := 11) (v := 40) hC dX1_stepOn_11 (by decide) ?_
    refine g_icmp_lt (pc := 13) (tgt := 18) hC dX1_stepOn_13 (by decide) ?_ ?_
    · refine g_aload_n (pc := 18) (q := 0) hC dX1_stepOn_18 rfl rfl ?_
      refine g_dup (pc := 19) hC dX1_stepOn_19 rfl ?_
      refine g_get (pc := 20) (v := .int (σ.1 31 5)) hC kX1 rfl 5 (by decide) fl_RX1_26 rfl dX1_stepOn_20 ?_
      refine g_iconst (pc := 23) (v := 1) hC dX1_stepOn_23 (by decide) ?_
      refine g_isub (pc := 24) hC dX1_stepOn_24 ?_
      refine g_puti (pc := 25) (fty := .int) hC kX1 rfl 5 (by decide) fl_RX1_26 rfl rfl rfl rfl (fun _ _ => Nat.le_of_ble_eq_true rfl) (fun _ _ => rfl) dX1_stepOn_25 (fun s1 => ?_)
      refine g_aload_n (pc := 28) (q := 0) hC dX1_stepOn_28 rfl rfl ?_
      refine g_dup (pc := 29) hC dX1_stepOn_29 rfl ?_
      refine g_get (pc := 30) (v := .int (s1.1 31 4)) hC kX1 rfl 4 (by decide) fl_RX1_22 rfl dX1_stepOn_30 ?_
      refine g_iconst (pc := 33) (v := 1) hC dX1_stepOn_33 (by decide) ?_
      refine g_iadd (pc := 34) hC dX1_stepOn_34 ?_
      refine g_puti (pc := 35) (fty := .int) hC kX1 rfl 4 (by decide) fl_RX1_22 rfl rfl rfl rfl (fun _ _ => Nat.le_of_ble_eq_true rfl) (fun _ _ => rfl) dX1_stepOn_35 (fun s2 => ?_)
      refine g_aload_n (pc := 38) (q := 0) hC dX1_stepOn_38 rfl rfl ?_
      refine g_get (pc := 39) (v := .int (s2.1 31 4)) hC kX1 rfl 4 (by decide) fl_RX1_22 rfl dX1_stepOn_39 ?_
      refine g_iconst (pc := 42) (v := 1) hC dX1_stepOn_42 (by decide) ?_
      refine g_isub (pc := 43) hC dX1_stepOn_43 ?_
      exact g_iret (pc := 44) hC dX1_stepOn_44
    · refine g_iconst (pc := 16) (v := (-1)) hC dX1_stepOn_16 (by decide) ?_
      exact g_iret (pc := 17) hC dX1_stepOn_17
theorem dX2_hasBody_0 : decode cX2_hasBody 0 = .ok (.iload_n 1, 1) := by decide +kernel
theorem dX2_hasBody_1 : decode cX2_hasBody 1 = .ok (.ifCond .lt 15, 3) := by decide +kernel
theorem dX2_hasBody_4 : decode cX2_hasBody 4 = .ok (.iload_n 1, 1) := by decide +kernel
theorem dX2_hasBody_5 : decode cX2_hasBody 5 = .ok (.aload_n 0, 1) := by decide +kernel
theorem dX2_hasBody_6 : decode cX2_hasBody 6 = .ok (.getfield 9, 3) := by decide +kernel
theorem dX2_hasBody_9 : decode cX2_hasBody 9 = .ok (.if_icmp .ge 7, 3) := by decide +kernel
theorem dX2_hasBody_12 : decode cX2_hasBody 12 = .ok (.iconst 1, 1) := by decide +kernel
theorem dX2_hasBody_13 : decode cX2_hasBody 13 = .ok (.goto 4, 3) := by decide +kernel
theorem dX2_hasBody_16 : decode cX2_hasBody 16 = .ok (.iconst 0, 1) := by decide +kernel
theorem dX2_hasBody_17 : decode cX2_hasBody 17 = .ok (.ireturn, 1) := by decide +kernel
abbrev rX2_hasBody : Room := { frames := 0, cells := 0, slots := 0, locals := 0 }
def mX2_hasBody (σ : gS) (p0 : Int32) : Option (Bool × gS) := if p0 < 0 then (some (false, σ)) else (if (σ.1 36 0) ≤ p0 then (some (false, σ)) else (some (true, σ)))
set_option maxHeartbeats 4000000 in
set_option maxRecDepth 100000 in
theorem tX2_hasBody (l : Launch) (G : gE) (σ : gS) (p0 : Int32) : gM l G yX2_hasBody cX2_hasBody 2 (some .boolean) rX2_hasBody iZ [.ref (G.2.1 36), .int p0] σ (mX2_hasBody σ p0) := by
  refine gM_of (by decide) (Nat.le_of_ble_eq_true rfl) ?_
  intro p e s m args below meth c hC
  unfold mX2_hasBody
  show gT p l e rX2_hasBody s m args below meth c G 2 iZ σ 0 [(0, .ref (G.2.1 36)), (1, .int p0)] [] _
  refine g_iload_n (pc := 0) (q := 1) hC dX2_hasBody_0 rfl rfl ?_
  refine g_if_lt (pc := 1) (tgt := 16) hC dX2_hasBody_1 (by decide) ?_ ?_
  · refine g_iconst (pc := 16) (v := 0) hC dX2_hasBody_16 (by decide) ?_
    exact g_zret0 (pc := 17) hC dX2_hasBody_17
  · refine g_iload_n (pc := 4) (q := 1) hC dX2_hasBody_4 rfl rfl ?_
    refine g_aload_n (pc := 5) (q := 0) hC dX2_hasBody_5 rfl rfl ?_
    refine g_get (pc := 6) (v := .int (σ.1 36 0)) hC kX2 rfl 0 (by decide) fl_RX2_9 rfl dX2_hasBody_6 ?_
    refine g_icmp_ge (pc := 9) (tgt := 16) hC dX2_hasBody_9 (by decide) ?_ ?_
    · refine g_iconst (pc := 16) (v := 0) hC dX2_hasBody_16 (by decide) ?_
      exact g_zret0 (pc := 17) hC dX2_hasBody_17
    · refine g_iconst (pc := 12) (v := 1) hC dX2_hasBody_12 (by decide) ?_
      refine g_goto (pc := 13) (tgt := 17) hC dX2_hasBody_13 (by decide) ?_
      exact g_zret1 (pc := 17) hC dX2_hasBody_17
theorem dX2_addBody_0 : decode cX2_addBody 0 = .ok (.aload_n 0, 1) := by decide +kernel
theorem dX2_addBody_1 : decode cX2_addBody 1 = .ok (.getfield 9, 3) := by decide +kernel
theorem dX2_addBody_4 : decode cX2_addBody 4 = .ok (.bipush 50, 2) := by decide +kernel
theorem dX2_addBody_6 : decode cX2_addBody 6 = .ok (.if_icmp .lt 6, 3) := by decide +kernel
theorem dX2_addBody_9 : decode cX2_addBody 9 = .ok (.bipush (-3), 2) := by decide +kernel
theorem dX2_addBody_11 : decode cX2_addBody 11 = .ok (.ireturn, 1) := by decide +kernel
theorem dX2_addBody_12 : decode cX2_addBody 12 = .ok (.aload_n 0, 1) := by decide +kernel
theorem dX2_addBody_13 : decode cX2_addBody 13 = .ok (.getfield 15, 3) := by decide +kernel
theorem dX2_addBody_16 : decode cX2_addBody 16 = .ok (.aload_n 0, 1) := by decide +kernel
theorem dX2_addBody_17 : decode cX2_addBody 17 = .ok (.getfield 9, 3) := by decide +kernel
theorem dX2_addBody_20 : decode cX2_addBody 20 = .ok (.iload_n 1, 1) := by decide +kernel
theorem dX2_addBody_21 : decode cX2_addBody 21 = .ok (.iastore, 1) := by decide +kernel
theorem dX2_addBody_22 : decode cX2_addBody 22 = .ok (.aload_n 0, 1) := by decide +kernel
theorem dX2_addBody_23 : decode cX2_addBody 23 = .ok (.dup, 1) := by decide +kernel
theorem dX2_addBody_24 : decode cX2_addBody 24 = .ok (.getfield 9, 3) := by decide +kernel
theorem dX2_addBody_27 : decode cX2_addBody 27 = .ok (.iconst 1, 1) := by decide +kernel
theorem dX2_addBody_28 : decode cX2_addBody 28 = .ok (.iadd, 1) := by decide +kernel
theorem dX2_addBody_29 : decode cX2_addBody 29 = .ok (.putfield 9, 3) := by decide +kernel
theorem dX2_addBody_32 : decode cX2_addBody 32 = .ok (.aload_n 0, 1) := by decide +kernel
theorem dX2_addBody_33 : decode cX2_addBody 33 = .ok (.getfield 9, 3) := by decide +kernel
theorem dX2_addBody_36 : decode cX2_addBody 36 = .ok (.iconst 1, 1) := by decide +kernel
theorem dX2_addBody_37 : decode cX2_addBody 37 = .ok (.isub, 1) := by decide +kernel
theorem dX2_addBody_38 : decode cX2_addBody 38 = .ok (.ireturn, 1) := by decide +kernel
abbrev rX2_addBody : Room := { frames := 0, cells := 0, slots := 0, locals := 0 }
def mX2_addBody (σ : gS) (p0 : Int32) : Option (Int32 × gS) := if (σ.1 36 0) < 50 then (if inbB (σ.1 36 0) 50 = true then gLet (gUI σ 37 (Int32.toNatClampNeg (σ.1 36 0)) p0) (fun s1 => gLet (gUI s1 36 0 ((s1.1 36 0) + 1)) (fun s2 => some (((s2.1 36 0) - 1), s2))) else none) else (some ((-3), σ))
set_option maxHeartbeats 4000000 in
set_option maxRecDepth 100000 in
theorem tX2_addBody (l : Launch) (G : gE) (σ : gS) (p0 : Int32) : gM l G yX2_addBody cX2_addBody 2 (some .int) rX2_addBody iI [.ref (G.2.1 36), .int p0] σ (mX2_addBody σ p0) := by
  refine gM_of (by decide) (Nat.le_of_ble_eq_true rfl) ?_
  intro p e s m args below meth c hC
  unfold mX2_addBody
  show gT p l e rX2_addBody s m args below meth c G 2 iI σ 0 [(0, .ref (G.2.1 36)), (1, .int p0)] [] _
  refine g_aload_n (pc := 0) (q := 0) hC dX2_addBody_0 rfl rfl ?_
  refine g_get (pc := 1) (v := .int (σ.1 36 0)) hC kX2 rfl 0 (by decide) fl_RX2_9 rfl dX2_addBody_1 ?_
  refine g_bipush (pc := 4) (v := 50) hC dX2_addBody_4 (by decide) ?_
  refine g_icmp_lt (pc := 6) (tgt := 12) hC dX2_addBody_6 (by decide) ?_ ?_
  · refine g_aload_n (pc := 12) (q := 0) hC dX2_addBody_12 rfl rfl ?_
    refine g_get (pc := 13) (v := .ref (G.2.1 37)) hC kX2 rfl 1 (by decide) fl_RX2_15 rfl dX2_addBody_13 ?_
    refine g_aload_n (pc := 16) (q := 0) hC dX2_addBody_16 rfl rfl ?_
    refine g_get (pc := 17) (v := .int (σ.1 36 0)) hC kX2 rfl 0 (by decide) fl_RX2_9 rfl dX2_addBody_17 ?_
    refine g_iload_n (pc := 20) (q := 1) hC dX2_addBody_20 rfl rfl ?_
    refine g_iast (pc := 21) hC 50 rfl (by decide) dX2_addBody_21 (fun s1 => ?_)
    refine g_aload_n (pc := 22) (q := 0) hC dX2_addBody_22 rfl rfl ?_
    refine g_dup (pc := 23) hC dX2_addBody_23 rfl ?_
    refine g_get (pc := 24) (v := .int (s1.1 36 0)) hC kX2 rfl 0 (by decide) fl_RX2_9 rfl dX2_addBody_24 ?_
    refine g_iconst (pc := 27) (v := 1) hC dX2_addBody_27 (by decide) ?_
    refine g_iadd (pc := 28) hC dX2_addBody_28 ?_
    refine g_puti (pc := 29) (fty := .int) hC kX2 rfl 0 (by decide) fl_RX2_9 rfl rfl rfl rfl (fun _ _ => Nat.le_of_ble_eq_true rfl) (fun _ _ => rfl) dX2_addBody_29 (fun s2 => ?_)
    refine g_aload_n (pc := 32) (q := 0) hC dX2_addBody_32 rfl rfl ?_
    refine g_get (pc := 33) (v := .int (s2.1 36 0)) hC kX2 rfl 0 (by decide) fl_RX2_9 rfl dX2_addBody_33 ?_
    refine g_iconst (pc := 36) (v := 1) hC dX2_addBody_36 (by decide) ?_
    refine g_isub (pc := 37) hC dX2_addBody_37 ?_
    exact g_iret (pc := 38) hC dX2_addBody_38
  · refine g_bipush (pc := 9) (v := (-3)) hC dX2_addBody_9 (by decide) ?_
    exact g_iret (pc := 11) hC dX2_addBody_11
theorem lk_RX2_28 : gLV RX2 28 RX2 yX2_hasBody cX2_hasBody 2 (some .boolean) 1 := ⟨(gBig_tab 957 (by decide +kernel) (by decide +kernel)), (gBig_tab 958 (by decide +kernel) (by decide +kernel)), (gBig_tab 959 (by decide +kernel) (by decide +kernel)), (gBig_tab 9 (by decide +kernel) (by decide +kernel)), (gBig_tab 960 (by decide +kernel) (by decide +kernel)), rfl, by decide +kernel, by decide +kernel, by decide +kernel⟩
theorem dX2_kindOf_0 : decode cX2_kindOf 0 = .ok (.aload_n 0, 1) := by decide +kernel
theorem dX2_kindOf_1 : decode cX2_kindOf 1 = .ok (.iload_n 1, 1) := by decide +kernel
theorem dX2_kindOf_2 : decode cX2_kindOf 2 = .ok (.invokevirtual 28, 3) := by decide +kernel
theorem dX2_kindOf_5 : decode cX2_kindOf 5 = .ok (.ifCond .eq 12, 3) := by decide +kernel
theorem dX2_kindOf_8 : decode cX2_kindOf 8 = .ok (.aload_n 0, 1) := by decide +kernel
theorem dX2_kindOf_9 : decode cX2_kindOf 9 = .ok (.getfield 15, 3) := by decide +kernel
theorem dX2_kindOf_12 : decode cX2_kindOf 12 = .ok (.iload_n 1, 1) := by decide +kernel
theorem dX2_kindOf_13 : decode cX2_kindOf 13 = .ok (.iaload, 1) := by decide +kernel
theorem dX2_kindOf_14 : decode cX2_kindOf 14 = .ok (.goto 4, 3) := by decide +kernel
theorem dX2_kindOf_17 : decode cX2_kindOf 17 = .ok (.iconst (-1), 1) := by decide +kernel
theorem dX2_kindOf_18 : decode cX2_kindOf 18 = .ok (.ireturn, 1) := by decide +kernel
abbrev rX2_kindOf : Room := { frames := 1, cells := 0, slots := 0, locals := 21 }
def mX2_kindOf (σ : gS) (p0 : Int32) : Option (Int32 × gS) := gBind (mX2_hasBody σ p0) (fun r1 s2 => if r1 = true then (if inbB p0 50 = true then (some ((s2.1 37 (Int32.toNatClampNeg p0)), s2)) else none) else (some ((-1), s2)))
set_option maxHeartbeats 4000000 in
set_option maxRecDepth 100000 in
theorem tX2_kindOf (l : Launch) (G : gE) (σ : gS) (p0 : Int32) : gM l G yX2_kindOf cX2_kindOf 2 (some .int) rX2_kindOf iI [.ref (G.2.1 36), .int p0] σ (mX2_kindOf σ p0) := by
  refine gM_of (by decide) (Nat.le_of_ble_eq_true rfl) ?_
  intro p e s m args below meth c hC
  unfold mX2_kindOf
  show gT p l e rX2_kindOf s m args below meth c G 2 iI σ 0 [(0, .ref (G.2.1 36)), (1, .int p0)] [] _
  refine g_aload_n (pc := 0) (q := 0) hC dX2_kindOf_0 rfl rfl ?_
  refine g_iload_n (pc := 1) (q := 1) hC dX2_kindOf_1 rfl rfl ?_
  refine g_callVz (pc := 2) (As := [.int p0]) (rest := []) hC lk_RX2_28 kX2 rfl (tX2_hasBody _ _ σ p0) rfl rfl (Nat.le_of_ble_eq_true rfl) ⟨rfl, rfl, Nat.le_of_ble_eq_true rfl, Nat.le_of_ble_eq_true rfl⟩ dX2_kindOf_2 (fun r1 s2 => ?_)
  refine g_bif_eq (pc := 5) (tgt := 17) hC dX2_kindOf_5 (by decide) ?_ ?_
  · refine g_iconst (pc := 17) (v := (-1)) hC dX2_kindOf_17 (by decide) ?_
    exact g_iret (pc := 18) hC dX2_kindOf_18
  · refine g_aload_n (pc := 8) (q := 0) hC dX2_kindOf_8 rfl rfl ?_
    refine g_get (pc := 9) (v := .ref (G.2.1 37)) hC kX2 rfl 1 (by decide) fl_RX2_15 rfl dX2_kindOf_9 ?_
    refine g_iload_n (pc := 12) (q := 1) hC dX2_kindOf_12 rfl rfl ?_
    refine g_iald (pc := 13) hC 50 rfl (by decide) dX2_kindOf_13 ?_
    refine g_goto (pc := 14) (tgt := 18) hC dX2_kindOf_14 (by decide) ?_
    exact g_iret (pc := 18) hC dX2_kindOf_18
theorem fl_RX2_36 : Cond.fieldLink RX2 36 "WinterShed$Frosts" "ABOVE" "[I" ∈ gBig := (gBig_tab 987 (by decide +kernel) (by decide +kernel))
theorem lk_RX2_32 : gLV RX2 32 RX2 yX2_kindOf cX2_kindOf 2 (some .int) 1 := ⟨(gBig_tab 965 (by decide +kernel) (by decide +kernel)), (gBig_tab 966 (by decide +kernel) (by decide +kernel)), (gBig_tab 967 (by decide +kernel) (by decide +kernel)), (gBig_tab 9 (by decide +kernel) (by decide +kernel)), (gBig_tab 968 (by decide +kernel) (by decide +kernel)), rfl, by decide +kernel, by decide +kernel, by decide +kernel⟩
theorem dX2_isUnder_0 : decode cX2_isUnder 0 = .ok (.aload_n 0, 1) := by decide +kernel
theorem dX2_isUnder_1 : decode cX2_isUnder 1 = .ok (.iload_n 1, 1) := by decide +kernel
theorem dX2_isUnder_2 : decode cX2_isUnder 2 = .ok (.invokevirtual 32, 3) := by decide +kernel
theorem dX2_isUnder_5 : decode cX2_isUnder 5 = .ok (.istore_n 3, 1) := by decide +kernel
theorem dX2_isUnder_6 : decode cX2_isUnder 6 = .ok (.iconst 0, 1) := by decide +kernel
theorem dX2_isUnder_7 : decode cX2_isUnder 7 = .ok (.istore 4, 2) := by decide +kernel
theorem dX2_isUnder_9 : decode cX2_isUnder 9 = .ok (.iload 4, 2) := by decide +kernel
theorem dX2_isUnder_11 : decode cX2_isUnder 11 = .ok (.bipush 8, 2) := by decide +kernel
theorem dX2_isUnder_13 : decode cX2_isUnder 13 = .ok (.if_icmp .ge 26, 3) := by decide +kernel
theorem dX2_isUnder_16 : decode cX2_isUnder 16 = .ok (.iload_n 3, 1) := by decide +kernel
theorem dX2_isUnder_17 : decode cX2_isUnder 17 = .ok (.ifCond .lt 22, 3) := by decide +kernel
theorem dX2_isUnder_20 : decode cX2_isUnder 20 = .ok (.iload_n 3, 1) := by decide +kernel
theorem dX2_isUnder_21 : decode cX2_isUnder 21 = .ok (.iload_n 2, 1) := by decide +kernel
theorem dX2_isUnder_22 : decode cX2_isUnder 22 = .ok (.if_icmp .ne 5, 3) := by decide +kernel
theorem dX2_isUnder_25 : decode cX2_isUnder 25 = .ok (.iconst 1, 1) := by decide +kernel
theorem dX2_isUnder_26 : decode cX2_isUnder 26 = .ok (.ireturn, 1) := by decide +kernel
theorem dX2_isUnder_27 : decode cX2_isUnder 27 = .ok (.getstatic 36, 3) := by decide +kernel
theorem dX2_isUnder_30 : decode cX2_isUnder 30 = .ok (.iload_n 3, 1) := by decide +kernel
theorem dX2_isUnder_31 : decode cX2_isUnder 31 = .ok (.iaload, 1) := by decide +kernel
theorem dX2_isUnder_32 : decode cX2_isUnder 32 = .ok (.istore_n 3, 1) := by decide +kernel
theorem dX2_isUnder_33 : decode cX2_isUnder 33 = .ok (.iinc 4 1, 3) := by decide +kernel
theorem dX2_isUnder_36 : decode cX2_isUnder 36 = .ok (.goto (-27), 3) := by decide +kernel
theorem dX2_isUnder_39 : decode cX2_isUnder 39 = .ok (.iconst 0, 1) := by decide +kernel
theorem dX2_isUnder_40 : decode cX2_isUnder 40 = .ok (.ireturn, 1) := by decide +kernel
abbrev rX2_isUnder : Room := { frames := 2, cells := 0, slots := 0, locals := 42 }
def mX2_isUnder_b9    : Nat → gS → Int32 → Int32 → Int32 → Option (Bool × gS)
  | 0, _, _, _, _ => none
  | n + 1, σ, x5, x6, x7 => if 8 ≤ x7 then (some (false, σ)) else (if x6 < 0 then (some (false, σ)) else (if x6 = x5 then (some (true, σ)) else (if inbB x6 8 = true then (gLet (gTb 2 (Int32.toNatClampNeg x6)) (fun v8 => gLet (x7 + 1) (fun v9 => ((mX2_isUnder_b9  n) σ x5 v8 v9)))) else none)))
set_option maxHeartbeats 4000000 in
set_option maxRecDepth 100000 in
theorem wX2_isUnder_b9 {p : Program} {l : Launch} {e : Env} {s : State} {m : MethodId} {args : Array Value} {below : List Frame} {meth : Method} {c : Code} {G : gE} (hC : gCx p s m args meth c G RX2 cX2_isUnder 5 (some .boolean))     (n : Nat) (σ : gS) (x5 : Int32) (x6 : Int32) (x7 : Int32)  : gT p l e rX2_isUnder s m args below meth c G 5 iZ σ 9 [(2, .int x5), (3, .int x6), (4, .int x7)] [] (mX2_isUnder_b9  n σ x5 x6 x7) := by
  induction n generalizing σ x5 x6 x7 with
  | zero => exact gT_none
  | succ n ih =>
    unfold mX2_isUnder_b9
    refine g_iload (pc := 9) (q := 2) hC dX2_isUnder_9 rfl ?_
    refine g_bipush (pc := 11) (v := 8) hC dX2_isUnder_11 (by decide) ?_
    refine g_icmp_ge (pc := 13) (tgt := 39) hC dX2_isUnder_13 (by decide) ?_ ?_
    · refine g_iconst (pc := 39) (v := 0) hC dX2_isUnder_39 (by decide) ?_
      exact g_zret0 (pc := 40) hC dX2_isUnder_40
    · refine g_iload_n (pc := 16) (q := 1) hC dX2_isUnder_16 rfl rfl ?_
      refine g_if_lt (pc := 17) (tgt := 39) hC dX2_isUnder_17 (by decide) ?_ ?_
      · refine g_iconst (pc := 39) (v := 0) hC dX2_isUnder_39 (by decide) ?_
        exact g_zret0 (pc := 40) hC dX2_isUnder_40
      · refine g_iload_n (pc := 20) (q := 1) hC dX2_isUnder_20 rfl rfl ?_
        refine g_iload_n (pc := 21) (q := 0) hC dX2_isUnder_21 rfl rfl ?_
        refine g_icmp_ne (pc := 22) (tgt := 27) hC dX2_isUnder_22 (by decide) ?_ ?_
        · refine g_gets (pc := 27) hC hC.2.2.2.2.2.2.2.1.2.2.2.2.1 fl_RX2_36 dX2_isUnder_27 ?_
          refine g_iload_n (pc := 30) (q := 1) hC dX2_isUnder_30 rfl rfl ?_
          refine g_tald (pc := 31) hC 2 8 hC.2.2.2.2.2.2.2.1.2.2.2.2.2.1 dX2_isUnder_31 ?_
          refine g_istore_n (pc := 32) (lv' := fun v8 => [(3, .int v8), (2, .int x5), (4, .int x7)]) hC dX2_isUnder_32 rfl (by decide) (fun _ => rfl) (fun v8 => ?_)
          refine g_iinc (pc := 33) (q := 2) (w := 1) (lv' := fun v9 => [(4, .int v9), (3, .int v8), (2, .int x5)]) hC dX2_isUnder_33 rfl (by decide) (by decide) (fun _ => rfl) (fun v9 => ?_)
          refine g_goto (pc := 36) (tgt := 9) hC dX2_isUnder_36 (by decide) ?_
          exact gT_sub [2, 1, 0] rfl (ih σ x5 v8 v9)
        · refine g_iconst (pc := 25) (v := 1) hC dX2_isUnder_25 (by decide) ?_
          exact g_zret1 (pc := 26) hC dX2_isUnder_26
def mX2_isUnder (σ : gS) (p0 : Int32) (p1 : Int32) : Option (Bool × gS) := gBind (mX2_kindOf σ p0) (fun r1 s2 => gLet r1 (fun v3 => gLet 0 (fun v4 => (mX2_isUnder_b9  1100 s2 p1 v3 v4))))
set_option maxHeartbeats 4000000 in
set_option maxRecDepth 100000 in
theorem tX2_isUnder (l : Launch) (G : gE) (σ : gS) (p0 : Int32) (p1 : Int32) : gM l G yX2_isUnder cX2_isUnder 5 (some .boolean) rX2_isUnder iZ [.ref (G.2.1 36), .int p0, .int p1] σ (mX2_isUnder σ p0 p1) := by
  refine gM_of (by decide) (Nat.le_of_ble_eq_true rfl) ?_
  intro p e s m args below meth c hC
  unfold mX2_isUnder
  show gT p l e rX2_isUnder s m args below meth c G 5 iZ σ 0 [(0, .ref (G.2.1 36)), (1, .int p0), (2, .int p1)] [] _
  refine g_aload_n (pc := 0) (q := 0) hC dX2_isUnder_0 rfl rfl ?_
  refine g_iload_n (pc := 1) (q := 1) hC dX2_isUnder_1 rfl rfl ?_
  refine g_callVi (pc := 2) (As := [.int p0]) (rest := []) hC lk_RX2_32 kX2 rfl (tX2_kindOf _ _ σ p0) rfl rfl (Nat.le_of_ble_eq_true rfl) ⟨rfl, rfl, Nat.le_of_ble_eq_true rfl, Nat.le_of_ble_eq_true rfl⟩ dX2_isUnder_2 (fun r1 s2 => ?_)
  refine g_istore_n (pc := 5) (lv' := fun v3 => [(3, .int v3), (0, .ref (G.2.1 36)), (1, .int p0), (2, .int p1)]) hC dX2_isUnder_5 rfl (by decide) (fun _ => rfl) (fun v3 => ?_)
  refine g_iconst (pc := 6) (v := 0) hC dX2_isUnder_6 (by decide) ?_
  refine g_istore (pc := 7) (lv' := fun v4 => [(4, .int v4), (3, .int v3), (0, .ref (G.2.1 36)), (1, .int p0), (2, .int p1)]) hC dX2_isUnder_7 (by decide) (fun _ => rfl) (fun v4 => ?_)
  exact gT_sub [4, 1, 0] rfl (wX2_isUnder_b9 hC  1100 s2 p1 v3 v4)
theorem mth_RX2_39 : gMn RX2 39 := ⟨(gBig_tab 997 (by decide +kernel) (by decide +kernel)), (gBig_tab 479 (by decide +kernel) (by decide +kernel)), (gBig_tab 13 (by decide +kernel) (by decide +kernel)), (gBig_tab 480 (by decide +kernel) (by decide +kernel))⟩
theorem dX2_kept_0 : decode cX2_kept 0 = .ok (.aload_n 0, 1) := by decide +kernel
theorem dX2_kept_1 : decode cX2_kept 1 = .ok (.getfield 22, 3) := by decide +kernel
theorem dX2_kept_4 : decode cX2_kept 4 = .ok (.bipush 24, 2) := by decide +kernel
theorem dX2_kept_6 : decode cX2_kept 6 = .ok (.invokestatic 39, 3) := by decide +kernel
theorem dX2_kept_9 : decode cX2_kept 9 = .ok (.ireturn, 1) := by decide +kernel
abbrev rX2_kept : Room := { frames := 1, cells := 0, slots := 0, locals := 21 }
def mX2_kept (σ : gS)  : Option (Int32 × gS) := some ((gMin (σ.1 36 3) 24), σ)
set_option maxHeartbeats 4000000 in
set_option maxRecDepth 100000 in
theorem tX2_kept (l : Launch) (G : gE) (σ : gS)  : gM l G yX2_kept cX2_kept 1 (some .int) rX2_kept iI [.ref (G.2.1 36)] σ (mX2_kept σ ) := by
  refine gM_of (by decide) (Nat.le_of_ble_eq_true rfl) ?_
  intro p e s m args below meth c hC
  unfold mX2_kept
  show gT p l e rX2_kept s m args below meth c G 1 iI σ 0 [(0, .ref (G.2.1 36))] [] _
  refine g_aload_n (pc := 0) (q := 0) hC dX2_kept_0 rfl rfl ?_
  refine g_get (pc := 1) (v := .int (σ.1 36 3)) hC kX2 rfl 3 (by decide) fl_RX2_22 rfl dX2_kept_1 ?_
  refine g_bipush (pc := 4) (v := 24) hC dX2_kept_4 (by decide) ?_
  refine g_min (pc := 6) hC mth_RX2_39 ⟨Nat.le_of_ble_eq_true rfl, Nat.le_of_ble_eq_true rfl⟩ (Nat.le_of_ble_eq_true rfl) dX2_kept_6 ?_
  exact g_iret (pc := 9) hC dX2_kept_9
theorem dX2_leaveTrace_0 : decode cX2_leaveTrace 0 = .ok (.aload_n 0, 1) := by decide +kernel
theorem dX2_leaveTrace_1 : decode cX2_leaveTrace 1 = .ok (.getfield 22, 3) := by decide +kernel
theorem dX2_leaveTrace_4 : decode cX2_leaveTrace 4 = .ok (.bipush 24, 2) := by decide +kernel
theorem dX2_leaveTrace_6 : decode cX2_leaveTrace 6 = .ok (.if_icmp .ge 13, 3) := by decide +kernel
theorem dX2_leaveTrace_9 : decode cX2_leaveTrace 9 = .ok (.aload_n 0, 1) := by decide +kernel
theorem dX2_leaveTrace_10 : decode cX2_leaveTrace 10 = .ok (.getfield 19, 3) := by decide +kernel
theorem dX2_leaveTrace_13 : decode cX2_leaveTrace 13 = .ok (.aload_n 0, 1) := by decide +kernel
theorem dX2_leaveTrace_14 : decode cX2_leaveTrace 14 = .ok (.getfield 22, 3) := by decide +kernel
theorem dX2_leaveTrace_17 : decode cX2_leaveTrace 17 = .ok (.iload_n 1, 1) := by decide +kernel
theorem dX2_leaveTrace_18 : decode cX2_leaveTrace 18 = .ok (.iastore, 1) := by decide +kernel
theorem dX2_leaveTrace_19 : decode cX2_leaveTrace 19 = .ok (.aload_n 0, 1) := by decide +kernel
theorem dX2_leaveTrace_20 : decode cX2_leaveTrace 20 = .ok (.dup, 1) := by decide +kernel
theorem dX2_leaveTrace_21 : decode cX2_leaveTrace 21 = .ok (.getfield 22, 3) := by decide +kernel
theorem dX2_leaveTrace_24 : decode cX2_leaveTrace 24 = .ok (.iconst 1, 1) := by decide +kernel
theorem dX2_leaveTrace_25 : decode cX2_leaveTrace 25 = .ok (.iadd, 1) := by decide +kernel
theorem dX2_leaveTrace_26 : decode cX2_leaveTrace 26 = .ok (.putfield 22, 3) := by decide +kernel
theorem dX2_leaveTrace_29 : decode cX2_leaveTrace 29 = .ok (.return_, 1) := by decide +kernel
abbrev rX2_leaveTrace : Room := { frames := 0, cells := 0, slots := 0, locals := 0 }
def mX2_leaveTrace_b19    (σ : gS)  : Option (Unit × gS) := gLet (gUI σ 36 3 ((σ.1 36 3) + 1)) (fun s1 => some ((), s1))
set_option maxHeartbeats 4000000 in
set_option maxRecDepth 100000 in
theorem wX2_leaveTrace_b19 {p : Program} {l : Launch} {e : Env} {s : State} {m : MethodId} {args : Array Value} {below : List Frame} {meth : Method} {c : Code} {G : gE} (hC : gCx p s m args meth c G RX2 cX2_leaveTrace 2 (none))     (σ : gS)   : gT p l e rX2_leaveTrace s m args below meth c G 2 iV σ 19 [(0, .ref (G.2.1 36))] [] (mX2_leaveTrace_b19  σ ) := by
  unfold mX2_leaveTrace_b19
  refine g_aload_n (pc := 19) (q := 0) hC dX2_leaveTrace_19 rfl rfl ?_
  refine g_dup (pc := 20) hC dX2_leaveTrace_20 rfl ?_
  refine g_get (pc := 21) (v := .int (σ.1 36 3)) hC kX2 rfl 3 (by decide) fl_RX2_22 rfl dX2_leaveTrace_21 ?_
  refine g_iconst (pc := 24) (v := 1) hC dX2_leaveTrace_24 (by decide) ?_
  refine g_iadd (pc := 25) hC dX2_leaveTrace_25 ?_
  refine g_puti (pc := 26) (fty := .int) hC kX2 rfl 3 (by decide) fl_RX2_22 rfl rfl rfl rfl (fun _ _ => Nat.le_of_ble_eq_true rfl) (fun _ _ => rfl) dX2_leaveTrace_26 (fun s1 => ?_)
  exact g_vret (pc := 29) hC dX2_leaveTrace_29
def mX2_leaveTrace (σ : gS) (p0 : Int32) : Option (Unit × gS) := if 24 ≤ (σ.1 36 3) then ((mX2_leaveTrace_b19  σ )) else (if inbB (σ.1 36 3) 24 = true then gLet (gUI σ 38 (Int32.toNatClampNeg (σ.1 36 3)) p0) (fun s2 => (mX2_leaveTrace_b19  s2 )) else none)
set_option maxHeartbeats 4000000 in
set_option maxRecDepth 100000 in
theorem tX2_leaveTrace (l : Launch) (G : gE) (σ : gS) (p0 : Int32) : gM l G yX2_leaveTrace cX2_leaveTrace 2 (none) rX2_leaveTrace iV [.ref (G.2.1 36), .int p0] σ (mX2_leaveTrace σ p0) := by
  refine gM_of (by decide) (Nat.le_of_ble_eq_true rfl) ?_
  intro p e s m args below meth c hC
  unfold mX2_leaveTrace
  show gT p l e rX2_leaveTrace s m args below meth c G 2 iV σ 0 [(0, .ref (G.2.1 36)), (1, .int p0)] [] _
  refine g_aload_n (pc := 0) (q := 0) hC dX2_leaveTrace_0 rfl rfl ?_
  refine g_get (pc := 1) (v := .int (σ.1 36 3)) hC kX2 rfl 3 (by decide) fl_RX2_22 rfl dX2_leaveTrace_1 ?_
  refine g_bipush (pc := 4) (v := 24) hC dX2_leaveTrace_4 (by decide) ?_
  refine g_icmp_ge (pc := 6) (tgt := 19) hC dX2_leaveTrace_6 (by decide) ?_ ?_
  · exact gT_sub [0] rfl (wX2_leaveTrace_b19 hC  σ )
  · refine g_aload_n (pc := 9) (q := 0) hC dX2_leaveTrace_9 rfl rfl ?_
    refine g_get (pc := 10) (v := .ref (G.2.1 38)) hC kX2 rfl 2 (by decide) fl_RX2_19 rfl dX2_leaveTrace_10 ?_
    refine g_aload_n (pc := 13) (q := 0) hC dX2_leaveTrace_13 rfl rfl ?_
    refine g_get (pc := 14) (v := .int (σ.1 36 3)) hC kX2 rfl 3 (by decide) fl_RX2_22 rfl dX2_leaveTrace_14 ?_
    refine g_iload_n (pc := 17) (q := 1) hC dX2_leaveTrace_17 rfl rfl ?_
    refine g_iast (pc := 18) hC 24 rfl (by decide) dX2_leaveTrace_18 (fun s2 => ?_)
    exact gT_sub [0] rfl (wX2_leaveTrace_b19 hC  s2 )
