theorem lk_RX9_102 : gLS RX9 102 yX9_within cX9_within 3 (some .boolean) 3 := ⟨(gBig_tab 384 (by decide +kernel) (by decide +kernel)), (gBig_tab 385 (by decide +kernel) (by decide +kernel)), (gBig_tab 1 (by decide +kernel) (by decide +kernel)), (gBig_tab 386 (by decide +kernel) (by decide +kernel)), by decide +kernel, by decide +kernel, by decide +kernel⟩
theorem dX9_shelfAt_0 : decode cX9_shelfAt 0 = .ok (.iload_n 1, 1) := by decide +kernel
theorem dX9_shelfAt_1 : decode cX9_shelfAt 1 = .ok (.iconst 0, 1) := by decide +kernel
theorem dX9_shelfAt_2 : decode cX9_shelfAt 2 = .ok (.iconst 5, 1) := by decide +kernel
theorem dX9_shelfAt_3 : decode cX9_shelfAt 3 = .ok (.invokestatic 102, 3) := by decide +kernel
theorem dX9_shelfAt_6 : decode cX9_shelfAt 6 = .ok (.ifCond .eq 12, 3) := by decide +kernel
theorem dX9_shelfAt_9 : decode cX9_shelfAt 9 = .ok (.aload_n 0, 1) := by decide +kernel
theorem dX9_shelfAt_10 : decode cX9_shelfAt 10 = .ok (.getfield 91, 3) := by decide +kernel
theorem dX9_shelfAt_13 : decode cX9_shelfAt 13 = .ok (.iload_n 1, 1) := by decide +kernel
theorem dX9_shelfAt_14 : decode cX9_shelfAt 14 = .ok (.aaload, 1) := by decide +kernel
theorem dX9_shelfAt_15 : decode cX9_shelfAt 15 = .ok (.goto 4, 3) := by decide +kernel
theorem dX9_shelfAt_18 : decode cX9_shelfAt 18 = .ok (.aconst_null, 1) := by decide +kernel
theorem dX9_shelfAt_19 : decode cX9_shelfAt 19 = .ok (.areturn, 1) := by decide +kernel
abbrev rX9_shelfAt : Room := { frames := 1, cells := 0, slots := 0, locals := 22 }
def mX9_shelfAt (σ : gS) (p0 : Int32) : Option (Option Nat × gS) := gBind (mX9_within σ p0 0 5) (fun r1 s2 => if r1 = true then (if inbB p0 6 = true then (if gk (40 + 2 * Int32.toNatClampNeg p0) = 6 then (some (some (40 + 2 * Int32.toNatClampNeg p0), s2)) else none) else none) else (some (none, s2)))
set_option maxHeartbeats 4000000 in
set_option maxRecDepth 100000 in
theorem tX9_shelfAt (l : Launch) (G : gE) (σ : gS) (p0 : Int32) : gM l G yX9_shelfAt cX9_shelfAt 2 (some (.object "WinterShed$Shelf")) rX9_shelfAt (iR G) [.ref (G.2.1 0), .int p0] σ (mX9_shelfAt σ p0) := by
  refine gM_of (by decide) (Nat.le_of_ble_eq_true rfl) ?_
  intro p e s m args below meth c hC
  unfold mX9_shelfAt
  show gT p l e rX9_shelfAt s m args below meth c G 2 (iR G) σ 0 [(0, .ref (G.2.1 0)), (1, .int p0)] [] _
  refine g_iload_n (pc := 0) (q := 1) hC dX9_shelfAt_0 rfl rfl ?_
  refine g_iconst (pc := 1) (v := 0) hC dX9_shelfAt_1 (by decide) ?_
  refine g_iconst (pc := 2) (v := 5) hC dX9_shelfAt_2 (by decide) ?_
  refine g_callSz (pc := 3) (As := [.int p0, .int 0, .int 5]) (rest := []) hC lk_RX9_102 (tX9_within _ _ σ p0 0 5) rfl rfl (Nat.le_of_ble_eq_true rfl) ⟨rfl, rfl, Nat.le_of_ble_eq_true rfl, Nat.le_of_ble_eq_true rfl⟩ dX9_shelfAt_3 (fun r1 s2 => ?_)
  refine g_bif_eq (pc := 6) (tgt := 18) hC dX9_shelfAt_6 (by decide) ?_ ?_
  · refine g_null (pc := 18) hC dX9_shelfAt_18 ?_
    exact g_aretN (pc := 19) hC (Or.inl ⟨_, rfl⟩) dX9_shelfAt_19
  · refine g_aload_n (pc := 9) (q := 0) hC dX9_shelfAt_9 rfl rfl ?_
    refine g_get (pc := 10) (v := .ref (G.2.1 39)) hC kX9 rfl 15 (by decide) fl_RX9_91 rfl dX9_shelfAt_10 ?_
    refine g_iload_n (pc := 13) (q := 1) hC dX9_shelfAt_13 rfl rfl ?_
    refine g_aald (pc := 14) hC rfl dX9_shelfAt_14 ?_
    refine gT_if (fun hg3 => ?_) (fun _ => gT_none)
    refine g_goto (pc := 15) (tgt := 19) hC dX9_shelfAt_15 (by decide) ?_
    exact g_aret (pc := 19) hC (Or.inl ⟨_, rfl⟩) dX9_shelfAt_19
theorem fl_RX9_122 : Cond.fieldLink RX9 122 "WinterShed$Shelf" "holds" "I" ∈ gBig := (gBig_tab 304 (by decide +kernel) (by decide +kernel))
theorem lk_RX9_125 : gLV RX9 125 RX6 yX6_isRowOf cX6_isRowOf 2 (some .boolean) 1 := ⟨(gBig_tab 418 (by decide +kernel) (by decide +kernel)), (gBig_tab 419 (by decide +kernel) (by decide +kernel)), (gBig_tab 420 (by decide +kernel) (by decide +kernel)), (gBig_tab 10 (by decide +kernel) (by decide +kernel)), (gBig_tab 421 (by decide +kernel) (by decide +kernel)), rfl, by decide +kernel, by decide +kernel, by decide +kernel⟩
theorem lk_RX9_118 : gLV RX9 118 RX9 yX9_shelfAt cX9_shelfAt 2 (some (.object "WinterShed$Shelf")) 1 := ⟨(gBig_tab 414 (by decide +kernel) (by decide +kernel)), (gBig_tab 416 (by decide +kernel) (by decide +kernel)), (gBig_sel 0 (by decide +kernel) (by decide +kernel)), (gBig_tab 1 (by decide +kernel) (by decide +kernel)), (gBig_tab 417 (by decide +kernel) (by decide +kernel)), rfl, by decide +kernel, by decide +kernel, by decide +kernel⟩
theorem dX9_refuseRow_0 : decode cX9_refuseRow 0 = .ok (.aload_n 0, 1) := by decide +kernel
theorem dX9_refuseRow_1 : decode cX9_refuseRow 1 = .ok (.iload_n 1, 1) := by decide +kernel
theorem dX9_refuseRow_2 : decode cX9_refuseRow 2 = .ok (.invokevirtual 118, 3) := by decide +kernel
theorem dX9_refuseRow_5 : decode cX9_refuseRow 5 = .ok (.astore_n 3, 1) := by decide +kernel
theorem dX9_refuseRow_6 : decode cX9_refuseRow 6 = .ok (.aload_n 3, 1) := by decide +kernel
theorem dX9_refuseRow_7 : decode cX9_refuseRow 7 = .ok (.ifnonnull 5, 3) := by decide +kernel
theorem dX9_refuseRow_10 : decode cX9_refuseRow 10 = .ok (.iconst (-1), 1) := by decide +kernel
theorem dX9_refuseRow_11 : decode cX9_refuseRow 11 = .ok (.ireturn, 1) := by decide +kernel
theorem dX9_refuseRow_12 : decode cX9_refuseRow 12 = .ok (.aload_n 3, 1) := by decide +kernel
theorem dX9_refuseRow_13 : decode cX9_refuseRow 13 = .ok (.getfield 122, 3) := by decide +kernel
theorem dX9_refuseRow_16 : decode cX9_refuseRow 16 = .ok (.ifCond .ne 6, 3) := by decide +kernel
theorem dX9_refuseRow_19 : decode cX9_refuseRow 19 = .ok (.bipush (-11), 2) := by decide +kernel
theorem dX9_refuseRow_21 : decode cX9_refuseRow 21 = .ok (.ireturn, 1) := by decide +kernel
theorem dX9_refuseRow_22 : decode cX9_refuseRow 22 = .ok (.aload_n 3, 1) := by decide +kernel
theorem dX9_refuseRow_23 : decode cX9_refuseRow 23 = .ok (.iload_n 2, 1) := by decide +kernel
theorem dX9_refuseRow_24 : decode cX9_refuseRow 24 = .ok (.invokevirtual 125, 3) := by decide +kernel
theorem dX9_refuseRow_27 : decode cX9_refuseRow 27 = .ok (.ifCond .eq 7, 3) := by decide +kernel
theorem dX9_refuseRow_30 : decode cX9_refuseRow 30 = .ok (.iconst 1, 1) := by decide +kernel
theorem dX9_refuseRow_31 : decode cX9_refuseRow 31 = .ok (.goto 5, 3) := by decide +kernel
theorem dX9_refuseRow_34 : decode cX9_refuseRow 34 = .ok (.bipush (-12), 2) := by decide +kernel
theorem dX9_refuseRow_36 : decode cX9_refuseRow 36 = .ok (.ireturn, 1) := by decide +kernel
abbrev rX9_refuseRow : Room := { frames := 2, cells := 0, slots := 0, locals := 43 }
def mX9_refuseRow (σ : gS) (p0 : Int32) (p1 : Int32) : Option (Int32 × gS) := gBind (mX9_shelfAt σ p0) (fun r1 s2 => gOpt r1 (some ((-1), s2)) (fun k3 => if gk k3 = 6 then (if (s2.1 k3 0) = 0 then (some ((-11), s2)) else (gBind (mX6_isRowOf s2 k3 p1) (fun r4 s5 => if r4 = true then (some (1, s5)) else (some ((-12), s5))))) else none))
set_option maxHeartbeats 4000000 in
set_option maxRecDepth 100000 in
theorem tX9_refuseRow (l : Launch) (G : gE) (σ : gS) (p0 : Int32) (p1 : Int32) : gM l G yX9_refuseRow cX9_refuseRow 4 (some .int) rX9_refuseRow iI [.ref (G.2.1 0), .int p0, .int p1] σ (mX9_refuseRow σ p0 p1) := by
  refine gM_of (by decide) (Nat.le_of_ble_eq_true rfl) ?_
  intro p e s m args below meth c hC
  unfold mX9_refuseRow
  show gT p l e rX9_refuseRow s m args below meth c G 4 iI σ 0 [(0, .ref (G.2.1 0)), (1, .int p0), (2, .int p1)] [] _
  refine g_aload_n (pc := 0) (q := 0) hC dX9_refuseRow_0 rfl rfl ?_
  refine g_iload_n (pc := 1) (q := 1) hC dX9_refuseRow_1 rfl rfl ?_
  refine g_callVq (pc := 2) (As := [.int p0]) (rest := []) hC lk_RX9_118 kX9 rfl (tX9_shelfAt _ _ σ p0) rfl rfl (Nat.le_of_ble_eq_true rfl) ⟨rfl, rfl, Nat.le_of_ble_eq_true rfl, Nat.le_of_ble_eq_true rfl⟩ dX9_refuseRow_2 (fun r1 s2 => ?_)
  refine gT_opt ?_ (fun k3 => ?_)
  · refine g_astore_nN (pc := 5) (lv' := [(3, .null), (0, .ref (G.2.1 0)), (1, .int p0), (2, .int p1)]) hC dX9_refuseRow_5 rfl (by decide) rfl ?_
    refine g_aload_nN (pc := 6) (q := 0) hC dX9_refuseRow_6 rfl rfl ?_
    refine g_ifnonnullN (pc := 7) hC dX9_refuseRow_7 ?_
    refine g_iconst (pc := 10) (v := (-1)) hC dX9_refuseRow_10 (by decide) ?_
    exact g_iret (pc := 11) hC dX9_refuseRow_11
  · refine gT_if (fun hk3 => ?_) (fun _ => gT_none)
    refine g_astore_n (pc := 5) (lv' := [(3, .ref (G.2.1 k3)), (0, .ref (G.2.1 0)), (1, .int p0), (2, .int p1)]) hC dX9_refuseRow_5 rfl (by decide) rfl ?_
    refine g_aload_n (pc := 6) (q := 0) hC dX9_refuseRow_6 rfl rfl ?_
    refine g_ifnonnullR (pc := 7) (tgt := 12) hC dX9_refuseRow_7 (by decide) ?_
    refine g_aload_n (pc := 12) (q := 0) hC dX9_refuseRow_12 rfl rfl ?_
    refine g_get (pc := 13) (v := .int (s2.1 k3 0)) hC kX6 hk3 0 (by decide) fl_RX9_122 rfl dX9_refuseRow_13 ?_
    refine g_if_ne (pc := 16) (tgt := 22) hC dX9_refuseRow_16 (by decide) ?_ ?_
    · refine g_aload_n (pc := 22) (q := 0) hC dX9_refuseRow_22 rfl rfl ?_
      refine g_iload_n (pc := 23) (q := 3) hC dX9_refuseRow_23 rfl rfl ?_
      refine g_callVz (pc := 24) (As := [.int p1]) (rest := []) hC lk_RX9_125 kX6 hk3 (tX6_isRowOf _ _ s2 k3 p1) rfl rfl (Nat.le_of_ble_eq_true rfl) ⟨rfl, rfl, Nat.le_of_ble_eq_true rfl, Nat.le_of_ble_eq_true rfl⟩ dX9_refuseRow_24 (fun r4 s5 => ?_)
      refine g_bif_eq (pc := 27) (tgt := 34) hC dX9_refuseRow_27 (by decide) ?_ ?_
      · refine g_bipush (pc := 34) (v := (-12)) hC dX9_refuseRow_34 (by decide) ?_
        exact g_iret (pc := 36) hC dX9_refuseRow_36
      · refine g_iconst (pc := 30) (v := 1) hC dX9_refuseRow_30 (by decide) ?_
        refine g_goto (pc := 31) (tgt := 36) hC dX9_refuseRow_31 (by decide) ?_
        exact g_iret (pc := 36) hC dX9_refuseRow_36
    · refine g_bipush (pc := 19) (v := (-11)) hC dX9_refuseRow_19 (by decide) ?_
      exact g_iret (pc := 21) hC dX9_refuseRow_21
theorem lk_RX9_391 : gLV RX9 391 RX6 yX6_hasPlaces cX6_hasPlaces 3 (some .boolean) 2 := ⟨(gBig_tab 426 (by decide +kernel) (by decide +kernel)), (gBig_tab 427 (by decide +kernel) (by decide +kernel)), (gBig_tab 428 (by decide +kernel) (by decide +kernel)), (gBig_tab 10 (by decide +kernel) (by decide +kernel)), (gBig_tab 429 (by decide +kernel) (by decide +kernel)), rfl, by decide +kernel, by decide +kernel, by decide +kernel⟩
theorem dX9_refusePlace_0 : decode cX9_refusePlace 0 = .ok (.aload_n 0, 1) := by decide +kernel
theorem dX9_refusePlace_1 : decode cX9_refusePlace 1 = .ok (.iload_n 1, 1) := by decide +kernel
theorem dX9_refusePlace_2 : decode cX9_refusePlace 2 = .ok (.invokevirtual 118, 3) := by decide +kernel
theorem dX9_refusePlace_5 : decode cX9_refusePlace 5 = .ok (.astore_n 3, 1) := by decide +kernel
theorem dX9_refusePlace_6 : decode cX9_refusePlace 6 = .ok (.aload_n 3, 1) := by decide +kernel
theorem dX9_refusePlace_7 : decode cX9_refusePlace 7 = .ok (.ifnonnull 5, 3) := by decide +kernel
theorem dX9_refusePlace_10 : decode cX9_refusePlace 10 = .ok (.iconst (-1), 1) := by decide +kernel
theorem dX9_refusePlace_11 : decode cX9_refusePlace 11 = .ok (.ireturn, 1) := by decide +kernel
theorem dX9_refusePlace_12 : decode cX9_refusePlace 12 = .ok (.aload_n 3, 1) := by decide +kernel
theorem dX9_refusePlace_13 : decode cX9_refusePlace 13 = .ok (.getfield 122, 3) := by decide +kernel
theorem dX9_refusePlace_16 : decode cX9_refusePlace 16 = .ok (.ifCond .ne 6, 3) := by decide +kernel
theorem dX9_refusePlace_19 : decode cX9_refusePlace 19 = .ok (.bipush (-11), 2) := by decide +kernel
theorem dX9_refusePlace_21 : decode cX9_refusePlace 21 = .ok (.ireturn, 1) := by decide +kernel
theorem dX9_refusePlace_22 : decode cX9_refusePlace 22 = .ok (.aload_n 3, 1) := by decide +kernel
theorem dX9_refusePlace_23 : decode cX9_refusePlace 23 = .ok (.getfield 122, 3) := by decide +kernel
theorem dX9_refusePlace_26 : decode cX9_refusePlace 26 = .ok (.iconst 2, 1) := by decide +kernel
theorem dX9_refusePlace_27 : decode cX9_refusePlace 27 = .ok (.if_icmp .eq 6, 3) := by decide +kernel
theorem dX9_refusePlace_30 : decode cX9_refusePlace 30 = .ok (.bipush (-12), 2) := by decide +kernel
theorem dX9_refusePlace_32 : decode cX9_refusePlace 32 = .ok (.ireturn, 1) := by decide +kernel
theorem dX9_refusePlace_33 : decode cX9_refusePlace 33 = .ok (.aload_n 3, 1) := by decide +kernel
theorem dX9_refusePlace_34 : decode cX9_refusePlace 34 = .ok (.iload_n 2, 1) := by decide +kernel
theorem dX9_refusePlace_35 : decode cX9_refusePlace 35 = .ok (.iconst 1, 1) := by decide +kernel
theorem dX9_refusePlace_36 : decode cX9_refusePlace 36 = .ok (.invokevirtual 391, 3) := by decide +kernel
theorem dX9_refusePlace_39 : decode cX9_refusePlace 39 = .ok (.ifCond .eq 7, 3) := by decide +kernel
theorem dX9_refusePlace_42 : decode cX9_refusePlace 42 = .ok (.iconst 1, 1) := by decide +kernel
theorem dX9_refusePlace_43 : decode cX9_refusePlace 43 = .ok (.goto 5, 3) := by decide +kernel
theorem dX9_refusePlace_46 : decode cX9_refusePlace 46 = .ok (.bipush (-13), 2) := by decide +kernel
theorem dX9_refusePlace_48 : decode cX9_refusePlace 48 = .ok (.ireturn, 1) := by decide +kernel
abbrev rX9_refusePlace : Room := { frames := 2, cells := 0, slots := 0, locals := 43 }
def mX9_refusePlace (σ : gS) (p0 : Int32) (p1 : Int32) : Option (Int32 × gS) := gBind (mX9_shelfAt σ p0) (fun r1 s2 => gOpt r1 (some ((-1), s2)) (fun k3 => if gk k3 = 6 then (if (s2.1 k3 0) = 0 then (some ((-11), s2)) else (if (s2.1 k3 0) = 2 then (gBind (mX6_hasPlaces s2 k3 p1 1) (fun r4 s5 => if r4 = true then (some (1, s5)) else (some ((-13), s5)))) else (some ((-12), s2)))) else none))
set_option maxHeartbeats 4000000 in
set_option maxRecDepth 100000 in
theorem tX9_refusePlace (l : Launch) (G : gE) (σ : gS) (p0 : Int32) (p1 : Int32) : gM l G yX9_refusePlace cX9_refusePlace 4 (some .int) rX9_refusePlace iI [.ref (G.2.1 0), .int p0, .int p1] σ (mX9_refusePlace σ p0 p1) := by
  refine gM_of (by decide) (Nat.le_of_ble_eq_true rfl) ?_
  intro p e s m args below meth c hC
  unfold mX9_refusePlace
  show gT p l e rX9_refusePlace s m args below meth c G 4 iI σ 0 [(0, .ref (G.2.1 0)), (1, .int p0), (2, .int p1)] [] _
  refine g_aload_n (pc := 0) (q := 0) hC dX9_refusePlace_0 rfl rfl ?_
  refine g_iload_n (pc := 1) (q := 1) hC dX9_refusePlace_1 rfl rfl ?_
  refine g_callVq (pc := 2) (As := [.int p0]) (rest := []) hC lk_RX9_118 kX9 rfl (tX9_shelfAt _ _ σ p0) rfl rfl (Nat.le_of_ble_eq_true rfl) ⟨rfl, rfl, Nat.le_of_ble_eq_true rfl, Nat.le_of_ble_eq_true rfl⟩ dX9_refusePlace_2 (fun r1 s2 => ?_)
  refine gT_opt ?_ (fun k3 => ?_)
  · refine g_astore_nN (pc := 5) (lv' := [(3, .null), (0, .ref (G.2.1 0)), (1, .int p0), (2, .int p1)]) hC dX9_refusePlace_5 rfl (by decide) rfl ?_
    refine g_aload_nN (pc := 6) (q := 0) hC dX9_refusePlace_6 rfl rfl ?_
    refine g_ifnonnullN (pc := 7) hC dX9_refusePlace_7 ?_
    refine g_iconst (pc := 10) (v := (-1)) hC dX9_refusePlace_10 (by decide) ?_
    exact g_iret (pc := 11) hC dX9_refusePlace_11
  · refine gT_if (fun hk3 => ?_) (fun _ => gT_none)
    refine g_astore_n (pc := 5) (lv' := [(3, .ref (G.2.1 k3)), (0, .ref (G.2.1 0)), (1, .int p0), (2, .int p1)]) hC dX9_refusePlace_5 rfl (by decide) rfl ?_
    refine g_aload_n (pc := 6) (q := 0) hC dX9_refusePlace_6 rfl rfl ?_
    refine g_ifnonnullR (pc := 7) (tgt := 12) hC dX9_refusePlace_7 (by decide) ?_
    refine g_aload_n (pc := 12) (q := 0) hC dX9_refusePlace_12 rfl rfl ?_
    refine g_get (pc := 13) (v := .int (s2.1 k3 0)) hC kX6 hk3 0 (by decide) fl_RX9_122 rfl dX9_refusePlace_13 ?_
    refine g_if_ne (pc := 16) (tgt := 22) hC dX9_refusePlace_16 (by decide) ?_ ?_
    · refine g_aload_n (pc := 22) (q := 0) hC dX9_refusePlace_22 rfl rfl ?_
      refine g_get (pc := 23) (v := .int (s2.1 k3 0)) hC kX6 hk3 0 (by decide) fl_RX9_122 rfl dX9_refusePlace_23 ?_
      refine g_iconst (pc := 26) (v := 2) hC dX9_refusePlace_26 (by decide) ?_
      refine g_icmp_eq (pc := 27) (tgt := 33) hC dX9_refusePlace_27 (by decide) ?_ ?_
      · refine g_aload_n (pc := 33) (q := 0) hC dX9_refusePlace_33 rfl rfl ?_
        refine g_iload_n (pc := 34) (q := 3) hC dX9_refusePlace_34 rfl rfl ?_
        refine g_iconst (pc := 35) (v := 1) hC dX9_refusePlace_35 (by decide) ?_
        refine g_callVz (pc := 36) (As := [.int p1, .int 1]) (rest := []) hC lk_RX9_391 kX6 hk3 (tX6_hasPlaces _ _ s2 k3 p1 1) rfl rfl (Nat.le_of_ble_eq_true rfl) ⟨rfl, rfl, Nat.le_of_ble_eq_true rfl, Nat.le_of_ble_eq_true rfl⟩ dX9_refusePlace_36 (fun r4 s5 => ?_)
        refine g_bif_eq (pc := 39) (tgt := 46) hC dX9_refusePlace_39 (by decide) ?_ ?_
        · refine g_bipush (pc := 46) (v := (-13)) hC dX9_refusePlace_46 (by decide) ?_
          exact g_iret (pc := 48) hC dX9_refusePlace_48
        · refine g_iconst (pc := 42) (v := 1) hC dX9_refusePlace_42 (by decide) ?_
          refine g_goto (pc := 43) (tgt := 48) hC dX9_refusePlace_43 (by decide) ?_
          exact g_iret (pc := 48) hC dX9_refusePlace_48
      · refine g_bipush (pc := 30) (v := (-12)) hC dX9_refusePlace_30 (by decide) ?_
        exact g_iret (pc := 32) hC dX9_refusePlace_32
    · refine g_bipush (pc := 19) (v := (-11)) hC dX9_refusePlace_19 (by decide) ?_
      exact g_iret (pc := 21) hC dX9_refusePlace_21
theorem dX9_lowestBits_0 : decode cX9_lowestBits 0 = .ok (.iload_n 0, 1) := by decide +kernel
theorem dX9_lowestBits_1 : decode cX9_lowestBits 1 = .ok (.tableswitch 47 0 3 #[31, 36, 41, 45], 31) := by decide +kernel
theorem dX9_lowestBits_32 : decode cX9_lowestBits 32 = .ok (.lload_n 1, 1) := by decide +kernel
theorem dX9_lowestBits_33 : decode cX9_lowestBits 33 = .ok (.l2i, 1) := by decide +kernel
theorem dX9_lowestBits_34 : decode cX9_lowestBits 34 = .ok (.i2b, 1) := by decide +kernel
theorem dX9_lowestBits_35 : decode cX9_lowestBits 35 = .ok (.i2l, 1) := by decide +kernel
theorem dX9_lowestBits_36 : decode cX9_lowestBits 36 = .ok (.lreturn, 1) := by decide +kernel
theorem dX9_lowestBits_37 : decode cX9_lowestBits 37 = .ok (.lload_n 1, 1) := by decide +kernel
theorem dX9_lowestBits_38 : decode cX9_lowestBits 38 = .ok (.l2i, 1) := by decide +kernel
theorem dX9_lowestBits_39 : decode cX9_lowestBits 39 = .ok (.i2s, 1) := by decide +kernel
theorem dX9_lowestBits_40 : decode cX9_lowestBits 40 = .ok (.i2l, 1) := by decide +kernel
theorem dX9_lowestBits_41 : decode cX9_lowestBits 41 = .ok (.lreturn, 1) := by decide +kernel
theorem dX9_lowestBits_42 : decode cX9_lowestBits 42 = .ok (.lload_n 1, 1) := by decide +kernel
theorem dX9_lowestBits_43 : decode cX9_lowestBits 43 = .ok (.l2i, 1) := by decide +kernel
theorem dX9_lowestBits_44 : decode cX9_lowestBits 44 = .ok (.i2l, 1) := by decide +kernel
theorem dX9_lowestBits_45 : decode cX9_lowestBits 45 = .ok (.lreturn, 1) := by decide +kernel
theorem dX9_lowestBits_46 : decode cX9_lowestBits 46 = .ok (.lload_n 1, 1) := by decide +kernel
theorem dX9_lowestBits_47 : decode cX9_lowestBits 47 = .ok (.lreturn, 1) := by decide +kernel
theorem dX9_lowestBits_48 : decode cX9_lowestBits 48 = .ok (.lload_n 1, 1) := by decide +kernel
theorem dX9_lowestBits_49 : decode cX9_lowestBits 49 = .ok (.lconst 0, 1) := by decide +kernel
theorem dX9_lowestBits_50 : decode cX9_lowestBits 50 = .ok (.lcmp, 1) := by decide +kernel
theorem dX9_lowestBits_51 : decode cX9_lowestBits 51 = .ok (.ifCond .eq 7, 3) := by decide +kernel
theorem dX9_lowestBits_54 : decode cX9_lowestBits 54 = .ok (.lconst 1, 1) := by decide +kernel
theorem dX9_lowestBits_55 : decode cX9_lowestBits 55 = .ok (.goto 4, 3) := by decide +kernel
theorem dX9_lowestBits_58 : decode cX9_lowestBits 58 = .ok (.lconst 0, 1) := by decide +kernel
theorem dX9_lowestBits_59 : decode cX9_lowestBits 59 = .ok (.lreturn, 1) := by decide +kernel
abbrev rX9_lowestBits : Room := { frames := 0, cells := 0, slots := 0, locals := 0 }
def mX9_lowestBits (σ : gS) (p0 : Int32) (p1 : Int64) : Option (Int64 × gS) := if p0 = 0 then (some ((Int32.toInt64 (Int8.toInt32 (Int32.toInt8 (Int64.toInt32 p1)))), σ)) else (if p0 = 1 then (some ((Int32.toInt64 (Int16.toInt32 (Int32.toInt16 (Int64.toInt32 p1)))), σ)) else (if p0 = 2 then (some ((Int32.toInt64 (Int64.toInt32 p1)), σ)) else (if p0 = 3 then (some (p1, σ)) else (if (lg_cmp p1 0) = 0 then (some (0, σ)) else (some (1, σ))))))
set_option maxHeartbeats 4000000 in
set_option maxRecDepth 100000 in
theorem tX9_lowestBits (l : Launch) (G : gE) (σ : gS) (p0 : Int32) (p1 : Int64) : gM l G yX9_lowestBits cX9_lowestBits 3 (some .long) rX9_lowestBits iJ [.int p0, .long p1] σ (mX9_lowestBits σ p0 p1) := by
  refine gM_of (by decide) (Nat.le_of_ble_eq_true rfl) ?_
  intro p e s m args below meth c hC
  unfold mX9_lowestBits
  show gT p l e rX9_lowestBits s m args below meth c G 3 iJ σ 0 [(0, .int p0), (1, .long p1)] [] _
  refine g_iload_n (pc := 0) (q := 0) hC dX9_lowestBits_0 rfl rfl ?_
  refine gT_if (fun c100 => ?_) (fun c100 => ?_)
  · refine g_tabIn (tgt := 32) (off := 31) hC dX9_lowestBits_1 c100 (by decide) (by decide) (by decide) (by decide) ?_
    refine g_lload_n (pc := 32) (q := 1) hC dX9_lowestBits_32 rfl rfl ?_
    refine g_l2i (pc := 33) hC dX9_lowestBits_33 ?_
    refine g_i2b (pc := 34) hC dX9_lowestBits_34 ?_
    refine g_i2l (pc := 35) hC dX9_lowestBits_35 ?_
    exact g_lret (pc := 36) hC dX9_lowestBits_36
  · refine gT_if (fun c101 => ?_) (fun c101 => ?_)
    · refine g_tabIn (tgt := 37) (off := 36) hC dX9_lowestBits_1 c101 (by decide) (by decide) (by decide) (by decide) ?_
      refine g_lload_n (pc := 37) (q := 1) hC dX9_lowestBits_37 rfl rfl ?_
      refine g_l2i (pc := 38) hC dX9_lowestBits_38 ?_
      refine g_i2s (pc := 39) hC dX9_lowestBits_39 ?_
      refine g_i2l (pc := 40) hC dX9_lowestBits_40 ?_
      exact g_lret (pc := 41) hC dX9_lowestBits_41
    · refine gT_if (fun c102 => ?_) (fun c102 => ?_)
      · refine g_tabIn (tgt := 42) (off := 41) hC dX9_lowestBits_1 c102 (by decide) (by decide) (by decide) (by decide) ?_
        refine g_lload_n (pc := 42) (q := 1) hC dX9_lowestBits_42 rfl rfl ?_
        refine g_l2i (pc := 43) hC dX9_lowestBits_43 ?_
        refine g_i2l (pc := 44) hC dX9_lowestBits_44 ?_
        exact g_lret (pc := 45) hC dX9_lowestBits_45
      · refine gT_if (fun c103 => ?_) (fun c103 => ?_)
        · refine g_tabIn (tgt := 46) (off := 45) hC dX9_lowestBits_1 c103 (by decide) (by decide) (by decide) (by decide) ?_
          refine g_lload_n (pc := 46) (q := 1) hC dX9_lowestBits_46 rfl rfl ?_
          exact g_lret (pc := 47) hC dX9_lowestBits_47
        · refine g_tabOut (tgt := 48) hC dX9_lowestBits_1 (by have q0 := gne c100 (n := 0) rfl; have q1 := gne c101 (n := 1) rfl; have q2 := gne c102 (n := 2) rfl; have q3 := gne c103 (n := 3) rfl; omega) (by decide) ?_
          refine g_lload_n (pc := 48) (q := 1) hC dX9_lowestBits_48 rfl rfl ?_
          refine g_lconst (pc := 49) (v := 0) hC dX9_lowestBits_49 (by decide) ?_
          refine g_lcmp (pc := 50) hC dX9_lowestBits_50 ?_
          refine g_if_eq (pc := 51) (tgt := 58) hC dX9_lowestBits_51 (by decide) ?_ ?_
          · refine g_lconst (pc := 58) (v := 0) hC dX9_lowestBits_58 (by decide) ?_
            exact g_lret (pc := 59) hC dX9_lowestBits_59
          · refine g_lconst (pc := 54) (v := 1) hC dX9_lowestBits_54 (by decide) ?_
            refine g_goto (pc := 55) (tgt := 59) hC dX9_lowestBits_55 (by decide) ?_
            exact g_lret (pc := 59) hC dX9_lowestBits_59
theorem lk_RX9_162 : gLV RX9 162 RX8 yX8_hasFarm cX8_hasFarm 2 (some .boolean) 1 := ⟨(gBig_tab 438 (by decide +kernel) (by decide +kernel)), (gBig_tab 400 (by decide +kernel) (by decide +kernel)), (gBig_tab 401 (by decide +kernel) (by decide +kernel)), (gBig_tab 2 (by decide +kernel) (by decide +kernel)), (gBig_tab 402 (by decide +kernel) (by decide +kernel)), rfl, by decide +kernel, by decide +kernel, by decide +kernel⟩
theorem lk_RX9_415 : gLV RX9 415 RX8 yX8_hasWant cX8_hasWant 2 (some .boolean) 1 := ⟨(gBig_tab 439 (by decide +kernel) (by decide +kernel)), (gBig_tab 440 (by decide +kernel) (by decide +kernel)), (gBig_tab 441 (by decide +kernel) (by decide +kernel)), (gBig_tab 2 (by decide +kernel) (by decide +kernel)), (gBig_tab 442 (by decide +kernel) (by decide +kernel)), rfl, by decide +kernel, by decide +kernel, by decide +kernel⟩
theorem dX9_isNumber_0 : decode cX9_isNumber 0 = .ok (.iload_n 2, 1) := by decide +kernel
theorem dX9_isNumber_1 : decode cX9_isNumber 1 = .ok (.ifCond .eq 8, 3) := by decide +kernel
theorem dX9_isNumber_4 : decode cX9_isNumber 4 = .ok (.iload_n 2, 1) := by decide +kernel
theorem dX9_isNumber_5 : decode cX9_isNumber 5 = .ok (.iconst 1, 1) := by decide +kernel
theorem dX9_isNumber_6 : decode cX9_isNumber 6 = .ok (.if_icmp .ne 12, 3) := by decide +kernel
theorem dX9_isNumber_9 : decode cX9_isNumber 9 = .ok (.aload_n 0, 1) := by decide +kernel
theorem dX9_isNumber_10 : decode cX9_isNumber 10 = .ok (.getfield 10, 3) := by decide +kernel
theorem dX9_isNumber_13 : decode cX9_isNumber 13 = .ok (.iload_n 1, 1) := by decide +kernel
theorem dX9_isNumber_14 : decode cX9_isNumber 14 = .ok (.invokevirtual 162, 3) := by decide +kernel
theorem dX9_isNumber_17 : decode cX9_isNumber 17 = .ok (.ireturn, 1) := by decide +kernel
theorem dX9_isNumber_18 : decode cX9_isNumber 18 = .ok (.iload_n 2, 1) := by decide +kernel
theorem dX9_isNumber_19 : decode cX9_isNumber 19 = .ok (.iconst 2, 1) := by decide +kernel
theorem dX9_isNumber_20 : decode cX9_isNumber 20 = .ok (.iconst 4, 1) := by decide +kernel
theorem dX9_isNumber_21 : decode cX9_isNumber 21 = .ok (.invokestatic 102, 3) := by decide +kernel
theorem dX9_isNumber_24 : decode cX9_isNumber 24 = .ok (.ifCond .ne 9, 3) := by decide +kernel
theorem dX9_isNumber_27 : decode cX9_isNumber 27 = .ok (.iload_n 2, 1) := by decide +kernel
theorem dX9_isNumber_28 : decode cX9_isNumber 28 = .ok (.bipush 10, 2) := by decide +kernel
theorem dX9_isNumber_30 : decode cX9_isNumber 30 = .ok (.if_icmp .ne 12, 3) := by decide +kernel
theorem dX9_isNumber_33 : decode cX9_isNumber 33 = .ok (.aload_n 0, 1) := by decide +kernel
theorem dX9_isNumber_34 : decode cX9_isNumber 34 = .ok (.getfield 10, 3) := by decide +kernel
theorem dX9_isNumber_37 : decode cX9_isNumber 37 = .ok (.iload_n 1, 1) := by decide +kernel
theorem dX9_isNumber_38 : decode cX9_isNumber 38 = .ok (.invokevirtual 415, 3) := by decide +kernel
theorem dX9_isNumber_41 : decode cX9_isNumber 41 = .ok (.ireturn, 1) := by decide +kernel
theorem dX9_isNumber_42 : decode cX9_isNumber 42 = .ok (.iload_n 2, 1) := by decide +kernel
theorem dX9_isNumber_43 : decode cX9_isNumber 43 = .ok (.iconst 5, 1) := by decide +kernel
theorem dX9_isNumber_44 : decode cX9_isNumber 44 = .ok (.bipush 9, 2) := by decide +kernel
theorem dX9_isNumber_46 : decode cX9_isNumber 46 = .ok (.invokestatic 102, 3) := by decide +kernel
theorem dX9_isNumber_49 : decode cX9_isNumber 49 = .ok (.ifCond .eq 11, 3) := by decide +kernel
theorem dX9_isNumber_52 : decode cX9_isNumber 52 = .ok (.iload_n 1, 1) := by decide +kernel
theorem dX9_isNumber_53 : decode cX9_isNumber 53 = .ok (.ifCond .ne 7, 3) := by decide +kernel
theorem dX9_isNumber_56 : decode cX9_isNumber 56 = .ok (.iconst 1, 1) := by decide +kernel
theorem dX9_isNumber_57 : decode cX9_isNumber 57 = .ok (.goto 4, 3) := by decide +kernel
theorem dX9_isNumber_60 : decode cX9_isNumber 60 = .ok (.iconst 0, 1) := by decide +kernel
theorem dX9_isNumber_61 : decode cX9_isNumber 61 = .ok (.ireturn, 1) := by decide +kernel
abbrev rX9_isNumber : Room := { frames := 1, cells := 0, slots := 0, locals := 22 }
def mX9_isNumber_b9    (σ : gS) (x1 : Int32) : Option (Bool × gS) := gBind (mX8_hasFarm σ x1) (fun r2 s3 => some (r2, s3))
set_option maxHeartbeats 4000000 in
set_option maxRecDepth 100000 in
theorem wX9_isNumber_b9 {p : Program} {l : Launch} {e : Env} {s : State} {m : MethodId} {args : Array Value} {below : List Frame} {meth : Method} {c : Code} {G : gE} (hC : gCx p s m args meth c G RX9 cX9_isNumber 3 (some .boolean))     (σ : gS) (x1 : Int32)  : gT p l e rX9_isNumber s m args below meth c G 3 iZ σ 9 [(0, .ref (G.2.1 0)), (1, .int x1)] [] (mX9_isNumber_b9  σ x1) := by
  unfold mX9_isNumber_b9
  refine g_aload_n (pc := 9) (q := 0) hC dX9_isNumber_9 rfl rfl ?_
  refine g_get (pc := 10) (v := .ref (G.2.1 1)) hC kX9 rfl 0 (by decide) fl_RX9_10 rfl dX9_isNumber_10 ?_
  refine g_iload_n (pc := 13) (q := 1) hC dX9_isNumber_13 rfl rfl ?_
  refine g_callVz (pc := 14) (As := [.int x1]) (rest := []) hC lk_RX9_162 kX8 rfl (tX8_hasFarm _ _ σ x1) rfl rfl (Nat.le_of_ble_eq_true rfl) ⟨rfl, rfl, Nat.le_of_ble_eq_true rfl, Nat.le_of_ble_eq_true rfl⟩ dX9_isNumber_14 (fun r2 s3 => ?_)
  exact g_zret (pc := 17) hC dX9_isNumber_17
def mX9_isNumber_b33    (σ : gS) (x6 : Int32) : Option (Bool × gS) := gBind (mX8_hasWant σ x6) (fun r7 s8 => some (r7, s8))
set_option maxHeartbeats 4000000 in
set_option maxRecDepth 100000 in
theorem wX9_isNumber_b33 {p : Program} {l : Launch} {e : Env} {s : State} {m : MethodId} {args : Array Value} {below : List Frame} {meth : Method} {c : Code} {G : gE} (hC : gCx p s m args meth c G RX9 cX9_isNumber 3 (some .boolean))     (σ : gS) (x6 : Int32)  : gT p l e rX9_isNumber s m args below meth c G 3 iZ σ 33 [(0, .ref (G.2.1 0)), (1, .int x6)] [] (mX9_isNumber_b33  σ x6) := by
  unfold mX9_isNumber_b33
  refine g_aload_n (pc := 33) (q := 0) hC dX9_isNumber_33 rfl rfl ?_
  refine g_get (pc := 34) (v := .ref (G.2.1 1)) hC kX9 rfl 0 (by decide) fl_RX9_10 rfl dX9_isNumber_34 ?_
  refine g_iload_n (pc := 37) (q := 1) hC dX9_isNumber_37 rfl rfl ?_
  refine g_callVz (pc := 38) (As := [.int x6]) (rest := []) hC lk_RX9_415 kX8 rfl (tX8_hasWant _ _ σ x6) rfl rfl (Nat.le_of_ble_eq_true rfl) ⟨rfl, rfl, Nat.le_of_ble_eq_true rfl, Nat.le_of_ble_eq_true rfl⟩ dX9_isNumber_38 (fun r7 s8 => ?_)
  exact g_zret (pc := 41) hC dX9_isNumber_41
def mX9_isNumber (σ : gS) (p0 : Int32) (p1 : Int32) : Option (Bool × gS) := if p1 = 0 then ((mX9_isNumber_b9  σ p0)) else (if p1 = 1 then ((mX9_isNumber_b9  σ p0)) else (gBind (mX9_within σ p1 2 4) (fun r4 s5 => if r4 = true then ((mX9_isNumber_b33  s5 p0)) else (if p1 = 10 then ((mX9_isNumber_b33  s5 p0)) else (gBind (mX9_within s5 p1 5 9) (fun r9 s10 => if r9 = true then (if p0 = 0 then (some (true, s10)) else (some (false, s10))) else (some (false, s10))))))))
set_option maxHeartbeats 4000000 in
set_option maxRecDepth 100000 in
theorem tX9_isNumber (l : Launch) (G : gE) (σ : gS) (p0 : Int32) (p1 : Int32) : gM l G yX9_isNumber cX9_isNumber 3 (some .boolean) rX9_isNumber iZ [.ref (G.2.1 0), .int p0, .int p1] σ (mX9_isNumber σ p0 p1) := by
  refine gM_of (by decide) (Nat.le_of_ble_eq_true rfl) ?_
  intro p e s m args below meth c hC
  unfold mX9_isNumber
  show gT p l e rX9_isNumber s m args below meth c G 3 iZ σ 0 [(0, .ref (G.2.1 0)), (1, .int p0), (2, .int p1)] [] _
  refine g_iload_n (pc := 0) (q := 2) hC dX9_isNumber_0 rfl rfl ?_
  refine g_if_eq (pc := 1) (tgt := 9) hC dX9_isNumber_1 (by decide) ?_ ?_
  · exact gT_sub [0, 1] rfl (wX9_isNumber_b9 hC  σ p0)
  · refine g_iload_n (pc := 4) (q := 2) hC dX9_isNumber_4 rfl rfl ?_
    refine g_iconst (pc := 5) (v := 1) hC dX9_isNumber_5 (by decide) ?_
    refine g_icmp_ne (pc := 6) (tgt := 18) hC dX9_isNumber_6 (by decide) ?_ ?_
    · refine g_iload_n (pc := 18) (q := 2) hC dX9_isNumber_18 rfl rfl ?_
      refine g_iconst (pc := 19) (v := 2) hC dX9_isNumber_19 (by decide) ?_
      refine g_iconst (pc := 20) (v := 4) hC dX9_isNumber_20 (by decide) ?_
      refine g_callSz (pc := 21) (As := [.int p1, .int 2, .int 4]) (rest := []) hC lk_RX9_102 (tX9_within _ _ σ p1 2 4) rfl rfl (Nat.le_of_ble_eq_true rfl) ⟨rfl, rfl, Nat.le_of_ble_eq_true rfl, Nat.le_of_ble_eq_true rfl⟩ dX9_isNumber_21 (fun r4 s5 => ?_)
      refine g_bif_ne (pc := 24) (tgt := 33) hC dX9_isNumber_24 (by decide) ?_ ?_
      · exact gT_sub [0, 1] rfl (wX9_isNumber_b33 hC  s5 p0)
      · refine g_iload_n (pc := 27) (q := 2) hC dX9_isNumber_27 rfl rfl ?_
        refine g_bipush (pc := 28) (v := 10) hC dX9_isNumber_28 (by decide) ?_
        refine g_icmp_ne (pc := 30) (tgt := 42) hC dX9_isNumber_30 (by decide) ?_ ?_
        · refine g_iload_n (pc := 42) (q := 2) hC dX9_isNumber_42 rfl rfl ?_
          refine g_iconst (pc := 43) (v := 5) hC dX9_isNumber_43 (by decide) ?_
          refine g_bipush (pc := 44) (v := 9) hC dX9_isNumber_44 (by decide) ?_
          refine g_callSz (pc := 46) (As := [.int p1, .int 5, .int 9]) (rest := []) hC lk_RX9_102 (tX9_within _ _ s5 p1 5 9) rfl rfl (Nat.le_of_ble_eq_true rfl) ⟨rfl, rfl, Nat.le_of_ble_eq_true rfl, Nat.le_of_ble_eq_true rfl⟩ dX9_isNumber_46 (fun r9 s10 => ?_)
          refine g_bif_eq (pc := 49) (tgt := 60) hC dX9_isNumber_49 (by decide) ?_ ?_
          · refine g_iconst (pc := 60) (v := 0) hC dX9_isNumber_60 (by decide) ?_
            exact g_zret0 (pc := 61) hC dX9_isNumber_61
          · refine g_iload_n (pc := 52) (q := 1) hC dX9_isNumber_52 rfl rfl ?_
            refine g_if_ne (pc := 53) (tgt := 60) hC dX9_isNumber_53 (by decide) ?_ ?_
            · refine g_iconst (pc := 60) (v := 0) hC dX9_isNumber_60 (by decide) ?_
              exact g_zret0 (pc := 61) hC dX9_isNumber_61
            · refine g_iconst (pc := 56) (v := 1) hC dX9_isNumber_56 (by decide) ?_
              refine g_goto (pc := 57) (tgt := 61) hC dX9_isNumber_57 (by decide) ?_
              exact g_zret1 (pc := 61) hC dX9_isNumber_61
        · exact gT_sub [0, 1] rfl (wX9_isNumber_b33 hC  s5 p0)
    · exact gT_sub [0, 1] rfl (wX9_isNumber_b9 hC  σ p0)
theorem fl_RX9_418 : Cond.fieldLink RX9 418 "WinterShed$Village" "bees" "[I" ∈ gBig := (gBig_tab 37 (by decide +kernel) (by decide +kernel))
theorem fl_RX9_421 : Cond.fieldLink RX9 421 "WinterShed$Village" "voices" "[I" ∈ gBig := (gBig_tab 39 (by decide +kernel) (by decide +kernel))
theorem fl_RX9_424 : Cond.fieldLink RX9 424 "WinterShed$Village" "dayOf" "[I" ∈ gBig := (gBig_tab 45 (by decide +kernel) (by decide +kernel))
theorem fl_RX9_427 : Cond.fieldLink RX9 427 "WinterShed$Village" "hoursOf" "[I" ∈ gBig := (gBig_tab 47 (by decide +kernel) (by decide +kernel))
theorem fl_RX9_430 : Cond.fieldLink RX9 430 "WinterShed$Village" "gainOf" "[I" ∈ gBig := (gBig_tab 49 (by decide +kernel) (by decide +kernel))
theorem fl_RX9_193 : Cond.fieldLink RX9 193 "WinterShed$Shed" "cold" "I" ∈ gBig := (gBig_tab 76 (by decide +kernel) (by decide +kernel))
theorem fl_RX9_266 : Cond.fieldLink RX9 266 "WinterShed$Shed" "bears" "I" ∈ gBig := (gBig_tab 79 (by decide +kernel) (by decide +kernel))
theorem fl_RX9_433 : Cond.fieldLink RX9 433 "WinterShed$Shed" "grows" "I" ∈ gBig := (gBig_tab 82 (by decide +kernel) (by decide +kernel))
theorem fl_RX9_436 : Cond.fieldLink RX9 436 "WinterShed$Shed" "leak" "I" ∈ gBig := (gBig_tab 85 (by decide +kernel) (by decide +kernel))
theorem fl_RX9_153 : Cond.fieldLink RX9 153 "WinterShed$Shed" "now" "I" ∈ gBig := (gBig_tab 88 (by decide +kernel) (by decide +kernel))
theorem fl_RX9_439 : Cond.fieldLink RX9 439 "WinterShed$Village" "farmOf" "[I" ∈ gBig := (gBig_tab 43 (by decide +kernel) (by decide +kernel))
theorem dX9_valueOf_0 : decode cX9_valueOf 0 = .ok (.iload_n 2, 1) := by decide +kernel
theorem dX9_valueOf_1 : decode cX9_valueOf 1 = .ok (.tableswitch 159 0 10 #[59, 69, 79, 89, 99, 109, 117, 125, 133, 141, 149], 59) := by decide +kernel
theorem dX9_valueOf_60 : decode cX9_valueOf 60 = .ok (.aload_n 0, 1) := by decide +kernel
theorem dX9_valueOf_61 : decode cX9_valueOf 61 = .ok (.getfield 10, 3) := by decide +kernel
theorem dX9_valueOf_64 : decode cX9_valueOf 64 = .ok (.getfield 418, 3) := by decide +kernel
theorem dX9_valueOf_67 : decode cX9_valueOf 67 = .ok (.iload_n 1, 1) := by decide +kernel
theorem dX9_valueOf_68 : decode cX9_valueOf 68 = .ok (.iaload, 1) := by decide +kernel
theorem dX9_valueOf_69 : decode cX9_valueOf 69 = .ok (.ireturn, 1) := by decide +kernel
theorem dX9_valueOf_70 : decode cX9_valueOf 70 = .ok (.aload_n 0, 1) := by decide +kernel
theorem dX9_valueOf_71 : decode cX9_valueOf 71 = .ok (.getfield 10, 3) := by decide +kernel
theorem dX9_valueOf_74 : decode cX9_valueOf 74 = .ok (.getfield 421, 3) := by decide +kernel
theorem dX9_valueOf_77 : decode cX9_valueOf 77 = .ok (.iload_n 1, 1) := by decide +kernel
theorem dX9_valueOf_78 : decode cX9_valueOf 78 = .ok (.iaload, 1) := by decide +kernel
theorem dX9_valueOf_79 : decode cX9_valueOf 79 = .ok (.ireturn, 1) := by decide +kernel
theorem dX9_valueOf_80 : decode cX9_valueOf 80 = .ok (.aload_n 0, 1) := by decide +kernel
theorem dX9_valueOf_81 : decode cX9_valueOf 81 = .ok (.getfield 10, 3) := by decide +kernel
theorem dX9_valueOf_84 : decode cX9_valueOf 84 = .ok (.getfield 424, 3) := by decide +kernel
theorem dX9_valueOf_87 : decode cX9_valueOf 87 = .ok (.iload_n 1, 1) := by decide +kernel
theorem dX9_valueOf_88 : decode cX9_valueOf 88 = .ok (.iaload, 1) := by decide +kernel
theorem dX9_valueOf_89 : decode cX9_valueOf 89 = .ok (.ireturn, 1) := by decide +kernel
theorem dX9_valueOf_90 : decode cX9_valueOf 90 = .ok (.aload_n 0, 1) := by decide +kernel
theorem dX9_valueOf_91 : decode cX9_valueOf 91 = .ok (.getfield 10, 3) := by decide +kernel
theorem dX9_valueOf_94 : decode cX9_valueOf 94 = .ok (.getfield 427, 3) := by decide +kernel
theorem dX9_valueOf_97 : decode cX9_valueOf 97 = .ok (.iload_n 1, 1) := by decide +kernel
theorem dX9_valueOf_98 : decode cX9_valueOf 98 = .ok (.iaload, 1) := by decide +kernel
theorem dX9_valueOf_99 : decode cX9_valueOf 99 = .ok (.ireturn, 1) := by decide +kernel
theorem dX9_valueOf_100 : decode cX9_valueOf 100 = .ok (.aload_n 0, 1) := by decide +kernel
theorem dX9_valueOf_101 : decode cX9_valueOf 101 = .ok (.getfield 10, 3) := by decide +kernel
theorem dX9_valueOf_104 : decode cX9_valueOf 104 = .ok (.getfield 430, 3) := by decide +kernel
theorem dX9_valueOf_107 : decode cX9_valueOf 107 = .ok (.iload_n 1, 1) := by decide +kernel
theorem dX9_valueOf_108 : decode cX9_valueOf 108 = .ok (.iaload, 1) := by decide +kernel
theorem dX9_valueOf_109 : decode cX9_valueOf 109 = .ok (.ireturn, 1) := by decide +kernel
theorem dX9_valueOf_110 : decode cX9_valueOf 110 = .ok (.aload_n 0, 1) := by decide +kernel
theorem dX9_valueOf_111 : decode cX9_valueOf 111 = .ok (.getfield 19, 3) := by decide +kernel
theorem dX9_valueOf_114 : decode cX9_valueOf 114 = .ok (.getfield 193, 3) := by decide +kernel
theorem dX9_valueOf_117 : decode cX9_valueOf 117 = .ok (.ireturn, 1) := by decide +kernel
theorem dX9_valueOf_118 : decode cX9_valueOf 118 = .ok (.aload_n 0, 1) := by decide +kernel
theorem dX9_valueOf_119 : decode cX9_valueOf 119 = .ok (.getfield 19, 3) := by decide +kernel
theorem dX9_valueOf_122 : decode cX9_valueOf 122 = .ok (.getfield 266, 3) := by decide +kernel
theorem dX9_valueOf_125 : decode cX9_valueOf 125 = .ok (.ireturn, 1) := by decide +kernel
theorem dX9_valueOf_126 : decode cX9_valueOf 126 = .ok (.aload_n 0, 1) := by decide +kernel
theorem dX9_valueOf_127 : decode cX9_valueOf 127 = .ok (.getfield 19, 3) := by decide +kernel
theorem dX9_valueOf_130 : decode cX9_valueOf 130 = .ok (.getfield 433, 3) := by decide +kernel
theorem dX9_valueOf_133 : decode cX9_valueOf 133 = .ok (.ireturn, 1) := by decide +kernel
theorem dX9_valueOf_134 : decode cX9_valueOf 134 = .ok (.aload_n 0, 1) := by decide +kernel
theorem dX9_valueOf_135 : decode cX9_valueOf 135 = .ok (.getfield 19, 3) := by decide +kernel
theorem dX9_valueOf_138 : decode cX9_valueOf 138 = .ok (.getfield 436, 3) := by decide +kernel
theorem dX9_valueOf_141 : decode cX9_valueOf 141 = .ok (.ireturn, 1) := by decide +kernel
theorem dX9_valueOf_142 : decode cX9_valueOf 142 = .ok (.aload_n 0, 1) := by decide +kernel
theorem dX9_valueOf_143 : decode cX9_valueOf 143 = .ok (.getfield 19, 3) := by decide +kernel
theorem dX9_valueOf_146 : decode cX9_valueOf 146 = .ok (.getfield 153, 3) := by decide +kernel
theorem dX9_valueOf_149 : decode cX9_valueOf 149 = .ok (.ireturn, 1) := by decide +kernel
theorem dX9_valueOf_150 : decode cX9_valueOf 150 = .ok (.aload_n 0, 1) := by decide +kernel
theorem dX9_valueOf_151 : decode cX9_valueOf 151 = .ok (.getfield 10, 3) := by decide +kernel
theorem dX9_valueOf_154 : decode cX9_valueOf 154 = .ok (.getfield 439, 3) := by decide +kernel
theorem dX9_valueOf_157 : decode cX9_valueOf 157 = .ok (.iload_n 1, 1) := by decide +kernel
theorem dX9_valueOf_158 : decode cX9_valueOf 158 = .ok (.iaload, 1) := by decide +kernel
theorem dX9_valueOf_159 : decode cX9_valueOf 159 = .ok (.ireturn, 1) := by decide +kernel
theorem dX9_valueOf_160 : decode cX9_valueOf 160 = .ok (.iconst (-1), 1) := by decide +kernel
theorem dX9_valueOf_161 : decode cX9_valueOf 161 = .ok (.ireturn, 1) := by decide +kernel
abbrev rX9_valueOf : Room := { frames := 0, cells := 0, slots := 0, locals := 0 }
def mX9_valueOf (σ : gS) (p0 : Int32) (p1 : Int32) : Option (Int32 × gS) := if p1 = 0 then (if inbB p0 6 = true then (some ((σ.1 2 (Int32.toNatClampNeg p0)), σ)) else none) else (if p1 = 1 then (if inbB p0 6 = true then (some ((σ.1 3 (Int32.toNatClampNeg p0)), σ)) else none) else (if p1 = 2 then (if inbB p0 12 = true then (some ((σ.1 5 (Int32.toNatClampNeg p0)), σ)) else none) else (if p1 = 3 then (if inbB p0 12 = true then (some ((σ.1 6 (Int32.toNatClampNeg p0)), σ)) else none) else (if p1 = 4 then (if inbB p0 12 = true then (some ((σ.1 7 (Int32.toNatClampNeg p0)), σ)) else none) else (if p1 = 5 then (some ((σ.1 8 0), σ)) else (if p1 = 6 then (some ((σ.1 8 1), σ)) else (if p1 = 7 then (some ((σ.1 8 2), σ)) else (if p1 = 8 then (some ((σ.1 8 3), σ)) else (if p1 = 9 then (some ((σ.1 8 4), σ)) else (if p1 = 10 then (if inbB p0 12 = true then (some ((σ.1 4 (Int32.toNatClampNeg p0)), σ)) else none) else (some ((-1), σ))))))))))))
set_option maxHeartbeats 4000000 in
set_option maxRecDepth 100000 in
theorem tX9_valueOf (l : Launch) (G : gE) (σ : gS) (p0 : Int32) (p1 : Int32) : gM l G yX9_valueOf cX9_valueOf 3 (some .int) rX9_valueOf iI [.ref (G.2.1 0), .int p0, .int p1] σ (mX9_valueOf σ p0 p1) := by
  refine gM_of (by decide) (Nat.le_of_ble_eq_true rfl) ?_
  intro p e s m args below meth c hC
  unfold mX9_valueOf
  show gT p l e rX9_valueOf s m args below meth c G 3 iI σ 0 [(0, .ref (G.2.1 0)), (1, .int p0), (2, .int p1)] [] _
  refine g_iload_n (pc := 0) (q := 2) hC dX9_valueOf_0 rfl rfl ?_
  refine gT_if (fun c100 => ?_) (fun c100 => ?_)
  · refine g_tabIn (tgt := 60) (off := 59) hC dX9_valueOf_1 c100 (by decide) (by decide) (by decide) (by decide) ?_
    refine g_aload_n (pc := 60) (q := 0) hC dX9_valueOf_60 rfl rfl ?_
    refine g_get (pc := 61) (v := .ref (G.2.1 1)) hC kX9 rfl 0 (by decide) fl_RX9_10 rfl dX9_valueOf_61 ?_
    refine g_get (pc := 64) (v := .ref (G.2.1 2)) hC kX8 rfl 1 (by decide) fl_RX9_418 rfl dX9_valueOf_64 ?_
    refine g_iload_n (pc := 67) (q := 1) hC dX9_valueOf_67 rfl rfl ?_
    refine g_iald (pc := 68) hC 6 rfl (by decide) dX9_valueOf_68 ?_
    exact g_iret (pc := 69) hC dX9_valueOf_69
  · refine gT_if (fun c101 => ?_) (fun c101 => ?_)
    · refine g_tabIn (tgt := 70) (off := 69) hC dX9_valueOf_1 c101 (by decide) (by decide) (by decide) (by decide) ?_
      refine g_aload_n (pc := 70) (q := 0) hC dX9_valueOf_70 rfl rfl ?_
      refine g_get (pc := 71) (v := .ref (G.2.1 1)) hC kX9 rfl 0 (by decide) fl_RX9_10 rfl dX9_valueOf_71 ?_
      refine g_get (pc := 74) (v := .ref (G.2.1 3)) hC kX8 rfl 2 (by decide) fl_RX9_421 rfl dX9_valueOf_74 ?_
      refine g_iload_n (pc := 77) (q := 1) hC dX9_valueOf_77 rfl rfl ?_
      refine g_iald (pc := 78) hC 6 rfl (by decide) dX9_valueOf_78 ?_
      exact g_iret (pc := 79) hC dX9_valueOf_79
    · refine gT_if (fun c102 => ?_) (fun c102 => ?_)
      · refine g_tabIn (tgt := 80) (off := 79) hC dX9_valueOf_1 c102 (by decide) (by decide) (by decide) (by decide) ?_
        refine g_aload_n (pc := 80) (q := 0) hC dX9_valueOf_80 rfl rfl ?_
        refine g_get (pc := 81) (v := .ref (G.2.1 1)) hC kX9 rfl 0 (by decide) fl_RX9_10 rfl dX9_valueOf_81 ?_
        refine g_get (pc := 84) (v := .ref (G.2.1 5)) hC kX8 rfl 5 (by decide) fl_RX9_424 rfl dX9_valueOf_84 ?_
        refine g_iload_n (pc := 87) (q := 1) hC dX9_valueOf_87 rfl rfl ?_
        refine g_iald (pc := 88) hC 12 rfl (by decide) dX9_valueOf_88 ?_
        exact g_iret (pc := 89) hC dX9_valueOf_89
      · refine gT_if (fun c103 => ?_) (fun c103 => ?_)
        · refine g_tabIn (tgt := 90) (off := 89) hC dX9_valueOf_1 c103 (by decide) (by decide) (by decide) (by decide) ?_
          refine g_aload_n (pc := 90) (q := 0) hC dX9_valueOf_90 rfl rfl ?_
          refine g_get (pc := 91) (v := .ref (G.2.1 1)) hC kX9 rfl 0 (by decide) fl_RX9_10 rfl dX9_valueOf_91 ?_
          refine g_get (pc := 94) (v := .ref (G.2.1 6)) hC kX8 rfl 6 (by decide) fl_RX9_427 rfl dX9_valueOf_94 ?_
          refine g_iload_n (pc := 97) (q := 1) hC dX9_valueOf_97 rfl rfl ?_
          refine g_iald (pc := 98) hC 12 rfl (by decide) dX9_valueOf_98 ?_
          exact g_iret (pc := 99) hC dX9_valueOf_99
        · refine gT_if (fun c104 => ?_) (fun c104 => ?_)
          · refine g_tabIn (tgt := 100) (off := 99) hC dX9_valueOf_1 c104 (by decide) (by decide) (by decide) (by decide) ?_
            refine g_aload_n (pc := 100) (q := 0) hC dX9_valueOf_100 rfl rfl ?_
            refine g_get (pc := 101) (v := .ref (G.2.1 1)) hC kX9 rfl 0 (by decide) fl_RX9_10 rfl dX9_valueOf_101 ?_
            refine g_get (pc := 104) (v := .ref (G.2.1 7)) hC kX8 rfl 7 (by decide) fl_RX9_430 rfl dX9_valueOf_104 ?_
            refine g_iload_n (pc := 107) (q := 1) hC dX9_valueOf_107 rfl rfl ?_
            refine g_iald (pc := 108) hC 12 rfl (by decide) dX9_valueOf_108 ?_
            exact g_iret (pc := 109) hC dX9_valueOf_109
          · refine gT_if (fun c105 => ?_) (fun c105 => ?_)
            · refine g_tabIn (tgt := 110) (off := 109) hC dX9_valueOf_1 c105 (by decide) (by decide) (by decide) (by decide) ?_
              refine g_aload_n (pc := 110) (q := 0) hC dX9_valueOf_110 rfl rfl ?_
              refine g_get (pc := 111) (v := .ref (G.2.1 8)) hC kX9 rfl 1 (by decide) fl_RX9_19 rfl dX9_valueOf_111 ?_
              refine g_get (pc := 114) (v := .int (σ.1 8 0)) hC kX5 rfl 0 (by decide) fl_RX9_193 rfl dX9_valueOf_114 ?_
              exact g_iret (pc := 117) hC dX9_valueOf_117
            · refine gT_if (fun c106 => ?_) (fun c106 => ?_)
              · refine g_tabIn (tgt := 118) (off := 117) hC dX9_valueOf_1 c106 (by decide) (by decide) (by decide) (by decide) ?_
                refine g_aload_n (pc := 118) (q := 0) hC dX9_valueOf_118 rfl rfl ?_
                refine g_get (pc := 119) (v := .ref (G.2.1 8)) hC kX9 rfl 1 (by decide) fl_RX9_19 rfl dX9_valueOf_119 ?_
                refine g_get (pc := 122) (v := .int (σ.1 8 1)) hC kX5 rfl 1 (by decide) fl_RX9_266 rfl dX9_valueOf_122 ?_
                exact g_iret (pc := 125) hC dX9_valueOf_125
              · refine gT_if (fun c107 => ?_) (fun c107 => ?_)
                · refine g_tabIn (tgt := 126) (off := 125) hC dX9_valueOf_1 c107 (by decide) (by decide) (by decide) (by decide) ?_
                  refine g_aload_n (pc := 126) (q := 0) hC dX9_valueOf_126 rfl rfl ?_
                  refine g_get (pc := 127) (v := .ref (G.2.1 8)) hC kX9 rfl 1 (by decide) fl_RX9_19 rfl dX9_valueOf_127 ?_
                  refine g_get (pc := 130) (v := .int (σ.1 8 2)) hC kX5 rfl 2 (by decide) fl_RX9_433 rfl dX9_valueOf_130 ?_
                  exact g_iret (pc := 133) hC dX9_valueOf_133
                · refine gT_if (fun c108 => ?_) (fun c108 => ?_)
                  · refine g_tabIn (tgt := 134) (off := 133) hC dX9_valueOf_1 c108 (by decide) (by decide) (by decide) (by decide) ?_
                    refine g_aload_n (pc := 134) (q := 0) hC dX9_valueOf_134 rfl rfl ?_
                    refine g_get (pc := 135) (v := .ref (G.2.1 8)) hC kX9 rfl 1 (by decide) fl_RX9_19 rfl dX9_valueOf_135 ?_
                    refine g_get (pc := 138) (v := .int (σ.1 8 3)) hC kX5 rfl 3 (by decide) fl_RX9_436 rfl dX9_valueOf_138 ?_
                    exact g_iret (pc := 141) hC dX9_valueOf_141
                  · refine gT_if (fun c109 => ?_) (fun c109 => ?_)
                    · refine g_tabIn (tgt := 142) (off := 141) hC dX9_valueOf_1 c109 (by decide) (by decide) (by decide) (by decide) ?_
                      refine g_aload_n (pc := 142) (q := 0) hC dX9_valueOf_142 rfl rfl ?_
                      refine g_get (pc := 143) (v := .ref (G.2.1 8)) hC kX9 rfl 1 (by decide) fl_RX9_19 rfl dX9_valueOf_143 ?_
                      refine g_get (pc := 146) (v := .int (σ.1 8 4)) hC kX5 rfl 4 (by decide) fl_RX9_153 rfl dX9_valueOf_146 ?_
                      exact g_iret (pc := 149) hC dX9_valueOf_149
                    · refine gT_if (fun c110 => ?_) (fun c110 => ?_)
                      · refine g_tabIn (tgt := 150) (off := 149) hC dX9_valueOf_1 c110 (by decide) (by decide) (by decide) (by decide) ?_
                        refine g_aload_n (pc := 150) (q := 0) hC dX9_valueOf_150 rfl rfl ?_
                        refine g_get (pc := 151) (v := .ref (G.2.1 1)) hC kX9 rfl 0 (by decide) fl_RX9_10 rfl dX9_valueOf_151 ?_
                        refine g_get (pc := 154) (v := .ref (G.2.1 4)) hC kX8 rfl 4 (by decide) fl_RX9_439 rfl dX9_valueOf_154 ?_
                        refine g_iload_n (pc := 157) (q := 1) hC dX9_valueOf_157 rfl rfl ?_
                        refine g_iald (pc := 158) hC 12 rfl (by decide) dX9_valueOf_158 ?_
                        exact g_iret (pc := 159) hC dX9_valueOf_159
                      · refine g_tabOut (tgt := 160) hC dX9_valueOf_1 (by have q0 := gne c100 (n := 0) rfl; have q1 := gne c101 (n := 1) rfl; have q2 := gne c102 (n := 2) rfl; have q3 := gne c103 (n := 3) rfl; have q4 := gne c104 (n := 4) rfl; have q5 := gne c105 (n := 5) rfl; have q6 := gne c106 (n := 6) rfl; have q7 := gne c107 (n := 7) rfl; have q8 := gne c108 (n := 8) rfl; have q9 := gne c109 (n := 9) rfl; have q10 := gne c110 (n := 10) rfl; omega) (by decide) ?_
                        refine g_iconst (pc := 160) (v := (-1)) hC dX9_valueOf_160 (by decide) ?_
                        exact g_iret (pc := 161) hC dX9_valueOf_161
theorem dX9_setValue_0 : decode cX9_setValue 0 = .ok (.iload_n 2, 1) := by decide +kernel
theorem dX9_setValue_1 : decode cX9_setValue 1 = .ok (.tableswitch 175 0 9 #[55, 68, 81, 94, 107, 120, 131, 142, 153, 164], 55) := by decide +kernel
theorem dX9_setValue_56 : decode cX9_setValue 56 = .ok (.aload_n 0, 1) := by decide +kernel
theorem dX9_setValue_57 : decode cX9_setValue 57 = .ok (.getfield 10, 3) := by decide +kernel
theorem dX9_setValue_60 : decode cX9_setValue 60 = .ok (.getfield 418, 3) := by decide +kernel
theorem dX9_setValue_63 : decode cX9_setValue 63 = .ok (.iload_n 1, 1) := by decide +kernel
theorem dX9_setValue_64 : decode cX9_setValue 64 = .ok (.iload_n 3, 1) := by decide +kernel
theorem dX9_setValue_65 : decode cX9_setValue 65 = .ok (.iastore, 1) := by decide +kernel
theorem dX9_setValue_66 : decode cX9_setValue 66 = .ok (.goto 110, 3) := by decide +kernel
theorem dX9_setValue_69 : decode cX9_setValue 69 = .ok (.aload_n 0, 1) := by decide +kernel
theorem dX9_setValue_70 : decode cX9_setValue 70 = .ok (.getfield 10, 3) := by decide +kernel
theorem dX9_setValue_73 : decode cX9_setValue 73 = .ok (.getfield 421, 3) := by decide +kernel
theorem dX9_setValue_76 : decode cX9_setValue 76 = .ok (.iload_n 1, 1) := by decide +kernel
theorem dX9_setValue_77 : decode cX9_setValue 77 = .ok (.iload_n 3, 1) := by decide +kernel
theorem dX9_setValue_78 : decode cX9_setValue 78 = .ok (.iastore, 1) := by decide +kernel
theorem dX9_setValue_79 : decode cX9_setValue 79 = .ok (.goto 97, 3) := by decide +kernel
theorem dX9_setValue_82 : decode cX9_setValue 82 = .ok (.aload_n 0, 1) := by decide +kernel
theorem dX9_setValue_83 : decode cX9_setValue 83 = .ok (.getfield 10, 3) := by decide +kernel
theorem dX9_setValue_86 : decode cX9_setValue 86 = .ok (.getfield 424, 3) := by decide +kernel
theorem dX9_setValue_89 : decode cX9_setValue 89 = .ok (.iload_n 1, 1) := by decide +kernel
theorem dX9_setValue_90 : decode cX9_setValue 90 = .ok (.iload_n 3, 1) := by decide +kernel
theorem dX9_setValue_91 : decode cX9_setValue 91 = .ok (.iastore, 1) := by decide +kernel
theorem dX9_setValue_92 : decode cX9_setValue 92 = .ok (.goto 84, 3) := by decide +kernel
theorem dX9_setValue_95 : decode cX9_setValue 95 = .ok (.aload_n 0, 1) := by decide +kernel
theorem dX9_setValue_96 : decode cX9_setValue 96 = .ok (.getfield 10, 3) := by decide +kernel
theorem dX9_setValue_99 : decode cX9_setValue 99 = .ok (.getfield 427, 3) := by decide +kernel
theorem dX9_setValue_102 : decode cX9_setValue 102 = .ok (.iload_n 1, 1) := by decide +kernel
theorem dX9_setValue_103 : decode cX9_setValue 103 = .ok (.iload_n 3, 1) := by decide +kernel
theorem dX9_setValue_104 : decode cX9_setValue 104 = .ok (.iastore, 1) := by decide +kernel
theorem dX9_setValue_105 : decode cX9_setValue 105 = .ok (.goto 71, 3) := by decide +kernel
theorem dX9_setValue_108 : decode cX9_setValue 108 = .ok (.aload_n 0, 1) := by decide +kernel
theorem dX9_setValue_109 : decode cX9_setValue 109 = .ok (.getfield 10, 3) := by decide +kernel
theorem dX9_setValue_112 : decode cX9_setValue 112 = .ok (.getfield 430, 3) := by decide +kernel
theorem dX9_setValue_115 : decode cX9_setValue 115 = .ok (.iload_n 1, 1) := by decide +kernel
theorem dX9_setValue_116 : decode cX9_setValue 116 = .ok (.iload_n 3, 1) := by decide +kernel
theorem dX9_setValue_117 : decode cX9_setValue 117 = .ok (.iastore, 1) := by decide +kernel
theorem dX9_setValue_118 : decode cX9_setValue 118 = .ok (.goto 58, 3) := by decide +kernel
theorem dX9_setValue_121 : decode cX9_setValue 121 = .ok (.aload_n 0, 1) := by decide +kernel
theorem dX9_setValue_122 : decode cX9_setValue 122 = .ok (.getfield 19, 3) := by decide +kernel
theorem dX9_setValue_125 : decode cX9_setValue 125 = .ok (.iload_n 3, 1) := by decide +kernel
theorem dX9_setValue_126 : decode cX9_setValue 126 = .ok (.putfield 193, 3) := by decide +kernel
theorem dX9_setValue_129 : decode cX9_setValue 129 = .ok (.goto 47, 3) := by decide +kernel
theorem dX9_setValue_132 : decode cX9_setValue 132 = .ok (.aload_n 0, 1) := by decide +kernel
theorem dX9_setValue_133 : decode cX9_setValue 133 = .ok (.getfield 19, 3) := by decide +kernel
theorem dX9_setValue_136 : decode cX9_setValue 136 = .ok (.iload_n 3, 1) := by decide +kernel
theorem dX9_setValue_137 : decode cX9_setValue 137 = .ok (.putfield 266, 3) := by decide +kernel
theorem dX9_setValue_140 : decode cX9_setValue 140 = .ok (.goto 36, 3) := by decide +kernel
theorem dX9_setValue_143 : decode cX9_setValue 143 = .ok (.aload_n 0, 1) := by decide +kernel
theorem dX9_setValue_144 : decode cX9_setValue 144 = .ok (.getfield 19, 3) := by decide +kernel
theorem dX9_setValue_147 : decode cX9_setValue 147 = .ok (.iload_n 3, 1) := by decide +kernel
theorem dX9_setValue_148 : decode cX9_setValue 148 = .ok (.putfield 433, 3) := by decide +kernel
theorem dX9_setValue_151 : decode cX9_setValue 151 = .ok (.goto 25, 3) := by decide +kernel
theorem dX9_setValue_154 : decode cX9_setValue 154 = .ok (.aload_n 0, 1) := by decide +kernel
theorem dX9_setValue_155 : decode cX9_setValue 155 = .ok (.getfield 19, 3) := by decide +kernel
theorem dX9_setValue_158 : decode cX9_setValue 158 = .ok (.iload_n 3, 1) := by decide +kernel
theorem dX9_setValue_159 : decode cX9_setValue 159 = .ok (.putfield 436, 3) := by decide +kernel
theorem dX9_setValue_162 : decode cX9_setValue 162 = .ok (.goto 14, 3) := by decide +kernel
theorem dX9_setValue_165 : decode cX9_setValue 165 = .ok (.aload_n 0, 1) := by decide +kernel
theorem dX9_setValue_166 : decode cX9_setValue 166 = .ok (.getfield 19, 3) := by decide +kernel
theorem dX9_setValue_169 : decode cX9_setValue 169 = .ok (.iload_n 3, 1) := by decide +kernel
theorem dX9_setValue_170 : decode cX9_setValue 170 = .ok (.putfield 153, 3) := by decide +kernel
theorem dX9_setValue_173 : decode cX9_setValue 173 = .ok (.goto 3, 3) := by decide +kernel
theorem dX9_setValue_176 : decode cX9_setValue 176 = .ok (.return_, 1) := by decide +kernel
abbrev rX9_setValue : Room := { frames := 0, cells := 0, slots := 0, locals := 0 }
def mX9_setValue (σ : gS) (p0 : Int32) (p1 : Int32) (p2 : Int32) : Option (Unit × gS) := if p1 = 0 then (if inbB p0 6 = true then gLet (gUI σ 2 (Int32.toNatClampNeg p0) p2) (fun s1 => some ((), s1)) else none) else (if p1 = 1 then (if inbB p0 6 = true then gLet (gUI σ 3 (Int32.toNatClampNeg p0) p2) (fun s2 => some ((), s2)) else none) else (if p1 = 2 then (if inbB p0 12 = true then gLet (gUI σ 5 (Int32.toNatClampNeg p0) p2) (fun s3 => some ((), s3)) else none) else (if p1 = 3 then (if inbB p0 12 = true then gLet (gUI σ 6 (Int32.toNatClampNeg p0) p2) (fun s4 => some ((), s4)) else none) else (if p1 = 4 then (if inbB p0 12 = true then gLet (gUI σ 7 (Int32.toNatClampNeg p0) p2) (fun s5 => some ((), s5)) else none) else (if p1 = 5 then (gLet (gUI σ 8 0 p2) (fun s6 => some ((), s6))) else (if p1 = 6 then (gLet (gUI σ 8 1 p2) (fun s7 => some ((), s7))) else (if p1 = 7 then (gLet (gUI σ 8 2 p2) (fun s8 => some ((), s8))) else (if p1 = 8 then (gLet (gUI σ 8 3 p2) (fun s9 => some ((), s9))) else (if p1 = 9 then (gLet (gUI σ 8 4 p2) (fun s10 => some ((), s10))) else (some ((), σ)))))))))))
set_option maxHeartbeats 4000000 in
set_option maxRecDepth 100000 in
theorem tX9_setValue (l : Launch) (G : gE) (σ : gS) (p0 : Int32) (p1 : Int32) (p2 : Int32) : gM l G yX9_setValue cX9_setValue 4 (none) rX9_setValue iV [.ref (G.2.1 0), .int p0, .int p1, .int p2] σ (mX9_setValue σ p0 p1 p2) := by
  refine gM_of (by decide) (Nat.le_of_ble_eq_true rfl) ?_
  intro p e s m args below meth c hC
  unfold mX9_setValue
  show gT p l e rX9_setValue s m args below meth c G 4 iV σ 0 [(0, .ref (G.2.1 0)), (1, .int p0), (2, .int p1), (3, .int p2)] [] _
  refine g_iload_n (pc := 0) (q := 2) hC dX9_setValue_0 rfl rfl ?_
  refine gT_if (fun c100 => ?_) (fun c100 => ?_)
  · refine g_tabIn (tgt := 56) (off := 55) hC dX9_setValue_1 c100 (by decide) (by decide) (by decide) (by decide) ?_
    refine g_aload_n (pc := 56) (q := 0) hC dX9_setValue_56 rfl rfl ?_
    refine g_get (pc := 57) (v := .ref (G.2.1 1)) hC kX9 rfl 0 (by decide) fl_RX9_10 rfl dX9_setValue_57 ?_
    refine g_get (pc := 60) (v := .ref (G.2.1 2)) hC kX8 rfl 1 (by decide) fl_RX9_418 rfl dX9_setValue_60 ?_
    refine g_iload_n (pc := 63) (q := 1) hC dX9_setValue_63 rfl rfl ?_
    refine g_iload_n (pc := 64) (q := 3) hC dX9_setValue_64 rfl rfl ?_
    refine g_iast (pc := 65) hC 6 rfl (by decide) dX9_setValue_65 (fun s1 => ?_)
    refine g_goto (pc := 66) (tgt := 176) hC dX9_setValue_66 (by decide) ?_
    exact g_vret (pc := 176) hC dX9_setValue_176
  · refine gT_if (fun c101 => ?_) (fun c101 => ?_)
    · refine g_tabIn (tgt := 69) (off := 68) hC dX9_setValue_1 c101 (by decide) (by decide) (by decide) (by decide) ?_
      refine g_aload_n (pc := 69) (q := 0) hC dX9_setValue_69 rfl rfl ?_
      refine g_get (pc := 70) (v := .ref (G.2.1 1)) hC kX9 rfl 0 (by decide) fl_RX9_10 rfl dX9_setValue_70 ?_
      refine g_get (pc := 73) (v := .ref (G.2.1 3)) hC kX8 rfl 2 (by decide) fl_RX9_421 rfl dX9_setValue_73 ?_
      refine g_iload_n (pc := 76) (q := 1) hC dX9_setValue_76 rfl rfl ?_
      refine g_iload_n (pc := 77) (q := 3) hC dX9_setValue_77 rfl rfl ?_
      refine g_iast (pc := 78) hC 6 rfl (by decide) dX9_setValue_78 (fun s2 => ?_)
      refine g_goto (pc := 79) (tgt := 176) hC dX9_setValue_79 (by decide) ?_
      exact g_vret (pc := 176) hC dX9_setValue_176
    · refine gT_if (fun c102 => ?_) (fun c102 => ?_)
      · refine g_tabIn (tgt := 82) (off := 81) hC dX9_setValue_1 c102 (by decide) (by decide) (by decide) (by decide) ?_
        refine g_aload_n (pc := 82) (q := 0) hC dX9_setValue_82 rfl rfl ?_
        refine g_get (pc := 83) (v := .ref (G.2.1 1)) hC kX9 rfl 0 (by decide) fl_RX9_10 rfl dX9_setValue_83 ?_
        refine g_get (pc := 86) (v := .ref (G.2.1 5)) hC kX8 rfl 5 (by decide) fl_RX9_424 rfl dX9_setValue_86 ?_
        refine g_iload_n (pc := 89) (q := 1) hC dX9_setValue_89 rfl rfl ?_
        refine g_iload_n (pc := 90) (q := 3) hC dX9_setValue_90 rfl rfl ?_
        refine g_iast (pc := 91) hC 12 rfl (by decide) dX9_setValue_91 (fun s3 => ?_)
        refine g_goto (pc := 92) (tgt := 176) hC dX9_setValue_92 (by decide) ?_
        exact g_vret (pc := 176) hC dX9_setValue_176
      · refine gT_if (fun c103 => ?_) (fun c103 => ?_)
        · refine g_tabIn (tgt := 95) (off := 94) hC dX9_setValue_1 c103 (by decide) (by decide) (by decide) (by decide) ?_
          refine g_aload_n (pc := 95) (q := 0) hC dX9_setValue_95 rfl rfl ?_
          refine g_get (pc := 96) (v := .ref (G.2.1 1)) hC kX9 rfl 0 (by decide) fl_RX9_10 rfl dX9_setValue_96 ?_
          refine g_get (pc := 99) (v := .ref (G.2.1 6)) hC kX8 rfl 6 (by decide) fl_RX9_427 rfl dX9_setValue_99 ?_
          refine g_iload_n (pc := 102) (q := 1) hC dX9_setValue_102 rfl rfl ?_
          refine g_iload_n (pc := 103) (q := 3) hC dX9_setValue_103 rfl rfl ?_
          refine g_iast (pc := 104) hC 12 rfl (by decide) dX9_setValue_104 (fun s4 => ?_)
          refine g_goto (pc := 105) (tgt := 176) hC dX9_setValue_105 (by decide) ?_
          exact g_vret (pc := 176) hC dX9_setValue_176
        · refine gT_if (fun c104 => ?_) (fun c104 => ?_)
          · refine g_tabIn (tgt := 108) (off := 107) hC dX9_setValue_1 c104 (by decide) (by decide) (by decide) (by decide) ?_
            refine g_aload_n (pc := 108) (q := 0) hC dX9_setValue_108 rfl rfl ?_
            refine g_get (pc := 109) (v := .ref (G.2.1 1)) hC kX9 rfl 0 (by decide) fl_RX9_10 rfl dX9_setValue_109 ?_
            refine g_get (pc := 112) (v := .ref (G.2.1 7)) hC kX8 rfl 7 (by decide) fl_RX9_430 rfl dX9_setValue_112 ?_
            refine g_iload_n (pc := 115) (q := 1) hC dX9_setValue_115 rfl rfl ?_
            refine g_iload_n (pc := 116) (q := 3) hC dX9_setValue_116 rfl rfl ?_
            refine g_iast (pc := 117) hC 12 rfl (by decide) dX9_setValue_117 (fun s5 => ?_)
            refine g_goto (pc := 118) (tgt := 176) hC dX9_setValue_118 (by decide) ?_
            exact g_vret (pc := 176) hC dX9_setValue_176
          · refine gT_if (fun c105 => ?_) (fun c105 => ?_)
            · refine g_tabIn (tgt := 121) (off := 120) hC dX9_setValue_1 c105 (by decide) (by decide) (by decide) (by decide) ?_
              refine g_aload_n (pc := 121) (q := 0) hC dX9_setValue_121 rfl rfl ?_
              refine g_get (pc := 122) (v := .ref (G.2.1 8)) hC kX9 rfl 1 (by decide) fl_RX9_19 rfl dX9_setValue_122 ?_
              refine g_iload_n (pc := 125) (q := 3) hC dX9_setValue_125 rfl rfl ?_
              refine g_puti (pc := 126) (fty := .int) hC kX5 rfl 0 (by decide) fl_RX9_193 rfl rfl rfl rfl (fun _ _ => Nat.le_of_ble_eq_true rfl) (fun _ _ => rfl) dX9_setValue_126 (fun s6 => ?_)
              refine g_goto (pc := 129) (tgt := 176) hC dX9_setValue_129 (by decide) ?_
              exact g_vret (pc := 176) hC dX9_setValue_176
            · refine gT_if (fun c106 => ?_) (fun c106 => ?_)
              · refine g_tabIn (tgt := 132) (off := 131) hC dX9_setValue_1 c106 (by decide) (by decide) (by decide) (by decide) ?_
                refine g_aload_n (pc := 132) (q := 0) hC dX9_setValue_132 rfl rfl ?_
                refine g_get (pc := 133) (v := .ref (G.2.1 8)) hC kX9 rfl 1 (by decide) fl_RX9_19 rfl dX9_setValue_133 ?_
                refine g_iload_n (pc := 136) (q := 3) hC dX9_setValue_136 rfl rfl ?_
                refine g_puti (pc := 137) (fty := .int) hC kX5 rfl 1 (by decide) fl_RX9_266 rfl rfl rfl rfl (fun _ _ => Nat.le_of_ble_eq_true rfl) (fun _ _ => rfl) dX9_setValue_137 (fun s7 => ?_)
                refine g_goto (pc := 140) (tgt := 176) hC dX9_setValue_140 (by decide) ?_
                exact g_vret (pc := 176) hC dX9_setValue_176
              · refine gT_if (fun c107 => ?_) (fun c107 => ?_)
                · refine g_tabIn (tgt := 143) (off := 142) hC dX9_setValue_1 c107 (by decide) (by decide) (by decide) (by decide) ?_
                  refine g_aload_n (pc := 143) (q := 0) hC dX9_setValue_143 rfl rfl ?_
                  refine g_get (pc := 144) (v := .ref (G.2.1 8)) hC kX9 rfl 1 (by decide) fl_RX9_19 rfl dX9_setValue_144 ?_
                  refine g_iload_n (pc := 147) (q := 3) hC dX9_setValue_147 rfl rfl ?_
                  refine g_puti (pc := 148) (fty := .int) hC kX5 rfl 2 (by decide) fl_RX9_433 rfl rfl rfl rfl (fun _ _ => Nat.le_of_ble_eq_true rfl) (fun _ _ => rfl) dX9_setValue_148 (fun s8 => ?_)
                  refine g_goto (pc := 151) (tgt := 176) hC dX9_setValue_151 (by decide) ?_
                  exact g_vret (pc := 176) hC dX9_setValue_176
                · refine gT_if (fun c108 => ?_) (fun c108 => ?_)
                  · refine g_tabIn (tgt := 154) (off := 153) hC dX9_setValue_1 c108 (by decide) (by decide) (by decide) (by decide) ?_
                    refine g_aload_n (pc := 154) (q := 0) hC dX9_setValue_154 rfl rfl ?_
                    refine g_get (pc := 155) (v := .ref (G.2.1 8)) hC kX9 rfl 1 (by decide) fl_RX9_19 rfl dX9_setValue_155 ?_
                    refine g_iload_n (pc := 158) (q := 3) hC dX9_setValue_158 rfl rfl ?_
                    refine g_puti (pc := 159) (fty := .int) hC kX5 rfl 3 (by decide) fl_RX9_436 rfl rfl rfl rfl (fun _ _ => Nat.le_of_ble_eq_true rfl) (fun _ _ => rfl) dX9_setValue_159 (fun s9 => ?_)
                    refine g_goto (pc := 162) (tgt := 176) hC dX9_setValue_162 (by decide) ?_
                    exact g_vret (pc := 176) hC dX9_setValue_176
                  · refine gT_if (fun c109 => ?_) (fun c109 => ?_)
                    · refine g_tabIn (tgt := 165) (off := 164) hC dX9_setValue_1 c109 (by decide) (by decide) (by decide) (by decide) ?_
                      refine g_aload_n (pc := 165) (q := 0) hC dX9_setValue_165 rfl rfl ?_
                      refine g_get (pc := 166) (v := .ref (G.2.1 8)) hC kX9 rfl 1 (by decide) fl_RX9_19 rfl dX9_setValue_166 ?_
                      refine g_iload_n (pc := 169) (q := 3) hC dX9_setValue_169 rfl rfl ?_
                      refine g_puti (pc := 170) (fty := .int) hC kX5 rfl 4 (by decide) fl_RX9_153 rfl rfl rfl rfl (fun _ _ => Nat.le_of_ble_eq_true rfl) (fun _ _ => rfl) dX9_setValue_170 (fun s10 => ?_)
                      refine g_goto (pc := 173) (tgt := 176) hC dX9_setValue_173 (by decide) ?_
                      exact g_vret (pc := 176) hC dX9_setValue_176
                    · refine g_tabOut (tgt := 176) hC dX9_setValue_1 (by have q0 := gne c100 (n := 0) rfl; have q1 := gne c101 (n := 1) rfl; have q2 := gne c102 (n := 2) rfl; have q3 := gne c103 (n := 3) rfl; have q4 := gne c104 (n := 4) rfl; have q5 := gne c105 (n := 5) rfl; have q6 := gne c106 (n := 6) rfl; have q7 := gne c107 (n := 7) rfl; have q8 := gne c108 (n := 8) rfl; have q9 := gne c109 (n := 9) rfl; omega) (by decide) ?_
                      exact g_vret (pc := 176) hC dX9_setValue_176
theorem fl_RX9_380 : Cond.fieldLink RX9 380 "WinterShed$Shelf" "cells" "[J" ∈ gBig := (gBig_tab 314 (by decide +kernel) (by decide +kernel))
theorem lk_RX9_114 : gLV RX9 114 RX8 yX8_addWant cX8_addWant 5 (some .int) 4 := ⟨(gBig_tab 406 (by decide +kernel) (by decide +kernel)), (gBig_tab 407 (by decide +kernel) (by decide +kernel)), (gBig_tab 408 (by decide +kernel) (by decide +kernel)), (gBig_tab 2 (by decide +kernel) (by decide +kernel)), (gBig_tab 409 (by decide +kernel) (by decide +kernel)), rfl, by decide +kernel, by decide +kernel, by decide +kernel⟩
theorem lk_RX9_110 : gLV RX9 110 RX8 yX8_mayWant cX8_mayWant 5 (some .boolean) 4 := ⟨(gBig_tab 395 (by decide +kernel) (by decide +kernel)), (gBig_tab 396 (by decide +kernel) (by decide +kernel)), (gBig_tab 397 (by decide +kernel) (by decide +kernel)), (gBig_tab 2 (by decide +kernel) (by decide +kernel)), (gBig_tab 398 (by decide +kernel) (by decide +kernel)), rfl, by decide +kernel, by decide +kernel, by decide +kernel⟩
theorem dX9_wantsFromRow_0 : decode cX9_wantsFromRow 0 = .ok (.iconst 0, 1) := by decide +kernel
theorem dX9_wantsFromRow_1 : decode cX9_wantsFromRow 1 = .ok (.istore 4, 2) := by decide +kernel
theorem dX9_wantsFromRow_3 : decode cX9_wantsFromRow 3 = .ok (.iconst 0, 1) := by decide +kernel
theorem dX9_wantsFromRow_4 : decode cX9_wantsFromRow 4 = .ok (.istore 5, 2) := by decide +kernel
theorem dX9_wantsFromRow_6 : decode cX9_wantsFromRow 6 = .ok (.iload 5, 2) := by decide +kernel
theorem dX9_wantsFromRow_8 : decode cX9_wantsFromRow 8 = .ok (.iload_n 3, 1) := by decide +kernel
theorem dX9_wantsFromRow_9 : decode cX9_wantsFromRow 9 = .ok (.if_icmp .ge 120, 3) := by decide +kernel
theorem dX9_wantsFromRow_12 : decode cX9_wantsFromRow 12 = .ok (.iload_n 2, 1) := by decide +kernel
theorem dX9_wantsFromRow_13 : decode cX9_wantsFromRow 13 = .ok (.iconst 4, 1) := by decide +kernel
theorem dX9_wantsFromRow_14 : decode cX9_wantsFromRow 14 = .ok (.iload 5, 2) := by decide +kernel
theorem dX9_wantsFromRow_16 : decode cX9_wantsFromRow 16 = .ok (.imul, 1) := by decide +kernel
theorem dX9_wantsFromRow_17 : decode cX9_wantsFromRow 17 = .ok (.iadd, 1) := by decide +kernel
theorem dX9_wantsFromRow_18 : decode cX9_wantsFromRow 18 = .ok (.istore 6, 2) := by decide +kernel
theorem dX9_wantsFromRow_20 : decode cX9_wantsFromRow 20 = .ok (.aload_n 1, 1) := by decide +kernel
theorem dX9_wantsFromRow_21 : decode cX9_wantsFromRow 21 = .ok (.iload 6, 2) := by decide +kernel
theorem dX9_wantsFromRow_23 : decode cX9_wantsFromRow 23 = .ok (.iconst 4, 1) := by decide +kernel
theorem dX9_wantsFromRow_24 : decode cX9_wantsFromRow 24 = .ok (.invokevirtual 391, 3) := by decide +kernel
theorem dX9_wantsFromRow_27 : decode cX9_wantsFromRow 27 = .ok (.ifCond .ne 6, 3) := by decide +kernel
theorem dX9_wantsFromRow_30 : decode cX9_wantsFromRow 30 = .ok (.iload 4, 2) := by decide +kernel
theorem dX9_wantsFromRow_32 : decode cX9_wantsFromRow 32 = .ok (.ireturn, 1) := by decide +kernel
theorem dX9_wantsFromRow_33 : decode cX9_wantsFromRow 33 = .ok (.aload_n 1, 1) := by decide +kernel
theorem dX9_wantsFromRow_34 : decode cX9_wantsFromRow 34 = .ok (.getfield 380, 3) := by decide +kernel
theorem dX9_wantsFromRow_37 : decode cX9_wantsFromRow 37 = .ok (.iload 6, 2) := by decide +kernel
theorem dX9_wantsFromRow_39 : decode cX9_wantsFromRow 39 = .ok (.laload, 1) := by decide +kernel
theorem dX9_wantsFromRow_40 : decode cX9_wantsFromRow 40 = .ok (.l2i, 1) := by decide +kernel
theorem dX9_wantsFromRow_41 : decode cX9_wantsFromRow 41 = .ok (.istore 7, 2) := by decide +kernel
theorem dX9_wantsFromRow_43 : decode cX9_wantsFromRow 43 = .ok (.aload_n 1, 1) := by decide +kernel
theorem dX9_wantsFromRow_44 : decode cX9_wantsFromRow 44 = .ok (.getfield 380, 3) := by decide +kernel
theorem dX9_wantsFromRow_47 : decode cX9_wantsFromRow 47 = .ok (.iload 6, 2) := by decide +kernel
theorem dX9_wantsFromRow_49 : decode cX9_wantsFromRow 49 = .ok (.iconst 1, 1) := by decide +kernel
theorem dX9_wantsFromRow_50 : decode cX9_wantsFromRow 50 = .ok (.iadd, 1) := by decide +kernel
theorem dX9_wantsFromRow_51 : decode cX9_wantsFromRow 51 = .ok (.laload, 1) := by decide +kernel
theorem dX9_wantsFromRow_52 : decode cX9_wantsFromRow 52 = .ok (.l2i, 1) := by decide +kernel
theorem dX9_wantsFromRow_53 : decode cX9_wantsFromRow 53 = .ok (.istore 8, 2) := by decide +kernel
theorem dX9_wantsFromRow_55 : decode cX9_wantsFromRow 55 = .ok (.aload_n 1, 1) := by decide +kernel
theorem dX9_wantsFromRow_56 : decode cX9_wantsFromRow 56 = .ok (.getfield 380, 3) := by decide +kernel
theorem dX9_wantsFromRow_59 : decode cX9_wantsFromRow 59 = .ok (.iload 6, 2) := by decide +kernel
theorem dX9_wantsFromRow_61 : decode cX9_wantsFromRow 61 = .ok (.iconst 2, 1) := by decide +kernel
theorem dX9_wantsFromRow_62 : decode cX9_wantsFromRow 62 = .ok (.iadd, 1) := by decide +kernel
theorem dX9_wantsFromRow_63 : decode cX9_wantsFromRow 63 = .ok (.laload, 1) := by decide +kernel
theorem dX9_wantsFromRow_64 : decode cX9_wantsFromRow 64 = .ok (.l2i, 1) := by decide +kernel
theorem dX9_wantsFromRow_65 : decode cX9_wantsFromRow 65 = .ok (.istore 9, 2) := by decide +kernel
theorem dX9_wantsFromRow_67 : decode cX9_wantsFromRow 67 = .ok (.aload_n 1, 1) := by decide +kernel
theorem dX9_wantsFromRow_68 : decode cX9_wantsFromRow 68 = .ok (.getfield 380, 3) := by decide +kernel
theorem dX9_wantsFromRow_71 : decode cX9_wantsFromRow 71 = .ok (.iload 6, 2) := by decide +kernel
theorem dX9_wantsFromRow_73 : decode cX9_wantsFromRow 73 = .ok (.iconst 3, 1) := by decide +kernel
theorem dX9_wantsFromRow_74 : decode cX9_wantsFromRow 74 = .ok (.iadd, 1) := by decide +kernel
theorem dX9_wantsFromRow_75 : decode cX9_wantsFromRow 75 = .ok (.laload, 1) := by decide +kernel
theorem dX9_wantsFromRow_76 : decode cX9_wantsFromRow 76 = .ok (.l2i, 1) := by decide +kernel
theorem dX9_wantsFromRow_77 : decode cX9_wantsFromRow 77 = .ok (.istore 10, 2) := by decide +kernel
theorem dX9_wantsFromRow_79 : decode cX9_wantsFromRow 79 = .ok (.aload_n 0, 1) := by decide +kernel
theorem dX9_wantsFromRow_80 : decode cX9_wantsFromRow 80 = .ok (.getfield 10, 3) := by decide +kernel
theorem dX9_wantsFromRow_83 : decode cX9_wantsFromRow 83 = .ok (.iload 7, 2) := by decide +kernel
theorem dX9_wantsFromRow_85 : decode cX9_wantsFromRow 85 = .ok (.iload 8, 2) := by decide +kernel
theorem dX9_wantsFromRow_87 : decode cX9_wantsFromRow 87 = .ok (.iload 9, 2) := by decide +kernel
theorem dX9_wantsFromRow_89 : decode cX9_wantsFromRow 89 = .ok (.iload 10, 2) := by decide +kernel
theorem dX9_wantsFromRow_91 : decode cX9_wantsFromRow 91 = .ok (.invokevirtual 110, 3) := by decide +kernel
theorem dX9_wantsFromRow_94 : decode cX9_wantsFromRow 94 = .ok (.ifCond .eq 23, 3) := by decide +kernel
theorem dX9_wantsFromRow_97 : decode cX9_wantsFromRow 97 = .ok (.aload_n 0, 1) := by decide +kernel
theorem dX9_wantsFromRow_98 : decode cX9_wantsFromRow 98 = .ok (.getfield 10, 3) := by decide +kernel
theorem dX9_wantsFromRow_101 : decode cX9_wantsFromRow 101 = .ok (.iload 7, 2) := by decide +kernel
theorem dX9_wantsFromRow_103 : decode cX9_wantsFromRow 103 = .ok (.iload 8, 2) := by decide +kernel
theorem dX9_wantsFromRow_105 : decode cX9_wantsFromRow 105 = .ok (.iload 9, 2) := by decide +kernel
theorem dX9_wantsFromRow_107 : decode cX9_wantsFromRow 107 = .ok (.iload 10, 2) := by decide +kernel
theorem dX9_wantsFromRow_109 : decode cX9_wantsFromRow 109 = .ok (.invokevirtual 114, 3) := by decide +kernel
theorem dX9_wantsFromRow_112 : decode cX9_wantsFromRow 112 = .ok (.bipush (-3), 2) := by decide +kernel
theorem dX9_wantsFromRow_114 : decode cX9_wantsFromRow 114 = .ok (.if_icmp .ne 6, 3) := by decide +kernel
theorem dX9_wantsFromRow_117 : decode cX9_wantsFromRow 117 = .ok (.iload 4, 2) := by decide +kernel
theorem dX9_wantsFromRow_119 : decode cX9_wantsFromRow 119 = .ok (.ireturn, 1) := by decide +kernel
theorem dX9_wantsFromRow_120 : decode cX9_wantsFromRow 120 = .ok (.iinc 4 1, 3) := by decide +kernel
theorem dX9_wantsFromRow_123 : decode cX9_wantsFromRow 123 = .ok (.iinc 5 1, 3) := by decide +kernel
theorem dX9_wantsFromRow_126 : decode cX9_wantsFromRow 126 = .ok (.goto (-120), 3) := by decide +kernel
theorem dX9_wantsFromRow_129 : decode cX9_wantsFromRow 129 = .ok (.iload 4, 2) := by decide +kernel
theorem dX9_wantsFromRow_131 : decode cX9_wantsFromRow 131 = .ok (.ireturn, 1) := by decide +kernel
abbrev rX9_wantsFromRow : Room := { frames := 2, cells := 0, slots := 0, locals := 46 }
def mX9_wantsFromRow_b6  (q0 : Nat)  : Nat → gS → Int32 → Int32 → Int32 → Int32 → Option (Int32 × gS)
  | 0, _, _, _, _, _ => none
  | n + 1, σ, x3, x4, x5, x6 => if x4 ≤ x6 then (some (x5, σ)) else (gLet (x3 + (4 * x6)) (fun v7 => gBind (mX6_hasPlaces σ q0 v7 4) (fun r8 s9 => if r8 = true then (if inbB v7 60 = true then (gLet (Int64.toInt32 (s9.2.1 (q0 + 1) (Int32.toNatClampNeg v7))) (fun v10 => if inbB (v7 + 1) 60 = true then (gLet (Int64.toInt32 (s9.2.1 (q0 + 1) (Int32.toNatClampNeg (v7 + 1)))) (fun v11 => if inbB (v7 + 2) 60 = true then (gLet (Int64.toInt32 (s9.2.1 (q0 + 1) (Int32.toNatClampNeg (v7 + 2)))) (fun v12 => if inbB (v7 + 3) 60 = true then (gLet (Int64.toInt32 (s9.2.1 (q0 + 1) (Int32.toNatClampNeg (v7 + 3)))) (fun v13 => gBind (mX8_mayWant s9 v10 v11 v12 v13) (fun r14 s15 => if r14 = true then (gBind (mX8_addWant s15 v10 v11 v12 v13) (fun r16 s17 => if r16 = (-3) then (some (x5, s17)) else (gLet (x5 + 1) (fun v18 => gLet (x6 + 1) (fun v19 => ((mX9_wantsFromRow_b6 q0 n) s17 x3 x4 v18 v19)))))) else (some (x5, s15))))) else none)) else none)) else none)) else none) else (some (x5, s9)))))
set_option maxHeartbeats 4000000 in
set_option maxRecDepth 100000 in
theorem wX9_wantsFromRow_b6 {p : Program} {l : Launch} {e : Env} {s : State} {m : MethodId} {args : Array Value} {below : List Frame} {meth : Method} {c : Code} {G : gE} (hC : gCx p s m args meth c G RX9 cX9_wantsFromRow 11 (some .int))  (q0 : Nat) (hq0 : gk q0 = 6)  (n : Nat) (σ : gS) (x3 : Int32) (x4 : Int32) (x5 : Int32) (x6 : Int32)  : gT p l e rX9_wantsFromRow s m args below meth c G 11 iI σ 6 [(0, .ref (G.2.1 0)), (1, .ref (G.2.1 q0)), (2, .int x3), (3, .int x4), (4, .int x5), (5, .int x6)] [] (mX9_wantsFromRow_b6 q0 n σ x3 x4 x5 x6) := by
  induction n generalizing σ x3 x4 x5 x6 with
  | zero => exact gT_none
  | succ n ih =>
    unfold mX9_wantsFromRow_b6
    refine g_iload (pc := 6) (q := 5) hC dX9_wantsFromRow_6 rfl ?_
    refine g_iload_n (pc := 8) (q := 3) hC dX9_wantsFromRow_8 rfl rfl ?_
    refine g_icmp_ge (pc := 9) (tgt := 129) hC dX9_wantsFromRow_9 (by decide) ?_ ?_
    · refine g_iload (pc := 129) (q := 4) hC dX9_wantsFromRow_129 rfl ?_
      exact g_iret (pc := 131) hC dX9_wantsFromRow_131
    · refine g_iload_n (pc := 12) (q := 2) hC dX9_wantsFromRow_12 rfl rfl ?_
      refine g_iconst (pc := 13) (v := 4) hC dX9_wantsFromRow_13 (by decide) ?_
      refine g_iload (pc := 14) (q := 5) hC dX9_wantsFromRow_14 rfl ?_
      refine g_imul (pc := 16) hC dX9_wantsFromRow_16 ?_
      refine g_iadd (pc := 17) hC dX9_wantsFromRow_17 ?_
      refine g_istore (pc := 18) (lv' := fun v7 => [(6, .int v7), (0, .ref (G.2.1 0)), (1, .ref (G.2.1 q0)), (2, .int x3), (3, .int x4), (4, .int x5), (5, .int x6)]) hC dX9_wantsFromRow_18 (by decide) (fun _ => rfl) (fun v7 => ?_)
      refine g_aload_n (pc := 20) (q := 2) hC dX9_wantsFromRow_20 rfl rfl ?_
      refine g_iload (pc := 21) (q := 0) hC dX9_wantsFromRow_21 rfl ?_
      refine g_iconst (pc := 23) (v := 4) hC dX9_wantsFromRow_23 (by decide) ?_
      refine g_callVz (pc := 24) (As := [.int v7, .int 4]) (rest := []) hC lk_RX9_391 kX6 hq0 (tX6_hasPlaces _ _ σ q0 v7 4) rfl rfl (Nat.le_of_ble_eq_true rfl) ⟨rfl, rfl, Nat.le_of_ble_eq_true rfl, Nat.le_of_ble_eq_true rfl⟩ dX9_wantsFromRow_24 (fun r8 s9 => ?_)
      refine g_bif_ne (pc := 27) (tgt := 33) hC dX9_wantsFromRow_27 (by decide) ?_ ?_
      · refine g_aload_n (pc := 33) (q := 2) hC dX9_wantsFromRow_33 rfl rfl ?_
        refine g_get (pc := 34) (v := .ref (G.2.1 (q0 + 1))) hC kX6 hq0 4 (by decide) fl_RX9_380 rfl dX9_wantsFromRow_34 ?_
        refine g_iload (pc := 37) (q := 0) hC dX9_wantsFromRow_37 rfl ?_
        refine g_lald (pc := 39) hC 60 (ck_6_1 hq0) dX9_wantsFromRow_39 ?_
        refine g_l2i (pc := 40) hC dX9_wantsFromRow_40 ?_
        refine g_istore (pc := 41) (lv' := fun v10 => [(7, .int v10), (6, .int v7), (0, .ref (G.2.1 0)), (1, .ref (G.2.1 q0)), (2, .int x3), (3, .int x4), (4, .int x5), (5, .int x6)]) hC dX9_wantsFromRow_41 (by decide) (fun _ => rfl) (fun v10 => ?_)
        refine g_aload_n (pc := 43) (q := 3) hC dX9_wantsFromRow_43 rfl rfl ?_
        refine g_get (pc := 44) (v := .ref (G.2.1 (q0 + 1))) hC kX6 hq0 4 (by decide) fl_RX9_380 rfl dX9_wantsFromRow_44 ?_
        refine g_iload (pc := 47) (q := 1) hC dX9_wantsFromRow_47 rfl ?_
        refine g_iconst (pc := 49) (v := 1) hC dX9_wantsFromRow_49 (by decide) ?_
        refine g_iadd (pc := 50) hC dX9_wantsFromRow_50 ?_
        refine g_lald (pc := 51) hC 60 (ck_6_1 hq0) dX9_wantsFromRow_51 ?_
        refine g_l2i (pc := 52) hC dX9_wantsFromRow_52 ?_
        refine g_istore (pc := 53) (lv' := fun v11 => [(8, .int v11), (7, .int v10), (6, .int v7), (0, .ref (G.2.1 0)), (1, .ref (G.2.1 q0)), (2, .int x3), (3, .int x4), (4, .int x5), (5, .int x6)]) hC dX9_wantsFromRow_53 (by decide) (fun _ => rfl) (fun v11 => ?_)
        refine g_aload_n (pc := 55) (q := 4) hC dX9_wantsFromRow_55 rfl rfl ?_
        refine g_get (pc := 56) (v := .ref (G.2.1 (q0 + 1))) hC kX6 hq0 4 (by decide) fl_RX9_380 rfl dX9_wantsFromRow_56 ?_
        refine g_iload (pc := 59) (q := 2) hC dX9_wantsFromRow_59 rfl ?_
        refine g_iconst (pc := 61) (v := 2) hC dX9_wantsFromRow_61 (by decide) ?_
        refine g_iadd (pc := 62) hC dX9_wantsFromRow_62 ?_
        refine g_lald (pc := 63) hC 60 (ck_6_1 hq0) dX9_wantsFromRow_63 ?_
        refine g_l2i (pc := 64) hC dX9_wantsFromRow_64 ?_
        refine g_istore (pc := 65) (lv' := fun v12 => [(9, .int v12), (8, .int v11), (7, .int v10), (6, .int v7), (0, .ref (G.2.1 0)), (1, .ref (G.2.1 q0)), (2, .int x3), (3, .int x4), (4, .int x5), (5, .int x6)]) hC dX9_wantsFromRow_65 (by decide) (fun _ => rfl) (fun v12 => ?_)
        refine g_aload_n (pc := 67) (q := 5) hC dX9_wantsFromRow_67 rfl rfl ?_
        refine g_get (pc := 68) (v := .ref (G.2.1 (q0 + 1))) hC kX6 hq0 4 (by decide) fl_RX9_380 rfl dX9_wantsFromRow_68 ?_
        refine g_iload (pc := 71) (q := 3) hC dX9_wantsFromRow_71 rfl ?_
        refine g_iconst (pc := 73) (v := 3) hC dX9_wantsFromRow_73 (by decide) ?_
        refine g_iadd (pc := 74) hC dX9_wantsFromRow_74 ?_
        refine g_lald (pc := 75) hC 60 (ck_6_1 hq0) dX9_wantsFromRow_75 ?_
        refine g_l2i (pc := 76) hC dX9_wantsFromRow_76 ?_
        refine g_istore (pc := 77) (lv' := fun v13 => [(10, .int v13), (9, .int v12), (8, .int v11), (7, .int v10), (6, .int v7), (0, .ref (G.2.1 0)), (1, .ref (G.2.1 q0)), (2, .int x3), (3, .int x4), (4, .int x5), (5, .int x6)]) hC dX9_wantsFromRow_77 (by decide) (fun _ => rfl) (fun v13 => ?_)
        refine g_aload_n (pc := 79) (q := 5) hC dX9_wantsFromRow_79 rfl rfl ?_
        refine g_get (pc := 80) (v := .ref (G.2.1 1)) hC kX9 rfl 0 (by decide) fl_RX9_10 rfl dX9_wantsFromRow_80 ?_
        refine g_iload (pc := 83) (q := 3) hC dX9_wantsFromRow_83 rfl ?_
        refine g_iload (pc := 85) (q := 2) hC dX9_wantsFromRow_85 rfl ?_
        refine g_iload (pc := 87) (q := 1) hC dX9_wantsFromRow_87 rfl ?_
        refine g_iload (pc := 89) (q := 0) hC dX9_wantsFromRow_89 rfl ?_
        refine g_callVz (pc := 91) (As := [.int v10, .int v11, .int v12, .int v13]) (rest := []) hC lk_RX9_110 kX8 rfl (tX8_mayWant _ _ s9 v10 v11 v12 v13) rfl rfl (Nat.le_of_ble_eq_true rfl) ⟨rfl, rfl, Nat.le_of_ble_eq_true rfl, Nat.le_of_ble_eq_true rfl⟩ dX9_wantsFromRow_91 (fun r14 s15 => ?_)
        refine g_bif_eq (pc := 94) (tgt := 117) hC dX9_wantsFromRow_94 (by decide) ?_ ?_
        · refine g_iload (pc := 117) (q := 9) hC dX9_wantsFromRow_117 rfl ?_
          exact g_iret (pc := 119) hC dX9_wantsFromRow_119
        · refine g_aload_n (pc := 97) (q := 5) hC dX9_wantsFromRow_97 rfl rfl ?_
          refine g_get (pc := 98) (v := .ref (G.2.1 1)) hC kX9 rfl 0 (by decide) fl_RX9_10 rfl dX9_wantsFromRow_98 ?_
          refine g_iload (pc := 101) (q := 3) hC dX9_wantsFromRow_101 rfl ?_
          refine g_iload (pc := 103) (q := 2) hC dX9_wantsFromRow_103 rfl ?_
          refine g_iload (pc := 105) (q := 1) hC dX9_wantsFromRow_105 rfl ?_
          refine g_iload (pc := 107) (q := 0) hC dX9_wantsFromRow_107 rfl ?_
          refine g_callVi (pc := 109) (As := [.int v10, .int v11, .int v12, .int v13]) (rest := []) hC lk_RX9_114 kX8 rfl (tX8_addWant _ _ s15 v10 v11 v12 v13) rfl rfl (Nat.le_of_ble_eq_true rfl) ⟨rfl, rfl, Nat.le_of_ble_eq_true rfl, Nat.le_of_ble_eq_true rfl⟩ dX9_wantsFromRow_109 (fun r16 s17 => ?_)
          refine g_bipush (pc := 112) (v := (-3)) hC dX9_wantsFromRow_112 (by decide) ?_
          refine g_icmp_ne (pc := 114) (tgt := 120) hC dX9_wantsFromRow_114 (by decide) ?_ ?_
          · refine g_iinc (pc := 120) (q := 9) (w := 1) (lv' := fun v18 => [(4, .int v18), (10, .int v13), (9, .int v12), (8, .int v11), (7, .int v10), (6, .int v7), (0, .ref (G.2.1 0)), (1, .ref (G.2.1 q0)), (2, .int x3), (3, .int x4), (5, .int x6)]) hC dX9_wantsFromRow_120 rfl (by decide) (by decide) (fun _ => rfl) (fun v18 => ?_)
            refine g_iinc (pc := 123) (q := 10) (w := 1) (lv' := fun v19 => [(5, .int v19), (4, .int v18), (10, .int v13), (9, .int v12), (8, .int v11), (7, .int v10), (6, .int v7), (0, .ref (G.2.1 0)), (1, .ref (G.2.1 q0)), (2, .int x3), (3, .int x4)]) hC dX9_wantsFromRow_123 rfl (by decide) (by decide) (fun _ => rfl) (fun v19 => ?_)
            refine g_goto (pc := 126) (tgt := 6) hC dX9_wantsFromRow_126 (by decide) ?_
            exact gT_sub [7, 8, 9, 10, 1, 0] rfl (ih s17 x3 x4 v18 v19)
          · refine g_iload (pc := 117) (q := 9) hC dX9_wantsFromRow_117 rfl ?_
            exact g_iret (pc := 119) hC dX9_wantsFromRow_119
      · refine g_iload (pc := 30) (q := 5) hC dX9_wantsFromRow_30 rfl ?_
        exact g_iret (pc := 32) hC dX9_wantsFromRow_32
def mX9_wantsFromRow (σ : gS) (q0 : Nat) (p1 : Int32) (p2 : Int32) : Option (Int32 × gS) := if gk q0 = 6 then (gLet 0 (fun v1 => gLet 0 (fun v2 => (mX9_wantsFromRow_b6 q0 1100 σ p1 p2 v1 v2)))) else none
set_option maxHeartbeats 4000000 in
set_option maxRecDepth 100000 in
theorem tX9_wantsFromRow (l : Launch) (G : gE) (σ : gS) (q0 : Nat) (p1 : Int32) (p2 : Int32) : gM l G yX9_wantsFromRow cX9_wantsFromRow 11 (some .int) rX9_wantsFromRow iI [.ref (G.2.1 0), .ref (G.2.1 q0), .int p1, .int p2] σ (mX9_wantsFromRow σ q0 p1 p2) := by
  refine gM_of (by decide) (Nat.le_of_ble_eq_true rfl) ?_
  intro p e s m args below meth c hC
  unfold mX9_wantsFromRow
  refine gT_if (fun hq0 => ?_) (fun _ => gT_none)
  show gT p l e rX9_wantsFromRow s m args below meth c G 11 iI σ 0 [(0, .ref (G.2.1 0)), (1, .ref (G.2.1 q0)), (2, .int p1), (3, .int p2)] [] _
  refine g_iconst (pc := 0) (v := 0) hC dX9_wantsFromRow_0 (by decide) ?_
  refine g_istore (pc := 1) (lv' := fun v1 => [(4, .int v1), (0, .ref (G.2.1 0)), (1, .ref (G.2.1 q0)), (2, .int p1), (3, .int p2)]) hC dX9_wantsFromRow_1 (by decide) (fun _ => rfl) (fun v1 => ?_)
  refine g_iconst (pc := 3) (v := 0) hC dX9_wantsFromRow_3 (by decide) ?_
  refine g_istore (pc := 4) (lv' := fun v2 => [(5, .int v2), (4, .int v1), (0, .ref (G.2.1 0)), (1, .ref (G.2.1 q0)), (2, .int p1), (3, .int p2)]) hC dX9_wantsFromRow_4 (by decide) (fun _ => rfl) (fun v2 => ?_)
  exact gT_sub [2, 3, 4, 5, 1, 0] rfl (wX9_wantsFromRow_b6 hC q0 hq0 1100 σ p1 p2 v1 v2)
theorem lk_RX9_184 : gLV RX9 184 RX7 yX7_walk cX7_walk 6 (none) 2 := ⟨(gBig_tab 631 (by decide +kernel) (by decide +kernel)), (gBig_tab 632 (by decide +kernel) (by decide +kernel)), (gBig_tab 633 (by decide +kernel) (by decide +kernel)), (gBig_tab 4 (by decide +kernel) (by decide +kernel)), (gBig_tab 634 (by decide +kernel) (by decide +kernel)), rfl, by decide +kernel, by decide +kernel, by decide +kernel⟩
theorem lk_RX9_286 : gLV RX9 286 RX7 yX7_askRow cX7_askRow 5 (none) 2 := ⟨(gBig_tab 618 (by decide +kernel) (by decide +kernel)), (gBig_tab 619 (by decide +kernel) (by decide +kernel)), (gBig_tab 620 (by decide +kernel) (by decide +kernel)), (gBig_tab 4 (by decide +kernel) (by decide +kernel)), (gBig_tab 621 (by decide +kernel) (by decide +kernel)), rfl, by decide +kernel, by decide +kernel, by decide +kernel⟩
theorem lk_RX9_248 : gLV RX9 248 RX9 yX9_refuseRow cX9_refuseRow 4 (some .int) 2 := ⟨(gBig_tab 614 (by decide +kernel) (by decide +kernel)), (gBig_tab 616 (by decide +kernel) (by decide +kernel)), (gBig_sel 15 (by decide +kernel) (by decide +kernel)), (gBig_tab 1 (by decide +kernel) (by decide +kernel)), (gBig_tab 617 (by decide +kernel) (by decide +kernel)), rfl, by decide +kernel, by decide +kernel, by decide +kernel⟩
theorem dX9_thinkPlan_0 : decode cX9_thinkPlan 0 = .ok (.aload_n 0, 1) := by decide +kernel
theorem dX9_thinkPlan_1 : decode cX9_thinkPlan 1 = .ok (.iload_n 1, 1) := by decide +kernel
theorem dX9_thinkPlan_2 : decode cX9_thinkPlan 2 = .ok (.iconst 0, 1) := by decide +kernel
theorem dX9_thinkPlan_3 : decode cX9_thinkPlan 3 = .ok (.invokevirtual 248, 3) := by decide +kernel
theorem dX9_thinkPlan_6 : decode cX9_thinkPlan 6 = .ok (.istore_n 2, 1) := by decide +kernel
theorem dX9_thinkPlan_7 : decode cX9_thinkPlan 7 = .ok (.iload_n 2, 1) := by decide +kernel
theorem dX9_thinkPlan_8 : decode cX9_thinkPlan 8 = .ok (.iconst 1, 1) := by decide +kernel
theorem dX9_thinkPlan_9 : decode cX9_thinkPlan 9 = .ok (.if_icmp .ne 38, 3) := by decide +kernel
theorem dX9_thinkPlan_12 : decode cX9_thinkPlan 12 = .ok (.aload_n 0, 1) := by decide +kernel
theorem dX9_thinkPlan_13 : decode cX9_thinkPlan 13 = .ok (.getfield 29, 3) := by decide +kernel
theorem dX9_thinkPlan_16 : decode cX9_thinkPlan 16 = .ok (.aload_n 0, 1) := by decide +kernel
theorem dX9_thinkPlan_17 : decode cX9_thinkPlan 17 = .ok (.getfield 91, 3) := by decide +kernel
theorem dX9_thinkPlan_20 : decode cX9_thinkPlan 20 = .ok (.iload_n 1, 1) := by decide +kernel
theorem dX9_thinkPlan_21 : decode cX9_thinkPlan 21 = .ok (.aaload, 1) := by decide +kernel
theorem dX9_thinkPlan_22 : decode cX9_thinkPlan 22 = .ok (.aload_n 0, 1) := by decide +kernel
theorem dX9_thinkPlan_23 : decode cX9_thinkPlan 23 = .ok (.getfield 19, 3) := by decide +kernel
theorem dX9_thinkPlan_26 : decode cX9_thinkPlan 26 = .ok (.getfield 153, 3) := by decide +kernel
theorem dX9_thinkPlan_29 : decode cX9_thinkPlan 29 = .ok (.invokevirtual 286, 3) := by decide +kernel
theorem dX9_thinkPlan_32 : decode cX9_thinkPlan 32 = .ok (.aload_n 0, 1) := by decide +kernel
theorem dX9_thinkPlan_33 : decode cX9_thinkPlan 33 = .ok (.getfield 29, 3) := by decide +kernel
theorem dX9_thinkPlan_36 : decode cX9_thinkPlan 36 = .ok (.aload_n 0, 1) := by decide +kernel
theorem dX9_thinkPlan_37 : decode cX9_thinkPlan 37 = .ok (.getfield 19, 3) := by decide +kernel
theorem dX9_thinkPlan_40 : decode cX9_thinkPlan 40 = .ok (.aload_n 0, 1) := by decide +kernel
theorem dX9_thinkPlan_41 : decode cX9_thinkPlan 41 = .ok (.getfield 51, 3) := by decide +kernel
theorem dX9_thinkPlan_44 : decode cX9_thinkPlan 44 = .ok (.invokevirtual 184, 3) := by decide +kernel
theorem dX9_thinkPlan_47 : decode cX9_thinkPlan 47 = .ok (.iload_n 2, 1) := by decide +kernel
theorem dX9_thinkPlan_48 : decode cX9_thinkPlan 48 = .ok (.ireturn, 1) := by decide +kernel
abbrev rX9_thinkPlan : Room := { frames := 5, cells := 0, slots := 0, locals := 121 }
def mX9_thinkPlan (σ : gS) (p0 : Int32) : Option (Int32 × gS) := gBind (mX9_refuseRow σ p0 0) (fun r1 s2 => gLet r1 (fun v3 => if v3 = 1 then (if inbB p0 6 = true then (if gk (40 + 2 * Int32.toNatClampNeg p0) = 6 then (gBind (mX7_askRow s2 (40 + 2 * Int32.toNatClampNeg p0) (s2.1 8 4)) (fun r5 s6 => gOpt (s6.2.2 0 7) (none) (fun k7 => if gk k7 = 3 then (gBind (mX7_walk s6 8 k7) (fun r8 s9 => some (v3, s9))) else none))) else none) else none) else (some (v3, s2))))
set_option maxHeartbeats 4000000 in
set_option maxRecDepth 100000 in
theorem tX9_thinkPlan (l : Launch) (G : gE) (σ : gS) (p0 : Int32) : gM l G yX9_thinkPlan cX9_thinkPlan 3 (some .int) rX9_thinkPlan iI [.ref (G.2.1 0), .int p0] σ (mX9_thinkPlan σ p0) := by
  refine gM_of (by decide) (Nat.le_of_ble_eq_true rfl) ?_
  intro p e s m args below meth c hC
  unfold mX9_thinkPlan
  show gT p l e rX9_thinkPlan s m args below meth c G 3 iI σ 0 [(0, .ref (G.2.1 0)), (1, .int p0)] [] _
  refine g_aload_n (pc := 0) (q := 0) hC dX9_thinkPlan_0 rfl rfl ?_
  refine g_iload_n (pc := 1) (q := 1) hC dX9_thinkPlan_1 rfl rfl ?_
  refine g_iconst (pc := 2) (v := 0) hC dX9_thinkPlan_2 (by decide) ?_
  refine g_callVi (pc := 3) (As := [.int p0, .int 0]) (rest := []) hC lk_RX9_248 kX9 rfl (tX9_refuseRow _ _ σ p0 0) rfl rfl (Nat.le_of_ble_eq_true rfl) ⟨rfl, rfl, Nat.le_of_ble_eq_true rfl, Nat.le_of_ble_eq_true rfl⟩ dX9_thinkPlan_3 (fun r1 s2 => ?_)
  refine g_istore_n (pc := 6) (lv' := fun v3 => [(2, .int v3), (0, .ref (G.2.1 0)), (1, .int p0)]) hC dX9_thinkPlan_6 rfl (by decide) (fun _ => rfl) (fun v3 => ?_)
  refine g_iload_n (pc := 7) (q := 0) hC dX9_thinkPlan_7 rfl rfl ?_
  refine g_iconst (pc := 8) (v := 1) hC dX9_thinkPlan_8 (by decide) ?_
  refine g_icmp_ne (pc := 9) (tgt := 47) hC dX9_thinkPlan_9 (by decide) ?_ ?_
  · refine g_iload_n (pc := 47) (q := 0) hC dX9_thinkPlan_47 rfl rfl ?_
    exact g_iret (pc := 48) hC dX9_thinkPlan_48
  · refine g_aload_n (pc := 12) (q := 1) hC dX9_thinkPlan_12 rfl rfl ?_
    refine g_get (pc := 13) (v := .ref (G.2.1 10)) hC kX9 rfl 3 (by decide) fl_RX9_29 rfl dX9_thinkPlan_13 ?_
    refine g_aload_n (pc := 16) (q := 1) hC dX9_thinkPlan_16 rfl rfl ?_
    refine g_get (pc := 17) (v := .ref (G.2.1 39)) hC kX9 rfl 15 (by decide) fl_RX9_91 rfl dX9_thinkPlan_17 ?_
    refine g_iload_n (pc := 20) (q := 2) hC dX9_thinkPlan_20 rfl rfl ?_
    refine g_aald (pc := 21) hC rfl dX9_thinkPlan_21 ?_
    refine gT_if (fun hg4 => ?_) (fun _ => gT_none)
    refine g_aload_n (pc := 22) (q := 1) hC dX9_thinkPlan_22 rfl rfl ?_
    refine g_get (pc := 23) (v := .ref (G.2.1 8)) hC kX9 rfl 1 (by decide) fl_RX9_19 rfl dX9_thinkPlan_23 ?_
    refine g_get (pc := 26) (v := .int (s2.1 8 4)) hC kX5 rfl 4 (by decide) fl_RX9_153 rfl dX9_thinkPlan_26 ?_
    refine g_callVv (pc := 29) (As := [.ref (G.2.1 (40 + 2 * Int32.toNatClampNeg p0)), .int (s2.1 8 4)]) (rest := []) hC lk_RX9_286 kX7 rfl (tX7_askRow _ _ s2 (40 + 2 * Int32.toNatClampNeg p0) (s2.1 8 4)) rfl rfl (Nat.le_of_ble_eq_true rfl) ⟨rfl, rfl, Nat.le_of_ble_eq_true rfl, Nat.le_of_ble_eq_true rfl⟩ dX9_thinkPlan_29 (fun r5 s6 => ?_)
    refine g_aload_n (pc := 32) (q := 1) hC dX9_thinkPlan_32 rfl rfl ?_
    refine g_get (pc := 33) (v := .ref (G.2.1 10)) hC kX9 rfl 3 (by decide) fl_RX9_29 rfl dX9_thinkPlan_33 ?_
    refine g_aload_n (pc := 36) (q := 1) hC dX9_thinkPlan_36 rfl rfl ?_
    refine g_get (pc := 37) (v := .ref (G.2.1 8)) hC kX9 rfl 1 (by decide) fl_RX9_19 rfl dX9_thinkPlan_37 ?_
    refine g_aload_n (pc := 40) (q := 1) hC dX9_thinkPlan_40 rfl rfl ?_
    refine g_get (pc := 41) (v := va_rf ((s6.2.2 0 7).map G.2.1)) hC kX9 rfl 7 (by decide) fl_RX9_51 rfl dX9_thinkPlan_41 ?_
    refine gT_opt ?_ (fun k7 => ?_)
    · exact gT_none
    · refine gT_if (fun hk7 => ?_) (fun _ => gT_none)
      refine g_callVv (pc := 44) (As := [.ref (G.2.1 8), .ref (G.2.1 k7)]) (rest := []) hC lk_RX9_184 kX7 rfl (tX7_walk _ _ s6 8 k7) rfl rfl (Nat.le_of_ble_eq_true rfl) ⟨rfl, rfl, Nat.le_of_ble_eq_true rfl, Nat.le_of_ble_eq_true rfl⟩ dX9_thinkPlan_44 (fun r8 s9 => ?_)
      refine g_iload_n (pc := 47) (q := 0) hC dX9_thinkPlan_47 rfl rfl ?_
      exact g_iret (pc := 48) hC dX9_thinkPlan_48
theorem fl_RX9_165 : Cond.fieldLink RX9 165 "WinterShed$Thought" "hours" "[I" ∈ gBig := (gBig_tab 111 (by decide +kernel) (by decide +kernel))
theorem lk_RX9_442 : gLV RX9 442 RX8 yX8_met cX8_met 5 (some .int) 2 := ⟨(gBig_tab 679 (by decide +kernel) (by decide +kernel)), (gBig_tab 680 (by decide +kernel) (by decide +kernel)), (gBig_tab 681 (by decide +kernel) (by decide +kernel)), (gBig_tab 2 (by decide +kernel) (by decide +kernel)), (gBig_tab 682 (by decide +kernel) (by decide +kernel)), rfl, by decide +kernel, by decide +kernel, by decide +kernel⟩
theorem dX9_metTo_0 : decode cX9_metTo 0 = .ok (.iconst 0, 1) := by decide +kernel
theorem dX9_metTo_1 : decode cX9_metTo 1 = .ok (.istore_n 2, 1) := by decide +kernel
theorem dX9_metTo_2 : decode cX9_metTo 2 = .ok (.aload_n 0, 1) := by decide +kernel
theorem dX9_metTo_3 : decode cX9_metTo 3 = .ok (.getfield 19, 3) := by decide +kernel
theorem dX9_metTo_6 : decode cX9_metTo 6 = .ok (.getfield 153, 3) := by decide +kernel
theorem dX9_metTo_9 : decode cX9_metTo 9 = .ok (.istore_n 3, 1) := by decide +kernel
theorem dX9_metTo_10 : decode cX9_metTo 10 = .ok (.iload_n 3, 1) := by decide +kernel
theorem dX9_metTo_11 : decode cX9_metTo 11 = .ok (.iload_n 1, 1) := by decide +kernel
theorem dX9_metTo_12 : decode cX9_metTo 12 = .ok (.if_icmp .gt 29, 3) := by decide +kernel
theorem dX9_metTo_15 : decode cX9_metTo 15 = .ok (.iload_n 2, 1) := by decide +kernel
theorem dX9_metTo_16 : decode cX9_metTo 16 = .ok (.aload_n 0, 1) := by decide +kernel
theorem dX9_metTo_17 : decode cX9_metTo 17 = .ok (.getfield 10, 3) := by decide +kernel
theorem dX9_metTo_20 : decode cX9_metTo 20 = .ok (.iload_n 3, 1) := by decide +kernel
theorem dX9_metTo_21 : decode cX9_metTo 21 = .ok (.aload_n 0, 1) := by decide +kernel
theorem dX9_metTo_22 : decode cX9_metTo 22 = .ok (.getfield 29, 3) := by decide +kernel
theorem dX9_metTo_25 : decode cX9_metTo 25 = .ok (.getfield 165, 3) := by decide +kernel
theorem dX9_metTo_28 : decode cX9_metTo 28 = .ok (.iload_n 3, 1) := by decide +kernel
theorem dX9_metTo_29 : decode cX9_metTo 29 = .ok (.iaload, 1) := by decide +kernel
theorem dX9_metTo_30 : decode cX9_metTo 30 = .ok (.invokevirtual 442, 3) := by decide +kernel
theorem dX9_metTo_33 : decode cX9_metTo 33 = .ok (.ior, 1) := by decide +kernel
theorem dX9_metTo_34 : decode cX9_metTo 34 = .ok (.istore_n 2, 1) := by decide +kernel
theorem dX9_metTo_35 : decode cX9_metTo 35 = .ok (.iinc 3 1, 3) := by decide +kernel
theorem dX9_metTo_38 : decode cX9_metTo 38 = .ok (.goto (-28), 3) := by decide +kernel
theorem dX9_metTo_41 : decode cX9_metTo 41 = .ok (.iload_n 2, 1) := by decide +kernel
theorem dX9_metTo_42 : decode cX9_metTo 42 = .ok (.ireturn, 1) := by decide +kernel
abbrev rX9_metTo : Room := { frames := 2, cells := 0, slots := 0, locals := 47 }
def mX9_metTo_b10    : Nat → gS → Int32 → Int32 → Int32 → Option (Int32 × gS)
  | 0, _, _, _, _ => none
  | n + 1, σ, x3, x4, x5 => if x3 < x5 then (some (x4, σ)) else (if inbB x5 30 = true then (gBind (mX8_met σ x5 (σ.1 13 (Int32.toNatClampNeg x5))) (fun r6 s7 => gLet (x4 ||| r6) (fun v8 => gLet (x5 + 1) (fun v9 => ((mX9_metTo_b10  n) s7 x3 v8 v9))))) else none)
set_option maxHeartbeats 4000000 in
set_option maxRecDepth 100000 in
theorem wX9_metTo_b10 {p : Program} {l : Launch} {e : Env} {s : State} {m : MethodId} {args : Array Value} {below : List Frame} {meth : Method} {c : Code} {G : gE} (hC : gCx p s m args meth c G RX9 cX9_metTo 4 (some .int))     (n : Nat) (σ : gS) (x3 : Int32) (x4 : Int32) (x5 : Int32)  : gT p l e rX9_metTo s m args below meth c G 4 iI σ 10 [(0, .ref (G.2.1 0)), (1, .int x3), (2, .int x4), (3, .int x5)] [] (mX9_metTo_b10  n σ x3 x4 x5) := by
  induction n generalizing σ x3 x4 x5 with
  | zero => exact gT_none
  | succ n ih =>
    unfold mX9_metTo_b10
    refine g_iload_n (pc := 10) (q := 3) hC dX9_metTo_10 rfl rfl ?_
    refine g_iload_n (pc := 11) (q := 1) hC dX9_metTo_11 rfl rfl ?_
    refine g_icmp_gt (pc := 12) (tgt := 41) hC dX9_metTo_12 (by decide) ?_ ?_
    · refine g_iload_n (pc := 41) (q := 2) hC dX9_metTo_41 rfl rfl ?_
      exact g_iret (pc := 42) hC dX9_metTo_42
    · refine g_iload_n (pc := 15) (q := 2) hC dX9_metTo_15 rfl rfl ?_
      refine g_aload_n (pc := 16) (q := 0) hC dX9_metTo_16 rfl rfl ?_
      refine g_get (pc := 17) (v := .ref (G.2.1 1)) hC kX9 rfl 0 (by decide) fl_RX9_10 rfl dX9_metTo_17 ?_
      refine g_iload_n (pc := 20) (q := 3) hC dX9_metTo_20 rfl rfl ?_
      refine g_aload_n (pc := 21) (q := 0) hC dX9_metTo_21 rfl rfl ?_
      refine g_get (pc := 22) (v := .ref (G.2.1 10)) hC kX9 rfl 3 (by decide) fl_RX9_29 rfl dX9_metTo_22 ?_
      refine g_get (pc := 25) (v := .ref (G.2.1 13)) hC kX7 rfl 2 (by decide) fl_RX9_165 rfl dX9_metTo_25 ?_
      refine g_iload_n (pc := 28) (q := 3) hC dX9_metTo_28 rfl rfl ?_
      refine g_iald (pc := 29) hC 30 rfl (by decide) dX9_metTo_29 ?_
      refine g_callVi (pc := 30) (As := [.int x5, .int (σ.1 13 (Int32.toNatClampNeg x5))]) (rest := [.int x4]) hC lk_RX9_442 kX8 rfl (tX8_met _ _ σ x5 (σ.1 13 (Int32.toNatClampNeg x5))) rfl rfl (Nat.le_of_ble_eq_true rfl) ⟨rfl, rfl, Nat.le_of_ble_eq_true rfl, Nat.le_of_ble_eq_true rfl⟩ dX9_metTo_30 (fun r6 s7 => ?_)
      refine g_ior (pc := 33) hC dX9_metTo_33 ?_
      refine g_istore_n (pc := 34) (lv' := fun v8 => [(2, .int v8), (0, .ref (G.2.1 0)), (1, .int x3), (3, .int x5)]) hC dX9_metTo_34 rfl (by decide) (fun _ => rfl) (fun v8 => ?_)
      refine g_iinc (pc := 35) (q := 3) (w := 1) (lv' := fun v9 => [(3, .int v9), (2, .int v8), (0, .ref (G.2.1 0)), (1, .int x3)]) hC dX9_metTo_35 rfl (by decide) (by decide) (fun _ => rfl) (fun v9 => ?_)
      refine g_goto (pc := 38) (tgt := 10) hC dX9_metTo_38 (by decide) ?_
      exact gT_sub [2, 3, 1, 0] rfl (ih s7 x3 v8 v9)
def mX9_metTo (σ : gS) (p0 : Int32) : Option (Int32 × gS) := gLet 0 (fun v1 => gLet (σ.1 8 4) (fun v2 => (mX9_metTo_b10  1100 σ p0 v1 v2)))
set_option maxHeartbeats 4000000 in
set_option maxRecDepth 100000 in
theorem tX9_metTo (l : Launch) (G : gE) (σ : gS) (p0 : Int32) : gM l G yX9_metTo cX9_metTo 4 (some .int) rX9_metTo iI [.ref (G.2.1 0), .int p0] σ (mX9_metTo σ p0) := by
  refine gM_of (by decide) (Nat.le_of_ble_eq_true rfl) ?_
  intro p e s m args below meth c hC
  unfold mX9_metTo
  show gT p l e rX9_metTo s m args below meth c G 4 iI σ 0 [(0, .ref (G.2.1 0)), (1, .int p0)] [] _
  refine g_iconst (pc := 0) (v := 0) hC dX9_metTo_0 (by decide) ?_
  refine g_istore_n (pc := 1) (lv' := fun v1 => [(2, .int v1), (0, .ref (G.2.1 0)), (1, .int p0)]) hC dX9_metTo_1 rfl (by decide) (fun _ => rfl) (fun v1 => ?_)
  refine g_aload_n (pc := 2) (q := 1) hC dX9_metTo_2 rfl rfl ?_
  refine g_get (pc := 3) (v := .ref (G.2.1 8)) hC kX9 rfl 1 (by decide) fl_RX9_19 rfl dX9_metTo_3 ?_
  refine g_get (pc := 6) (v := .int (σ.1 8 4)) hC kX5 rfl 4 (by decide) fl_RX9_153 rfl dX9_metTo_6 ?_
  refine g_istore_n (pc := 9) (lv' := fun v2 => [(3, .int v2), (2, .int v1), (0, .ref (G.2.1 0)), (1, .int p0)]) hC dX9_metTo_9 rfl (by decide) (fun _ => rfl) (fun v2 => ?_)
  exact gT_sub [2, 3, 1, 0] rfl (wX9_metTo_b10 hC  1100 σ p0 v1 v2)
theorem lk_RX9_445 : gLV RX9 445 RX8 yX8_harm cX8_harm 5 (some .int) 3 := ⟨(gBig_tab 703 (by decide +kernel) (by decide +kernel)), (gBig_tab 700 (by decide +kernel) (by decide +kernel)), (gBig_tab 701 (by decide +kernel) (by decide +kernel)), (gBig_tab 2 (by decide +kernel) (by decide +kernel)), (gBig_tab 702 (by decide +kernel) (by decide +kernel)), rfl, by decide +kernel, by decide +kernel, by decide +kernel⟩
theorem lk_RX9_323 : gLV RX9 323 RX8 yX8_harmOfAll cX8_harmOfAll 5 (some .int) 2 := ⟨(gBig_tab 695 (by decide +kernel) (by decide +kernel)), (gBig_tab 696 (by decide +kernel) (by decide +kernel)), (gBig_tab 697 (by decide +kernel) (by decide +kernel)), (gBig_tab 2 (by decide +kernel) (by decide +kernel)), (gBig_tab 698 (by decide +kernel) (by decide +kernel)), rfl, by decide +kernel, by decide +kernel, by decide +kernel⟩
theorem lk_RX9_320 : gLV RX9 320 RX8 yX8_gain cX8_gain 5 (some .int) 2 := ⟨(gBig_tab 691 (by decide +kernel) (by decide +kernel)), (gBig_tab 692 (by decide +kernel) (by decide +kernel)), (gBig_tab 693 (by decide +kernel) (by decide +kernel)), (gBig_tab 2 (by decide +kernel) (by decide +kernel)), (gBig_tab 694 (by decide +kernel) (by decide +kernel)), rfl, by decide +kernel, by decide +kernel, by decide +kernel⟩
theorem dX9_sumTo_0 : decode cX9_sumTo 0 = .ok (.iconst 0, 1) := by decide +kernel
theorem dX9_sumTo_1 : decode cX9_sumTo 1 = .ok (.istore_n 3, 1) := by decide +kernel
theorem dX9_sumTo_2 : decode cX9_sumTo 2 = .ok (.aload_n 0, 1) := by decide +kernel
theorem dX9_sumTo_3 : decode cX9_sumTo 3 = .ok (.getfield 19, 3) := by decide +kernel
theorem dX9_sumTo_6 : decode cX9_sumTo 6 = .ok (.getfield 153, 3) := by decide +kernel
theorem dX9_sumTo_9 : decode cX9_sumTo 9 = .ok (.istore 4, 2) := by decide +kernel
theorem dX9_sumTo_11 : decode cX9_sumTo 11 = .ok (.iload 4, 2) := by decide +kernel
theorem dX9_sumTo_13 : decode cX9_sumTo 13 = .ok (.iload_n 1, 1) := by decide +kernel
theorem dX9_sumTo_14 : decode cX9_sumTo 14 = .ok (.if_icmp .gt 83, 3) := by decide +kernel
theorem dX9_sumTo_17 : decode cX9_sumTo 17 = .ok (.aload_n 0, 1) := by decide +kernel
theorem dX9_sumTo_18 : decode cX9_sumTo 18 = .ok (.getfield 29, 3) := by decide +kernel
theorem dX9_sumTo_21 : decode cX9_sumTo 21 = .ok (.getfield 165, 3) := by decide +kernel
theorem dX9_sumTo_24 : decode cX9_sumTo 24 = .ok (.iload 4, 2) := by decide +kernel
theorem dX9_sumTo_26 : decode cX9_sumTo 26 = .ok (.iaload, 1) := by decide +kernel
theorem dX9_sumTo_27 : decode cX9_sumTo 27 = .ok (.istore 5, 2) := by decide +kernel
theorem dX9_sumTo_29 : decode cX9_sumTo 29 = .ok (.iload_n 2, 1) := by decide +kernel
theorem dX9_sumTo_30 : decode cX9_sumTo 30 = .ok (.iconst 2, 1) := by decide +kernel
theorem dX9_sumTo_31 : decode cX9_sumTo 31 = .ok (.if_icmp .ne 20, 3) := by decide +kernel
theorem dX9_sumTo_34 : decode cX9_sumTo 34 = .ok (.iload_n 3, 1) := by decide +kernel
theorem dX9_sumTo_35 : decode cX9_sumTo 35 = .ok (.aload_n 0, 1) := by decide +kernel
theorem dX9_sumTo_36 : decode cX9_sumTo 36 = .ok (.getfield 10, 3) := by decide +kernel
theorem dX9_sumTo_39 : decode cX9_sumTo 39 = .ok (.iload 4, 2) := by decide +kernel
theorem dX9_sumTo_41 : decode cX9_sumTo 41 = .ok (.iload 5, 2) := by decide +kernel
theorem dX9_sumTo_43 : decode cX9_sumTo 43 = .ok (.invokevirtual 320, 3) := by decide +kernel
theorem dX9_sumTo_46 : decode cX9_sumTo 46 = .ok (.iadd, 1) := by decide +kernel
theorem dX9_sumTo_47 : decode cX9_sumTo 47 = .ok (.istore_n 3, 1) := by decide +kernel
theorem dX9_sumTo_48 : decode cX9_sumTo 48 = .ok (.goto 43, 3) := by decide +kernel
theorem dX9_sumTo_51 : decode cX9_sumTo 51 = .ok (.iload_n 2, 1) := by decide +kernel
theorem dX9_sumTo_52 : decode cX9_sumTo 52 = .ok (.iconst 3, 1) := by decide +kernel
theorem dX9_sumTo_53 : decode cX9_sumTo 53 = .ok (.if_icmp .ne 20, 3) := by decide +kernel
theorem dX9_sumTo_56 : decode cX9_sumTo 56 = .ok (.iload_n 3, 1) := by decide +kernel
theorem dX9_sumTo_57 : decode cX9_sumTo 57 = .ok (.aload_n 0, 1) := by decide +kernel
theorem dX9_sumTo_58 : decode cX9_sumTo 58 = .ok (.getfield 10, 3) := by decide +kernel
theorem dX9_sumTo_61 : decode cX9_sumTo 61 = .ok (.iload 4, 2) := by decide +kernel
theorem dX9_sumTo_63 : decode cX9_sumTo 63 = .ok (.iload 5, 2) := by decide +kernel
theorem dX9_sumTo_65 : decode cX9_sumTo 65 = .ok (.invokevirtual 323, 3) := by decide +kernel
theorem dX9_sumTo_68 : decode cX9_sumTo 68 = .ok (.iadd, 1) := by decide +kernel
theorem dX9_sumTo_69 : decode cX9_sumTo 69 = .ok (.istore_n 3, 1) := by decide +kernel
theorem dX9_sumTo_70 : decode cX9_sumTo 70 = .ok (.goto 21, 3) := by decide +kernel
theorem dX9_sumTo_73 : decode cX9_sumTo 73 = .ok (.iload_n 3, 1) := by decide +kernel
theorem dX9_sumTo_74 : decode cX9_sumTo 74 = .ok (.aload_n 0, 1) := by decide +kernel
theorem dX9_sumTo_75 : decode cX9_sumTo 75 = .ok (.getfield 10, 3) := by decide +kernel
theorem dX9_sumTo_78 : decode cX9_sumTo 78 = .ok (.iload_n 2, 1) := by decide +kernel
theorem dX9_sumTo_79 : decode cX9_sumTo 79 = .ok (.bipush 10, 2) := by decide +kernel
theorem dX9_sumTo_81 : decode cX9_sumTo 81 = .ok (.isub, 1) := by decide +kernel
theorem dX9_sumTo_82 : decode cX9_sumTo 82 = .ok (.iload 4, 2) := by decide +kernel
theorem dX9_sumTo_84 : decode cX9_sumTo 84 = .ok (.iload 5, 2) := by decide +kernel
theorem dX9_sumTo_86 : decode cX9_sumTo 86 = .ok (.invokevirtual 445, 3) := by decide +kernel
theorem dX9_sumTo_89 : decode cX9_sumTo 89 = .ok (.iadd, 1) := by decide +kernel
theorem dX9_sumTo_90 : decode cX9_sumTo 90 = .ok (.istore_n 3, 1) := by decide +kernel
theorem dX9_sumTo_91 : decode cX9_sumTo 91 = .ok (.iinc 4 1, 3) := by decide +kernel
theorem dX9_sumTo_94 : decode cX9_sumTo 94 = .ok (.goto (-83), 3) := by decide +kernel
theorem dX9_sumTo_97 : decode cX9_sumTo 97 = .ok (.iload_n 3, 1) := by decide +kernel
theorem dX9_sumTo_98 : decode cX9_sumTo 98 = .ok (.ireturn, 1) := by decide +kernel
abbrev rX9_sumTo : Room := { frames := 3, cells := 0, slots := 0, locals := 71 }
def mX9_sumTo_b91   (k11 : gS → Int32 → Int32 → Int32 → Int32 → Option (Int32 × gS)) (σ : gS) (x11 : Int32) (x12 : Int32) (x13 : Int32) (x14 : Int32) : Option (Int32 × gS) := gLet (x14 + 1) (fun v15 => (k11 σ x11 x12 x13 v15))
set_option maxHeartbeats 4000000 in
set_option maxRecDepth 100000 in
theorem wX9_sumTo_b91 {p : Program} {l : Launch} {e : Env} {s : State} {m : MethodId} {args : Array Value} {below : List Frame} {meth : Method} {c : Code} {G : gE} (hC : gCx p s m args meth c G RX9 cX9_sumTo 6 (some .int))    {k11 : gS → Int32 → Int32 → Int32 → Int32 → Option (Int32 × gS)} (hk11 : ∀ (σ : gS) (x3 : Int32) (x4 : Int32) (x5 : Int32) (x6 : Int32), gT p l e rX9_sumTo s m args below meth c G 6 iI σ 11 [(0, .ref (G.2.1 0)), (1, .int x3), (2, .int x4), (3, .int x5), (4, .int x6)] [] (k11 σ x3 x4 x5 x6)) (σ : gS) (x11 : Int32) (x12 : Int32) (x13 : Int32) (x14 : Int32)  : gT p l e rX9_sumTo s m args below meth c G 6 iI σ 91 [(0, .ref (G.2.1 0)), (1, .int x11), (2, .int x12), (3, .int x13), (4, .int x14)] [] (mX9_sumTo_b91 k11 σ x11 x12 x13 x14) := by
  unfold mX9_sumTo_b91
  refine g_iinc (pc := 91) (q := 4) (w := 1) (lv' := fun v15 => [(4, .int v15), (0, .ref (G.2.1 0)), (1, .int x11), (2, .int x12), (3, .int x13)]) hC dX9_sumTo_91 rfl (by decide) (by decide) (fun _ => rfl) (fun v15 => ?_)
  refine g_goto (pc := 94) (tgt := 11) hC dX9_sumTo_94 (by decide) ?_
  exact gT_sub [1, 2, 3, 4, 0] rfl (hk11 σ x11 x12 x13 v15)
def mX9_sumTo_b11    : Nat → gS → Int32 → Int32 → Int32 → Int32 → Option (Int32 × gS)
  | 0, _, _, _, _, _ => none
  | n + 1, σ, x3, x4, x5, x6 => if x3 < x6 then (some (x5, σ)) else (if inbB x6 30 = true then (gLet (σ.1 13 (Int32.toNatClampNeg x6)) (fun v7 => if x4 = 2 then (gBind (mX8_gain σ x6 v7) (fun r19 s20 => gLet (x5 + r19) (fun v21 => (mX9_sumTo_b91 (mX9_sumTo_b11  n) s20 x3 x4 v21 x6)))) else (if x4 = 3 then (gBind (mX8_harmOfAll σ x6 v7) (fun r16 s17 => gLet (x5 + r16) (fun v18 => (mX9_sumTo_b91 (mX9_sumTo_b11  n) s17 x3 x4 v18 x6)))) else (gBind (mX8_harm σ (x4 - 10) x6 v7) (fun r8 s9 => gLet (x5 + r8) (fun v10 => (mX9_sumTo_b91 (mX9_sumTo_b11  n) s9 x3 x4 v10 x6))))))) else none)
set_option maxHeartbeats 4000000 in
set_option maxRecDepth 100000 in
theorem wX9_sumTo_b11 {p : Program} {l : Launch} {e : Env} {s : State} {m : MethodId} {args : Array Value} {below : List Frame} {meth : Method} {c : Code} {G : gE} (hC : gCx p s m args meth c G RX9 cX9_sumTo 6 (some .int))     (n : Nat) (σ : gS) (x3 : Int32) (x4 : Int32) (x5 : Int32) (x6 : Int32)  : gT p l e rX9_sumTo s m args below meth c G 6 iI σ 11 [(0, .ref (G.2.1 0)), (1, .int x3), (2, .int x4), (3, .int x5), (4, .int x6)] [] (mX9_sumTo_b11  n σ x3 x4 x5 x6) := by
  induction n generalizing σ x3 x4 x5 x6 with
  | zero => exact gT_none
  | succ n ih =>
    unfold mX9_sumTo_b11
    refine g_iload (pc := 11) (q := 4) hC dX9_sumTo_11 rfl ?_
    refine g_iload_n (pc := 13) (q := 1) hC dX9_sumTo_13 rfl rfl ?_
    refine g_icmp_gt (pc := 14) (tgt := 97) hC dX9_sumTo_14 (by decide) ?_ ?_
    · refine g_iload_n (pc := 97) (q := 3) hC dX9_sumTo_97 rfl rfl ?_
      exact g_iret (pc := 98) hC dX9_sumTo_98
    · refine g_aload_n (pc := 17) (q := 0) hC dX9_sumTo_17 rfl rfl ?_
      refine g_get (pc := 18) (v := .ref (G.2.1 10)) hC kX9 rfl 3 (by decide) fl_RX9_29 rfl dX9_sumTo_18 ?_
      refine g_get (pc := 21) (v := .ref (G.2.1 13)) hC kX7 rfl 2 (by decide) fl_RX9_165 rfl dX9_sumTo_21 ?_
      refine g_iload (pc := 24) (q := 4) hC dX9_sumTo_24 rfl ?_
      refine g_iald (pc := 26) hC 30 rfl (by decide) dX9_sumTo_26 ?_
      refine g_istore (pc := 27) (lv' := fun v7 => [(5, .int v7), (0, .ref (G.2.1 0)), (1, .int x3), (2, .int x4), (3, .int x5), (4, .int x6)]) hC dX9_sumTo_27 (by decide) (fun _ => rfl) (fun v7 => ?_)
      refine g_iload_n (pc := 29) (q := 3) hC dX9_sumTo_29 rfl rfl ?_
      refine g_iconst (pc := 30) (v := 2) hC dX9_sumTo_30 (by decide) ?_
      refine g_icmp_ne (pc := 31) (tgt := 51) hC dX9_sumTo_31 (by decide) ?_ ?_
      · refine g_iload_n (pc := 51) (q := 3) hC dX9_sumTo_51 rfl rfl ?_
        refine g_iconst (pc := 52) (v := 3) hC dX9_sumTo_52 (by decide) ?_
        refine g_icmp_ne (pc := 53) (tgt := 73) hC dX9_sumTo_53 (by decide) ?_ ?_
        · refine g_iload_n (pc := 73) (q := 4) hC dX9_sumTo_73 rfl rfl ?_
          refine g_aload_n (pc := 74) (q := 1) hC dX9_sumTo_74 rfl rfl ?_
          refine g_get (pc := 75) (v := .ref (G.2.1 1)) hC kX9 rfl 0 (by decide) fl_RX9_10 rfl dX9_sumTo_75 ?_
          refine g_iload_n (pc := 78) (q := 3) hC dX9_sumTo_78 rfl rfl ?_
          refine g_bipush (pc := 79) (v := 10) hC dX9_sumTo_79 (by decide) ?_
          refine g_isub (pc := 81) hC dX9_sumTo_81 ?_
          refine g_iload (pc := 82) (q := 5) hC dX9_sumTo_82 rfl ?_
          refine g_iload (pc := 84) (q := 0) hC dX9_sumTo_84 rfl ?_
          refine g_callVi (pc := 86) (As := [.int (x4 - 10), .int x6, .int v7]) (rest := [.int x5]) hC lk_RX9_445 kX8 rfl (tX8_harm _ _ σ (x4 - 10) x6 v7) rfl rfl (Nat.le_of_ble_eq_true rfl) ⟨rfl, rfl, Nat.le_of_ble_eq_true rfl, Nat.le_of_ble_eq_true rfl⟩ dX9_sumTo_86 (fun r8 s9 => ?_)
          refine g_iadd (pc := 89) hC dX9_sumTo_89 ?_
          refine g_istore_n (pc := 90) (lv' := fun v10 => [(3, .int v10), (5, .int v7), (0, .ref (G.2.1 0)), (1, .int x3), (2, .int x4), (4, .int x6)]) hC dX9_sumTo_90 rfl (by decide) (fun _ => rfl) (fun v10 => ?_)
          exact gT_sub [2, 3, 4, 0, 5] rfl (wX9_sumTo_b91 hC ih s9 x3 x4 v10 x6)
        · refine g_iload_n (pc := 56) (q := 4) hC dX9_sumTo_56 rfl rfl ?_
          refine g_aload_n (pc := 57) (q := 1) hC dX9_sumTo_57 rfl rfl ?_
          refine g_get (pc := 58) (v := .ref (G.2.1 1)) hC kX9 rfl 0 (by decide) fl_RX9_10 rfl dX9_sumTo_58 ?_
          refine g_iload (pc := 61) (q := 5) hC dX9_sumTo_61 rfl ?_
          refine g_iload (pc := 63) (q := 0) hC dX9_sumTo_63 rfl ?_
          refine g_callVi (pc := 65) (As := [.int x6, .int v7]) (rest := [.int x5]) hC lk_RX9_323 kX8 rfl (tX8_harmOfAll _ _ σ x6 v7) rfl rfl (Nat.le_of_ble_eq_true rfl) ⟨rfl, rfl, Nat.le_of_ble_eq_true rfl, Nat.le_of_ble_eq_true rfl⟩ dX9_sumTo_65 (fun r16 s17 => ?_)
          refine g_iadd (pc := 68) hC dX9_sumTo_68 ?_
          refine g_istore_n (pc := 69) (lv' := fun v18 => [(3, .int v18), (5, .int v7), (0, .ref (G.2.1 0)), (1, .int x3), (2, .int x4), (4, .int x6)]) hC dX9_sumTo_69 rfl (by decide) (fun _ => rfl) (fun v18 => ?_)
          refine g_goto (pc := 70) (tgt := 91) hC dX9_sumTo_70 (by decide) ?_
          exact gT_sub [2, 3, 4, 0, 5] rfl (wX9_sumTo_b91 hC ih s17 x3 x4 v18 x6)
      · refine g_iload_n (pc := 34) (q := 4) hC dX9_sumTo_34 rfl rfl ?_
        refine g_aload_n (pc := 35) (q := 1) hC dX9_sumTo_35 rfl rfl ?_
        refine g_get (pc := 36) (v := .ref (G.2.1 1)) hC kX9 rfl 0 (by decide) fl_RX9_10 rfl dX9_sumTo_36 ?_
        refine g_iload (pc := 39) (q := 5) hC dX9_sumTo_39 rfl ?_
        refine g_iload (pc := 41) (q := 0) hC dX9_sumTo_41 rfl ?_
        refine g_callVi (pc := 43) (As := [.int x6, .int v7]) (rest := [.int x5]) hC lk_RX9_320 kX8 rfl (tX8_gain _ _ σ x6 v7) rfl rfl (Nat.le_of_ble_eq_true rfl) ⟨rfl, rfl, Nat.le_of_ble_eq_true rfl, Nat.le_of_ble_eq_true rfl⟩ dX9_sumTo_43 (fun r19 s20 => ?_)
        refine g_iadd (pc := 46) hC dX9_sumTo_46 ?_
        refine g_istore_n (pc := 47) (lv' := fun v21 => [(3, .int v21), (5, .int v7), (0, .ref (G.2.1 0)), (1, .int x3), (2, .int x4), (4, .int x6)]) hC dX9_sumTo_47 rfl (by decide) (fun _ => rfl) (fun v21 => ?_)
        refine g_goto (pc := 48) (tgt := 91) hC dX9_sumTo_48 (by decide) ?_
        exact gT_sub [2, 3, 4, 0, 5] rfl (wX9_sumTo_b91 hC ih s20 x3 x4 v21 x6)
def mX9_sumTo (σ : gS) (p0 : Int32) (p1 : Int32) : Option (Int32 × gS) := gLet 0 (fun v1 => gLet (σ.1 8 4) (fun v2 => (mX9_sumTo_b11  1100 σ p0 p1 v1 v2)))
set_option maxHeartbeats 4000000 in
set_option maxRecDepth 100000 in
theorem tX9_sumTo (l : Launch) (G : gE) (σ : gS) (p0 : Int32) (p1 : Int32) : gM l G yX9_sumTo cX9_sumTo 6 (some .int) rX9_sumTo iI [.ref (G.2.1 0), .int p0, .int p1] σ (mX9_sumTo σ p0 p1) := by
  refine gM_of (by decide) (Nat.le_of_ble_eq_true rfl) ?_
  intro p e s m args below meth c hC
  unfold mX9_sumTo
  show gT p l e rX9_sumTo s m args below meth c G 6 iI σ 0 [(0, .ref (G.2.1 0)), (1, .int p0), (2, .int p1)] [] _
  refine g_iconst (pc := 0) (v := 0) hC dX9_sumTo_0 (by decide) ?_
  refine g_istore_n (pc := 1) (lv' := fun v1 => [(3, .int v1), (0, .ref (G.2.1 0)), (1, .int p0), (2, .int p1)]) hC dX9_sumTo_1 rfl (by decide) (fun _ => rfl) (fun v1 => ?_)
  refine g_aload_n (pc := 2) (q := 1) hC dX9_sumTo_2 rfl rfl ?_
  refine g_get (pc := 3) (v := .ref (G.2.1 8)) hC kX9 rfl 1 (by decide) fl_RX9_19 rfl dX9_sumTo_3 ?_
  refine g_get (pc := 6) (v := .int (σ.1 8 4)) hC kX5 rfl 4 (by decide) fl_RX9_153 rfl dX9_sumTo_6 ?_
  refine g_istore (pc := 9) (lv' := fun v2 => [(4, .int v2), (3, .int v1), (0, .ref (G.2.1 0)), (1, .int p0), (2, .int p1)]) hC dX9_sumTo_9 (by decide) (fun _ => rfl) (fun v2 => ?_)
  exact gT_sub [2, 3, 4, 1, 0] rfl (wX9_sumTo_b11 hC  1100 σ p0 p1 v1 v2)
theorem fl_RX9_159 : Cond.fieldLink RX9 159 "WinterShed$Thought" "colds" "[I" ∈ gBig := (gBig_tab 109 (by decide +kernel) (by decide +kernel))
theorem dX9_firstWithoutCold_0 : decode cX9_firstWithoutCold 0 = .ok (.aload_n 0, 1) := by decide +kernel
theorem dX9_firstWithoutCold_1 : decode cX9_firstWithoutCold 1 = .ok (.getfield 19, 3) := by decide +kernel
theorem dX9_firstWithoutCold_4 : decode cX9_firstWithoutCold 4 = .ok (.getfield 153, 3) := by decide +kernel
theorem dX9_firstWithoutCold_7 : decode cX9_firstWithoutCold 7 = .ok (.istore_n 1, 1) := by decide +kernel
theorem dX9_firstWithoutCold_8 : decode cX9_firstWithoutCold 8 = .ok (.iload_n 1, 1) := by decide +kernel
theorem dX9_firstWithoutCold_9 : decode cX9_firstWithoutCold 9 = .ok (.bipush 30, 2) := by decide +kernel
theorem dX9_firstWithoutCold_11 : decode cX9_firstWithoutCold 11 = .ok (.if_icmp .gt 23, 3) := by decide +kernel
theorem dX9_firstWithoutCold_14 : decode cX9_firstWithoutCold 14 = .ok (.aload_n 0, 1) := by decide +kernel
theorem dX9_firstWithoutCold_15 : decode cX9_firstWithoutCold 15 = .ok (.getfield 29, 3) := by decide +kernel
theorem dX9_firstWithoutCold_18 : decode cX9_firstWithoutCold 18 = .ok (.getfield 159, 3) := by decide +kernel
theorem dX9_firstWithoutCold_21 : decode cX9_firstWithoutCold 21 = .ok (.iload_n 1, 1) := by decide +kernel
theorem dX9_firstWithoutCold_22 : decode cX9_firstWithoutCold 22 = .ok (.iaload, 1) := by decide +kernel
theorem dX9_firstWithoutCold_23 : decode cX9_firstWithoutCold 23 = .ok (.ifCond .ne 5, 3) := by decide +kernel
theorem dX9_firstWithoutCold_26 : decode cX9_firstWithoutCold 26 = .ok (.iload_n 1, 1) := by decide +kernel
theorem dX9_firstWithoutCold_27 : decode cX9_firstWithoutCold 27 = .ok (.ireturn, 1) := by decide +kernel
theorem dX9_firstWithoutCold_28 : decode cX9_firstWithoutCold 28 = .ok (.iinc 1 1, 3) := by decide +kernel
theorem dX9_firstWithoutCold_31 : decode cX9_firstWithoutCold 31 = .ok (.goto (-23), 3) := by decide +kernel
theorem dX9_firstWithoutCold_34 : decode cX9_firstWithoutCold 34 = .ok (.bipush (-2), 2) := by decide +kernel
theorem dX9_firstWithoutCold_36 : decode cX9_firstWithoutCold 36 = .ok (.ireturn, 1) := by decide +kernel
abbrev rX9_firstWithoutCold : Room := { frames := 0, cells := 0, slots := 0, locals := 0 }
def mX9_firstWithoutCold_b8    : Nat → gS → Int32 → Option (Int32 × gS)
  | 0, _, _ => none
  | n + 1, σ, x2 => if 30 < x2 then (some ((-2), σ)) else (if inbB x2 31 = true then (if (σ.1 12 (Int32.toNatClampNeg x2)) = 0 then (some (x2, σ)) else (gLet (x2 + 1) (fun v3 => ((mX9_firstWithoutCold_b8  n) σ v3)))) else none)
set_option maxHeartbeats 4000000 in
set_option maxRecDepth 100000 in
theorem wX9_firstWithoutCold_b8 {p : Program} {l : Launch} {e : Env} {s : State} {m : MethodId} {args : Array Value} {below : List Frame} {meth : Method} {c : Code} {G : gE} (hC : gCx p s m args meth c G RX9 cX9_firstWithoutCold 2 (some .int))     (n : Nat) (σ : gS) (x2 : Int32)  : gT p l e rX9_firstWithoutCold s m args below meth c G 2 iI σ 8 [(0, .ref (G.2.1 0)), (1, .int x2)] [] (mX9_firstWithoutCold_b8  n σ x2) := by
  induction n generalizing σ x2 with
  | zero => exact gT_none
  | succ n ih =>
    unfold mX9_firstWithoutCold_b8
    refine g_iload_n (pc := 8) (q := 1) hC dX9_firstWithoutCold_8 rfl rfl ?_
    refine g_bipush (pc := 9) (v := 30) hC dX9_firstWithoutCold_9 (by decide) ?_
    refine g_icmp_gt (pc := 11) (tgt := 34) hC dX9_firstWithoutCold_11 (by decide) ?_ ?_
    · refine g_bipush (pc := 34) (v := (-2)) hC dX9_firstWithoutCold_34 (by decide) ?_
      exact g_iret (pc := 36) hC dX9_firstWithoutCold_36
    · refine g_aload_n (pc := 14) (q := 0) hC dX9_firstWithoutCold_14 rfl rfl ?_
      refine g_get (pc := 15) (v := .ref (G.2.1 10)) hC kX9 rfl 3 (by decide) fl_RX9_29 rfl dX9_firstWithoutCold_15 ?_
      refine g_get (pc := 18) (v := .ref (G.2.1 12)) hC kX7 rfl 1 (by decide) fl_RX9_159 rfl dX9_firstWithoutCold_18 ?_
      refine g_iload_n (pc := 21) (q := 1) hC dX9_firstWithoutCold_21 rfl rfl ?_
      refine g_iald (pc := 22) hC 31 rfl (by decide) dX9_firstWithoutCold_22 ?_
      refine g_if_ne (pc := 23) (tgt := 28) hC dX9_firstWithoutCold_23 (by decide) ?_ ?_
      · refine g_iinc (pc := 28) (q := 1) (w := 1) (lv' := fun v3 => [(1, .int v3), (0, .ref (G.2.1 0))]) hC dX9_firstWithoutCold_28 rfl (by decide) (by decide) (fun _ => rfl) (fun v3 => ?_)
        refine g_goto (pc := 31) (tgt := 8) hC dX9_firstWithoutCold_31 (by decide) ?_
        exact gT_sub [1, 0] rfl (ih σ v3)
      · refine g_iload_n (pc := 26) (q := 1) hC dX9_firstWithoutCold_26 rfl rfl ?_
        exact g_iret (pc := 27) hC dX9_firstWithoutCold_27
def mX9_firstWithoutCold (σ : gS)  : Option (Int32 × gS) := gLet (σ.1 8 4) (fun v1 => (mX9_firstWithoutCold_b8  1100 σ v1))
set_option maxHeartbeats 4000000 in
set_option maxRecDepth 100000 in
theorem tX9_firstWithoutCold (l : Launch) (G : gE) (σ : gS)  : gM l G yX9_firstWithoutCold cX9_firstWithoutCold 2 (some .int) rX9_firstWithoutCold iI [.ref (G.2.1 0)] σ (mX9_firstWithoutCold σ ) := by
  refine gM_of (by decide) (Nat.le_of_ble_eq_true rfl) ?_
  intro p e s m args below meth c hC
  unfold mX9_firstWithoutCold
  show gT p l e rX9_firstWithoutCold s m args below meth c G 2 iI σ 0 [(0, .ref (G.2.1 0))] [] _
  refine g_aload_n (pc := 0) (q := 0) hC dX9_firstWithoutCold_0 rfl rfl ?_
  refine g_get (pc := 1) (v := .ref (G.2.1 8)) hC kX9 rfl 1 (by decide) fl_RX9_19 rfl dX9_firstWithoutCold_1 ?_
  refine g_get (pc := 4) (v := .int (σ.1 8 4)) hC kX5 rfl 4 (by decide) fl_RX9_153 rfl dX9_firstWithoutCold_4 ?_
  refine g_istore_n (pc := 7) (lv' := fun v1 => [(1, .int v1), (0, .ref (G.2.1 0))]) hC dX9_firstWithoutCold_7 rfl (by decide) (fun _ => rfl) (fun v1 => ?_)
  exact gT_sub [1, 0] rfl (wX9_firstWithoutCold_b8 hC  1100 σ v1)
theorem fl_RX9_406 : Cond.fieldLink RX9 406 "WinterShed$Village" "wants" "I" ∈ gBig := (gBig_tab 41 (by decide +kernel) (by decide +kernel))
theorem dX9_firstUnmet_0 : decode cX9_firstUnmet 0 = .ok (.aload_n 0, 1) := by decide +kernel
theorem dX9_firstUnmet_1 : decode cX9_firstUnmet 1 = .ok (.getfield 29, 3) := by decide +kernel
theorem dX9_firstUnmet_4 : decode cX9_firstUnmet 4 = .ok (.aload_n 0, 1) := by decide +kernel
theorem dX9_firstUnmet_5 : decode cX9_firstUnmet 5 = .ok (.getfield 19, 3) := by decide +kernel
theorem dX9_firstUnmet_8 : decode cX9_firstUnmet 8 = .ok (.aload_n 0, 1) := by decide +kernel
theorem dX9_firstUnmet_9 : decode cX9_firstUnmet 9 = .ok (.getfield 51, 3) := by decide +kernel
theorem dX9_firstUnmet_12 : decode cX9_firstUnmet 12 = .ok (.invokevirtual 184, 3) := by decide +kernel
theorem dX9_firstUnmet_15 : decode cX9_firstUnmet 15 = .ok (.iconst 0, 1) := by decide +kernel
theorem dX9_firstUnmet_16 : decode cX9_firstUnmet 16 = .ok (.istore_n 1, 1) := by decide +kernel
theorem dX9_firstUnmet_17 : decode cX9_firstUnmet 17 = .ok (.iload_n 1, 1) := by decide +kernel
theorem dX9_firstUnmet_18 : decode cX9_firstUnmet 18 = .ok (.aload_n 0, 1) := by decide +kernel
theorem dX9_firstUnmet_19 : decode cX9_firstUnmet 19 = .ok (.getfield 10, 3) := by decide +kernel
theorem dX9_firstUnmet_22 : decode cX9_firstUnmet 22 = .ok (.getfield 406, 3) := by decide +kernel
theorem dX9_firstUnmet_25 : decode cX9_firstUnmet 25 = .ok (.if_icmp .ge 53, 3) := by decide +kernel
theorem dX9_firstUnmet_28 : decode cX9_firstUnmet 28 = .ok (.aload_n 0, 1) := by decide +kernel
theorem dX9_firstUnmet_29 : decode cX9_firstUnmet 29 = .ok (.getfield 10, 3) := by decide +kernel
theorem dX9_firstUnmet_32 : decode cX9_firstUnmet 32 = .ok (.getfield 424, 3) := by decide +kernel
theorem dX9_firstUnmet_35 : decode cX9_firstUnmet 35 = .ok (.iload_n 1, 1) := by decide +kernel
theorem dX9_firstUnmet_36 : decode cX9_firstUnmet 36 = .ok (.iaload, 1) := by decide +kernel
theorem dX9_firstUnmet_37 : decode cX9_firstUnmet 37 = .ok (.istore_n 2, 1) := by decide +kernel
theorem dX9_firstUnmet_38 : decode cX9_firstUnmet 38 = .ok (.iload_n 2, 1) := by decide +kernel
theorem dX9_firstUnmet_39 : decode cX9_firstUnmet 39 = .ok (.aload_n 0, 1) := by decide +kernel
theorem dX9_firstUnmet_40 : decode cX9_firstUnmet 40 = .ok (.getfield 19, 3) := by decide +kernel
theorem dX9_firstUnmet_43 : decode cX9_firstUnmet 43 = .ok (.getfield 153, 3) := by decide +kernel
theorem dX9_firstUnmet_46 : decode cX9_firstUnmet 46 = .ok (.if_icmp .lt 26, 3) := by decide +kernel
theorem dX9_firstUnmet_49 : decode cX9_firstUnmet 49 = .ok (.aload_n 0, 1) := by decide +kernel
theorem dX9_firstUnmet_50 : decode cX9_firstUnmet 50 = .ok (.getfield 10, 3) := by decide +kernel
theorem dX9_firstUnmet_53 : decode cX9_firstUnmet 53 = .ok (.getfield 427, 3) := by decide +kernel
theorem dX9_firstUnmet_56 : decode cX9_firstUnmet 56 = .ok (.iload_n 1, 1) := by decide +kernel
theorem dX9_firstUnmet_57 : decode cX9_firstUnmet 57 = .ok (.iaload, 1) := by decide +kernel
theorem dX9_firstUnmet_58 : decode cX9_firstUnmet 58 = .ok (.aload_n 0, 1) := by decide +kernel
theorem dX9_firstUnmet_59 : decode cX9_firstUnmet 59 = .ok (.getfield 29, 3) := by decide +kernel
theorem dX9_firstUnmet_62 : decode cX9_firstUnmet 62 = .ok (.getfield 165, 3) := by decide +kernel
theorem dX9_firstUnmet_65 : decode cX9_firstUnmet 65 = .ok (.iload_n 2, 1) := by decide +kernel
theorem dX9_firstUnmet_66 : decode cX9_firstUnmet 66 = .ok (.iaload, 1) := by decide +kernel
theorem dX9_firstUnmet_67 : decode cX9_firstUnmet 67 = .ok (.if_icmp .le 5, 3) := by decide +kernel
theorem dX9_firstUnmet_70 : decode cX9_firstUnmet 70 = .ok (.iload_n 1, 1) := by decide +kernel
theorem dX9_firstUnmet_71 : decode cX9_firstUnmet 71 = .ok (.ireturn, 1) := by decide +kernel
theorem dX9_firstUnmet_72 : decode cX9_firstUnmet 72 = .ok (.iinc 1 1, 3) := by decide +kernel
theorem dX9_firstUnmet_75 : decode cX9_firstUnmet 75 = .ok (.goto (-58), 3) := by decide +kernel
theorem dX9_firstUnmet_78 : decode cX9_firstUnmet 78 = .ok (.bipush (-2), 2) := by decide +kernel
theorem dX9_firstUnmet_80 : decode cX9_firstUnmet 80 = .ok (.ireturn, 1) := by decide +kernel
abbrev rX9_firstUnmet : Room := { frames := 5, cells := 0, slots := 0, locals := 121 }
def mX9_firstUnmet_b72   (k17 : gS → Int32 → Option (Int32 × gS)) (σ : gS) (x7 : Int32) : Option (Int32 × gS) := gLet (x7 + 1) (fun v8 => (k17 σ v8))
set_option maxHeartbeats 4000000 in
set_option maxRecDepth 100000 in
theorem wX9_firstUnmet_b72 {p : Program} {l : Launch} {e : Env} {s : State} {m : MethodId} {args : Array Value} {below : List Frame} {meth : Method} {c : Code} {G : gE} (hC : gCx p s m args meth c G RX9 cX9_firstUnmet 3 (some .int))    {k17 : gS → Int32 → Option (Int32 × gS)} (hk17 : ∀ (σ : gS) (x5 : Int32), gT p l e rX9_firstUnmet s m args below meth c G 3 iI σ 17 [(0, .ref (G.2.1 0)), (1, .int x5)] [] (k17 σ x5)) (σ : gS) (x7 : Int32)  : gT p l e rX9_firstUnmet s m args below meth c G 3 iI σ 72 [(0, .ref (G.2.1 0)), (1, .int x7)] [] (mX9_firstUnmet_b72 k17 σ x7) := by
  unfold mX9_firstUnmet_b72
  refine g_iinc (pc := 72) (q := 1) (w := 1) (lv' := fun v8 => [(1, .int v8), (0, .ref (G.2.1 0))]) hC dX9_firstUnmet_72 rfl (by decide) (by decide) (fun _ => rfl) (fun v8 => ?_)
  refine g_goto (pc := 75) (tgt := 17) hC dX9_firstUnmet_75 (by decide) ?_
  exact gT_sub [1, 0] rfl (hk17 σ v8)
def mX9_firstUnmet_b17    : Nat → gS → Int32 → Option (Int32 × gS)
  | 0, _, _ => none
  | n + 1, σ, x5 => if (σ.1 1 3) ≤ x5 then (some ((-2), σ)) else (if inbB x5 12 = true then (gLet (σ.1 5 (Int32.toNatClampNeg x5)) (fun v6 => if v6 < (σ.1 8 4) then ((mX9_firstUnmet_b72 (mX9_firstUnmet_b17  n) σ x5)) else (if inbB x5 12 = true then (if inbB v6 30 = true then (if (σ.1 6 (Int32.toNatClampNeg x5)) ≤ (σ.1 13 (Int32.toNatClampNeg v6)) then ((mX9_firstUnmet_b72 (mX9_firstUnmet_b17  n) σ x5)) else (some (x5, σ))) else none) else none))) else none)
set_option maxHeartbeats 4000000 in
set_option maxRecDepth 100000 in
theorem wX9_firstUnmet_b17 {p : Program} {l : Launch} {e : Env} {s : State} {m : MethodId} {args : Array Value} {below : List Frame} {meth : Method} {c : Code} {G : gE} (hC : gCx p s m args meth c G RX9 cX9_firstUnmet 3 (some .int))     (n : Nat) (σ : gS) (x5 : Int32)  : gT p l e rX9_firstUnmet s m args below meth c G 3 iI σ 17 [(0, .ref (G.2.1 0)), (1, .int x5)] [] (mX9_firstUnmet_b17  n σ x5) := by
  induction n generalizing σ x5 with
  | zero => exact gT_none
  | succ n ih =>
    unfold mX9_firstUnmet_b17
    refine g_iload_n (pc := 17) (q := 1) hC dX9_firstUnmet_17 rfl rfl ?_
    refine g_aload_n (pc := 18) (q := 0) hC dX9_firstUnmet_18 rfl rfl ?_
    refine g_get (pc := 19) (v := .ref (G.2.1 1)) hC kX9 rfl 0 (by decide) fl_RX9_10 rfl dX9_firstUnmet_19 ?_
    refine g_get (pc := 22) (v := .int (σ.1 1 3)) hC kX8 rfl 3 (by decide) fl_RX9_406 rfl dX9_firstUnmet_22 ?_
    refine g_icmp_ge (pc := 25) (tgt := 78) hC dX9_firstUnmet_25 (by decide) ?_ ?_
    · refine g_bipush (pc := 78) (v := (-2)) hC dX9_firstUnmet_78 (by decide) ?_
      exact g_iret (pc := 80) hC dX9_firstUnmet_80
    · refine g_aload_n (pc := 28) (q := 0) hC dX9_firstUnmet_28 rfl rfl ?_
      refine g_get (pc := 29) (v := .ref (G.2.1 1)) hC kX9 rfl 0 (by decide) fl_RX9_10 rfl dX9_firstUnmet_29 ?_
      refine g_get (pc := 32) (v := .ref (G.2.1 5)) hC kX8 rfl 5 (by decide) fl_RX9_424 rfl dX9_firstUnmet_32 ?_
      refine g_iload_n (pc := 35) (q := 1) hC dX9_firstUnmet_35 rfl rfl ?_
      refine g_iald (pc := 36) hC 12 rfl (by decide) dX9_firstUnmet_36 ?_
      refine g_istore_n (pc := 37) (lv' := fun v6 => [(2, .int v6), (0, .ref (G.2.1 0)), (1, .int x5)]) hC dX9_firstUnmet_37 rfl (by decide) (fun _ => rfl) (fun v6 => ?_)
      refine g_iload_n (pc := 38) (q := 0) hC dX9_firstUnmet_38 rfl rfl ?_
      refine g_aload_n (pc := 39) (q := 1) hC dX9_firstUnmet_39 rfl rfl ?_
      refine g_get (pc := 40) (v := .ref (G.2.1 8)) hC kX9 rfl 1 (by decide) fl_RX9_19 rfl dX9_firstUnmet_40 ?_
      refine g_get (pc := 43) (v := .int (σ.1 8 4)) hC kX5 rfl 4 (by decide) fl_RX9_153 rfl dX9_firstUnmet_43 ?_
      refine g_icmp_lt (pc := 46) (tgt := 72) hC dX9_firstUnmet_46 (by decide) ?_ ?_
      · exact gT_sub [1, 2] rfl (wX9_firstUnmet_b72 hC ih σ x5)
      · refine g_aload_n (pc := 49) (q := 1) hC dX9_firstUnmet_49 rfl rfl ?_
        refine g_get (pc := 50) (v := .ref (G.2.1 1)) hC kX9 rfl 0 (by decide) fl_RX9_10 rfl dX9_firstUnmet_50 ?_
        refine g_get (pc := 53) (v := .ref (G.2.1 6)) hC kX8 rfl 6 (by decide) fl_RX9_427 rfl dX9_firstUnmet_53 ?_
        refine g_iload_n (pc := 56) (q := 2) hC dX9_firstUnmet_56 rfl rfl ?_
        refine g_iald (pc := 57) hC 12 rfl (by decide) dX9_firstUnmet_57 ?_
        refine g_aload_n (pc := 58) (q := 1) hC dX9_firstUnmet_58 rfl rfl ?_
        refine g_get (pc := 59) (v := .ref (G.2.1 10)) hC kX9 rfl 3 (by decide) fl_RX9_29 rfl dX9_firstUnmet_59 ?_
        refine g_get (pc := 62) (v := .ref (G.2.1 13)) hC kX7 rfl 2 (by decide) fl_RX9_165 rfl dX9_firstUnmet_62 ?_
        refine g_iload_n (pc := 65) (q := 0) hC dX9_firstUnmet_65 rfl rfl ?_
        refine g_iald (pc := 66) hC 30 rfl (by decide) dX9_firstUnmet_66 ?_
        refine g_icmp_le (pc := 67) (tgt := 72) hC dX9_firstUnmet_67 (by decide) ?_ ?_
        · exact gT_sub [1, 2] rfl (wX9_firstUnmet_b72 hC ih σ x5)
        · refine g_iload_n (pc := 70) (q := 2) hC dX9_firstUnmet_70 rfl rfl ?_
          exact g_iret (pc := 71) hC dX9_firstUnmet_71
def mX9_firstUnmet (σ : gS)  : Option (Int32 × gS) := gOpt (σ.2.2 0 7) (none) (fun k1 => if gk k1 = 3 then (gBind (mX7_walk σ 8 k1) (fun r2 s3 => gLet 0 (fun v4 => (mX9_firstUnmet_b17  1100 s3 v4)))) else none)
set_option maxHeartbeats 4000000 in
set_option maxRecDepth 100000 in
theorem tX9_firstUnmet (l : Launch) (G : gE) (σ : gS)  : gM l G yX9_firstUnmet cX9_firstUnmet 3 (some .int) rX9_firstUnmet iI [.ref (G.2.1 0)] σ (mX9_firstUnmet σ ) := by
  refine gM_of (by decide) (Nat.le_of_ble_eq_true rfl) ?_
  intro p e s m args below meth c hC
  unfold mX9_firstUnmet
  show gT p l e rX9_firstUnmet s m args below meth c G 3 iI σ 0 [(0, .ref (G.2.1 0))] [] _
  refine g_aload_n (pc := 0) (q := 0) hC dX9_firstUnmet_0 rfl rfl ?_
  refine g_get (pc := 1) (v := .ref (G.2.1 10)) hC kX9 rfl 3 (by decide) fl_RX9_29 rfl dX9_firstUnmet_1 ?_
  refine g_aload_n (pc := 4) (q := 0) hC dX9_firstUnmet_4 rfl rfl ?_
  refine g_get (pc := 5) (v := .ref (G.2.1 8)) hC kX9 rfl 1 (by decide) fl_RX9_19 rfl dX9_firstUnmet_5 ?_
  refine g_aload_n (pc := 8) (q := 0) hC dX9_firstUnmet_8 rfl rfl ?_
  refine g_get (pc := 9) (v := va_rf ((σ.2.2 0 7).map G.2.1)) hC kX9 rfl 7 (by decide) fl_RX9_51 rfl dX9_firstUnmet_9 ?_
  refine gT_opt ?_ (fun k1 => ?_)
  · exact gT_none
  · refine gT_if (fun hk1 => ?_) (fun _ => gT_none)
    refine g_callVv (pc := 12) (As := [.ref (G.2.1 8), .ref (G.2.1 k1)]) (rest := []) hC lk_RX9_184 kX7 rfl (tX7_walk _ _ σ 8 k1) rfl rfl (Nat.le_of_ble_eq_true rfl) ⟨rfl, rfl, Nat.le_of_ble_eq_true rfl, Nat.le_of_ble_eq_true rfl⟩ dX9_firstUnmet_12 (fun r2 s3 => ?_)
    refine g_iconst (pc := 15) (v := 0) hC dX9_firstUnmet_15 (by decide) ?_
    refine g_istore_n (pc := 16) (lv' := fun v4 => [(1, .int v4), (0, .ref (G.2.1 0))]) hC dX9_firstUnmet_16 rfl (by decide) (fun _ => rfl) (fun v4 => ?_)
    exact gT_sub [1, 0] rfl (wX9_firstUnmet_b17 hC  1100 s3 v4)
theorem fl_RX9_460 : Cond.fieldLink RX9 460 "WinterShed$Thought" "asked" "[I" ∈ gBig := (gBig_tab 107 (by decide +kernel) (by decide +kernel))
theorem lk_RX9_326 : gLV RX9 326 RX3 yX3_overnight cX3_overnight 7 (some .int) 4 := ⟨(gBig_tab 741 (by decide +kernel) (by decide +kernel)), (gBig_tab 645 (by decide +kernel) (by decide +kernel)), (gBig_tab 646 (by decide +kernel) (by decide +kernel)), (gBig_tab 6 (by decide +kernel) (by decide +kernel)), (gBig_tab 647 (by decide +kernel) (by decide +kernel)), rfl, by decide +kernel, by decide +kernel, by decide +kernel⟩
theorem lk_RX9_306 : gLV RX9 306 RX5 yX5_givesAt cX5_givesAt 3 (some .boolean) 2 := ⟨(gBig_tab 767 (by decide +kernel) (by decide +kernel)), (gBig_tab 636 (by decide +kernel) (by decide +kernel)), (gBig_tab 637 (by decide +kernel) (by decide +kernel)), (gBig_tab 3 (by decide +kernel) (by decide +kernel)), (gBig_tab 638 (by decide +kernel) (by decide +kernel)), rfl, by decide +kernel, by decide +kernel, by decide +kernel⟩
theorem dX9_meetsAllFrom_0 : decode cX9_meetsAllFrom 0 = .ok (.iload_n 1, 1) := by decide +kernel
theorem dX9_meetsAllFrom_1 : decode cX9_meetsAllFrom 1 = .ok (.istore_n 2, 1) := by decide +kernel
theorem dX9_meetsAllFrom_2 : decode cX9_meetsAllFrom 2 = .ok (.aload_n 0, 1) := by decide +kernel
theorem dX9_meetsAllFrom_3 : decode cX9_meetsAllFrom 3 = .ok (.getfield 19, 3) := by decide +kernel
theorem dX9_meetsAllFrom_6 : decode cX9_meetsAllFrom 6 = .ok (.getfield 153, 3) := by decide +kernel
theorem dX9_meetsAllFrom_9 : decode cX9_meetsAllFrom 9 = .ok (.istore_n 3, 1) := by decide +kernel
theorem dX9_meetsAllFrom_10 : decode cX9_meetsAllFrom 10 = .ok (.iload_n 3, 1) := by decide +kernel
theorem dX9_meetsAllFrom_11 : decode cX9_meetsAllFrom 11 = .ok (.bipush 29, 2) := by decide +kernel
theorem dX9_meetsAllFrom_13 : decode cX9_meetsAllFrom 13 = .ok (.if_icmp .gt 59, 3) := by decide +kernel
theorem dX9_meetsAllFrom_16 : decode cX9_meetsAllFrom 16 = .ok (.aload_n 0, 1) := by decide +kernel
theorem dX9_meetsAllFrom_17 : decode cX9_meetsAllFrom 17 = .ok (.getfield 29, 3) := by decide +kernel
theorem dX9_meetsAllFrom_20 : decode cX9_meetsAllFrom 20 = .ok (.getfield 460, 3) := by decide +kernel
theorem dX9_meetsAllFrom_23 : decode cX9_meetsAllFrom 23 = .ok (.iload_n 3, 1) := by decide +kernel
theorem dX9_meetsAllFrom_24 : decode cX9_meetsAllFrom 24 = .ok (.iaload, 1) := by decide +kernel
theorem dX9_meetsAllFrom_25 : decode cX9_meetsAllFrom 25 = .ok (.istore 4, 2) := by decide +kernel
theorem dX9_meetsAllFrom_27 : decode cX9_meetsAllFrom 27 = .ok (.aload_n 0, 1) := by decide +kernel
theorem dX9_meetsAllFrom_28 : decode cX9_meetsAllFrom 28 = .ok (.getfield 19, 3) := by decide +kernel
theorem dX9_meetsAllFrom_31 : decode cX9_meetsAllFrom 31 = .ok (.iload_n 3, 1) := by decide +kernel
theorem dX9_meetsAllFrom_32 : decode cX9_meetsAllFrom 32 = .ok (.iload_n 2, 1) := by decide +kernel
theorem dX9_meetsAllFrom_33 : decode cX9_meetsAllFrom 33 = .ok (.invokevirtual 306, 3) := by decide +kernel
theorem dX9_meetsAllFrom_36 : decode cX9_meetsAllFrom 36 = .ok (.ifCond .ne 9, 3) := by decide +kernel
theorem dX9_meetsAllFrom_39 : decode cX9_meetsAllFrom 39 = .ok (.iload 4, 2) := by decide +kernel
theorem dX9_meetsAllFrom_41 : decode cX9_meetsAllFrom 41 = .ok (.iload_n 2, 1) := by decide +kernel
theorem dX9_meetsAllFrom_42 : decode cX9_meetsAllFrom 42 = .ok (.if_icmp .le 5, 3) := by decide +kernel
theorem dX9_meetsAllFrom_45 : decode cX9_meetsAllFrom 45 = .ok (.iconst 0, 1) := by decide +kernel
theorem dX9_meetsAllFrom_46 : decode cX9_meetsAllFrom 46 = .ok (.ireturn, 1) := by decide +kernel
theorem dX9_meetsAllFrom_47 : decode cX9_meetsAllFrom 47 = .ok (.aload_n 0, 1) := by decide +kernel
theorem dX9_meetsAllFrom_48 : decode cX9_meetsAllFrom 48 = .ok (.getfield 51, 3) := by decide +kernel
theorem dX9_meetsAllFrom_51 : decode cX9_meetsAllFrom 51 = .ok (.aload_n 0, 1) := by decide +kernel
theorem dX9_meetsAllFrom_52 : decode cX9_meetsAllFrom 52 = .ok (.getfield 19, 3) := by decide +kernel
theorem dX9_meetsAllFrom_55 : decode cX9_meetsAllFrom 55 = .ok (.iload_n 3, 1) := by decide +kernel
theorem dX9_meetsAllFrom_56 : decode cX9_meetsAllFrom 56 = .ok (.iload_n 2, 1) := by decide +kernel
theorem dX9_meetsAllFrom_57 : decode cX9_meetsAllFrom 57 = .ok (.iload 4, 2) := by decide +kernel
theorem dX9_meetsAllFrom_59 : decode cX9_meetsAllFrom 59 = .ok (.isub, 1) := by decide +kernel
theorem dX9_meetsAllFrom_60 : decode cX9_meetsAllFrom 60 = .ok (.iload 4, 2) := by decide +kernel
theorem dX9_meetsAllFrom_62 : decode cX9_meetsAllFrom 62 = .ok (.invokevirtual 326, 3) := by decide +kernel
theorem dX9_meetsAllFrom_65 : decode cX9_meetsAllFrom 65 = .ok (.istore_n 2, 1) := by decide +kernel
theorem dX9_meetsAllFrom_66 : decode cX9_meetsAllFrom 66 = .ok (.iinc 3 1, 3) := by decide +kernel
theorem dX9_meetsAllFrom_69 : decode cX9_meetsAllFrom 69 = .ok (.goto (-59), 3) := by decide +kernel
theorem dX9_meetsAllFrom_72 : decode cX9_meetsAllFrom 72 = .ok (.iconst 1, 1) := by decide +kernel
theorem dX9_meetsAllFrom_73 : decode cX9_meetsAllFrom 73 = .ok (.ireturn, 1) := by decide +kernel
abbrev rX9_meetsAllFrom : Room := { frames := 4, cells := 0, slots := 0, locals := 96 }
def mX9_meetsAllFrom_b10    : Nat → gS → Int32 → Int32 → Option (Bool × gS)
  | 0, _, _, _ => none
  | n + 1, σ, x3, x4 => if 29 < x4 then (some (true, σ)) else (if inbB x4 30 = true then (gLet (σ.1 11 (Int32.toNatClampNeg x4)) (fun v5 => gBind (mX5_givesAt σ 8 x4 x3) (fun r6 s7 => if r6 = true then (some (false, s7)) else (if v5 ≤ x3 then (gOpt (s7.2.2 0 7) (none) (fun k8 => if gk k8 = 3 then (gBind (mX3_overnight s7 k8 8 x4 (x3 - v5) v5) (fun r9 s10 => gLet r9 (fun v11 => gLet (x4 + 1) (fun v12 => ((mX9_meetsAllFrom_b10  n) s10 v11 v12))))) else none)) else (some (false, s7)))))) else none)
set_option maxHeartbeats 4000000 in
set_option maxRecDepth 100000 in
theorem wX9_meetsAllFrom_b10 {p : Program} {l : Launch} {e : Env} {s : State} {m : MethodId} {args : Array Value} {below : List Frame} {meth : Method} {c : Code} {G : gE} (hC : gCx p s m args meth c G RX9 cX9_meetsAllFrom 5 (some .boolean))     (n : Nat) (σ : gS) (x3 : Int32) (x4 : Int32)  : gT p l e rX9_meetsAllFrom s m args below meth c G 5 iZ σ 10 [(0, .ref (G.2.1 0)), (2, .int x3), (3, .int x4)] [] (mX9_meetsAllFrom_b10  n σ x3 x4) := by
  induction n generalizing σ x3 x4 with
  | zero => exact gT_none
  | succ n ih =>
    unfold mX9_meetsAllFrom_b10
    refine g_iload_n (pc := 10) (q := 2) hC dX9_meetsAllFrom_10 rfl rfl ?_
    refine g_bipush (pc := 11) (v := 29) hC dX9_meetsAllFrom_11 (by decide) ?_
    refine g_icmp_gt (pc := 13) (tgt := 72) hC dX9_meetsAllFrom_13 (by decide) ?_ ?_
    · refine g_iconst (pc := 72) (v := 1) hC dX9_meetsAllFrom_72 (by decide) ?_
      exact g_zret1 (pc := 73) hC dX9_meetsAllFrom_73
    · refine g_aload_n (pc := 16) (q := 0) hC dX9_meetsAllFrom_16 rfl rfl ?_
      refine g_get (pc := 17) (v := .ref (G.2.1 10)) hC kX9 rfl 3 (by decide) fl_RX9_29 rfl dX9_meetsAllFrom_17 ?_
      refine g_get (pc := 20) (v := .ref (G.2.1 11)) hC kX7 rfl 0 (by decide) fl_RX9_460 rfl dX9_meetsAllFrom_20 ?_
      refine g_iload_n (pc := 23) (q := 2) hC dX9_meetsAllFrom_23 rfl rfl ?_
      refine g_iald (pc := 24) hC 30 rfl (by decide) dX9_meetsAllFrom_24 ?_
      refine g_istore (pc := 25) (lv' := fun v5 => [(4, .int v5), (0, .ref (G.2.1 0)), (2, .int x3), (3, .int x4)]) hC dX9_meetsAllFrom_25 (by decide) (fun _ => rfl) (fun v5 => ?_)
      refine g_aload_n (pc := 27) (q := 1) hC dX9_meetsAllFrom_27 rfl rfl ?_
      refine g_get (pc := 28) (v := .ref (G.2.1 8)) hC kX9 rfl 1 (by decide) fl_RX9_19 rfl dX9_meetsAllFrom_28 ?_
      refine g_iload_n (pc := 31) (q := 3) hC dX9_meetsAllFrom_31 rfl rfl ?_
      refine g_iload_n (pc := 32) (q := 2) hC dX9_meetsAllFrom_32 rfl rfl ?_
      refine g_callVz (pc := 33) (As := [.int x4, .int x3]) (rest := []) hC lk_RX9_306 kX5 rfl (tX5_givesAt _ _ σ 8 x4 x3) rfl rfl (Nat.le_of_ble_eq_true rfl) ⟨rfl, rfl, Nat.le_of_ble_eq_true rfl, Nat.le_of_ble_eq_true rfl⟩ dX9_meetsAllFrom_33 (fun r6 s7 => ?_)
      refine g_bif_ne (pc := 36) (tgt := 45) hC dX9_meetsAllFrom_36 (by decide) ?_ ?_
      · refine g_iconst (pc := 45) (v := 0) hC dX9_meetsAllFrom_45 (by decide) ?_
        exact g_zret0 (pc := 46) hC dX9_meetsAllFrom_46
      · refine g_iload (pc := 39) (q := 0) hC dX9_meetsAllFrom_39 rfl ?_
        refine g_iload_n (pc := 41) (q := 2) hC dX9_meetsAllFrom_41 rfl rfl ?_
        refine g_icmp_le (pc := 42) (tgt := 47) hC dX9_meetsAllFrom_42 (by decide) ?_ ?_
        · refine g_aload_n (pc := 47) (q := 1) hC dX9_meetsAllFrom_47 rfl rfl ?_
          refine g_get (pc := 48) (v := va_rf ((s7.2.2 0 7).map G.2.1)) hC kX9 rfl 7 (by decide) fl_RX9_51 rfl dX9_meetsAllFrom_48 ?_
          refine gT_opt ?_ (fun k8 => ?_)
          · exact gT_none
          · refine gT_if (fun hk8 => ?_) (fun _ => gT_none)
            refine g_aload_n (pc := 51) (q := 1) hC dX9_meetsAllFrom_51 rfl rfl ?_
            refine g_get (pc := 52) (v := .ref (G.2.1 8)) hC kX9 rfl 1 (by decide) fl_RX9_19 rfl dX9_meetsAllFrom_52 ?_
            refine g_iload_n (pc := 55) (q := 3) hC dX9_meetsAllFrom_55 rfl rfl ?_
            refine g_iload_n (pc := 56) (q := 2) hC dX9_meetsAllFrom_56 rfl rfl ?_
            refine g_iload (pc := 57) (q := 0) hC dX9_meetsAllFrom_57 rfl ?_
            refine g_isub (pc := 59) hC dX9_meetsAllFrom_59 ?_
            refine g_iload (pc := 60) (q := 0) hC dX9_meetsAllFrom_60 rfl ?_
            refine g_callVi (pc := 62) (As := [.ref (G.2.1 8), .int x4, .int (x3 - v5), .int v5]) (rest := []) hC lk_RX9_326 kX3 hk8 (tX3_overnight _ _ s7 k8 8 x4 (x3 - v5) v5) rfl rfl (Nat.le_of_ble_eq_true rfl) ⟨rfl, rfl, Nat.le_of_ble_eq_true rfl, Nat.le_of_ble_eq_true rfl⟩ dX9_meetsAllFrom_62 (fun r9 s10 => ?_)
            refine g_istore_n (pc := 65) (lv' := fun v11 => [(2, .int v11), (4, .int v5), (0, .ref (G.2.1 0)), (3, .int x4)]) hC dX9_meetsAllFrom_65 rfl (by decide) (fun _ => rfl) (fun v11 => ?_)
            refine g_iinc (pc := 66) (q := 3) (w := 1) (lv' := fun v12 => [(3, .int v12), (2, .int v11), (4, .int v5), (0, .ref (G.2.1 0))]) hC dX9_meetsAllFrom_66 rfl (by decide) (by decide) (fun _ => rfl) (fun v12 => ?_)
            refine g_goto (pc := 69) (tgt := 10) hC dX9_meetsAllFrom_69 (by decide) ?_
            exact gT_sub [3, 1, 0] rfl (ih s10 v11 v12)
        · refine g_iconst (pc := 45) (v := 0) hC dX9_meetsAllFrom_45 (by decide) ?_
          exact g_zret0 (pc := 46) hC dX9_meetsAllFrom_46
def mX9_meetsAllFrom (σ : gS) (p0 : Int32) : Option (Bool × gS) := gLet p0 (fun v1 => gLet (σ.1 8 4) (fun v2 => (mX9_meetsAllFrom_b10  1100 σ v1 v2)))
set_option maxHeartbeats 4000000 in
set_option maxRecDepth 100000 in
theorem tX9_meetsAllFrom (l : Launch) (G : gE) (σ : gS) (p0 : Int32) : gM l G yX9_meetsAllFrom cX9_meetsAllFrom 5 (some .boolean) rX9_meetsAllFrom iZ [.ref (G.2.1 0), .int p0] σ (mX9_meetsAllFrom σ p0) := by
  refine gM_of (by decide) (Nat.le_of_ble_eq_true rfl) ?_
  intro p e s m args below meth c hC
  unfold mX9_meetsAllFrom
  show gT p l e rX9_meetsAllFrom s m args below meth c G 5 iZ σ 0 [(0, .ref (G.2.1 0)), (1, .int p0)] [] _
  refine g_iload_n (pc := 0) (q := 1) hC dX9_meetsAllFrom_0 rfl rfl ?_
  refine g_istore_n (pc := 1) (lv' := fun v1 => [(2, .int v1), (0, .ref (G.2.1 0)), (1, .int p0)]) hC dX9_meetsAllFrom_1 rfl (by decide) (fun _ => rfl) (fun v1 => ?_)
  refine g_aload_n (pc := 2) (q := 1) hC dX9_meetsAllFrom_2 rfl rfl ?_
  refine g_get (pc := 3) (v := .ref (G.2.1 8)) hC kX9 rfl 1 (by decide) fl_RX9_19 rfl dX9_meetsAllFrom_3 ?_
  refine g_get (pc := 6) (v := .int (σ.1 8 4)) hC kX5 rfl 4 (by decide) fl_RX9_153 rfl dX9_meetsAllFrom_6 ?_
  refine g_istore_n (pc := 9) (lv' := fun v2 => [(3, .int v2), (2, .int v1), (0, .ref (G.2.1 0)), (1, .int p0)]) hC dX9_meetsAllFrom_9 rfl (by decide) (fun _ => rfl) (fun v2 => ?_)
  exact gT_sub [2, 1, 0] rfl (wX9_meetsAllFrom_b10 hC  1100 σ v1 v2)
theorem lk_RX9_457 : gLV RX9 457 RX9 yX9_meetsAllFrom cX9_meetsAllFrom 5 (some .boolean) 1 := ⟨(gBig_tab 763 (by decide +kernel) (by decide +kernel)), (gBig_tab 765 (by decide +kernel) (by decide +kernel)), (gBig_sel 28 (by decide +kernel) (by decide +kernel)), (gBig_tab 1 (by decide +kernel) (by decide +kernel)), (gBig_tab 766 (by decide +kernel) (by decide +kernel)), rfl, by decide +kernel, by decide +kernel, by decide +kernel⟩
theorem dX9_leastCold_0 : decode cX9_leastCold 0 = .ok (.iconst 0, 1) := by decide +kernel
theorem dX9_leastCold_1 : decode cX9_leastCold 1 = .ok (.istore_n 1, 1) := by decide +kernel
theorem dX9_leastCold_2 : decode cX9_leastCold 2 = .ok (.iload_n 1, 1) := by decide +kernel
theorem dX9_leastCold_3 : decode cX9_leastCold 3 = .ok (.sipush 999, 3) := by decide +kernel
theorem dX9_leastCold_6 : decode cX9_leastCold 6 = .ok (.if_icmp .gt 19, 3) := by decide +kernel
theorem dX9_leastCold_9 : decode cX9_leastCold 9 = .ok (.aload_n 0, 1) := by decide +kernel
theorem dX9_leastCold_10 : decode cX9_leastCold 10 = .ok (.iload_n 1, 1) := by decide +kernel
theorem dX9_leastCold_11 : decode cX9_leastCold 11 = .ok (.invokevirtual 457, 3) := by decide +kernel
theorem dX9_leastCold_14 : decode cX9_leastCold 14 = .ok (.ifCond .eq 5, 3) := by decide +kernel
theorem dX9_leastCold_17 : decode cX9_leastCold 17 = .ok (.iload_n 1, 1) := by decide +kernel
theorem dX9_leastCold_18 : decode cX9_leastCold 18 = .ok (.ireturn, 1) := by decide +kernel
theorem dX9_leastCold_19 : decode cX9_leastCold 19 = .ok (.iinc 1 1, 3) := by decide +kernel
theorem dX9_leastCold_22 : decode cX9_leastCold 22 = .ok (.goto (-20), 3) := by decide +kernel
theorem dX9_leastCold_25 : decode cX9_leastCold 25 = .ok (.bipush (-2), 2) := by decide +kernel
theorem dX9_leastCold_27 : decode cX9_leastCold 27 = .ok (.ireturn, 1) := by decide +kernel
abbrev rX9_leastCold : Room := { frames := 5, cells := 0, slots := 0, locals := 120 }
def mX9_leastCold_b2    : Nat → gS → Int32 → Option (Int32 × gS)
  | 0, _, _ => none
  | n + 1, σ, x2 => if 999 < x2 then (some ((-2), σ)) else (gBind (mX9_meetsAllFrom σ x2) (fun r3 s4 => if r3 = true then (some (x2, s4)) else (gLet (x2 + 1) (fun v5 => ((mX9_leastCold_b2  n) s4 v5)))))
set_option maxHeartbeats 4000000 in
set_option maxRecDepth 100000 in
theorem wX9_leastCold_b2 {p : Program} {l : Launch} {e : Env} {s : State} {m : MethodId} {args : Array Value} {below : List Frame} {meth : Method} {c : Code} {G : gE} (hC : gCx p s m args meth c G RX9 cX9_leastCold 2 (some .int))     (n : Nat) (σ : gS) (x2 : Int32)  : gT p l e rX9_leastCold s m args below meth c G 2 iI σ 2 [(0, .ref (G.2.1 0)), (1, .int x2)] [] (mX9_leastCold_b2  n σ x2) := by
  induction n generalizing σ x2 with
  | zero => exact gT_none
  | succ n ih =>
    unfold mX9_leastCold_b2
    refine g_iload_n (pc := 2) (q := 1) hC dX9_leastCold_2 rfl rfl ?_
    refine g_sipush (pc := 3) (v := 999) hC dX9_leastCold_3 (by decide) ?_
    refine g_icmp_gt (pc := 6) (tgt := 25) hC dX9_leastCold_6 (by decide) ?_ ?_
    · refine g_bipush (pc := 25) (v := (-2)) hC dX9_leastCold_25 (by decide) ?_
      exact g_iret (pc := 27) hC dX9_leastCold_27
    · refine g_aload_n (pc := 9) (q := 0) hC dX9_leastCold_9 rfl rfl ?_
      refine g_iload_n (pc := 10) (q := 1) hC dX9_leastCold_10 rfl rfl ?_
      refine g_callVz (pc := 11) (As := [.int x2]) (rest := []) hC lk_RX9_457 kX9 rfl (tX9_meetsAllFrom _ _ σ x2) rfl rfl (Nat.le_of_ble_eq_true rfl) ⟨rfl, rfl, Nat.le_of_ble_eq_true rfl, Nat.le_of_ble_eq_true rfl⟩ dX9_leastCold_11 (fun r3 s4 => ?_)
      refine g_bif_eq (pc := 14) (tgt := 19) hC dX9_leastCold_14 (by decide) ?_ ?_
      · refine g_iinc (pc := 19) (q := 1) (w := 1) (lv' := fun v5 => [(1, .int v5), (0, .ref (G.2.1 0))]) hC dX9_leastCold_19 rfl (by decide) (by decide) (fun _ => rfl) (fun v5 => ?_)
        refine g_goto (pc := 22) (tgt := 2) hC dX9_leastCold_22 (by decide) ?_
        exact gT_sub [1, 0] rfl (ih s4 v5)
      · refine g_iload_n (pc := 17) (q := 1) hC dX9_leastCold_17 rfl rfl ?_
        exact g_iret (pc := 18) hC dX9_leastCold_18
def mX9_leastCold (σ : gS)  : Option (Int32 × gS) := gLet 0 (fun v1 => (mX9_leastCold_b2  1100 σ v1))
set_option maxHeartbeats 4000000 in
set_option maxRecDepth 100000 in
theorem tX9_leastCold (l : Launch) (G : gE) (σ : gS)  : gM l G yX9_leastCold cX9_leastCold 2 (some .int) rX9_leastCold iI [.ref (G.2.1 0)] σ (mX9_leastCold σ ) := by
  refine gM_of (by decide) (Nat.le_of_ble_eq_true rfl) ?_
  intro p e s m args below meth c hC
  unfold mX9_leastCold
  show gT p l e rX9_leastCold s m args below meth c G 2 iI σ 0 [(0, .ref (G.2.1 0))] [] _
  refine g_iconst (pc := 0) (v := 0) hC dX9_leastCold_0 (by decide) ?_
  refine g_istore_n (pc := 1) (lv' := fun v1 => [(1, .int v1), (0, .ref (G.2.1 0))]) hC dX9_leastCold_1 rfl (by decide) (fun _ => rfl) (fun v1 => ?_)
  exact gT_sub [1, 0] rfl (wX9_leastCold_b2 hC  1100 σ v1)
theorem dX9_commonDivisor_0 : decode cX9_commonDivisor 0 = .ok (.iload_n 0, 1) := by decide +kernel
theorem dX9_commonDivisor_1 : decode cX9_commonDivisor 1 = .ok (.istore_n 2, 1) := by decide +kernel
theorem dX9_commonDivisor_2 : decode cX9_commonDivisor 2 = .ok (.iload_n 1, 1) := by decide +kernel
theorem dX9_commonDivisor_3 : decode cX9_commonDivisor 3 = .ok (.istore_n 3, 1) := by decide +kernel
theorem dX9_commonDivisor_4 : decode cX9_commonDivisor 4 = .ok (.iconst 0, 1) := by decide +kernel
theorem dX9_commonDivisor_5 : decode cX9_commonDivisor 5 = .ok (.istore 4, 2) := by decide +kernel
theorem dX9_commonDivisor_7 : decode cX9_commonDivisor 7 = .ok (.iload 4, 2) := by decide +kernel
theorem dX9_commonDivisor_9 : decode cX9_commonDivisor 9 = .ok (.bipush 64, 2) := by decide +kernel
theorem dX9_commonDivisor_11 : decode cX9_commonDivisor 11 = .ok (.if_icmp .ge 23, 3) := by decide +kernel
theorem dX9_commonDivisor_14 : decode cX9_commonDivisor 14 = .ok (.iload_n 3, 1) := by decide +kernel
theorem dX9_commonDivisor_15 : decode cX9_commonDivisor 15 = .ok (.ifCond .eq 19, 3) := by decide +kernel
theorem dX9_commonDivisor_18 : decode cX9_commonDivisor 18 = .ok (.iload_n 2, 1) := by decide +kernel
theorem dX9_commonDivisor_19 : decode cX9_commonDivisor 19 = .ok (.iload_n 3, 1) := by decide +kernel
theorem dX9_commonDivisor_20 : decode cX9_commonDivisor 20 = .ok (.irem, 1) := by decide +kernel
theorem dX9_commonDivisor_21 : decode cX9_commonDivisor 21 = .ok (.istore 5, 2) := by decide +kernel
theorem dX9_commonDivisor_23 : decode cX9_commonDivisor 23 = .ok (.iload_n 3, 1) := by decide +kernel
theorem dX9_commonDivisor_24 : decode cX9_commonDivisor 24 = .ok (.istore_n 2, 1) := by decide +kernel
theorem dX9_commonDivisor_25 : decode cX9_commonDivisor 25 = .ok (.iload 5, 2) := by decide +kernel
theorem dX9_commonDivisor_27 : decode cX9_commonDivisor 27 = .ok (.istore_n 3, 1) := by decide +kernel
theorem dX9_commonDivisor_28 : decode cX9_commonDivisor 28 = .ok (.iinc 4 1, 3) := by decide +kernel
theorem dX9_commonDivisor_31 : decode cX9_commonDivisor 31 = .ok (.goto (-24), 3) := by decide +kernel
theorem dX9_commonDivisor_34 : decode cX9_commonDivisor 34 = .ok (.iload_n 2, 1) := by decide +kernel
theorem dX9_commonDivisor_35 : decode cX9_commonDivisor 35 = .ok (.ifCond .ne 7, 3) := by decide +kernel
theorem dX9_commonDivisor_38 : decode cX9_commonDivisor 38 = .ok (.iconst 1, 1) := by decide +kernel
theorem dX9_commonDivisor_39 : decode cX9_commonDivisor 39 = .ok (.goto 4, 3) := by decide +kernel
theorem dX9_commonDivisor_42 : decode cX9_commonDivisor 42 = .ok (.iload_n 2, 1) := by decide +kernel
theorem dX9_commonDivisor_43 : decode cX9_commonDivisor 43 = .ok (.ireturn, 1) := by decide +kernel
abbrev rX9_commonDivisor : Room := { frames := 0, cells := 0, slots := 0, locals := 0 }
def mX9_commonDivisor_b34    (σ : gS) (x7 : Int32) : Option (Int32 × gS) := if x7 = 0 then (some (1, σ)) else (some (x7, σ))
set_option maxHeartbeats 4000000 in
set_option maxRecDepth 100000 in
theorem wX9_commonDivisor_b34 {p : Program} {l : Launch} {e : Env} {s : State} {m : MethodId} {args : Array Value} {below : List Frame} {meth : Method} {c : Code} {G : gE} (hC : gCx p s m args meth c G RX9 cX9_commonDivisor 6 (some .int))     (σ : gS) (x7 : Int32)  : gT p l e rX9_commonDivisor s m args below meth c G 6 iI σ 34 [(2, .int x7)] [] (mX9_commonDivisor_b34  σ x7) := by
  unfold mX9_commonDivisor_b34
  refine g_iload_n (pc := 34) (q := 0) hC dX9_commonDivisor_34 rfl rfl ?_
  refine g_if_ne (pc := 35) (tgt := 42) hC dX9_commonDivisor_35 (by decide) ?_ ?_
  · refine g_iload_n (pc := 42) (q := 0) hC dX9_commonDivisor_42 rfl rfl ?_
    exact g_iret (pc := 43) hC dX9_commonDivisor_43
  · refine g_iconst (pc := 38) (v := 1) hC dX9_commonDivisor_38 (by decide) ?_
    refine g_goto (pc := 39) (tgt := 43) hC dX9_commonDivisor_39 (by decide) ?_
    exact g_iret (pc := 43) hC dX9_commonDivisor_43
def mX9_commonDivisor_b7    : Nat → gS → Int32 → Int32 → Int32 → Option (Int32 × gS)
  | 0, _, _, _, _ => none
  | n + 1, σ, x4, x5, x6 => if 64 ≤ x6 then ((mX9_commonDivisor_b34  σ x4)) else (if x5 = 0 then ((mX9_commonDivisor_b34  σ x4)) else (if x5 = 0 then none else gLet (gRem x4 x5) (fun v8 => gLet x5 (fun v9 => gLet v8 (fun v10 => gLet (x6 + 1) (fun v11 => ((mX9_commonDivisor_b7  n) σ v9 v10 v11)))))))
set_option maxHeartbeats 4000000 in
set_option maxRecDepth 100000 in
theorem wX9_commonDivisor_b7 {p : Program} {l : Launch} {e : Env} {s : State} {m : MethodId} {args : Array Value} {below : List Frame} {meth : Method} {c : Code} {G : gE} (hC : gCx p s m args meth c G RX9 cX9_commonDivisor 6 (some .int))     (n : Nat) (σ : gS) (x4 : Int32) (x5 : Int32) (x6 : Int32)  : gT p l e rX9_commonDivisor s m args below meth c G 6 iI σ 7 [(2, .int x4), (3, .int x5), (4, .int x6)] [] (mX9_commonDivisor_b7  n σ x4 x5 x6) := by
  induction n generalizing σ x4 x5 x6 with
  | zero => exact gT_none
  | succ n ih =>
    unfold mX9_commonDivisor_b7
    refine g_iload (pc := 7) (q := 2) hC dX9_commonDivisor_7 rfl ?_
    refine g_bipush (pc := 9) (v := 64) hC dX9_commonDivisor_9 (by decide) ?_
    refine g_icmp_ge (pc := 11) (tgt := 34) hC dX9_commonDivisor_11 (by decide) ?_ ?_
    · exact gT_sub [0] rfl (wX9_commonDivisor_b34 hC  σ x4)
    · refine g_iload_n (pc := 14) (q := 1) hC dX9_commonDivisor_14 rfl rfl ?_
      refine g_if_eq (pc := 15) (tgt := 34) hC dX9_commonDivisor_15 (by decide) ?_ ?_
      · exact gT_sub [0] rfl (wX9_commonDivisor_b34 hC  σ x4)
      · refine g_iload_n (pc := 18) (q := 0) hC dX9_commonDivisor_18 rfl rfl ?_
        refine g_iload_n (pc := 19) (q := 1) hC dX9_commonDivisor_19 rfl rfl ?_
        refine g_irem (pc := 20) hC dX9_commonDivisor_20 ?_
        refine g_istore (pc := 21) (lv' := fun v8 => [(5, .int v8), (2, .int x4), (3, .int x5), (4, .int x6)]) hC dX9_commonDivisor_21 (by decide) (fun _ => rfl) (fun v8 => ?_)
        refine g_iload_n (pc := 23) (q := 2) hC dX9_commonDivisor_23 rfl rfl ?_
        refine g_istore_n (pc := 24) (lv' := fun v9 => [(2, .int v9), (5, .int v8), (3, .int x5), (4, .int x6)]) hC dX9_commonDivisor_24 rfl (by decide) (fun _ => rfl) (fun v9 => ?_)
        refine g_iload (pc := 25) (q := 1) hC dX9_commonDivisor_25 rfl ?_
        refine g_istore_n (pc := 27) (lv' := fun v10 => [(3, .int v10), (2, .int v9), (5, .int v8), (4, .int x6)]) hC dX9_commonDivisor_27 rfl (by decide) (fun _ => rfl) (fun v10 => ?_)
        refine g_iinc (pc := 28) (q := 3) (w := 1) (lv' := fun v11 => [(4, .int v11), (3, .int v10), (2, .int v9), (5, .int v8)]) hC dX9_commonDivisor_28 rfl (by decide) (by decide) (fun _ => rfl) (fun v11 => ?_)
        refine g_goto (pc := 31) (tgt := 7) hC dX9_commonDivisor_31 (by decide) ?_
        exact gT_sub [2, 1, 0] rfl (ih σ v9 v10 v11)
def mX9_commonDivisor (σ : gS) (p0 : Int32) (p1 : Int32) : Option (Int32 × gS) := gLet p0 (fun v1 => gLet p1 (fun v2 => gLet 0 (fun v3 => (mX9_commonDivisor_b7  1100 σ v1 v2 v3))))
set_option maxHeartbeats 4000000 in
set_option maxRecDepth 100000 in
theorem tX9_commonDivisor (l : Launch) (G : gE) (σ : gS) (p0 : Int32) (p1 : Int32) : gM l G yX9_commonDivisor cX9_commonDivisor 6 (some .int) rX9_commonDivisor iI [.int p0, .int p1] σ (mX9_commonDivisor σ p0 p1) := by
  refine gM_of (by decide) (Nat.le_of_ble_eq_true rfl) ?_
  intro p e s m args below meth c hC
  unfold mX9_commonDivisor
  show gT p l e rX9_commonDivisor s m args below meth c G 6 iI σ 0 [(0, .int p0), (1, .int p1)] [] _
  refine g_iload_n (pc := 0) (q := 0) hC dX9_commonDivisor_0 rfl rfl ?_
  refine g_istore_n (pc := 1) (lv' := fun v1 => [(2, .int v1), (0, .int p0), (1, .int p1)]) hC dX9_commonDivisor_1 rfl (by decide) (fun _ => rfl) (fun v1 => ?_)
  refine g_iload_n (pc := 2) (q := 2) hC dX9_commonDivisor_2 rfl rfl ?_
  refine g_istore_n (pc := 3) (lv' := fun v2 => [(3, .int v2), (2, .int v1), (0, .int p0), (1, .int p1)]) hC dX9_commonDivisor_3 rfl (by decide) (fun _ => rfl) (fun v2 => ?_)
  refine g_iconst (pc := 4) (v := 0) hC dX9_commonDivisor_4 (by decide) ?_
  refine g_istore (pc := 5) (lv' := fun v3 => [(4, .int v3), (3, .int v2), (2, .int v1), (0, .int p0), (1, .int p1)]) hC dX9_commonDivisor_5 (by decide) (fun _ => rfl) (fun v3 => ?_)
  exact gT_sub [2, 1, 0] rfl (wX9_commonDivisor_b7 hC  1100 σ v1 v2 v3)
theorem mth_RX9_281 : gMx RX9 281 := ⟨(gBig_tab 834 (by decide +kernel) (by decide +kernel)), (gBig_tab 482 (by decide +kernel) (by decide +kernel)), (gBig_tab 13 (by decide +kernel) (by decide +kernel)), (gBig_tab 483 (by decide +kernel) (by decide +kernel))⟩
theorem lk_RX9_463 : gLV RX9 463 RX8 yX8_greatestWorth cX8_greatestWorth 5 (some .int) 2 := ⟨(gBig_tab 830 (by decide +kernel) (by decide +kernel)), (gBig_tab 831 (by decide +kernel) (by decide +kernel)), (gBig_tab 832 (by decide +kernel) (by decide +kernel)), (gBig_tab 2 (by decide +kernel) (by decide +kernel)), (gBig_tab 833 (by decide +kernel) (by decide +kernel)), rfl, by decide +kernel, by decide +kernel, by decide +kernel⟩
theorem dX9_sold_0 : decode cX9_sold 0 = .ok (.iconst 0, 1) := by decide +kernel
theorem dX9_sold_1 : decode cX9_sold 1 = .ok (.aload_n 0, 1) := by decide +kernel
theorem dX9_sold_2 : decode cX9_sold 2 = .ok (.getfield 19, 3) := by decide +kernel
theorem dX9_sold_5 : decode cX9_sold 5 = .ok (.getfield 193, 3) := by decide +kernel
theorem dX9_sold_8 : decode cX9_sold 8 = .ok (.aload_n 0, 1) := by decide +kernel
theorem dX9_sold_9 : decode cX9_sold 9 = .ok (.getfield 10, 3) := by decide +kernel
theorem dX9_sold_12 : decode cX9_sold 12 = .ok (.iload_n 1, 1) := by decide +kernel
theorem dX9_sold_13 : decode cX9_sold 13 = .ok (.iload_n 2, 1) := by decide +kernel
theorem dX9_sold_14 : decode cX9_sold 14 = .ok (.invokevirtual 463, 3) := by decide +kernel
theorem dX9_sold_17 : decode cX9_sold 17 = .ok (.isub, 1) := by decide +kernel
theorem dX9_sold_18 : decode cX9_sold 18 = .ok (.invokestatic 281, 3) := by decide +kernel
theorem dX9_sold_21 : decode cX9_sold 21 = .ok (.ireturn, 1) := by decide +kernel
abbrev rX9_sold : Room := { frames := 2, cells := 0, slots := 0, locals := 45 }
def mX9_sold (σ : gS) (p0 : Int32) (p1 : Int32) : Option (Int32 × gS) := gBind (mX8_greatestWorth σ p0 p1) (fun r1 s2 => some ((gMax 0 ((σ.1 8 0) - r1)), s2))
set_option maxHeartbeats 4000000 in
set_option maxRecDepth 100000 in
theorem tX9_sold (l : Launch) (G : gE) (σ : gS) (p0 : Int32) (p1 : Int32) : gM l G yX9_sold cX9_sold 3 (some .int) rX9_sold iI [.ref (G.2.1 0), .int p0, .int p1] σ (mX9_sold σ p0 p1) := by
  refine gM_of (by decide) (Nat.le_of_ble_eq_true rfl) ?_
  intro p e s m args below meth c hC
  unfold mX9_sold
  show gT p l e rX9_sold s m args below meth c G 3 iI σ 0 [(0, .ref (G.2.1 0)), (1, .int p0), (2, .int p1)] [] _
  refine g_iconst (pc := 0) (v := 0) hC dX9_sold_0 (by decide) ?_
  refine g_aload_n (pc := 1) (q := 0) hC dX9_sold_1 rfl rfl ?_
  refine g_get (pc := 2) (v := .ref (G.2.1 8)) hC kX9 rfl 1 (by decide) fl_RX9_19 rfl dX9_sold_2 ?_
  refine g_get (pc := 5) (v := .int (σ.1 8 0)) hC kX5 rfl 0 (by decide) fl_RX9_193 rfl dX9_sold_5 ?_
  refine g_aload_n (pc := 8) (q := 0) hC dX9_sold_8 rfl rfl ?_
  refine g_get (pc := 9) (v := .ref (G.2.1 1)) hC kX9 rfl 0 (by decide) fl_RX9_10 rfl dX9_sold_9 ?_
  refine g_iload_n (pc := 12) (q := 1) hC dX9_sold_12 rfl rfl ?_
  refine g_iload_n (pc := 13) (q := 2) hC dX9_sold_13 rfl rfl ?_
  refine g_callVi (pc := 14) (As := [.int p0, .int p1]) (rest := [.int (σ.1 8 0), .int 0]) hC lk_RX9_463 kX8 rfl (tX8_greatestWorth _ _ σ p0 p1) rfl rfl (Nat.le_of_ble_eq_true rfl) ⟨rfl, rfl, Nat.le_of_ble_eq_true rfl, Nat.le_of_ble_eq_true rfl⟩ dX9_sold_14 (fun r1 s2 => ?_)
  refine g_isub (pc := 17) hC dX9_sold_17 ?_
  refine g_max (pc := 18) hC mth_RX9_281 ⟨Nat.le_of_ble_eq_true rfl, Nat.le_of_ble_eq_true rfl⟩ (Nat.le_of_ble_eq_true rfl) dX9_sold_18 ?_
  exact g_iret (pc := 21) hC dX9_sold_21
theorem lk_RX9_245 : gLV RX9 245 RX9 yX9_sold cX9_sold 3 (some .int) 2 := ⟨(gBig_tab 826 (by decide +kernel) (by decide +kernel)), (gBig_tab 828 (by decide +kernel) (by decide +kernel)), (gBig_sel 31 (by decide +kernel) (by decide +kernel)), (gBig_tab 1 (by decide +kernel) (by decide +kernel)), (gBig_tab 829 (by decide +kernel) (by decide +kernel)), rfl, by decide +kernel, by decide +kernel, by decide +kernel⟩
theorem dX9_bestPrice_0 : decode cX9_bestPrice 0 = .ok (.iconst 0, 1) := by decide +kernel
theorem dX9_bestPrice_1 : decode cX9_bestPrice 1 = .ok (.istore_n 2, 1) := by decide +kernel
theorem dX9_bestPrice_2 : decode cX9_bestPrice 2 = .ok (.iconst 0, 1) := by decide +kernel
theorem dX9_bestPrice_3 : decode cX9_bestPrice 3 = .ok (.istore_n 3, 1) := by decide +kernel
theorem dX9_bestPrice_4 : decode cX9_bestPrice 4 = .ok (.iconst 1, 1) := by decide +kernel
theorem dX9_bestPrice_5 : decode cX9_bestPrice 5 = .ok (.istore 4, 2) := by decide +kernel
theorem dX9_bestPrice_7 : decode cX9_bestPrice 7 = .ok (.iload 4, 2) := by decide +kernel
theorem dX9_bestPrice_9 : decode cX9_bestPrice 9 = .ok (.bipush 99, 2) := by decide +kernel
theorem dX9_bestPrice_11 : decode cX9_bestPrice 11 = .ok (.if_icmp .gt 33, 3) := by decide +kernel
theorem dX9_bestPrice_14 : decode cX9_bestPrice 14 = .ok (.iload 4, 2) := by decide +kernel
theorem dX9_bestPrice_16 : decode cX9_bestPrice 16 = .ok (.aload_n 0, 1) := by decide +kernel
theorem dX9_bestPrice_17 : decode cX9_bestPrice 17 = .ok (.iload_n 1, 1) := by decide +kernel
theorem dX9_bestPrice_18 : decode cX9_bestPrice 18 = .ok (.iload 4, 2) := by decide +kernel
theorem dX9_bestPrice_20 : decode cX9_bestPrice 20 = .ok (.invokevirtual 245, 3) := by decide +kernel
theorem dX9_bestPrice_23 : decode cX9_bestPrice 23 = .ok (.imul, 1) := by decide +kernel
theorem dX9_bestPrice_24 : decode cX9_bestPrice 24 = .ok (.istore 5, 2) := by decide +kernel
theorem dX9_bestPrice_26 : decode cX9_bestPrice 26 = .ok (.iload 5, 2) := by decide +kernel
theorem dX9_bestPrice_28 : decode cX9_bestPrice 28 = .ok (.iload_n 3, 1) := by decide +kernel
theorem dX9_bestPrice_29 : decode cX9_bestPrice 29 = .ok (.if_icmp .le 9, 3) := by decide +kernel
theorem dX9_bestPrice_32 : decode cX9_bestPrice 32 = .ok (.iload 5, 2) := by decide +kernel
theorem dX9_bestPrice_34 : decode cX9_bestPrice 34 = .ok (.istore_n 3, 1) := by decide +kernel
theorem dX9_bestPrice_35 : decode cX9_bestPrice 35 = .ok (.iload 4, 2) := by decide +kernel
theorem dX9_bestPrice_37 : decode cX9_bestPrice 37 = .ok (.istore_n 2, 1) := by decide +kernel
theorem dX9_bestPrice_38 : decode cX9_bestPrice 38 = .ok (.iinc 4 1, 3) := by decide +kernel
theorem dX9_bestPrice_41 : decode cX9_bestPrice 41 = .ok (.goto (-34), 3) := by decide +kernel
theorem dX9_bestPrice_44 : decode cX9_bestPrice 44 = .ok (.iload_n 2, 1) := by decide +kernel
theorem dX9_bestPrice_45 : decode cX9_bestPrice 45 = .ok (.ireturn, 1) := by decide +kernel
abbrev rX9_bestPrice : Room := { frames := 3, cells := 0, slots := 0, locals := 67 }
def mX9_bestPrice_b38   (k7 : gS → Int32 → Int32 → Int32 → Int32 → Option (Int32 × gS)) (σ : gS) (x11 : Int32) (x12 : Int32) (x13 : Int32) (x14 : Int32) : Option (Int32 × gS) := gLet (x14 + 1) (fun v15 => (k7 σ x11 x12 x13 v15))
set_option maxHeartbeats 4000000 in
set_option maxRecDepth 100000 in
theorem wX9_bestPrice_b38 {p : Program} {l : Launch} {e : Env} {s : State} {m : MethodId} {args : Array Value} {below : List Frame} {meth : Method} {c : Code} {G : gE} (hC : gCx p s m args meth c G RX9 cX9_bestPrice 6 (some .int))    {k7 : gS → Int32 → Int32 → Int32 → Int32 → Option (Int32 × gS)} (hk7 : ∀ (σ : gS) (x4 : Int32) (x5 : Int32) (x6 : Int32) (x7 : Int32), gT p l e rX9_bestPrice s m args below meth c G 6 iI σ 7 [(0, .ref (G.2.1 0)), (1, .int x4), (2, .int x5), (3, .int x6), (4, .int x7)] [] (k7 σ x4 x5 x6 x7)) (σ : gS) (x11 : Int32) (x12 : Int32) (x13 : Int32) (x14 : Int32)  : gT p l e rX9_bestPrice s m args below meth c G 6 iI σ 38 [(0, .ref (G.2.1 0)), (1, .int x11), (2, .int x12), (3, .int x13), (4, .int x14)] [] (mX9_bestPrice_b38 k7 σ x11 x12 x13 x14) := by
  unfold mX9_bestPrice_b38
  refine g_iinc (pc := 38) (q := 4) (w := 1) (lv' := fun v15 => [(4, .int v15), (0, .ref (G.2.1 0)), (1, .int x11), (2, .int x12), (3, .int x13)]) hC dX9_bestPrice_38 rfl (by decide) (by decide) (fun _ => rfl) (fun v15 => ?_)
  refine g_goto (pc := 41) (tgt := 7) hC dX9_bestPrice_41 (by decide) ?_
  exact gT_sub [1, 2, 3, 4, 0] rfl (hk7 σ x11 x12 x13 v15)
def mX9_bestPrice_b7    : Nat → gS → Int32 → Int32 → Int32 → Int32 → Option (Int32 × gS)
  | 0, _, _, _, _, _ => none
  | n + 1, σ, x4, x5, x6, x7 => if 99 < x7 then (some (x5, σ)) else (gBind (mX9_sold σ x4 x7) (fun r8 s9 => gLet (x7 * r8) (fun v10 => if v10 ≤ x6 then ((mX9_bestPrice_b38 (mX9_bestPrice_b7  n) s9 x4 x5 x6 x7)) else (gLet v10 (fun v16 => gLet x7 (fun v17 => (mX9_bestPrice_b38 (mX9_bestPrice_b7  n) s9 x4 v17 v16 x7)))))))
set_option maxHeartbeats 4000000 in
set_option maxRecDepth 100000 in
theorem wX9_bestPrice_b7 {p : Program} {l : Launch} {e : Env} {s : State} {m : MethodId} {args : Array Value} {below : List Frame} {meth : Method} {c : Code} {G : gE} (hC : gCx p s m args meth c G RX9 cX9_bestPrice 6 (some .int))     (n : Nat) (σ : gS) (x4 : Int32) (x5 : Int32) (x6 : Int32) (x7 : Int32)  : gT p l e rX9_bestPrice s m args below meth c G 6 iI σ 7 [(0, .ref (G.2.1 0)), (1, .int x4), (2, .int x5), (3, .int x6), (4, .int x7)] [] (mX9_bestPrice_b7  n σ x4 x5 x6 x7) := by
  induction n generalizing σ x4 x5 x6 x7 with
  | zero => exact gT_none
  | succ n ih =>
    unfold mX9_bestPrice_b7
    refine g_iload (pc := 7) (q := 4) hC dX9_bestPrice_7 rfl ?_
    refine g_bipush (pc := 9) (v := 99) hC dX9_bestPrice_9 (by decide) ?_
    refine g_icmp_gt (pc := 11) (tgt := 44) hC dX9_bestPrice_11 (by decide) ?_ ?_
    · refine g_iload_n (pc := 44) (q := 2) hC dX9_bestPrice_44 rfl rfl ?_
      exact g_iret (pc := 45) hC dX9_bestPrice_45
    · refine g_iload (pc := 14) (q := 4) hC dX9_bestPrice_14 rfl ?_
      refine g_aload_n (pc := 16) (q := 0) hC dX9_bestPrice_16 rfl rfl ?_
      refine g_iload_n (pc := 17) (q := 1) hC dX9_bestPrice_17 rfl rfl ?_
      refine g_iload (pc := 18) (q := 4) hC dX9_bestPrice_18 rfl ?_
      refine g_callVi (pc := 20) (As := [.int x4, .int x7]) (rest := [.int x7]) hC lk_RX9_245 kX9 rfl (tX9_sold _ _ σ x4 x7) rfl rfl (Nat.le_of_ble_eq_true rfl) ⟨rfl, rfl, Nat.le_of_ble_eq_true rfl, Nat.le_of_ble_eq_true rfl⟩ dX9_bestPrice_20 (fun r8 s9 => ?_)
      refine g_imul (pc := 23) hC dX9_bestPrice_23 ?_
      refine g_istore (pc := 24) (lv' := fun v10 => [(5, .int v10), (0, .ref (G.2.1 0)), (1, .int x4), (2, .int x5), (3, .int x6), (4, .int x7)]) hC dX9_bestPrice_24 (by decide) (fun _ => rfl) (fun v10 => ?_)
      refine g_iload (pc := 26) (q := 0) hC dX9_bestPrice_26 rfl ?_
      refine g_iload_n (pc := 28) (q := 4) hC dX9_bestPrice_28 rfl rfl ?_
      refine g_icmp_le (pc := 29) (tgt := 38) hC dX9_bestPrice_29 (by decide) ?_ ?_
      · exact gT_sub [1, 2, 3, 4, 5] rfl (wX9_bestPrice_b38 hC ih s9 x4 x5 x6 x7)
      · refine g_iload (pc := 32) (q := 0) hC dX9_bestPrice_32 rfl ?_
        refine g_istore_n (pc := 34) (lv' := fun v16 => [(3, .int v16), (5, .int v10), (0, .ref (G.2.1 0)), (1, .int x4), (2, .int x5), (4, .int x7)]) hC dX9_bestPrice_34 rfl (by decide) (fun _ => rfl) (fun v16 => ?_)
        refine g_iload (pc := 35) (q := 5) hC dX9_bestPrice_35 rfl ?_
        refine g_istore_n (pc := 37) (lv' := fun v17 => [(2, .int v17), (3, .int v16), (5, .int v10), (0, .ref (G.2.1 0)), (1, .int x4), (4, .int x7)]) hC dX9_bestPrice_37 rfl (by decide) (fun _ => rfl) (fun v17 => ?_)
        exact gT_sub [3, 4, 0, 1, 5] rfl (wX9_bestPrice_b38 hC ih s9 x4 v17 v16 x7)
def mX9_bestPrice (σ : gS) (p0 : Int32) : Option (Int32 × gS) := gLet 0 (fun v1 => gLet 0 (fun v2 => gLet 1 (fun v3 => (mX9_bestPrice_b7  1100 σ p0 v1 v2 v3))))
set_option maxHeartbeats 4000000 in
set_option maxRecDepth 100000 in
theorem tX9_bestPrice (l : Launch) (G : gE) (σ : gS) (p0 : Int32) : gM l G yX9_bestPrice cX9_bestPrice 6 (some .int) rX9_bestPrice iI [.ref (G.2.1 0), .int p0] σ (mX9_bestPrice σ p0) := by
  refine gM_of (by decide) (Nat.le_of_ble_eq_true rfl) ?_
  intro p e s m args below meth c hC
  unfold mX9_bestPrice
  show gT p l e rX9_bestPrice s m args below meth c G 6 iI σ 0 [(0, .ref (G.2.1 0)), (1, .int p0)] [] _
  refine g_iconst (pc := 0) (v := 0) hC dX9_bestPrice_0 (by decide) ?_
  refine g_istore_n (pc := 1) (lv' := fun v1 => [(2, .int v1), (0, .ref (G.2.1 0)), (1, .int p0)]) hC dX9_bestPrice_1 rfl (by decide) (fun _ => rfl) (fun v1 => ?_)
  refine g_iconst (pc := 2) (v := 0) hC dX9_bestPrice_2 (by decide) ?_
  refine g_istore_n (pc := 3) (lv' := fun v2 => [(3, .int v2), (2, .int v1), (0, .ref (G.2.1 0)), (1, .int p0)]) hC dX9_bestPrice_3 rfl (by decide) (fun _ => rfl) (fun v2 => ?_)
  refine g_iconst (pc := 4) (v := 1) hC dX9_bestPrice_4 (by decide) ?_
  refine g_istore (pc := 5) (lv' := fun v3 => [(4, .int v3), (3, .int v2), (2, .int v1), (0, .ref (G.2.1 0)), (1, .int p0)]) hC dX9_bestPrice_5 (by decide) (fun _ => rfl) (fun v3 => ?_)
  exact gT_sub [3, 4, 2, 1, 0] rfl (wX9_bestPrice_b7 hC  1100 σ p0 v1 v2 v3)
theorem fl_RX9_466 : Cond.fieldLink RX9 466 "WinterShed$Shelf" "length" "I" ∈ gBig := (gBig_tab 311 (by decide +kernel) (by decide +kernel))
theorem lk_RX9_275 : gLV RX9 275 RX5 yX5_atDawn cX5_atDawn 3 (some .int) 2 := ⟨(gBig_tab 735 (by decide +kernel) (by decide +kernel)), (gBig_tab 640 (by decide +kernel) (by decide +kernel)), (gBig_tab 641 (by decide +kernel) (by decide +kernel)), (gBig_tab 3 (by decide +kernel) (by decide +kernel)), (gBig_tab 642 (by decide +kernel) (by decide +kernel)), rfl, by decide +kernel, by decide +kernel, by decide +kernel⟩
theorem dX9_firstUnlike_0 : decode cX9_firstUnlike 0 = .ok (.aload_n 2, 1) := by decide +kernel
theorem dX9_firstUnlike_1 : decode cX9_firstUnlike 1 = .ok (.getfield 193, 3) := by decide +kernel
theorem dX9_firstUnlike_4 : decode cX9_firstUnlike 4 = .ok (.istore_n 3, 1) := by decide +kernel
theorem dX9_firstUnlike_5 : decode cX9_firstUnlike 5 = .ok (.iconst 0, 1) := by decide +kernel
theorem dX9_firstUnlike_6 : decode cX9_firstUnlike 6 = .ok (.istore 4, 2) := by decide +kernel
theorem dX9_firstUnlike_8 : decode cX9_firstUnlike 8 = .ok (.iload 4, 2) := by decide +kernel
theorem dX9_firstUnlike_10 : decode cX9_firstUnlike 10 = .ok (.aload_n 1, 1) := by decide +kernel
theorem dX9_firstUnlike_11 : decode cX9_firstUnlike 11 = .ok (.getfield 466, 3) := by decide +kernel
theorem dX9_firstUnlike_14 : decode cX9_firstUnlike 14 = .ok (.if_icmp .ge 65, 3) := by decide +kernel
theorem dX9_firstUnlike_17 : decode cX9_firstUnlike 17 = .ok (.aload_n 2, 1) := by decide +kernel
theorem dX9_firstUnlike_18 : decode cX9_firstUnlike 18 = .ok (.getfield 153, 3) := by decide +kernel
theorem dX9_firstUnlike_21 : decode cX9_firstUnlike 21 = .ok (.iload 4, 2) := by decide +kernel
theorem dX9_firstUnlike_23 : decode cX9_firstUnlike 23 = .ok (.iadd, 1) := by decide +kernel
theorem dX9_firstUnlike_24 : decode cX9_firstUnlike 24 = .ok (.istore 5, 2) := by decide +kernel
theorem dX9_firstUnlike_26 : decode cX9_firstUnlike 26 = .ok (.iload 5, 2) := by decide +kernel
theorem dX9_firstUnlike_28 : decode cX9_firstUnlike 28 = .ok (.bipush 30, 2) := by decide +kernel
theorem dX9_firstUnlike_30 : decode cX9_firstUnlike 30 = .ok (.if_icmp .le 6, 3) := by decide +kernel
theorem dX9_firstUnlike_33 : decode cX9_firstUnlike 33 = .ok (.iload 5, 2) := by decide +kernel
theorem dX9_firstUnlike_35 : decode cX9_firstUnlike 35 = .ok (.ireturn, 1) := by decide +kernel
theorem dX9_firstUnlike_36 : decode cX9_firstUnlike 36 = .ok (.aload_n 2, 1) := by decide +kernel
theorem dX9_firstUnlike_37 : decode cX9_firstUnlike 37 = .ok (.iload 5, 2) := by decide +kernel
theorem dX9_firstUnlike_39 : decode cX9_firstUnlike 39 = .ok (.iload_n 3, 1) := by decide +kernel
theorem dX9_firstUnlike_40 : decode cX9_firstUnlike 40 = .ok (.invokevirtual 275, 3) := by decide +kernel
theorem dX9_firstUnlike_43 : decode cX9_firstUnlike 43 = .ok (.istore_n 3, 1) := by decide +kernel
theorem dX9_firstUnlike_44 : decode cX9_firstUnlike 44 = .ok (.aload_n 1, 1) := by decide +kernel
theorem dX9_firstUnlike_45 : decode cX9_firstUnlike 45 = .ok (.getfield 380, 3) := by decide +kernel
theorem dX9_firstUnlike_48 : decode cX9_firstUnlike 48 = .ok (.iload 4, 2) := by decide +kernel
theorem dX9_firstUnlike_50 : decode cX9_firstUnlike 50 = .ok (.laload, 1) := by decide +kernel
theorem dX9_firstUnlike_51 : decode cX9_firstUnlike 51 = .ok (.iload_n 3, 1) := by decide +kernel
theorem dX9_firstUnlike_52 : decode cX9_firstUnlike 52 = .ok (.i2l, 1) := by decide +kernel
theorem dX9_firstUnlike_53 : decode cX9_firstUnlike 53 = .ok (.lcmp, 1) := by decide +kernel
theorem dX9_firstUnlike_54 : decode cX9_firstUnlike 54 = .ok (.ifCond .eq 6, 3) := by decide +kernel
theorem dX9_firstUnlike_57 : decode cX9_firstUnlike 57 = .ok (.iload 5, 2) := by decide +kernel
theorem dX9_firstUnlike_59 : decode cX9_firstUnlike 59 = .ok (.ireturn, 1) := by decide +kernel
theorem dX9_firstUnlike_60 : decode cX9_firstUnlike 60 = .ok (.aload_n 0, 1) := by decide +kernel
theorem dX9_firstUnlike_61 : decode cX9_firstUnlike 61 = .ok (.getfield 51, 3) := by decide +kernel
theorem dX9_firstUnlike_64 : decode cX9_firstUnlike 64 = .ok (.aload_n 2, 1) := by decide +kernel
theorem dX9_firstUnlike_65 : decode cX9_firstUnlike 65 = .ok (.iload 5, 2) := by decide +kernel
theorem dX9_firstUnlike_67 : decode cX9_firstUnlike 67 = .ok (.iload_n 3, 1) := by decide +kernel
theorem dX9_firstUnlike_68 : decode cX9_firstUnlike 68 = .ok (.iconst 0, 1) := by decide +kernel
theorem dX9_firstUnlike_69 : decode cX9_firstUnlike 69 = .ok (.invokevirtual 326, 3) := by decide +kernel
theorem dX9_firstUnlike_72 : decode cX9_firstUnlike 72 = .ok (.istore_n 3, 1) := by decide +kernel
theorem dX9_firstUnlike_73 : decode cX9_firstUnlike 73 = .ok (.iinc 4 1, 3) := by decide +kernel
theorem dX9_firstUnlike_76 : decode cX9_firstUnlike 76 = .ok (.goto (-68), 3) := by decide +kernel
theorem dX9_firstUnlike_79 : decode cX9_firstUnlike 79 = .ok (.bipush (-2), 2) := by decide +kernel
theorem dX9_firstUnlike_81 : decode cX9_firstUnlike 81 = .ok (.ireturn, 1) := by decide +kernel
abbrev rX9_firstUnlike : Room := { frames := 4, cells := 0, slots := 0, locals := 96 }
def mX9_firstUnlike_b8  (q0 : Nat) (q1 : Nat)  : Nat → gS → Int32 → Int32 → Option (Int32 × gS)
  | 0, _, _, _ => none
  | n + 1, σ, x3, x4 => if (σ.1 q0 3) ≤ x4 then (some ((-2), σ)) else (gLet ((σ.1 q1 4) + x4) (fun v5 => if v5 ≤ 30 then (gBind (mX5_atDawn σ q1 v5 x3) (fun r6 s7 => gLet r6 (fun v8 => if inbB x4 60 = true then (if (lg_cmp (s7.2.1 (q0 + 1) (Int32.toNatClampNeg x4)) (Int32.toInt64 v8)) = 0 then (gOpt (s7.2.2 0 7) (none) (fun k9 => if gk k9 = 3 then (gBind (mX3_overnight s7 k9 q1 v5 v8 0) (fun r10 s11 => gLet r10 (fun v12 => gLet (x4 + 1) (fun v13 => ((mX9_firstUnlike_b8 q0 q1 n) s11 v12 v13))))) else none)) else (some (v5, s7))) else none))) else (some (v5, σ))))
set_option maxHeartbeats 4000000 in
set_option maxRecDepth 100000 in
theorem wX9_firstUnlike_b8 {p : Program} {l : Launch} {e : Env} {s : State} {m : MethodId} {args : Array Value} {below : List Frame} {meth : Method} {c : Code} {G : gE} (hC : gCx p s m args meth c G RX9 cX9_firstUnlike 6 (some .int))  (q0 : Nat) (q1 : Nat) (hq0 : gk q0 = 6) (hq1 : gk q1 = 5)  (n : Nat) (σ : gS) (x3 : Int32) (x4 : Int32)  : gT p l e rX9_firstUnlike s m args below meth c G 6 iI σ 8 [(0, .ref (G.2.1 0)), (1, .ref (G.2.1 q0)), (2, .ref (G.2.1 q1)), (3, .int x3), (4, .int x4)] [] (mX9_firstUnlike_b8 q0 q1 n σ x3 x4) := by
  induction n generalizing σ x3 x4 with
  | zero => exact gT_none
  | succ n ih =>
    unfold mX9_firstUnlike_b8
    refine g_iload (pc := 8) (q := 4) hC dX9_firstUnlike_8 rfl ?_
    refine g_aload_n (pc := 10) (q := 1) hC dX9_firstUnlike_10 rfl rfl ?_
    refine g_get (pc := 11) (v := .int (σ.1 q0 3)) hC kX6 hq0 3 (by decide) fl_RX9_466 rfl dX9_firstUnlike_11 ?_
    refine g_icmp_ge (pc := 14) (tgt := 79) hC dX9_firstUnlike_14 (by decide) ?_ ?_
    · refine g_bipush (pc := 79) (v := (-2)) hC dX9_firstUnlike_79 (by decide) ?_
      exact g_iret (pc := 81) hC dX9_firstUnlike_81
    · refine g_aload_n (pc := 17) (q := 2) hC dX9_firstUnlike_17 rfl rfl ?_
      refine g_get (pc := 18) (v := .int (σ.1 q1 4)) hC kX5 hq1 4 (by decide) fl_RX9_153 rfl dX9_firstUnlike_18 ?_
      refine g_iload (pc := 21) (q := 4) hC dX9_firstUnlike_21 rfl ?_
      refine g_iadd (pc := 23) hC dX9_firstUnlike_23 ?_
      refine g_istore (pc := 24) (lv' := fun v5 => [(5, .int v5), (0, .ref (G.2.1 0)), (1, .ref (G.2.1 q0)), (2, .ref (G.2.1 q1)), (3, .int x3), (4, .int x4)]) hC dX9_firstUnlike_24 (by decide) (fun _ => rfl) (fun v5 => ?_)
      refine g_iload (pc := 26) (q := 0) hC dX9_firstUnlike_26 rfl ?_
      refine g_bipush (pc := 28) (v := 30) hC dX9_firstUnlike_28 (by decide) ?_
      refine g_icmp_le (pc := 30) (tgt := 36) hC dX9_firstUnlike_30 (by decide) ?_ ?_
      · refine g_aload_n (pc := 36) (q := 3) hC dX9_firstUnlike_36 rfl rfl ?_
        refine g_iload (pc := 37) (q := 0) hC dX9_firstUnlike_37 rfl ?_
        refine g_iload_n (pc := 39) (q := 4) hC dX9_firstUnlike_39 rfl rfl ?_
        refine g_callVi (pc := 40) (As := [.int v5, .int x3]) (rest := []) hC lk_RX9_275 kX5 hq1 (tX5_atDawn _ _ σ q1 v5 x3) rfl rfl (Nat.le_of_ble_eq_true rfl) ⟨rfl, rfl, Nat.le_of_ble_eq_true rfl, Nat.le_of_ble_eq_true rfl⟩ dX9_firstUnlike_40 (fun r6 s7 => ?_)
        refine g_istore_n (pc := 43) (lv' := fun v8 => [(3, .int v8), (5, .int v5), (0, .ref (G.2.1 0)), (1, .ref (G.2.1 q0)), (2, .ref (G.2.1 q1)), (4, .int x4)]) hC dX9_firstUnlike_43 rfl (by decide) (fun _ => rfl) (fun v8 => ?_)
        refine g_aload_n (pc := 44) (q := 3) hC dX9_firstUnlike_44 rfl rfl ?_
        refine g_get (pc := 45) (v := .ref (G.2.1 (q0 + 1))) hC kX6 hq0 4 (by decide) fl_RX9_380 rfl dX9_firstUnlike_45 ?_
        refine g_iload (pc := 48) (q := 5) hC dX9_firstUnlike_48 rfl ?_
        refine g_lald (pc := 50) hC 60 (ck_6_1 hq0) dX9_firstUnlike_50 ?_
        refine g_iload_n (pc := 51) (q := 0) hC dX9_firstUnlike_51 rfl rfl ?_
        refine g_i2l (pc := 52) hC dX9_firstUnlike_52 ?_
        refine g_lcmp (pc := 53) hC dX9_firstUnlike_53 ?_
        refine g_if_eq (pc := 54) (tgt := 60) hC dX9_firstUnlike_54 (by decide) ?_ ?_
        · refine g_aload_n (pc := 60) (q := 2) hC dX9_firstUnlike_60 rfl rfl ?_
          refine g_get (pc := 61) (v := va_rf ((s7.2.2 0 7).map G.2.1)) hC kX9 rfl 7 (by decide) fl_RX9_51 rfl dX9_firstUnlike_61 ?_
          refine gT_opt ?_ (fun k9 => ?_)
          · exact gT_none
          · refine gT_if (fun hk9 => ?_) (fun _ => gT_none)
            refine g_aload_n (pc := 64) (q := 4) hC dX9_firstUnlike_64 rfl rfl ?_
            refine g_iload (pc := 65) (q := 1) hC dX9_firstUnlike_65 rfl ?_
            refine g_iload_n (pc := 67) (q := 0) hC dX9_firstUnlike_67 rfl rfl ?_
            refine g_iconst (pc := 68) (v := 0) hC dX9_firstUnlike_68 (by decide) ?_
            refine g_callVi (pc := 69) (As := [.ref (G.2.1 q1), .int v5, .int v8, .int 0]) (rest := []) hC lk_RX9_326 kX3 hk9 (tX3_overnight _ _ s7 k9 q1 v5 v8 0) rfl rfl (Nat.le_of_ble_eq_true rfl) ⟨rfl, rfl, Nat.le_of_ble_eq_true rfl, Nat.le_of_ble_eq_true rfl⟩ dX9_firstUnlike_69 (fun r10 s11 => ?_)
            refine g_istore_n (pc := 72) (lv' := fun v12 => [(3, .int v12), (5, .int v5), (0, .ref (G.2.1 0)), (1, .ref (G.2.1 q0)), (2, .ref (G.2.1 q1)), (4, .int x4)]) hC dX9_firstUnlike_72 rfl (by decide) (fun _ => rfl) (fun v12 => ?_)
            refine g_iinc (pc := 73) (q := 5) (w := 1) (lv' := fun v13 => [(4, .int v13), (3, .int v12), (5, .int v5), (0, .ref (G.2.1 0)), (1, .ref (G.2.1 q0)), (2, .ref (G.2.1 q1))]) hC dX9_firstUnlike_73 rfl (by decide) (by decide) (fun _ => rfl) (fun v13 => ?_)
            refine g_goto (pc := 76) (tgt := 8) hC dX9_firstUnlike_76 (by decide) ?_
            exact gT_sub [3, 4, 5, 1, 0] rfl (ih s11 v12 v13)
        · refine g_iload (pc := 57) (q := 1) hC dX9_firstUnlike_57 rfl ?_
          exact g_iret (pc := 59) hC dX9_firstUnlike_59
      · refine g_iload (pc := 33) (q := 0) hC dX9_firstUnlike_33 rfl ?_
        exact g_iret (pc := 35) hC dX9_firstUnlike_35
def mX9_firstUnlike (σ : gS) (q0 : Nat) (q1 : Nat) : Option (Int32 × gS) := if gk q0 = 6 then (if gk q1 = 5 then (gLet (σ.1 q1 0) (fun v1 => gLet 0 (fun v2 => (mX9_firstUnlike_b8 q0 q1 1100 σ v1 v2)))) else none) else none
set_option maxHeartbeats 4000000 in
set_option maxRecDepth 100000 in
theorem tX9_firstUnlike (l : Launch) (G : gE) (σ : gS) (q0 : Nat) (q1 : Nat) : gM l G yX9_firstUnlike cX9_firstUnlike 6 (some .int) rX9_firstUnlike iI [.ref (G.2.1 0), .ref (G.2.1 q0), .ref (G.2.1 q1)] σ (mX9_firstUnlike σ q0 q1) := by
  refine gM_of (by decide) (Nat.le_of_ble_eq_true rfl) ?_
  intro p e s m args below meth c hC
  unfold mX9_firstUnlike
  refine gT_if (fun hq0 => ?_) (fun _ => gT_none)
  refine gT_if (fun hq1 => ?_) (fun _ => gT_none)
  show gT p l e rX9_firstUnlike s m args below meth c G 6 iI σ 0 [(0, .ref (G.2.1 0)), (1, .ref (G.2.1 q0)), (2, .ref (G.2.1 q1))] [] _
  refine g_aload_n (pc := 0) (q := 2) hC dX9_firstUnlike_0 rfl rfl ?_
  refine g_get (pc := 1) (v := .int (σ.1 q1 0)) hC kX5 hq1 0 (by decide) fl_RX9_193 rfl dX9_firstUnlike_1 ?_
  refine g_istore_n (pc := 4) (lv' := fun v1 => [(3, .int v1), (0, .ref (G.2.1 0)), (1, .ref (G.2.1 q0)), (2, .ref (G.2.1 q1))]) hC dX9_firstUnlike_4 rfl (by decide) (fun _ => rfl) (fun v1 => ?_)
  refine g_iconst (pc := 5) (v := 0) hC dX9_firstUnlike_5 (by decide) ?_
  refine g_istore (pc := 6) (lv' := fun v2 => [(4, .int v2), (3, .int v1), (0, .ref (G.2.1 0)), (1, .ref (G.2.1 q0)), (2, .ref (G.2.1 q1))]) hC dX9_firstUnlike_6 (by decide) (fun _ => rfl) (fun v2 => ?_)
  exact gT_sub [2, 3, 4, 1, 0] rfl (wX9_firstUnlike_b8 hC q0 q1 hq0 hq1 1100 σ v1 v2)
theorem lk_RX9_251 : gLV RX9 251 RX9 yX9_firstUnlike cX9_firstUnlike 6 (some .int) 2 := ⟨(gBig_tab 839 (by decide +kernel) (by decide +kernel)), (gBig_tab 841 (by decide +kernel) (by decide +kernel)), (gBig_sel 32 (by decide +kernel) (by decide +kernel)), (gBig_tab 1 (by decide +kernel) (by decide +kernel)), (gBig_tab 842 (by decide +kernel) (by decide +kernel)), rfl, by decide +kernel, by decide +kernel, by decide +kernel⟩
theorem lk_RX9_262 : gLV RX9 262 RX5 yX5_takeFrom cX5_takeFrom 2 (none) 1 := ⟨(gBig_tab 851 (by decide +kernel) (by decide +kernel)), (gBig_tab 852 (by decide +kernel) (by decide +kernel)), (gBig_tab 853 (by decide +kernel) (by decide +kernel)), (gBig_tab 3 (by decide +kernel) (by decide +kernel)), (gBig_tab 854 (by decide +kernel) (by decide +kernel)), rfl, by decide +kernel, by decide +kernel, by decide +kernel⟩
theorem dX9_howMuch_0 : decode cX9_howMuch 0 = .ok (.aload_n 0, 1) := by decide +kernel
theorem dX9_howMuch_1 : decode cX9_howMuch 1 = .ok (.getfield 23, 3) := by decide +kernel
theorem dX9_howMuch_4 : decode cX9_howMuch 4 = .ok (.aload_n 0, 1) := by decide +kernel
theorem dX9_howMuch_5 : decode cX9_howMuch 5 = .ok (.getfield 19, 3) := by decide +kernel
theorem dX9_howMuch_8 : decode cX9_howMuch 8 = .ok (.invokevirtual 262, 3) := by decide +kernel
theorem dX9_howMuch_11 : decode cX9_howMuch 11 = .ok (.iconst 0, 1) := by decide +kernel
theorem dX9_howMuch_12 : decode cX9_howMuch 12 = .ok (.istore_n 3, 1) := by decide +kernel
theorem dX9_howMuch_13 : decode cX9_howMuch 13 = .ok (.iconst 0, 1) := by decide +kernel
theorem dX9_howMuch_14 : decode cX9_howMuch 14 = .ok (.istore 4, 2) := by decide +kernel
theorem dX9_howMuch_16 : decode cX9_howMuch 16 = .ok (.iload 4, 2) := by decide +kernel
theorem dX9_howMuch_18 : decode cX9_howMuch 18 = .ok (.sipush 999, 3) := by decide +kernel
theorem dX9_howMuch_21 : decode cX9_howMuch 21 = .ok (.if_icmp .gt 42, 3) := by decide +kernel
theorem dX9_howMuch_24 : decode cX9_howMuch 24 = .ok (.aload_n 0, 1) := by decide +kernel
theorem dX9_howMuch_25 : decode cX9_howMuch 25 = .ok (.getfield 23, 3) := by decide +kernel
theorem dX9_howMuch_28 : decode cX9_howMuch 28 = .ok (.iload 4, 2) := by decide +kernel
theorem dX9_howMuch_30 : decode cX9_howMuch 30 = .ok (.putfield 193, 3) := by decide +kernel
theorem dX9_howMuch_33 : decode cX9_howMuch 33 = .ok (.aload_n 0, 1) := by decide +kernel
theorem dX9_howMuch_34 : decode cX9_howMuch 34 = .ok (.aload_n 1, 1) := by decide +kernel
theorem dX9_howMuch_35 : decode cX9_howMuch 35 = .ok (.aload_n 0, 1) := by decide +kernel
theorem dX9_howMuch_36 : decode cX9_howMuch 36 = .ok (.getfield 23, 3) := by decide +kernel
theorem dX9_howMuch_39 : decode cX9_howMuch 39 = .ok (.invokevirtual 251, 3) := by decide +kernel
theorem dX9_howMuch_42 : decode cX9_howMuch 42 = .ok (.bipush (-2), 2) := by decide +kernel
theorem dX9_howMuch_44 : decode cX9_howMuch 44 = .ok (.if_icmp .ne 13, 3) := by decide +kernel
theorem dX9_howMuch_47 : decode cX9_howMuch 47 = .ok (.iload_n 2, 1) := by decide +kernel
theorem dX9_howMuch_48 : decode cX9_howMuch 48 = .ok (.ifCond .eq 6, 3) := by decide +kernel
theorem dX9_howMuch_51 : decode cX9_howMuch 51 = .ok (.iload 4, 2) := by decide +kernel
theorem dX9_howMuch_53 : decode cX9_howMuch 53 = .ok (.ireturn, 1) := by decide +kernel
theorem dX9_howMuch_54 : decode cX9_howMuch 54 = .ok (.iinc 3 1, 3) := by decide +kernel
theorem dX9_howMuch_57 : decode cX9_howMuch 57 = .ok (.iinc 4 1, 3) := by decide +kernel
theorem dX9_howMuch_60 : decode cX9_howMuch 60 = .ok (.goto (-44), 3) := by decide +kernel
theorem dX9_howMuch_63 : decode cX9_howMuch 63 = .ok (.iload_n 2, 1) := by decide +kernel
theorem dX9_howMuch_64 : decode cX9_howMuch 64 = .ok (.ifCond .eq 8, 3) := by decide +kernel
theorem dX9_howMuch_67 : decode cX9_howMuch 67 = .ok (.bipush (-2), 2) := by decide +kernel
theorem dX9_howMuch_69 : decode cX9_howMuch 69 = .ok (.goto 4, 3) := by decide +kernel
theorem dX9_howMuch_72 : decode cX9_howMuch 72 = .ok (.iload_n 3, 1) := by decide +kernel
theorem dX9_howMuch_73 : decode cX9_howMuch 73 = .ok (.ireturn, 1) := by decide +kernel
abbrev rX9_howMuch : Room := { frames := 5, cells := 0, slots := 0, locals := 121 }
def mX9_howMuch_b57  (q0 : Nat) (k16 : gS → Int32 → Int32 → Int32 → Option (Int32 × gS)) (σ : gS) (x11 : Int32) (x12 : Int32) (x13 : Int32) : Option (Int32 × gS) := gLet (x13 + 1) (fun v14 => (k16 σ x11 x12 v14))
set_option maxHeartbeats 4000000 in
set_option maxRecDepth 100000 in
theorem wX9_howMuch_b57 {p : Program} {l : Launch} {e : Env} {s : State} {m : MethodId} {args : Array Value} {below : List Frame} {meth : Method} {c : Code} {G : gE} (hC : gCx p s m args meth c G RX9 cX9_howMuch 5 (some .int))  (q0 : Nat) (hq0 : gk q0 = 6) {k16 : gS → Int32 → Int32 → Int32 → Option (Int32 × gS)} (hk16 : ∀ (σ : gS) (x5 : Int32) (x6 : Int32) (x7 : Int32), gT p l e rX9_howMuch s m args below meth c G 5 iI σ 16 [(0, .ref (G.2.1 0)), (1, .ref (G.2.1 q0)), (2, .int x5), (3, .int x6), (4, .int x7)] [] (k16 σ x5 x6 x7)) (σ : gS) (x11 : Int32) (x12 : Int32) (x13 : Int32)  : gT p l e rX9_howMuch s m args below meth c G 5 iI σ 57 [(0, .ref (G.2.1 0)), (1, .ref (G.2.1 q0)), (2, .int x11), (3, .int x12), (4, .int x13)] [] (mX9_howMuch_b57 q0 k16 σ x11 x12 x13) := by
  unfold mX9_howMuch_b57
  refine g_iinc (pc := 57) (q := 4) (w := 1) (lv' := fun v14 => [(4, .int v14), (0, .ref (G.2.1 0)), (1, .ref (G.2.1 q0)), (2, .int x11), (3, .int x12)]) hC dX9_howMuch_57 rfl (by decide) (by decide) (fun _ => rfl) (fun v14 => ?_)
  refine g_goto (pc := 60) (tgt := 16) hC dX9_howMuch_60 (by decide) ?_
  exact gT_sub [1, 2, 3, 4, 0] rfl (hk16 σ x11 x12 v14)
def mX9_howMuch_b16  (q0 : Nat)  : Nat → gS → Int32 → Int32 → Int32 → Option (Int32 × gS)
  | 0, _, _, _, _ => none
  | n + 1, σ, x5, x6, x7 => if 999 < x7 then (if x5 = 0 then (some (x6, σ)) else (some ((-2), σ))) else (gLet (gUI σ 9 0 x7) (fun s8 => gBind (mX9_firstUnlike s8 q0 9) (fun r9 s10 => if r9 = (-2) then (if x5 = 0 then (gLet (x6 + 1) (fun v15 => (mX9_howMuch_b57 q0 (mX9_howMuch_b16 q0 n) s10 x5 v15 x7))) else (some (x7, s10))) else ((mX9_howMuch_b57 q0 (mX9_howMuch_b16 q0 n) s10 x5 x6 x7)))))
set_option maxHeartbeats 4000000 in
set_option maxRecDepth 100000 in
theorem wX9_howMuch_b16 {p : Program} {l : Launch} {e : Env} {s : State} {m : MethodId} {args : Array Value} {below : List Frame} {meth : Method} {c : Code} {G : gE} (hC : gCx p s m args meth c G RX9 cX9_howMuch 5 (some .int))  (q0 : Nat) (hq0 : gk q0 = 6)  (n : Nat) (σ : gS) (x5 : Int32) (x6 : Int32) (x7 : Int32)  : gT p l e rX9_howMuch s m args below meth c G 5 iI σ 16 [(0, .ref (G.2.1 0)), (1, .ref (G.2.1 q0)), (2, .int x5), (3, .int x6), (4, .int x7)] [] (mX9_howMuch_b16 q0 n σ x5 x6 x7) := by
  induction n generalizing σ x5 x6 x7 with
  | zero => exact gT_none
  | succ n ih =>
    unfold mX9_howMuch_b16
    refine g_iload (pc := 16) (q := 4) hC dX9_howMuch_16 rfl ?_
    refine g_sipush (pc := 18) (v := 999) hC dX9_howMuch_18 (by decide) ?_
    refine g_icmp_gt (pc := 21) (tgt := 63) hC dX9_howMuch_21 (by decide) ?_ ?_
    · refine g_iload_n (pc := 63) (q := 2) hC dX9_howMuch_63 rfl rfl ?_
      refine g_if_eq (pc := 64) (tgt := 72) hC dX9_howMuch_64 (by decide) ?_ ?_
      · refine g_iload_n (pc := 72) (q := 3) hC dX9_howMuch_72 rfl rfl ?_
        exact g_iret (pc := 73) hC dX9_howMuch_73
      · refine g_bipush (pc := 67) (v := (-2)) hC dX9_howMuch_67 (by decide) ?_
        refine g_goto (pc := 69) (tgt := 73) hC dX9_howMuch_69 (by decide) ?_
        exact g_iret (pc := 73) hC dX9_howMuch_73
    · refine g_aload_n (pc := 24) (q := 0) hC dX9_howMuch_24 rfl rfl ?_
      refine g_get (pc := 25) (v := .ref (G.2.1 9)) hC kX9 rfl 2 (by decide) fl_RX9_23 rfl dX9_howMuch_25 ?_
      refine g_iload (pc := 28) (q := 4) hC dX9_howMuch_28 rfl ?_
      refine g_puti (pc := 30) (fty := .int) hC kX5 rfl 0 (by decide) fl_RX9_193 rfl rfl rfl rfl (fun _ _ => Nat.le_of_ble_eq_true rfl) (fun _ _ => rfl) dX9_howMuch_30 (fun s8 => ?_)
      refine g_aload_n (pc := 33) (q := 0) hC dX9_howMuch_33 rfl rfl ?_
      refine g_aload_n (pc := 34) (q := 1) hC dX9_howMuch_34 rfl rfl ?_
      refine g_aload_n (pc := 35) (q := 0) hC dX9_howMuch_35 rfl rfl ?_
      refine g_get (pc := 36) (v := .ref (G.2.1 9)) hC kX9 rfl 2 (by decide) fl_RX9_23 rfl dX9_howMuch_36 ?_
      refine g_callVi (pc := 39) (As := [.ref (G.2.1 q0), .ref (G.2.1 9)]) (rest := []) hC lk_RX9_251 kX9 rfl (tX9_firstUnlike _ _ s8 q0 9) rfl rfl (Nat.le_of_ble_eq_true rfl) ⟨rfl, rfl, Nat.le_of_ble_eq_true rfl, Nat.le_of_ble_eq_true rfl⟩ dX9_howMuch_39 (fun r9 s10 => ?_)
      refine g_bipush (pc := 42) (v := (-2)) hC dX9_howMuch_42 (by decide) ?_
      refine g_icmp_ne (pc := 44) (tgt := 57) hC dX9_howMuch_44 (by decide) ?_ ?_
      · exact gT_sub [0, 1, 2, 3, 4] rfl (wX9_howMuch_b57 hC q0 hq0 ih s10 x5 x6 x7)
      · refine g_iload_n (pc := 47) (q := 2) hC dX9_howMuch_47 rfl rfl ?_
        refine g_if_eq (pc := 48) (tgt := 54) hC dX9_howMuch_48 (by decide) ?_ ?_
        · refine g_iinc (pc := 54) (q := 3) (w := 1) (lv' := fun v15 => [(3, .int v15), (0, .ref (G.2.1 0)), (1, .ref (G.2.1 q0)), (2, .int x5), (4, .int x7)]) hC dX9_howMuch_54 rfl (by decide) (by decide) (fun _ => rfl) (fun v15 => ?_)
          exact gT_sub [1, 2, 3, 0, 4] rfl (wX9_howMuch_b57 hC q0 hq0 ih s10 x5 v15 x7)
        · refine g_iload (pc := 51) (q := 4) hC dX9_howMuch_51 rfl ?_
          exact g_iret (pc := 53) hC dX9_howMuch_53
def mX9_howMuch (σ : gS) (q0 : Nat) (p1 : Int32) : Option (Int32 × gS) := if gk q0 = 6 then (gBind (mX5_takeFrom σ 9 8) (fun r1 s2 => gLet 0 (fun v3 => gLet 0 (fun v4 => (mX9_howMuch_b16 q0 1100 s2 p1 v3 v4))))) else none
set_option maxHeartbeats 4000000 in
set_option maxRecDepth 100000 in
theorem tX9_howMuch (l : Launch) (G : gE) (σ : gS) (q0 : Nat) (p1 : Int32) : gM l G yX9_howMuch cX9_howMuch 5 (some .int) rX9_howMuch iI [.ref (G.2.1 0), .ref (G.2.1 q0), .int p1] σ (mX9_howMuch σ q0 p1) := by
  refine gM_of (by decide) (Nat.le_of_ble_eq_true rfl) ?_
  intro p e s m args below meth c hC
  unfold mX9_howMuch
  refine gT_if (fun hq0 => ?_) (fun _ => gT_none)
  show gT p l e rX9_howMuch s m args below meth c G 5 iI σ 0 [(0, .ref (G.2.1 0)), (1, .ref (G.2.1 q0)), (2, .int p1)] [] _
  refine g_aload_n (pc := 0) (q := 0) hC dX9_howMuch_0 rfl rfl ?_
  refine g_get (pc := 1) (v := .ref (G.2.1 9)) hC kX9 rfl 2 (by decide) fl_RX9_23 rfl dX9_howMuch_1 ?_
  refine g_aload_n (pc := 4) (q := 0) hC dX9_howMuch_4 rfl rfl ?_
  refine g_get (pc := 5) (v := .ref (G.2.1 8)) hC kX9 rfl 1 (by decide) fl_RX9_19 rfl dX9_howMuch_5 ?_
  refine g_callVv (pc := 8) (As := [.ref (G.2.1 8)]) (rest := []) hC lk_RX9_262 kX5 rfl (tX5_takeFrom _ _ σ 9 8) rfl rfl (Nat.le_of_ble_eq_true rfl) ⟨rfl, rfl, Nat.le_of_ble_eq_true rfl, Nat.le_of_ble_eq_true rfl⟩ dX9_howMuch_8 (fun r1 s2 => ?_)
  refine g_iconst (pc := 11) (v := 0) hC dX9_howMuch_11 (by decide) ?_
  refine g_istore_n (pc := 12) (lv' := fun v3 => [(3, .int v3), (0, .ref (G.2.1 0)), (1, .ref (G.2.1 q0)), (2, .int p1)]) hC dX9_howMuch_12 rfl (by decide) (fun _ => rfl) (fun v3 => ?_)
  refine g_iconst (pc := 13) (v := 0) hC dX9_howMuch_13 (by decide) ?_
  refine g_istore (pc := 14) (lv' := fun v4 => [(4, .int v4), (3, .int v3), (0, .ref (G.2.1 0)), (1, .ref (G.2.1 q0)), (2, .int p1)]) hC dX9_howMuch_14 (by decide) (fun _ => rfl) (fun v4 => ?_)
  exact gT_sub [2, 3, 4, 1, 0] rfl (wX9_howMuch_b16 hC q0 hq0 1100 s2 p1 v3 v4)
theorem dX9_howFast_0 : decode cX9_howFast 0 = .ok (.aload_n 0, 1) := by decide +kernel
theorem dX9_howFast_1 : decode cX9_howFast 1 = .ok (.getfield 23, 3) := by decide +kernel
theorem dX9_howFast_4 : decode cX9_howFast 4 = .ok (.aload_n 0, 1) := by decide +kernel
theorem dX9_howFast_5 : decode cX9_howFast 5 = .ok (.getfield 19, 3) := by decide +kernel
theorem dX9_howFast_8 : decode cX9_howFast 8 = .ok (.invokevirtual 262, 3) := by decide +kernel
theorem dX9_howFast_11 : decode cX9_howFast 11 = .ok (.iconst 0, 1) := by decide +kernel
theorem dX9_howFast_12 : decode cX9_howFast 12 = .ok (.istore_n 3, 1) := by decide +kernel
theorem dX9_howFast_13 : decode cX9_howFast 13 = .ok (.iconst 0, 1) := by decide +kernel
theorem dX9_howFast_14 : decode cX9_howFast 14 = .ok (.istore 4, 2) := by decide +kernel
theorem dX9_howFast_16 : decode cX9_howFast 16 = .ok (.iload 4, 2) := by decide +kernel
theorem dX9_howFast_18 : decode cX9_howFast 18 = .ok (.bipush 100, 2) := by decide +kernel
theorem dX9_howFast_20 : decode cX9_howFast 20 = .ok (.if_icmp .ge 57, 3) := by decide +kernel
theorem dX9_howFast_23 : decode cX9_howFast 23 = .ok (.aload_n 0, 1) := by decide +kernel
theorem dX9_howFast_24 : decode cX9_howFast 24 = .ok (.getfield 23, 3) := by decide +kernel
theorem dX9_howFast_27 : decode cX9_howFast 27 = .ok (.iload 4, 2) := by decide +kernel
theorem dX9_howFast_29 : decode cX9_howFast 29 = .ok (.bipush 10, 2) := by decide +kernel
theorem dX9_howFast_31 : decode cX9_howFast 31 = .ok (.idiv, 1) := by decide +kernel
theorem dX9_howFast_32 : decode cX9_howFast 32 = .ok (.putfield 433, 3) := by decide +kernel
theorem dX9_howFast_35 : decode cX9_howFast 35 = .ok (.aload_n 0, 1) := by decide +kernel
theorem dX9_howFast_36 : decode cX9_howFast 36 = .ok (.getfield 23, 3) := by decide +kernel
theorem dX9_howFast_39 : decode cX9_howFast 39 = .ok (.iload 4, 2) := by decide +kernel
theorem dX9_howFast_41 : decode cX9_howFast 41 = .ok (.bipush 10, 2) := by decide +kernel
theorem dX9_howFast_43 : decode cX9_howFast 43 = .ok (.irem, 1) := by decide +kernel
theorem dX9_howFast_44 : decode cX9_howFast 44 = .ok (.putfield 436, 3) := by decide +kernel
theorem dX9_howFast_47 : decode cX9_howFast 47 = .ok (.aload_n 0, 1) := by decide +kernel
theorem dX9_howFast_48 : decode cX9_howFast 48 = .ok (.aload_n 1, 1) := by decide +kernel
theorem dX9_howFast_49 : decode cX9_howFast 49 = .ok (.aload_n 0, 1) := by decide +kernel
theorem dX9_howFast_50 : decode cX9_howFast 50 = .ok (.getfield 23, 3) := by decide +kernel
theorem dX9_howFast_53 : decode cX9_howFast 53 = .ok (.invokevirtual 251, 3) := by decide +kernel
theorem dX9_howFast_56 : decode cX9_howFast 56 = .ok (.bipush (-2), 2) := by decide +kernel
theorem dX9_howFast_58 : decode cX9_howFast 58 = .ok (.if_icmp .ne 13, 3) := by decide +kernel
theorem dX9_howFast_61 : decode cX9_howFast 61 = .ok (.iload_n 2, 1) := by decide +kernel
theorem dX9_howFast_62 : decode cX9_howFast 62 = .ok (.ifCond .eq 6, 3) := by decide +kernel
theorem dX9_howFast_65 : decode cX9_howFast 65 = .ok (.iload 4, 2) := by decide +kernel
theorem dX9_howFast_67 : decode cX9_howFast 67 = .ok (.ireturn, 1) := by decide +kernel
theorem dX9_howFast_68 : decode cX9_howFast 68 = .ok (.iinc 3 1, 3) := by decide +kernel
theorem dX9_howFast_71 : decode cX9_howFast 71 = .ok (.iinc 4 1, 3) := by decide +kernel
theorem dX9_howFast_74 : decode cX9_howFast 74 = .ok (.goto (-58), 3) := by decide +kernel
theorem dX9_howFast_77 : decode cX9_howFast 77 = .ok (.iload_n 2, 1) := by decide +kernel
theorem dX9_howFast_78 : decode cX9_howFast 78 = .ok (.ifCond .eq 8, 3) := by decide +kernel
theorem dX9_howFast_81 : decode cX9_howFast 81 = .ok (.bipush (-2), 2) := by decide +kernel
theorem dX9_howFast_83 : decode cX9_howFast 83 = .ok (.goto 4, 3) := by decide +kernel
theorem dX9_howFast_86 : decode cX9_howFast 86 = .ok (.iload_n 3, 1) := by decide +kernel
theorem dX9_howFast_87 : decode cX9_howFast 87 = .ok (.ireturn, 1) := by decide +kernel
abbrev rX9_howFast : Room := { frames := 5, cells := 0, slots := 0, locals := 121 }
def mX9_howFast_b71  (q0 : Nat) (k16 : gS → Int32 → Int32 → Int32 → Option (Int32 × gS)) (σ : gS) (x12 : Int32) (x13 : Int32) (x14 : Int32) : Option (Int32 × gS) := gLet (x14 + 1) (fun v15 => (k16 σ x12 x13 v15))
set_option maxHeartbeats 4000000 in
set_option maxRecDepth 100000 in
theorem wX9_howFast_b71 {p : Program} {l : Launch} {e : Env} {s : State} {m : MethodId} {args : Array Value} {below : List Frame} {meth : Method} {c : Code} {G : gE} (hC : gCx p s m args meth c G RX9 cX9_howFast 5 (some .int))  (q0 : Nat) (hq0 : gk q0 = 6) {k16 : gS → Int32 → Int32 → Int32 → Option (Int32 × gS)} (hk16 : ∀ (σ : gS) (x5 : Int32) (x6 : Int32) (x7 : Int32), gT p l e rX9_howFast s m args below meth c G 5 iI σ 16 [(0, .ref (G.2.1 0)), (1, .ref (G.2.1 q0)), (2, .int x5), (3, .int x6), (4, .int x7)] [] (k16 σ x5 x6 x7)) (σ : gS) (x12 : Int32) (x13 : Int32) (x14 : Int32)  : gT p l e rX9_howFast s m args below meth c G 5 iI σ 71 [(0, .ref (G.2.1 0)), (1, .ref (G.2.1 q0)), (2, .int x12), (3, .int x13), (4, .int x14)] [] (mX9_howFast_b71 q0 k16 σ x12 x13 x14) := by
  unfold mX9_howFast_b71
  refine g_iinc (pc := 71) (q := 4) (w := 1) (lv' := fun v15 => [(4, .int v15), (0, .ref (G.2.1 0)), (1, .ref (G.2.1 q0)), (2, .int x12), (3, .int x13)]) hC dX9_howFast_71 rfl (by decide) (by decide) (fun _ => rfl) (fun v15 => ?_)
  refine g_goto (pc := 74) (tgt := 16) hC dX9_howFast_74 (by decide) ?_
  exact gT_sub [1, 2, 3, 4, 0] rfl (hk16 σ x12 x13 v15)
def mX9_howFast_b16  (q0 : Nat)  : Nat → gS → Int32 → Int32 → Int32 → Option (Int32 × gS)
  | 0, _, _, _, _ => none
  | n + 1, σ, x5, x6, x7 => if 100 ≤ x7 then (if x5 = 0 then (some (x6, σ)) else (some ((-2), σ))) else (gLet (gUI σ 9 2 (x7 / 10)) (fun s8 => gLet (gUI s8 9 3 (gRem x7 10)) (fun s9 => gBind (mX9_firstUnlike s9 q0 9) (fun r10 s11 => if r10 = (-2) then (if x5 = 0 then (gLet (x6 + 1) (fun v16 => (mX9_howFast_b71 q0 (mX9_howFast_b16 q0 n) s11 x5 v16 x7))) else (some (x7, s11))) else ((mX9_howFast_b71 q0 (mX9_howFast_b16 q0 n) s11 x5 x6 x7))))))
set_option maxHeartbeats 4000000 in
set_option maxRecDepth 100000 in
theorem wX9_howFast_b16 {p : Program} {l : Launch} {e : Env} {s : State} {m : MethodId} {args : Array Value} {below : List Frame} {meth : Method} {c : Code} {G : gE} (hC : gCx p s m args meth c G RX9 cX9_howFast 5 (some .int))  (q0 : Nat) (hq0 : gk q0 = 6)  (n : Nat) (σ : gS) (x5 : Int32) (x6 : Int32) (x7 : Int32)  : gT p l e rX9_howFast s m args below meth c G 5 iI σ 16 [(0, .ref (G.2.1 0)), (1, .ref (G.2.1 q0)), (2, .int x5), (3, .int x6), (4, .int x7)] [] (mX9_howFast_b16 q0 n σ x5 x6 x7) := by
  induction n generalizing σ x5 x6 x7 with
  | zero => exact gT_none
  | succ n ih =>
    unfold mX9_howFast_b16
    refine g_iload (pc := 16) (q := 4) hC dX9_howFast_16 rfl ?_
    refine g_bipush (pc := 18) (v := 100) hC dX9_howFast_18 (by decide) ?_
    refine g_icmp_ge (pc := 20) (tgt := 77) hC dX9_howFast_20 (by decide) ?_ ?_
    · refine g_iload_n (pc := 77) (q := 2) hC dX9_howFast_77 rfl rfl ?_
      refine g_if_eq (pc := 78) (tgt := 86) hC dX9_howFast_78 (by decide) ?_ ?_
      · refine g_iload_n (pc := 86) (q := 3) hC dX9_howFast_86 rfl rfl ?_
        exact g_iret (pc := 87) hC dX9_howFast_87
      · refine g_bipush (pc := 81) (v := (-2)) hC dX9_howFast_81 (by decide) ?_
        refine g_goto (pc := 83) (tgt := 87) hC dX9_howFast_83 (by decide) ?_
        exact g_iret (pc := 87) hC dX9_howFast_87
    · refine g_aload_n (pc := 23) (q := 0) hC dX9_howFast_23 rfl rfl ?_
      refine g_get (pc := 24) (v := .ref (G.2.1 9)) hC kX9 rfl 2 (by decide) fl_RX9_23 rfl dX9_howFast_24 ?_
      refine g_iload (pc := 27) (q := 4) hC dX9_howFast_27 rfl ?_
      refine g_bipush (pc := 29) (v := 10) hC dX9_howFast_29 (by decide) ?_
      refine g_idivL (pc := 31) hC dX9_howFast_31 (by decide) ?_
      refine g_puti (pc := 32) (fty := .int) hC kX5 rfl 2 (by decide) fl_RX9_433 rfl rfl rfl rfl (fun _ _ => Nat.le_of_ble_eq_true rfl) (fun _ _ => rfl) dX9_howFast_32 (fun s8 => ?_)
      refine g_aload_n (pc := 35) (q := 0) hC dX9_howFast_35 rfl rfl ?_
      refine g_get (pc := 36) (v := .ref (G.2.1 9)) hC kX9 rfl 2 (by decide) fl_RX9_23 rfl dX9_howFast_36 ?_
      refine g_iload (pc := 39) (q := 4) hC dX9_howFast_39 rfl ?_
      refine g_bipush (pc := 41) (v := 10) hC dX9_howFast_41 (by decide) ?_
      refine g_iremL (pc := 43) hC dX9_howFast_43 (by decide) ?_
      refine g_puti (pc := 44) (fty := .int) hC kX5 rfl 3 (by decide) fl_RX9_436 rfl rfl rfl rfl (fun _ _ => Nat.le_of_ble_eq_true rfl) (fun _ _ => rfl) dX9_howFast_44 (fun s9 => ?_)
      refine g_aload_n (pc := 47) (q := 0) hC dX9_howFast_47 rfl rfl ?_
      refine g_aload_n (pc := 48) (q := 1) hC dX9_howFast_48 rfl rfl ?_
      refine g_aload_n (pc := 49) (q := 0) hC dX9_howFast_49 rfl rfl ?_
      refine g_get (pc := 50) (v := .ref (G.2.1 9)) hC kX9 rfl 2 (by decide) fl_RX9_23 rfl dX9_howFast_50 ?_
      refine g_callVi (pc := 53) (As := [.ref (G.2.1 q0), .ref (G.2.1 9)]) (rest := []) hC lk_RX9_251 kX9 rfl (tX9_firstUnlike _ _ s9 q0 9) rfl rfl (Nat.le_of_ble_eq_true rfl) ⟨rfl, rfl, Nat.le_of_ble_eq_true rfl, Nat.le_of_ble_eq_true rfl⟩ dX9_howFast_53 (fun r10 s11 => ?_)
      refine g_bipush (pc := 56) (v := (-2)) hC dX9_howFast_56 (by decide) ?_
      refine g_icmp_ne (pc := 58) (tgt := 71) hC dX9_howFast_58 (by decide) ?_ ?_
      · exact gT_sub [0, 1, 2, 3, 4] rfl (wX9_howFast_b71 hC q0 hq0 ih s11 x5 x6 x7)
      · refine g_iload_n (pc := 61) (q := 2) hC dX9_howFast_61 rfl rfl ?_
        refine g_if_eq (pc := 62) (tgt := 68) hC dX9_howFast_62 (by decide) ?_ ?_
        · refine g_iinc (pc := 68) (q := 3) (w := 1) (lv' := fun v16 => [(3, .int v16), (0, .ref (G.2.1 0)), (1, .ref (G.2.1 q0)), (2, .int x5), (4, .int x7)]) hC dX9_howFast_68 rfl (by decide) (by decide) (fun _ => rfl) (fun v16 => ?_)
          exact gT_sub [1, 2, 3, 0, 4] rfl (wX9_howFast_b71 hC q0 hq0 ih s11 x5 v16 x7)
        · refine g_iload (pc := 65) (q := 4) hC dX9_howFast_65 rfl ?_
          exact g_iret (pc := 67) hC dX9_howFast_67
def mX9_howFast (σ : gS) (q0 : Nat) (p1 : Int32) : Option (Int32 × gS) := if gk q0 = 6 then (gBind (mX5_takeFrom σ 9 8) (fun r1 s2 => gLet 0 (fun v3 => gLet 0 (fun v4 => (mX9_howFast_b16 q0 1100 s2 p1 v3 v4))))) else none
set_option maxHeartbeats 4000000 in
set_option maxRecDepth 100000 in
theorem tX9_howFast (l : Launch) (G : gE) (σ : gS) (q0 : Nat) (p1 : Int32) : gM l G yX9_howFast cX9_howFast 5 (some .int) rX9_howFast iI [.ref (G.2.1 0), .ref (G.2.1 q0), .int p1] σ (mX9_howFast σ q0 p1) := by
  refine gM_of (by decide) (Nat.le_of_ble_eq_true rfl) ?_
  intro p e s m args below meth c hC
  unfold mX9_howFast
  refine gT_if (fun hq0 => ?_) (fun _ => gT_none)
  show gT p l e rX9_howFast s m args below meth c G 5 iI σ 0 [(0, .ref (G.2.1 0)), (1, .ref (G.2.1 q0)), (2, .int p1)] [] _
  refine g_aload_n (pc := 0) (q := 0) hC dX9_howFast_0 rfl rfl ?_
  refine g_get (pc := 1) (v := .ref (G.2.1 9)) hC kX9 rfl 2 (by decide) fl_RX9_23 rfl dX9_howFast_1 ?_
  refine g_aload_n (pc := 4) (q := 0) hC dX9_howFast_4 rfl rfl ?_
  refine g_get (pc := 5) (v := .ref (G.2.1 8)) hC kX9 rfl 1 (by decide) fl_RX9_19 rfl dX9_howFast_5 ?_
  refine g_callVv (pc := 8) (As := [.ref (G.2.1 8)]) (rest := []) hC lk_RX9_262 kX5 rfl (tX5_takeFrom _ _ σ 9 8) rfl rfl (Nat.le_of_ble_eq_true rfl) ⟨rfl, rfl, Nat.le_of_ble_eq_true rfl, Nat.le_of_ble_eq_true rfl⟩ dX9_howFast_8 (fun r1 s2 => ?_)
  refine g_iconst (pc := 11) (v := 0) hC dX9_howFast_11 (by decide) ?_
  refine g_istore_n (pc := 12) (lv' := fun v3 => [(3, .int v3), (0, .ref (G.2.1 0)), (1, .ref (G.2.1 q0)), (2, .int p1)]) hC dX9_howFast_12 rfl (by decide) (fun _ => rfl) (fun v3 => ?_)
  refine g_iconst (pc := 13) (v := 0) hC dX9_howFast_13 (by decide) ?_
  refine g_istore (pc := 14) (lv' := fun v4 => [(4, .int v4), (3, .int v3), (0, .ref (G.2.1 0)), (1, .ref (G.2.1 q0)), (2, .int p1)]) hC dX9_howFast_14 (by decide) (fun _ => rfl) (fun v4 => ?_)
  exact gT_sub [2, 3, 4, 1, 0] rfl (wX9_howFast_b16 hC q0 hq0 1100 s2 p1 v3 v4)
theorem dX9_givesFirstOn_0 : decode cX9_givesFirstOn 0 = .ok (.aload_n 0, 1) := by decide +kernel
theorem dX9_givesFirstOn_1 : decode cX9_givesFirstOn 1 = .ok (.getfield 23, 3) := by decide +kernel
theorem dX9_givesFirstOn_4 : decode cX9_givesFirstOn 4 = .ok (.getfield 193, 3) := by decide +kernel
theorem dX9_givesFirstOn_7 : decode cX9_givesFirstOn 7 = .ok (.istore_n 2, 1) := by decide +kernel
theorem dX9_givesFirstOn_8 : decode cX9_givesFirstOn 8 = .ok (.aload_n 0, 1) := by decide +kernel
theorem dX9_givesFirstOn_9 : decode cX9_givesFirstOn 9 = .ok (.getfield 23, 3) := by decide +kernel
theorem dX9_givesFirstOn_12 : decode cX9_givesFirstOn 12 = .ok (.getfield 153, 3) := by decide +kernel
theorem dX9_givesFirstOn_15 : decode cX9_givesFirstOn 15 = .ok (.istore_n 3, 1) := by decide +kernel
theorem dX9_givesFirstOn_16 : decode cX9_givesFirstOn 16 = .ok (.iload_n 3, 1) := by decide +kernel
theorem dX9_givesFirstOn_17 : decode cX9_givesFirstOn 17 = .ok (.bipush 29, 2) := by decide +kernel
theorem dX9_givesFirstOn_19 : decode cX9_givesFirstOn 19 = .ok (.if_icmp .gt 52, 3) := by decide +kernel
theorem dX9_givesFirstOn_22 : decode cX9_givesFirstOn 22 = .ok (.iload_n 3, 1) := by decide +kernel
theorem dX9_givesFirstOn_23 : decode cX9_givesFirstOn 23 = .ok (.iload_n 1, 1) := by decide +kernel
theorem dX9_givesFirstOn_24 : decode cX9_givesFirstOn 24 = .ok (.if_icmp .gt 47, 3) := by decide +kernel
theorem dX9_givesFirstOn_27 : decode cX9_givesFirstOn 27 = .ok (.aload_n 0, 1) := by decide +kernel
theorem dX9_givesFirstOn_28 : decode cX9_givesFirstOn 28 = .ok (.getfield 23, 3) := by decide +kernel
theorem dX9_givesFirstOn_31 : decode cX9_givesFirstOn 31 = .ok (.iload_n 3, 1) := by decide +kernel
theorem dX9_givesFirstOn_32 : decode cX9_givesFirstOn 32 = .ok (.iload_n 2, 1) := by decide +kernel
theorem dX9_givesFirstOn_33 : decode cX9_givesFirstOn 33 = .ok (.invokevirtual 306, 3) := by decide +kernel
theorem dX9_givesFirstOn_36 : decode cX9_givesFirstOn 36 = .ok (.ifCond .eq 14, 3) := by decide +kernel
theorem dX9_givesFirstOn_39 : decode cX9_givesFirstOn 39 = .ok (.iload_n 3, 1) := by decide +kernel
theorem dX9_givesFirstOn_40 : decode cX9_givesFirstOn 40 = .ok (.iload_n 1, 1) := by decide +kernel
theorem dX9_givesFirstOn_41 : decode cX9_givesFirstOn 41 = .ok (.if_icmp .ne 7, 3) := by decide +kernel
theorem dX9_givesFirstOn_44 : decode cX9_givesFirstOn 44 = .ok (.iconst 1, 1) := by decide +kernel
theorem dX9_givesFirstOn_45 : decode cX9_givesFirstOn 45 = .ok (.goto 4, 3) := by decide +kernel
theorem dX9_givesFirstOn_48 : decode cX9_givesFirstOn 48 = .ok (.iconst 0, 1) := by decide +kernel
theorem dX9_givesFirstOn_49 : decode cX9_givesFirstOn 49 = .ok (.ireturn, 1) := by decide +kernel
theorem dX9_givesFirstOn_50 : decode cX9_givesFirstOn 50 = .ok (.aload_n 0, 1) := by decide +kernel
theorem dX9_givesFirstOn_51 : decode cX9_givesFirstOn 51 = .ok (.getfield 51, 3) := by decide +kernel
theorem dX9_givesFirstOn_54 : decode cX9_givesFirstOn 54 = .ok (.aload_n 0, 1) := by decide +kernel
theorem dX9_givesFirstOn_55 : decode cX9_givesFirstOn 55 = .ok (.getfield 23, 3) := by decide +kernel
theorem dX9_givesFirstOn_58 : decode cX9_givesFirstOn 58 = .ok (.iload_n 3, 1) := by decide +kernel
theorem dX9_givesFirstOn_59 : decode cX9_givesFirstOn 59 = .ok (.iload_n 2, 1) := by decide +kernel
theorem dX9_givesFirstOn_60 : decode cX9_givesFirstOn 60 = .ok (.iconst 0, 1) := by decide +kernel
theorem dX9_givesFirstOn_61 : decode cX9_givesFirstOn 61 = .ok (.invokevirtual 326, 3) := by decide +kernel
theorem dX9_givesFirstOn_64 : decode cX9_givesFirstOn 64 = .ok (.istore_n 2, 1) := by decide +kernel
theorem dX9_givesFirstOn_65 : decode cX9_givesFirstOn 65 = .ok (.iinc 3 1, 3) := by decide +kernel
theorem dX9_givesFirstOn_68 : decode cX9_givesFirstOn 68 = .ok (.goto (-52), 3) := by decide +kernel
theorem dX9_givesFirstOn_71 : decode cX9_givesFirstOn 71 = .ok (.iload_n 1, 1) := by decide +kernel
theorem dX9_givesFirstOn_72 : decode cX9_givesFirstOn 72 = .ok (.bipush 30, 2) := by decide +kernel
theorem dX9_givesFirstOn_74 : decode cX9_givesFirstOn 74 = .ok (.if_icmp .ne 7, 3) := by decide +kernel
theorem dX9_givesFirstOn_77 : decode cX9_givesFirstOn 77 = .ok (.iconst 1, 1) := by decide +kernel
theorem dX9_givesFirstOn_78 : decode cX9_givesFirstOn 78 = .ok (.goto 4, 3) := by decide +kernel
theorem dX9_givesFirstOn_81 : decode cX9_givesFirstOn 81 = .ok (.iconst 0, 1) := by decide +kernel
theorem dX9_givesFirstOn_82 : decode cX9_givesFirstOn 82 = .ok (.ireturn, 1) := by decide +kernel
abbrev rX9_givesFirstOn : Room := { frames := 4, cells := 0, slots := 0, locals := 96 }
def mX9_givesFirstOn_b71    (σ : gS) (x6 : Int32) : Option (Bool × gS) := if x6 = 30 then (some (true, σ)) else (some (false, σ))
set_option maxHeartbeats 4000000 in
set_option maxRecDepth 100000 in
theorem wX9_givesFirstOn_b71 {p : Program} {l : Launch} {e : Env} {s : State} {m : MethodId} {args : Array Value} {below : List Frame} {meth : Method} {c : Code} {G : gE} (hC : gCx p s m args meth c G RX9 cX9_givesFirstOn 4 (some .boolean))     (σ : gS) (x6 : Int32)  : gT p l e rX9_givesFirstOn s m args below meth c G 4 iZ σ 71 [(1, .int x6)] [] (mX9_givesFirstOn_b71  σ x6) := by
  unfold mX9_givesFirstOn_b71
  refine g_iload_n (pc := 71) (q := 0) hC dX9_givesFirstOn_71 rfl rfl ?_
  refine g_bipush (pc := 72) (v := 30) hC dX9_givesFirstOn_72 (by decide) ?_
  refine g_icmp_ne (pc := 74) (tgt := 81) hC dX9_givesFirstOn_74 (by decide) ?_ ?_
  · refine g_iconst (pc := 81) (v := 0) hC dX9_givesFirstOn_81 (by decide) ?_
    exact g_zret0 (pc := 82) hC dX9_givesFirstOn_82
  · refine g_iconst (pc := 77) (v := 1) hC dX9_givesFirstOn_77 (by decide) ?_
    refine g_goto (pc := 78) (tgt := 82) hC dX9_givesFirstOn_78 (by decide) ?_
    exact g_zret1 (pc := 82) hC dX9_givesFirstOn_82
def mX9_givesFirstOn_b16    : Nat → gS → Int32 → Int32 → Int32 → Option (Bool × gS)
  | 0, _, _, _, _ => none
  | n + 1, σ, x3, x4, x5 => if 29 < x5 then ((mX9_givesFirstOn_b71  σ x3)) else (if x3 < x5 then ((mX9_givesFirstOn_b71  σ x3)) else (gBind (mX5_givesAt σ 9 x5 x4) (fun r7 s8 => if r7 = true then (if x5 = x3 then (some (true, s8)) else (some (false, s8))) else (gOpt (s8.2.2 0 7) (none) (fun k9 => if gk k9 = 3 then (gBind (mX3_overnight s8 k9 9 x5 x4 0) (fun r10 s11 => gLet r10 (fun v12 => gLet (x5 + 1) (fun v13 => ((mX9_givesFirstOn_b16  n) s11 x3 v12 v13))))) else none)))))
set_option maxHeartbeats 4000000 in
set_option maxRecDepth 100000 in
theorem wX9_givesFirstOn_b16 {p : Program} {l : Launch} {e : Env} {s : State} {m : MethodId} {args : Array Value} {below : List Frame} {meth : Method} {c : Code} {G : gE} (hC : gCx p s m args meth c G RX9 cX9_givesFirstOn 4 (some .boolean))     (n : Nat) (σ : gS) (x3 : Int32) (x4 : Int32) (x5 : Int32)  : gT p l e rX9_givesFirstOn s m args below meth c G 4 iZ σ 16 [(0, .ref (G.2.1 0)), (1, .int x3), (2, .int x4), (3, .int x5)] [] (mX9_givesFirstOn_b16  n σ x3 x4 x5) := by
  induction n generalizing σ x3 x4 x5 with
  | zero => exact gT_none
  | succ n ih =>
    unfold mX9_givesFirstOn_b16
    refine g_iload_n (pc := 16) (q := 3) hC dX9_givesFirstOn_16 rfl rfl ?_
    refine g_bipush (pc := 17) (v := 29) hC dX9_givesFirstOn_17 (by decide) ?_
    refine g_icmp_gt (pc := 19) (tgt := 71) hC dX9_givesFirstOn_19 (by decide) ?_ ?_
    · exact gT_sub [1] rfl (wX9_givesFirstOn_b71 hC  σ x3)
    · refine g_iload_n (pc := 22) (q := 3) hC dX9_givesFirstOn_22 rfl rfl ?_
      refine g_iload_n (pc := 23) (q := 1) hC dX9_givesFirstOn_23 rfl rfl ?_
      refine g_icmp_gt (pc := 24) (tgt := 71) hC dX9_givesFirstOn_24 (by decide) ?_ ?_
      · exact gT_sub [1] rfl (wX9_givesFirstOn_b71 hC  σ x3)
      · refine g_aload_n (pc := 27) (q := 0) hC dX9_givesFirstOn_27 rfl rfl ?_
        refine g_get (pc := 28) (v := .ref (G.2.1 9)) hC kX9 rfl 2 (by decide) fl_RX9_23 rfl dX9_givesFirstOn_28 ?_
        refine g_iload_n (pc := 31) (q := 3) hC dX9_givesFirstOn_31 rfl rfl ?_
        refine g_iload_n (pc := 32) (q := 2) hC dX9_givesFirstOn_32 rfl rfl ?_
        refine g_callVz (pc := 33) (As := [.int x5, .int x4]) (rest := []) hC lk_RX9_306 kX5 rfl (tX5_givesAt _ _ σ 9 x5 x4) rfl rfl (Nat.le_of_ble_eq_true rfl) ⟨rfl, rfl, Nat.le_of_ble_eq_true rfl, Nat.le_of_ble_eq_true rfl⟩ dX9_givesFirstOn_33 (fun r7 s8 => ?_)
        refine g_bif_eq (pc := 36) (tgt := 50) hC dX9_givesFirstOn_36 (by decide) ?_ ?_
        · refine g_aload_n (pc := 50) (q := 0) hC dX9_givesFirstOn_50 rfl rfl ?_
          refine g_get (pc := 51) (v := va_rf ((s8.2.2 0 7).map G.2.1)) hC kX9 rfl 7 (by decide) fl_RX9_51 rfl dX9_givesFirstOn_51 ?_
          refine gT_opt ?_ (fun k9 => ?_)
          · exact gT_none
          · refine gT_if (fun hk9 => ?_) (fun _ => gT_none)
            refine g_aload_n (pc := 54) (q := 0) hC dX9_givesFirstOn_54 rfl rfl ?_
            refine g_get (pc := 55) (v := .ref (G.2.1 9)) hC kX9 rfl 2 (by decide) fl_RX9_23 rfl dX9_givesFirstOn_55 ?_
            refine g_iload_n (pc := 58) (q := 3) hC dX9_givesFirstOn_58 rfl rfl ?_
            refine g_iload_n (pc := 59) (q := 2) hC dX9_givesFirstOn_59 rfl rfl ?_
            refine g_iconst (pc := 60) (v := 0) hC dX9_givesFirstOn_60 (by decide) ?_
            refine g_callVi (pc := 61) (As := [.ref (G.2.1 9), .int x5, .int x4, .int 0]) (rest := []) hC lk_RX9_326 kX3 hk9 (tX3_overnight _ _ s8 k9 9 x5 x4 0) rfl rfl (Nat.le_of_ble_eq_true rfl) ⟨rfl, rfl, Nat.le_of_ble_eq_true rfl, Nat.le_of_ble_eq_true rfl⟩ dX9_givesFirstOn_61 (fun r10 s11 => ?_)
            refine g_istore_n (pc := 64) (lv' := fun v12 => [(2, .int v12), (0, .ref (G.2.1 0)), (1, .int x3), (3, .int x5)]) hC dX9_givesFirstOn_64 rfl (by decide) (fun _ => rfl) (fun v12 => ?_)
            refine g_iinc (pc := 65) (q := 3) (w := 1) (lv' := fun v13 => [(3, .int v13), (2, .int v12), (0, .ref (G.2.1 0)), (1, .int x3)]) hC dX9_givesFirstOn_65 rfl (by decide) (by decide) (fun _ => rfl) (fun v13 => ?_)
            refine g_goto (pc := 68) (tgt := 16) hC dX9_givesFirstOn_68 (by decide) ?_
            exact gT_sub [2, 3, 1, 0] rfl (ih s11 x3 v12 v13)
        · refine g_iload_n (pc := 39) (q := 3) hC dX9_givesFirstOn_39 rfl rfl ?_
          refine g_iload_n (pc := 40) (q := 1) hC dX9_givesFirstOn_40 rfl rfl ?_
          refine g_icmp_ne (pc := 41) (tgt := 48) hC dX9_givesFirstOn_41 (by decide) ?_ ?_
          · refine g_iconst (pc := 48) (v := 0) hC dX9_givesFirstOn_48 (by decide) ?_
            exact g_zret0 (pc := 49) hC dX9_givesFirstOn_49
          · refine g_iconst (pc := 44) (v := 1) hC dX9_givesFirstOn_44 (by decide) ?_
            refine g_goto (pc := 45) (tgt := 49) hC dX9_givesFirstOn_45 (by decide) ?_
            exact g_zret1 (pc := 49) hC dX9_givesFirstOn_49
def mX9_givesFirstOn (σ : gS) (p0 : Int32) : Option (Bool × gS) := gLet (σ.1 9 0) (fun v1 => gLet (σ.1 9 4) (fun v2 => (mX9_givesFirstOn_b16  1100 σ p0 v1 v2)))
set_option maxHeartbeats 4000000 in
set_option maxRecDepth 100000 in
theorem tX9_givesFirstOn (l : Launch) (G : gE) (σ : gS) (p0 : Int32) : gM l G yX9_givesFirstOn cX9_givesFirstOn 4 (some .boolean) rX9_givesFirstOn iZ [.ref (G.2.1 0), .int p0] σ (mX9_givesFirstOn σ p0) := by
  refine gM_of (by decide) (Nat.le_of_ble_eq_true rfl) ?_
  intro p e s m args below meth c hC
  unfold mX9_givesFirstOn
  show gT p l e rX9_givesFirstOn s m args below meth c G 4 iZ σ 0 [(0, .ref (G.2.1 0)), (1, .int p0)] [] _
  refine g_aload_n (pc := 0) (q := 0) hC dX9_givesFirstOn_0 rfl rfl ?_
  refine g_get (pc := 1) (v := .ref (G.2.1 9)) hC kX9 rfl 2 (by decide) fl_RX9_23 rfl dX9_givesFirstOn_1 ?_
  refine g_get (pc := 4) (v := .int (σ.1 9 0)) hC kX5 rfl 0 (by decide) fl_RX9_193 rfl dX9_givesFirstOn_4 ?_
  refine g_istore_n (pc := 7) (lv' := fun v1 => [(2, .int v1), (0, .ref (G.2.1 0)), (1, .int p0)]) hC dX9_givesFirstOn_7 rfl (by decide) (fun _ => rfl) (fun v1 => ?_)
  refine g_aload_n (pc := 8) (q := 1) hC dX9_givesFirstOn_8 rfl rfl ?_
  refine g_get (pc := 9) (v := .ref (G.2.1 9)) hC kX9 rfl 2 (by decide) fl_RX9_23 rfl dX9_givesFirstOn_9 ?_
  refine g_get (pc := 12) (v := .int (σ.1 9 4)) hC kX5 rfl 4 (by decide) fl_RX9_153 rfl dX9_givesFirstOn_12 ?_
  refine g_istore_n (pc := 15) (lv' := fun v2 => [(3, .int v2), (2, .int v1), (0, .ref (G.2.1 0)), (1, .int p0)]) hC dX9_givesFirstOn_15 rfl (by decide) (fun _ => rfl) (fun v2 => ?_)
  exact gT_sub [2, 3, 1, 0] rfl (wX9_givesFirstOn_b16 hC  1100 σ p0 v1 v2)
theorem fl_RX9_303 : Cond.fieldLink RX9 303 "WinterShed$Thought" "summersGiven" "I" ∈ gBig := (gBig_tab 117 (by decide +kernel) (by decide +kernel))
theorem mth_RX9_294 : gMn RX9 294 := ⟨(gBig_tab 740 (by decide +kernel) (by decide +kernel)), (gBig_tab 479 (by decide +kernel) (by decide +kernel)), (gBig_tab 13 (by decide +kernel) (by decide +kernel)), (gBig_tab 480 (by decide +kernel) (by decide +kernel))⟩
theorem fl_RX9_300 : Cond.fieldLink RX9 300 "WinterShed$Thought" "harm" "I" ∈ gBig := (gBig_tab 115 (by decide +kernel) (by decide +kernel))
theorem lk_RX9_482 : gLV RX9 482 RX7 yX7_drawHours cX7_drawHours 2 (some .int) 1 := ⟨(gBig_tab 892 (by decide +kernel) (by decide +kernel)), (gBig_tab 893 (by decide +kernel) (by decide +kernel)), (gBig_tab 894 (by decide +kernel) (by decide +kernel)), (gBig_tab 4 (by decide +kernel) (by decide +kernel)), (gBig_tab 895 (by decide +kernel) (by decide +kernel)), rfl, by decide +kernel, by decide +kernel, by decide +kernel⟩
theorem dX9_drawSummer_0 : decode cX9_drawSummer 0 = .ok (.aload_n 0, 1) := by decide +kernel
theorem dX9_drawSummer_1 : decode cX9_drawSummer 1 = .ok (.getfield 19, 3) := by decide +kernel
theorem dX9_drawSummer_4 : decode cX9_drawSummer 4 = .ok (.getfield 193, 3) := by decide +kernel
theorem dX9_drawSummer_7 : decode cX9_drawSummer 7 = .ok (.istore_n 2, 1) := by decide +kernel
theorem dX9_drawSummer_8 : decode cX9_drawSummer 8 = .ok (.iconst 0, 1) := by decide +kernel
theorem dX9_drawSummer_9 : decode cX9_drawSummer 9 = .ok (.istore_n 3, 1) := by decide +kernel
theorem dX9_drawSummer_10 : decode cX9_drawSummer 10 = .ok (.aload_n 0, 1) := by decide +kernel
theorem dX9_drawSummer_11 : decode cX9_drawSummer 11 = .ok (.getfield 19, 3) := by decide +kernel
theorem dX9_drawSummer_14 : decode cX9_drawSummer 14 = .ok (.getfield 153, 3) := by decide +kernel
theorem dX9_drawSummer_17 : decode cX9_drawSummer 17 = .ok (.istore 4, 2) := by decide +kernel
theorem dX9_drawSummer_19 : decode cX9_drawSummer 19 = .ok (.iload 4, 2) := by decide +kernel
theorem dX9_drawSummer_21 : decode cX9_drawSummer 21 = .ok (.iload_n 1, 1) := by decide +kernel
theorem dX9_drawSummer_22 : decode cX9_drawSummer 22 = .ok (.if_icmp .gt 91, 3) := by decide +kernel
theorem dX9_drawSummer_25 : decode cX9_drawSummer 25 = .ok (.iload_n 3, 1) := by decide +kernel
theorem dX9_drawSummer_26 : decode cX9_drawSummer 26 = .ok (.aload_n 0, 1) := by decide +kernel
theorem dX9_drawSummer_27 : decode cX9_drawSummer 27 = .ok (.getfield 19, 3) := by decide +kernel
theorem dX9_drawSummer_30 : decode cX9_drawSummer 30 = .ok (.iload 4, 2) := by decide +kernel
theorem dX9_drawSummer_32 : decode cX9_drawSummer 32 = .ok (.iload_n 2, 1) := by decide +kernel
theorem dX9_drawSummer_33 : decode cX9_drawSummer 33 = .ok (.invokevirtual 306, 3) := by decide +kernel
theorem dX9_drawSummer_36 : decode cX9_drawSummer 36 = .ok (.ior, 1) := by decide +kernel
theorem dX9_drawSummer_37 : decode cX9_drawSummer 37 = .ok (.istore_n 3, 1) := by decide +kernel
theorem dX9_drawSummer_38 : decode cX9_drawSummer 38 = .ok (.aload_n 0, 1) := by decide +kernel
theorem dX9_drawSummer_39 : decode cX9_drawSummer 39 = .ok (.getfield 19, 3) := by decide +kernel
theorem dX9_drawSummer_42 : decode cX9_drawSummer 42 = .ok (.iload 4, 2) := by decide +kernel
theorem dX9_drawSummer_44 : decode cX9_drawSummer 44 = .ok (.iload_n 2, 1) := by decide +kernel
theorem dX9_drawSummer_45 : decode cX9_drawSummer 45 = .ok (.invokevirtual 275, 3) := by decide +kernel
theorem dX9_drawSummer_48 : decode cX9_drawSummer 48 = .ok (.istore_n 2, 1) := by decide +kernel
theorem dX9_drawSummer_49 : decode cX9_drawSummer 49 = .ok (.aload_n 0, 1) := by decide +kernel
theorem dX9_drawSummer_50 : decode cX9_drawSummer 50 = .ok (.getfield 29, 3) := by decide +kernel
theorem dX9_drawSummer_53 : decode cX9_drawSummer 53 = .ok (.iload 4, 2) := by decide +kernel
theorem dX9_drawSummer_55 : decode cX9_drawSummer 55 = .ok (.invokevirtual 482, 3) := by decide +kernel
theorem dX9_drawSummer_58 : decode cX9_drawSummer 58 = .ok (.iload_n 2, 1) := by decide +kernel
theorem dX9_drawSummer_59 : decode cX9_drawSummer 59 = .ok (.invokestatic 294, 3) := by decide +kernel
theorem dX9_drawSummer_62 : decode cX9_drawSummer 62 = .ok (.istore 5, 2) := by decide +kernel
theorem dX9_drawSummer_64 : decode cX9_drawSummer 64 = .ok (.aload_n 0, 1) := by decide +kernel
theorem dX9_drawSummer_65 : decode cX9_drawSummer 65 = .ok (.getfield 29, 3) := by decide +kernel
theorem dX9_drawSummer_68 : decode cX9_drawSummer 68 = .ok (.dup, 1) := by decide +kernel
theorem dX9_drawSummer_69 : decode cX9_drawSummer 69 = .ok (.getfield 300, 3) := by decide +kernel
theorem dX9_drawSummer_72 : decode cX9_drawSummer 72 = .ok (.aload_n 0, 1) := by decide +kernel
theorem dX9_drawSummer_73 : decode cX9_drawSummer 73 = .ok (.getfield 10, 3) := by decide +kernel
theorem dX9_drawSummer_76 : decode cX9_drawSummer 76 = .ok (.iload 4, 2) := by decide +kernel
theorem dX9_drawSummer_78 : decode cX9_drawSummer 78 = .ok (.iload 5, 2) := by decide +kernel
theorem dX9_drawSummer_80 : decode cX9_drawSummer 80 = .ok (.invokevirtual 323, 3) := by decide +kernel
theorem dX9_drawSummer_83 : decode cX9_drawSummer 83 = .ok (.iadd, 1) := by decide +kernel
theorem dX9_drawSummer_84 : decode cX9_drawSummer 84 = .ok (.putfield 300, 3) := by decide +kernel
theorem dX9_drawSummer_87 : decode cX9_drawSummer 87 = .ok (.aload_n 0, 1) := by decide +kernel
theorem dX9_drawSummer_88 : decode cX9_drawSummer 88 = .ok (.getfield 51, 3) := by decide +kernel
theorem dX9_drawSummer_91 : decode cX9_drawSummer 91 = .ok (.aload_n 0, 1) := by decide +kernel
theorem dX9_drawSummer_92 : decode cX9_drawSummer 92 = .ok (.getfield 19, 3) := by decide +kernel
theorem dX9_drawSummer_95 : decode cX9_drawSummer 95 = .ok (.iload 4, 2) := by decide +kernel
theorem dX9_drawSummer_97 : decode cX9_drawSummer 97 = .ok (.iload_n 2, 1) := by decide +kernel
theorem dX9_drawSummer_98 : decode cX9_drawSummer 98 = .ok (.iload 5, 2) := by decide +kernel
theorem dX9_drawSummer_100 : decode cX9_drawSummer 100 = .ok (.isub, 1) := by decide +kernel
theorem dX9_drawSummer_101 : decode cX9_drawSummer 101 = .ok (.iload 5, 2) := by decide +kernel
theorem dX9_drawSummer_103 : decode cX9_drawSummer 103 = .ok (.invokevirtual 326, 3) := by decide +kernel
theorem dX9_drawSummer_106 : decode cX9_drawSummer 106 = .ok (.istore_n 2, 1) := by decide +kernel
theorem dX9_drawSummer_107 : decode cX9_drawSummer 107 = .ok (.iinc 4 1, 3) := by decide +kernel
theorem dX9_drawSummer_110 : decode cX9_drawSummer 110 = .ok (.goto (-91), 3) := by decide +kernel
theorem dX9_drawSummer_113 : decode cX9_drawSummer 113 = .ok (.iload_n 3, 1) := by decide +kernel
theorem dX9_drawSummer_114 : decode cX9_drawSummer 114 = .ok (.ifCond .eq 16, 3) := by decide +kernel
theorem dX9_drawSummer_117 : decode cX9_drawSummer 117 = .ok (.aload_n 0, 1) := by decide +kernel
theorem dX9_drawSummer_118 : decode cX9_drawSummer 118 = .ok (.getfield 29, 3) := by decide +kernel
theorem dX9_drawSummer_121 : decode cX9_drawSummer 121 = .ok (.dup, 1) := by decide +kernel
theorem dX9_drawSummer_122 : decode cX9_drawSummer 122 = .ok (.getfield 303, 3) := by decide +kernel
theorem dX9_drawSummer_125 : decode cX9_drawSummer 125 = .ok (.iconst 1, 1) := by decide +kernel
theorem dX9_drawSummer_126 : decode cX9_drawSummer 126 = .ok (.iadd, 1) := by decide +kernel
theorem dX9_drawSummer_127 : decode cX9_drawSummer 127 = .ok (.putfield 303, 3) := by decide +kernel
theorem dX9_drawSummer_130 : decode cX9_drawSummer 130 = .ok (.return_, 1) := by decide +kernel
abbrev rX9_drawSummer : Room := { frames := 4, cells := 0, slots := 0, locals := 96 }
def mX9_drawSummer_b19    : Nat → gS → Int32 → Int32 → Int32 → Int32 → Option (Unit × gS)
  | 0, _, _, _, _, _ => none
  | n + 1, σ, x4, x5, x6, x7 => if x4 < x7 then (if x6 = 0 then (some ((), σ)) else (gLet (gUI σ 10 5 ((σ.1 10 5) + 1)) (fun s8 => some ((), s8)))) else (gBind (mX5_givesAt σ 8 x7 x5) (fun r9 s10 => gLet (x6 ||| (b2i r9)) (fun v11 => gBind (mX5_atDawn s10 8 x7 x5) (fun r12 s13 => gLet r12 (fun v14 => gBind (mX7_drawHours s13 x7) (fun r15 s16 => gLet (gMin r15 v14) (fun v17 => gBind (mX8_harmOfAll s16 x7 v17) (fun r18 s19 => gLet (gUI s19 10 4 ((s16.1 10 4) + r18)) (fun s20 => gOpt (s20.2.2 0 7) (none) (fun k21 => if gk k21 = 3 then (gBind (mX3_overnight s20 k21 8 x7 (v14 - v17) v17) (fun r22 s23 => gLet r22 (fun v24 => gLet (x7 + 1) (fun v25 => ((mX9_drawSummer_b19  n) s23 x4 v24 v11 v25))))) else none))))))))))
set_option maxHeartbeats 4000000 in
set_option maxRecDepth 100000 in
theorem wX9_drawSummer_b19 {p : Program} {l : Launch} {e : Env} {s : State} {m : MethodId} {args : Array Value} {below : List Frame} {meth : Method} {c : Code} {G : gE} (hC : gCx p s m args meth c G RX9 cX9_drawSummer 6 (none))     (n : Nat) (σ : gS) (x4 : Int32) (x5 : Int32) (x6 : Int32) (x7 : Int32)  : gT p l e rX9_drawSummer s m args below meth c G 6 iV σ 19 [(0, .ref (G.2.1 0)), (1, .int x4), (2, .int x5), (3, .int x6), (4, .int x7)] [] (mX9_drawSummer_b19  n σ x4 x5 x6 x7) := by
  induction n generalizing σ x4 x5 x6 x7 with
  | zero => exact gT_none
  | succ n ih =>
    unfold mX9_drawSummer_b19
    refine g_iload (pc := 19) (q := 4) hC dX9_drawSummer_19 rfl ?_
    refine g_iload_n (pc := 21) (q := 1) hC dX9_drawSummer_21 rfl rfl ?_
    refine g_icmp_gt (pc := 22) (tgt := 113) hC dX9_drawSummer_22 (by decide) ?_ ?_
    · refine g_iload_n (pc := 113) (q := 3) hC dX9_drawSummer_113 rfl rfl ?_
      refine g_if_eq (pc := 114) (tgt := 130) hC dX9_drawSummer_114 (by decide) ?_ ?_
      · exact g_vret (pc := 130) hC dX9_drawSummer_130
      · refine g_aload_n (pc := 117) (q := 0) hC dX9_drawSummer_117 rfl rfl ?_
        refine g_get (pc := 118) (v := .ref (G.2.1 10)) hC kX9 rfl 3 (by decide) fl_RX9_29 rfl dX9_drawSummer_118 ?_
        refine g_dup (pc := 121) hC dX9_drawSummer_121 rfl ?_
        refine g_get (pc := 122) (v := .int (σ.1 10 5)) hC kX7 rfl 5 (by decide) fl_RX9_303 rfl dX9_drawSummer_122 ?_
        refine g_iconst (pc := 125) (v := 1) hC dX9_drawSummer_125 (by decide) ?_
        refine g_iadd (pc := 126) hC dX9_drawSummer_126 ?_
        refine g_puti (pc := 127) (fty := .int) hC kX7 rfl 5 (by decide) fl_RX9_303 rfl rfl rfl rfl (fun _ _ => Nat.le_of_ble_eq_true rfl) (fun _ _ => rfl) dX9_drawSummer_127 (fun s8 => ?_)
        exact g_vret (pc := 130) hC dX9_drawSummer_130
    · refine g_iload_n (pc := 25) (q := 3) hC dX9_drawSummer_25 rfl rfl ?_
      refine g_aload_n (pc := 26) (q := 0) hC dX9_drawSummer_26 rfl rfl ?_
      refine g_get (pc := 27) (v := .ref (G.2.1 8)) hC kX9 rfl 1 (by decide) fl_RX9_19 rfl dX9_drawSummer_27 ?_
      refine g_iload (pc := 30) (q := 4) hC dX9_drawSummer_30 rfl ?_
      refine g_iload_n (pc := 32) (q := 2) hC dX9_drawSummer_32 rfl rfl ?_
      refine g_callVz (pc := 33) (As := [.int x7, .int x5]) (rest := [.int x6]) hC lk_RX9_306 kX5 rfl (tX5_givesAt _ _ σ 8 x7 x5) rfl rfl (Nat.le_of_ble_eq_true rfl) ⟨rfl, rfl, Nat.le_of_ble_eq_true rfl, Nat.le_of_ble_eq_true rfl⟩ dX9_drawSummer_33 (fun r9 s10 => ?_)
      refine g_ior (pc := 36) hC dX9_drawSummer_36 ?_
      refine g_istore_n (pc := 37) (lv' := fun v11 => [(3, .int v11), (0, .ref (G.2.1 0)), (1, .int x4), (2, .int x5), (4, .int x7)]) hC dX9_drawSummer_37 rfl (by decide) (fun _ => rfl) (fun v11 => ?_)
      refine g_aload_n (pc := 38) (q := 1) hC dX9_drawSummer_38 rfl rfl ?_
      refine g_get (pc := 39) (v := .ref (G.2.1 8)) hC kX9 rfl 1 (by decide) fl_RX9_19 rfl dX9_drawSummer_39 ?_
      refine g_iload (pc := 42) (q := 4) hC dX9_drawSummer_42 rfl ?_
      refine g_iload_n (pc := 44) (q := 3) hC dX9_drawSummer_44 rfl rfl ?_
      refine g_callVi (pc := 45) (As := [.int x7, .int x5]) (rest := []) hC lk_RX9_275 kX5 rfl (tX5_atDawn _ _ s10 8 x7 x5) rfl rfl (Nat.le_of_ble_eq_true rfl) ⟨rfl, rfl, Nat.le_of_ble_eq_true rfl, Nat.le_of_ble_eq_true rfl⟩ dX9_drawSummer_45 (fun r12 s13 => ?_)
      refine g_istore_n (pc := 48) (lv' := fun v14 => [(2, .int v14), (3, .int v11), (0, .ref (G.2.1 0)), (1, .int x4), (4, .int x7)]) hC dX9_drawSummer_48 rfl (by decide) (fun _ => rfl) (fun v14 => ?_)
      refine g_aload_n (pc := 49) (q := 2) hC dX9_drawSummer_49 rfl rfl ?_
      refine g_get (pc := 50) (v := .ref (G.2.1 10)) hC kX9 rfl 3 (by decide) fl_RX9_29 rfl dX9_drawSummer_50 ?_
      refine g_iload (pc := 53) (q := 4) hC dX9_drawSummer_53 rfl ?_
      refine g_callVi (pc := 55) (As := [.int x7]) (rest := []) hC lk_RX9_482 kX7 rfl (tX7_drawHours _ _ s13 x7) rfl rfl (Nat.le_of_ble_eq_true rfl) ⟨rfl, rfl, Nat.le_of_ble_eq_true rfl, Nat.le_of_ble_eq_true rfl⟩ dX9_drawSummer_55 (fun r15 s16 => ?_)
      refine g_iload_n (pc := 58) (q := 0) hC dX9_drawSummer_58 rfl rfl ?_
      refine g_min (pc := 59) hC mth_RX9_294 ⟨Nat.le_of_ble_eq_true rfl, Nat.le_of_ble_eq_true rfl⟩ (Nat.le_of_ble_eq_true rfl) dX9_drawSummer_59 ?_
      refine g_istore (pc := 62) (lv' := fun v17 => [(5, .int v17), (2, .int v14), (3, .int v11), (0, .ref (G.2.1 0)), (1, .int x4), (4, .int x7)]) hC dX9_drawSummer_62 (by decide) (fun _ => rfl) (fun v17 => ?_)
      refine g_aload_n (pc := 64) (q := 3) hC dX9_drawSummer_64 rfl rfl ?_
      refine g_get (pc := 65) (v := .ref (G.2.1 10)) hC kX9 rfl 3 (by decide) fl_RX9_29 rfl dX9_drawSummer_65 ?_
      refine g_dup (pc := 68) hC dX9_drawSummer_68 rfl ?_
      refine g_get (pc := 69) (v := .int (s16.1 10 4)) hC kX7 rfl 4 (by decide) fl_RX9_300 rfl dX9_drawSummer_69 ?_
      refine g_aload_n (pc := 72) (q := 3) hC dX9_drawSummer_72 rfl rfl ?_
      refine g_get (pc := 73) (v := .ref (G.2.1 1)) hC kX9 rfl 0 (by decide) fl_RX9_10 rfl dX9_drawSummer_73 ?_
      refine g_iload (pc := 76) (q := 5) hC dX9_drawSummer_76 rfl ?_
      refine g_iload (pc := 78) (q := 0) hC dX9_drawSummer_78 rfl ?_
      refine g_callVi (pc := 80) (As := [.int x7, .int v17]) (rest := [.int (s16.1 10 4), .ref (G.2.1 10)]) hC lk_RX9_323 kX8 rfl (tX8_harmOfAll _ _ s16 x7 v17) rfl rfl (Nat.le_of_ble_eq_true rfl) ⟨rfl, rfl, Nat.le_of_ble_eq_true rfl, Nat.le_of_ble_eq_true rfl⟩ dX9_drawSummer_80 (fun r18 s19 => ?_)
      refine g_iadd (pc := 83) hC dX9_drawSummer_83 ?_
      refine g_puti (pc := 84) (fty := .int) hC kX7 rfl 4 (by decide) fl_RX9_300 rfl rfl rfl rfl (fun _ _ => Nat.le_of_ble_eq_true rfl) (fun _ _ => rfl) dX9_drawSummer_84 (fun s20 => ?_)
      refine g_aload_n (pc := 87) (q := 3) hC dX9_drawSummer_87 rfl rfl ?_
      refine g_get (pc := 88) (v := va_rf ((s20.2.2 0 7).map G.2.1)) hC kX9 rfl 7 (by decide) fl_RX9_51 rfl dX9_drawSummer_88 ?_
      refine gT_opt ?_ (fun k21 => ?_)
      · exact gT_none
      · refine gT_if (fun hk21 => ?_) (fun _ => gT_none)
        refine g_aload_n (pc := 91) (q := 3) hC dX9_drawSummer_91 rfl rfl ?_
        refine g_get (pc := 92) (v := .ref (G.2.1 8)) hC kX9 rfl 1 (by decide) fl_RX9_19 rfl dX9_drawSummer_92 ?_
        refine g_iload (pc := 95) (q := 5) hC dX9_drawSummer_95 rfl ?_
        refine g_iload_n (pc := 97) (q := 1) hC dX9_drawSummer_97 rfl rfl ?_
        refine g_iload (pc := 98) (q := 0) hC dX9_drawSummer_98 rfl ?_
        refine g_isub (pc := 100) hC dX9_drawSummer_100 ?_
        refine g_iload (pc := 101) (q := 0) hC dX9_drawSummer_101 rfl ?_
        refine g_callVi (pc := 103) (As := [.ref (G.2.1 8), .int x7, .int (v14 - v17), .int v17]) (rest := []) hC lk_RX9_326 kX3 hk21 (tX3_overnight _ _ s20 k21 8 x7 (v14 - v17) v17) rfl rfl (Nat.le_of_ble_eq_true rfl) ⟨rfl, rfl, Nat.le_of_ble_eq_true rfl, Nat.le_of_ble_eq_true rfl⟩ dX9_drawSummer_103 (fun r22 s23 => ?_)
        refine g_istore_n (pc := 106) (lv' := fun v24 => [(2, .int v24), (5, .int v17), (3, .int v11), (0, .ref (G.2.1 0)), (1, .int x4), (4, .int x7)]) hC dX9_drawSummer_106 rfl (by decide) (fun _ => rfl) (fun v24 => ?_)
        refine g_iinc (pc := 107) (q := 5) (w := 1) (lv' := fun v25 => [(4, .int v25), (2, .int v24), (5, .int v17), (3, .int v11), (0, .ref (G.2.1 0)), (1, .int x4)]) hC dX9_drawSummer_107 rfl (by decide) (by decide) (fun _ => rfl) (fun v25 => ?_)
        refine g_goto (pc := 110) (tgt := 19) hC dX9_drawSummer_110 (by decide) ?_
        exact gT_sub [4, 5, 1, 3, 0] rfl (ih s23 x4 v24 v11 v25)
def mX9_drawSummer (σ : gS) (p0 : Int32) : Option (Unit × gS) := gLet (σ.1 8 0) (fun v1 => gLet 0 (fun v2 => gLet (σ.1 8 4) (fun v3 => (mX9_drawSummer_b19  1100 σ p0 v1 v2 v3))))
set_option maxHeartbeats 4000000 in
set_option maxRecDepth 100000 in
theorem tX9_drawSummer (l : Launch) (G : gE) (σ : gS) (p0 : Int32) : gM l G yX9_drawSummer cX9_drawSummer 6 (none) rX9_drawSummer iV [.ref (G.2.1 0), .int p0] σ (mX9_drawSummer σ p0) := by
  refine gM_of (by decide) (Nat.le_of_ble_eq_true rfl) ?_
  intro p e s m args below meth c hC
  unfold mX9_drawSummer
  show gT p l e rX9_drawSummer s m args below meth c G 6 iV σ 0 [(0, .ref (G.2.1 0)), (1, .int p0)] [] _
  refine g_aload_n (pc := 0) (q := 0) hC dX9_drawSummer_0 rfl rfl ?_
  refine g_get (pc := 1) (v := .ref (G.2.1 8)) hC kX9 rfl 1 (by decide) fl_RX9_19 rfl dX9_drawSummer_1 ?_
  refine g_get (pc := 4) (v := .int (σ.1 8 0)) hC kX5 rfl 0 (by decide) fl_RX9_193 rfl dX9_drawSummer_4 ?_
  refine g_istore_n (pc := 7) (lv' := fun v1 => [(2, .int v1), (0, .ref (G.2.1 0)), (1, .int p0)]) hC dX9_drawSummer_7 rfl (by decide) (fun _ => rfl) (fun v1 => ?_)
  refine g_iconst (pc := 8) (v := 0) hC dX9_drawSummer_8 (by decide) ?_
  refine g_istore_n (pc := 9) (lv' := fun v2 => [(3, .int v2), (2, .int v1), (0, .ref (G.2.1 0)), (1, .int p0)]) hC dX9_drawSummer_9 rfl (by decide) (fun _ => rfl) (fun v2 => ?_)
  refine g_aload_n (pc := 10) (q := 2) hC dX9_drawSummer_10 rfl rfl ?_
  refine g_get (pc := 11) (v := .ref (G.2.1 8)) hC kX9 rfl 1 (by decide) fl_RX9_19 rfl dX9_drawSummer_11 ?_
  refine g_get (pc := 14) (v := .int (σ.1 8 4)) hC kX5 rfl 4 (by decide) fl_RX9_153 rfl dX9_drawSummer_14 ?_
  refine g_istore (pc := 17) (lv' := fun v3 => [(4, .int v3), (3, .int v2), (2, .int v1), (0, .ref (G.2.1 0)), (1, .int p0)]) hC dX9_drawSummer_17 (by decide) (fun _ => rfl) (fun v3 => ?_)
  exact gT_sub [3, 4, 2, 1, 0] rfl (wX9_drawSummer_b19 hC  1100 σ p0 v1 v2 v3)
