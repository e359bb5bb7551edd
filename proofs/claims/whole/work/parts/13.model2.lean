theorem dX10_idles_0 : decode cX10_idles 0 = .ok (.iconst 0, 1) := by decide +kernel
theorem dX10_idles_1 : decode cX10_idles 1 = .ok (.istore_n 1, 1) := by decide +kernel
theorem dX10_idles_2 : decode cX10_idles 2 = .ok (.iload_n 1, 1) := by decide +kernel
theorem dX10_idles_3 : decode cX10_idles 3 = .ok (.bipush 30, 2) := by decide +kernel
theorem dX10_idles_5 : decode cX10_idles 5 = .ok (.if_icmp .ge 16, 3) := by decide +kernel
theorem dX10_idles_8 : decode cX10_idles 8 = .ok (.aload_n 0, 1) := by decide +kernel
theorem dX10_idles_9 : decode cX10_idles 9 = .ok (.getfield 91, 3) := by decide +kernel
theorem dX10_idles_12 : decode cX10_idles 12 = .ok (.iload_n 1, 1) := by decide +kernel
theorem dX10_idles_13 : decode cX10_idles 13 = .ok (.iconst 0, 1) := by decide +kernel
theorem dX10_idles_14 : decode cX10_idles 14 = .ok (.iastore, 1) := by decide +kernel
theorem dX10_idles_15 : decode cX10_idles 15 = .ok (.iinc 1 1, 3) := by decide +kernel
theorem dX10_idles_18 : decode cX10_idles 18 = .ok (.goto (-16), 3) := by decide +kernel
theorem dX10_idles_21 : decode cX10_idles 21 = .ok (.return_, 1) := by decide +kernel
abbrev rX10_idles : Room := { frames := 0, cells := 0, slots := 0, locals := 0 }
def mX10_idles_b2    : Nat → gS → Int32 → Option (Unit × gS)
  | 0, _, _ => none
  | n + 1, σ, x2 => if 30 ≤ x2 then (some ((), σ)) else (if inbB x2 30 = true then gLet (gUI σ 79 (Int32.toNatClampNeg x2) 0) (fun s3 => gLet (x2 + 1) (fun v4 => ((mX10_idles_b2  n) s3 v4))) else none)
set_option maxHeartbeats 4000000 in
set_option maxRecDepth 100000 in
theorem wX10_idles_b2 {p : Program} {l : Launch} {e : Env} {s : State} {m : MethodId} {args : Array Value} {below : List Frame} {meth : Method} {c : Code} {G : gE} (hC : gCx p s m args meth c G RX10 cX10_idles 2 (none))     (n : Nat) (σ : gS) (x2 : Int32)  : gT p l e rX10_idles s m args below meth c G 2 iV σ 2 [(0, .ref (G.2.1 52)), (1, .int x2)] [] (mX10_idles_b2  n σ x2) := by
  induction n generalizing σ x2 with
  | zero => exact gT_none
  | succ n ih =>
    unfold mX10_idles_b2
    refine g_iload_n (pc := 2) (q := 1) hC dX10_idles_2 rfl rfl ?_
    refine g_bipush (pc := 3) (v := 30) hC dX10_idles_3 (by decide) ?_
    refine g_icmp_ge (pc := 5) (tgt := 21) hC dX10_idles_5 (by decide) ?_ ?_
    · exact g_vret (pc := 21) hC dX10_idles_21
    · refine g_aload_n (pc := 8) (q := 0) hC dX10_idles_8 rfl rfl ?_
      refine g_get (pc := 9) (v := .ref (G.2.1 79)) hC kX10 rfl 40 (by decide) fl_RX10_91 rfl dX10_idles_9 ?_
      refine g_iload_n (pc := 12) (q := 1) hC dX10_idles_12 rfl rfl ?_
      refine g_iconst (pc := 13) (v := 0) hC dX10_idles_13 (by decide) ?_
      refine g_iast (pc := 14) hC 30 rfl (by decide) dX10_idles_14 (fun s3 => ?_)
      refine g_iinc (pc := 15) (q := 1) (w := 1) (lv' := fun v4 => [(1, .int v4), (0, .ref (G.2.1 52))]) hC dX10_idles_15 rfl (by decide) (by decide) (fun _ => rfl) (fun v4 => ?_)
      refine g_goto (pc := 18) (tgt := 2) hC dX10_idles_18 (by decide) ?_
      exact gT_sub [1, 0] rfl (ih s3 v4)
def mX10_idles (σ : gS)  : Option (Unit × gS) := gLet 0 (fun v1 => (mX10_idles_b2  1100 σ v1))
set_option maxHeartbeats 4000000 in
set_option maxRecDepth 100000 in
theorem tX10_idles (l : Launch) (G : gE) (σ : gS)  : gM l G yX10_idles cX10_idles 2 (none) rX10_idles iV [.ref (G.2.1 52)] σ (mX10_idles σ ) := by
  refine gM_of (by decide) (Nat.le_of_ble_eq_true rfl) ?_
  intro p e s m args below meth c hC
  unfold mX10_idles
  show gT p l e rX10_idles s m args below meth c G 2 iV σ 0 [(0, .ref (G.2.1 52))] [] _
  refine g_iconst (pc := 0) (v := 0) hC dX10_idles_0 (by decide) ?_
  refine g_istore_n (pc := 1) (lv' := fun v1 => [(1, .int v1), (0, .ref (G.2.1 52))]) hC dX10_idles_1 rfl (by decide) (fun _ => rfl) (fun v1 => ?_)
  exact gT_sub [1, 0] rfl (wX10_idles_b2 hC  1100 σ v1)
theorem lk_RX10_246 : gLV RX10 246 RX10 yX10_now cX10_now 1 (some .int) 0 := ⟨(gBig_tab 1330 (by decide +kernel) (by decide +kernel)), (gBig_tab 1332 (by decide +kernel) (by decide +kernel)), (gBig_sel 63 (by decide +kernel) (by decide +kernel)), (gBig_tab 11 (by decide +kernel) (by decide +kernel)), (gBig_tab 1333 (by decide +kernel) (by decide +kernel)), rfl, by decide +kernel, by decide +kernel, by decide +kernel⟩
theorem lk_RX10_243 : gLV RX10 243 RX10 yX10_idles cX10_idles 2 (none) 0 := ⟨(gBig_tab 1342 (by decide +kernel) (by decide +kernel)), (gBig_tab 1344 (by decide +kernel) (by decide +kernel)), (gBig_sel 66 (by decide +kernel) (by decide +kernel)), (gBig_tab 11 (by decide +kernel) (by decide +kernel)), (gBig_tab 1345 (by decide +kernel) (by decide +kernel)), rfl, by decide +kernel, by decide +kernel, by decide +kernel⟩
theorem dX10_reads_0 : decode cX10_reads 0 = .ok (.aload_n 0, 1) := by decide +kernel
theorem dX10_reads_1 : decode cX10_reads 1 = .ok (.invokevirtual 243, 3) := by decide +kernel
theorem dX10_reads_4 : decode cX10_reads 4 = .ok (.aload_n 0, 1) := by decide +kernel
theorem dX10_reads_5 : decode cX10_reads 5 = .ok (.invokevirtual 246, 3) := by decide +kernel
theorem dX10_reads_8 : decode cX10_reads 8 = .ok (.istore_n 2, 1) := by decide +kernel
theorem dX10_reads_9 : decode cX10_reads 9 = .ok (.iload_n 2, 1) := by decide +kernel
theorem dX10_reads_10 : decode cX10_reads 10 = .ok (.bipush 30, 2) := by decide +kernel
theorem dX10_reads_12 : decode cX10_reads 12 = .ok (.if_icmp .ge 50, 3) := by decide +kernel
theorem dX10_reads_15 : decode cX10_reads 15 = .ok (.iload_n 2, 1) := by decide +kernel
theorem dX10_reads_16 : decode cX10_reads 16 = .ok (.aload_n 0, 1) := by decide +kernel
theorem dX10_reads_17 : decode cX10_reads 17 = .ok (.invokevirtual 246, 3) := by decide +kernel
theorem dX10_reads_20 : decode cX10_reads 20 = .ok (.isub, 1) := by decide +kernel
theorem dX10_reads_21 : decode cX10_reads 21 = .ok (.aload_n 0, 1) := by decide +kernel
theorem dX10_reads_22 : decode cX10_reads 22 = .ok (.getfield 84, 3) := by decide +kernel
theorem dX10_reads_25 : decode cX10_reads 25 = .ok (.iload_n 1, 1) := by decide +kernel
theorem dX10_reads_26 : decode cX10_reads 26 = .ok (.iaload, 1) := by decide +kernel
theorem dX10_reads_27 : decode cX10_reads 27 = .ok (.if_icmp .ge 29, 3) := by decide +kernel
theorem dX10_reads_30 : decode cX10_reads 30 = .ok (.aload_n 0, 1) := by decide +kernel
theorem dX10_reads_31 : decode cX10_reads 31 = .ok (.getfield 91, 3) := by decide +kernel
theorem dX10_reads_34 : decode cX10_reads 34 = .ok (.iload_n 2, 1) := by decide +kernel
theorem dX10_reads_35 : decode cX10_reads 35 = .ok (.iconst 0, 1) := by decide +kernel
theorem dX10_reads_36 : decode cX10_reads 36 = .ok (.bipush 24, 2) := by decide +kernel
theorem dX10_reads_38 : decode cX10_reads 38 = .ok (.aload_n 0, 1) := by decide +kernel
theorem dX10_reads_39 : decode cX10_reads 39 = .ok (.iload_n 1, 1) := by decide +kernel
theorem dX10_reads_40 : decode cX10_reads 40 = .ok (.iload_n 2, 1) := by decide +kernel
theorem dX10_reads_41 : decode cX10_reads 41 = .ok (.aload_n 0, 1) := by decide +kernel
theorem dX10_reads_42 : decode cX10_reads 42 = .ok (.invokevirtual 246, 3) := by decide +kernel
theorem dX10_reads_45 : decode cX10_reads 45 = .ok (.isub, 1) := by decide +kernel
theorem dX10_reads_46 : decode cX10_reads 46 = .ok (.invokevirtual 137, 3) := by decide +kernel
theorem dX10_reads_49 : decode cX10_reads 49 = .ok (.invokestatic 232, 3) := by decide +kernel
theorem dX10_reads_52 : decode cX10_reads 52 = .ok (.invokestatic 237, 3) := by decide +kernel
theorem dX10_reads_55 : decode cX10_reads 55 = .ok (.iastore, 1) := by decide +kernel
theorem dX10_reads_56 : decode cX10_reads 56 = .ok (.iinc 2 1, 3) := by decide +kernel
theorem dX10_reads_59 : decode cX10_reads 59 = .ok (.goto (-50), 3) := by decide +kernel
theorem dX10_reads_62 : decode cX10_reads 62 = .ok (.return_, 1) := by decide +kernel
abbrev rX10_reads : Room := { frames := 1, cells := 0, slots := 0, locals := 22 }
def mX10_reads_b56   (k9 : gS → Int32 → Int32 → Option (Unit × gS)) (σ : gS) (x10 : Int32) (x11 : Int32) : Option (Unit × gS) := gLet (x11 + 1) (fun v12 => (k9 σ x10 v12))
set_option maxHeartbeats 4000000 in
set_option maxRecDepth 100000 in
theorem wX10_reads_b56 {p : Program} {l : Launch} {e : Env} {s : State} {m : MethodId} {args : Array Value} {below : List Frame} {meth : Method} {c : Code} {G : gE} (hC : gCx p s m args meth c G RX10 cX10_reads 3 (none))    {k9 : gS → Int32 → Int32 → Option (Unit × gS)} (hk9 : ∀ (σ : gS) (x6 : Int32) (x7 : Int32), gT p l e rX10_reads s m args below meth c G 3 iV σ 9 [(0, .ref (G.2.1 52)), (1, .int x6), (2, .int x7)] [] (k9 σ x6 x7)) (σ : gS) (x10 : Int32) (x11 : Int32)  : gT p l e rX10_reads s m args below meth c G 3 iV σ 56 [(0, .ref (G.2.1 52)), (1, .int x10), (2, .int x11)] [] (mX10_reads_b56 k9 σ x10 x11) := by
  unfold mX10_reads_b56
  refine g_iinc (pc := 56) (q := 2) (w := 1) (lv' := fun v12 => [(2, .int v12), (0, .ref (G.2.1 52)), (1, .int x10)]) hC dX10_reads_56 rfl (by decide) (by decide) (fun _ => rfl) (fun v12 => ?_)
  refine g_goto (pc := 59) (tgt := 9) hC dX10_reads_59 (by decide) ?_
  exact gT_sub [1, 2, 0] rfl (hk9 σ x10 v12)
def mX10_reads_b9    : Nat → gS → Int32 → Int32 → Option (Unit × gS)
  | 0, _, _, _ => none
  | n + 1, σ, x6, x7 => if 30 ≤ x7 then (some ((), σ)) else (gBind (mX10_now σ ) (fun r8 s9 => if inbB x6 6 = true then (if (s9.1 77 (Int32.toNatClampNeg x6)) ≤ (x7 - r8) then ((mX10_reads_b56 (mX10_reads_b9  n) s9 x6 x7)) else (gBind (mX10_now s9 ) (fun r13 s14 => gBind (mX10_toldAt s14 x6 (x7 - r13)) (fun r15 s16 => if inbB x7 30 = true then gLet (gUI s16 79 (Int32.toNatClampNeg x7) (gMax 0 (gMin 24 r15))) (fun s17 => (mX10_reads_b56 (mX10_reads_b9  n) s17 x6 x7)) else none)))) else none))
set_option maxHeartbeats 4000000 in
set_option maxRecDepth 100000 in
theorem wX10_reads_b9 {p : Program} {l : Launch} {e : Env} {s : State} {m : MethodId} {args : Array Value} {below : List Frame} {meth : Method} {c : Code} {G : gE} (hC : gCx p s m args meth c G RX10 cX10_reads 3 (none))     (n : Nat) (σ : gS) (x6 : Int32) (x7 : Int32)  : gT p l e rX10_reads s m args below meth c G 3 iV σ 9 [(0, .ref (G.2.1 52)), (1, .int x6), (2, .int x7)] [] (mX10_reads_b9  n σ x6 x7) := by
  induction n generalizing σ x6 x7 with
  | zero => exact gT_none
  | succ n ih =>
    unfold mX10_reads_b9
    refine g_iload_n (pc := 9) (q := 2) hC dX10_reads_9 rfl rfl ?_
    refine g_bipush (pc := 10) (v := 30) hC dX10_reads_10 (by decide) ?_
    refine g_icmp_ge (pc := 12) (tgt := 62) hC dX10_reads_12 (by decide) ?_ ?_
    · exact g_vret (pc := 62) hC dX10_reads_62
    · refine g_iload_n (pc := 15) (q := 2) hC dX10_reads_15 rfl rfl ?_
      refine g_aload_n (pc := 16) (q := 0) hC dX10_reads_16 rfl rfl ?_
      refine g_callVi (pc := 17) (As := []) (rest := [.int x7]) hC lk_RX10_246 kX10 rfl (tX10_now _ _ σ ) rfl rfl (Nat.le_of_ble_eq_true rfl) ⟨rfl, rfl, Nat.le_of_ble_eq_true rfl, Nat.le_of_ble_eq_true rfl⟩ dX10_reads_17 (fun r8 s9 => ?_)
      refine g_isub (pc := 20) hC dX10_reads_20 ?_
      refine g_aload_n (pc := 21) (q := 0) hC dX10_reads_21 rfl rfl ?_
      refine g_get (pc := 22) (v := .ref (G.2.1 77)) hC kX10 rfl 38 (by decide) fl_RX10_84 rfl dX10_reads_22 ?_
      refine g_iload_n (pc := 25) (q := 1) hC dX10_reads_25 rfl rfl ?_
      refine g_iald (pc := 26) hC 6 rfl (by decide) dX10_reads_26 ?_
      refine g_icmp_ge (pc := 27) (tgt := 56) hC dX10_reads_27 (by decide) ?_ ?_
      · exact gT_sub [0, 1, 2] rfl (wX10_reads_b56 hC ih s9 x6 x7)
      · refine g_aload_n (pc := 30) (q := 0) hC dX10_reads_30 rfl rfl ?_
        refine g_get (pc := 31) (v := .ref (G.2.1 79)) hC kX10 rfl 40 (by decide) fl_RX10_91 rfl dX10_reads_31 ?_
        refine g_iload_n (pc := 34) (q := 2) hC dX10_reads_34 rfl rfl ?_
        refine g_iconst (pc := 35) (v := 0) hC dX10_reads_35 (by decide) ?_
        refine g_bipush (pc := 36) (v := 24) hC dX10_reads_36 (by decide) ?_
        refine g_aload_n (pc := 38) (q := 0) hC dX10_reads_38 rfl rfl ?_
        refine g_iload_n (pc := 39) (q := 1) hC dX10_reads_39 rfl rfl ?_
        refine g_iload_n (pc := 40) (q := 2) hC dX10_reads_40 rfl rfl ?_
        refine g_aload_n (pc := 41) (q := 0) hC dX10_reads_41 rfl rfl ?_
        refine g_callVi (pc := 42) (As := []) (rest := [.int x7, .int x6, .ref (G.2.1 52), .int 24, .int 0, .int x7, .ref (G.2.1 79)]) hC lk_RX10_246 kX10 rfl (tX10_now _ _ s9 ) rfl rfl (Nat.le_of_ble_eq_true rfl) ⟨rfl, rfl, Nat.le_of_ble_eq_true rfl, Nat.le_of_ble_eq_true rfl⟩ dX10_reads_42 (fun r13 s14 => ?_)
        refine g_isub (pc := 45) hC dX10_reads_45 ?_
        refine g_callVi (pc := 46) (As := [.int x6, .int (x7 - r13)]) (rest := [.int 24, .int 0, .int x7, .ref (G.2.1 79)]) hC lk_RX10_137 kX10 rfl (tX10_toldAt _ _ s14 x6 (x7 - r13)) rfl rfl (Nat.le_of_ble_eq_true rfl) ⟨rfl, rfl, Nat.le_of_ble_eq_true rfl, Nat.le_of_ble_eq_true rfl⟩ dX10_reads_46 (fun r15 s16 => ?_)
        refine g_min (pc := 49) hC mth_RX10_232 ⟨Nat.le_of_ble_eq_true rfl, Nat.le_of_ble_eq_true rfl⟩ (Nat.le_of_ble_eq_true rfl) dX10_reads_49 ?_
        refine g_max (pc := 52) hC mth_RX10_237 ⟨Nat.le_of_ble_eq_true rfl, Nat.le_of_ble_eq_true rfl⟩ (Nat.le_of_ble_eq_true rfl) dX10_reads_52 ?_
        refine g_iast (pc := 55) hC 30 rfl (by decide) dX10_reads_55 (fun s17 => ?_)
        exact gT_sub [0, 1, 2] rfl (wX10_reads_b56 hC ih s17 x6 x7)
def mX10_reads (σ : gS) (p0 : Int32) : Option (Unit × gS) := gBind (mX10_idles σ ) (fun r1 s2 => gBind (mX10_now s2 ) (fun r3 s4 => gLet r3 (fun v5 => (mX10_reads_b9  1100 s4 p0 v5))))
set_option maxHeartbeats 4000000 in
set_option maxRecDepth 100000 in
theorem tX10_reads (l : Launch) (G : gE) (σ : gS) (p0 : Int32) : gM l G yX10_reads cX10_reads 3 (none) rX10_reads iV [.ref (G.2.1 52), .int p0] σ (mX10_reads σ p0) := by
  refine gM_of (by decide) (Nat.le_of_ble_eq_true rfl) ?_
  intro p e s m args below meth c hC
  unfold mX10_reads
  show gT p l e rX10_reads s m args below meth c G 3 iV σ 0 [(0, .ref (G.2.1 52)), (1, .int p0)] [] _
  refine g_aload_n (pc := 0) (q := 0) hC dX10_reads_0 rfl rfl ?_
  refine g_callVv (pc := 1) (As := []) (rest := []) hC lk_RX10_243 kX10 rfl (tX10_idles _ _ σ ) rfl rfl (Nat.le_of_ble_eq_true rfl) ⟨rfl, rfl, Nat.le_of_ble_eq_true rfl, Nat.le_of_ble_eq_true rfl⟩ dX10_reads_1 (fun r1 s2 => ?_)
  refine g_aload_n (pc := 4) (q := 0) hC dX10_reads_4 rfl rfl ?_
  refine g_callVi (pc := 5) (As := []) (rest := []) hC lk_RX10_246 kX10 rfl (tX10_now _ _ s2 ) rfl rfl (Nat.le_of_ble_eq_true rfl) ⟨rfl, rfl, Nat.le_of_ble_eq_true rfl, Nat.le_of_ble_eq_true rfl⟩ dX10_reads_5 (fun r3 s4 => ?_)
  refine g_istore_n (pc := 8) (lv' := fun v5 => [(2, .int v5), (0, .ref (G.2.1 52)), (1, .int p0)]) hC dX10_reads_8 rfl (by decide) (fun _ => rfl) (fun v5 => ?_)
  exact gT_sub [1, 2, 0] rfl (wX10_reads_b9 hC  1100 s4 p0 v5)
theorem fl_RX10_249 : Cond.fieldLink RX10 249 "WinterShedModel" "gaveOn" "I" ∈ gBig := (gBig_tab 1096 (by decide +kernel) (by decide +kernel))
theorem lk_RX10_252 : gLV RX10 252 RX10 yX10_nextCold cX10_nextCold 4 (some .int) 3 := ⟨(gBig_tab 1352 (by decide +kernel) (by decide +kernel)), (gBig_tab 1354 (by decide +kernel) (by decide +kernel)), (gBig_sel 68 (by decide +kernel) (by decide +kernel)), (gBig_tab 11 (by decide +kernel) (by decide +kernel)), (gBig_tab 1355 (by decide +kernel) (by decide +kernel)), rfl, by decide +kernel, by decide +kernel, by decide +kernel⟩
theorem dX10_walks_0 : decode cX10_walks 0 = .ok (.iload_n 1, 1) := by decide +kernel
theorem dX10_walks_1 : decode cX10_walks 1 = .ok (.istore_n 2, 1) := by decide +kernel
theorem dX10_walks_2 : decode cX10_walks 2 = .ok (.aload_n 0, 1) := by decide +kernel
theorem dX10_walks_3 : decode cX10_walks 3 = .ok (.bipush (-2), 2) := by decide +kernel
theorem dX10_walks_5 : decode cX10_walks 5 = .ok (.putfield 249, 3) := by decide +kernel
theorem dX10_walks_8 : decode cX10_walks 8 = .ok (.aload_n 0, 1) := by decide +kernel
theorem dX10_walks_9 : decode cX10_walks 9 = .ok (.invokevirtual 246, 3) := by decide +kernel
theorem dX10_walks_12 : decode cX10_walks 12 = .ok (.istore_n 3, 1) := by decide +kernel
theorem dX10_walks_13 : decode cX10_walks 13 = .ok (.iload_n 3, 1) := by decide +kernel
theorem dX10_walks_14 : decode cX10_walks 14 = .ok (.bipush 30, 2) := by decide +kernel
theorem dX10_walks_16 : decode cX10_walks 16 = .ok (.if_icmp .ge 78, 3) := by decide +kernel
theorem dX10_walks_19 : decode cX10_walks 19 = .ok (.iload_n 2, 1) := by decide +kernel
theorem dX10_walks_20 : decode cX10_walks 20 = .ok (.aload_n 0, 1) := by decide +kernel
theorem dX10_walks_21 : decode cX10_walks 21 = .ok (.getfield 30, 3) := by decide +kernel
theorem dX10_walks_24 : decode cX10_walks 24 = .ok (.iconst 1, 1) := by decide +kernel
theorem dX10_walks_25 : decode cX10_walks 25 = .ok (.iaload, 1) := by decide +kernel
theorem dX10_walks_26 : decode cX10_walks 26 = .ok (.if_icmp .le 19, 3) := by decide +kernel
theorem dX10_walks_29 : decode cX10_walks 29 = .ok (.iconst 0, 1) := by decide +kernel
theorem dX10_walks_30 : decode cX10_walks 30 = .ok (.istore_n 2, 1) := by decide +kernel
theorem dX10_walks_31 : decode cX10_walks 31 = .ok (.aload_n 0, 1) := by decide +kernel
theorem dX10_walks_32 : decode cX10_walks 32 = .ok (.getfield 249, 3) := by decide +kernel
theorem dX10_walks_35 : decode cX10_walks 35 = .ok (.bipush (-2), 2) := by decide +kernel
theorem dX10_walks_37 : decode cX10_walks 37 = .ok (.if_icmp .ne 8, 3) := by decide +kernel
theorem dX10_walks_40 : decode cX10_walks 40 = .ok (.aload_n 0, 1) := by decide +kernel
theorem dX10_walks_41 : decode cX10_walks 41 = .ok (.iload_n 3, 1) := by decide +kernel
theorem dX10_walks_42 : decode cX10_walks 42 = .ok (.putfield 249, 3) := by decide +kernel
theorem dX10_walks_45 : decode cX10_walks 45 = .ok (.aload_n 0, 1) := by decide +kernel
theorem dX10_walks_46 : decode cX10_walks 46 = .ok (.getfield 94, 3) := by decide +kernel
theorem dX10_walks_49 : decode cX10_walks 49 = .ok (.iload_n 3, 1) := by decide +kernel
theorem dX10_walks_50 : decode cX10_walks 50 = .ok (.iload_n 2, 1) := by decide +kernel
theorem dX10_walks_51 : decode cX10_walks 51 = .ok (.iastore, 1) := by decide +kernel
theorem dX10_walks_52 : decode cX10_walks 52 = .ok (.aload_n 0, 1) := by decide +kernel
theorem dX10_walks_53 : decode cX10_walks 53 = .ok (.getfield 97, 3) := by decide +kernel
theorem dX10_walks_56 : decode cX10_walks 56 = .ok (.iload_n 3, 1) := by decide +kernel
theorem dX10_walks_57 : decode cX10_walks 57 = .ok (.iload_n 2, 1) := by decide +kernel
theorem dX10_walks_58 : decode cX10_walks 58 = .ok (.aload_n 0, 1) := by decide +kernel
theorem dX10_walks_59 : decode cX10_walks 59 = .ok (.getfield 91, 3) := by decide +kernel
theorem dX10_walks_62 : decode cX10_walks 62 = .ok (.iload_n 3, 1) := by decide +kernel
theorem dX10_walks_63 : decode cX10_walks 63 = .ok (.iaload, 1) := by decide +kernel
theorem dX10_walks_64 : decode cX10_walks 64 = .ok (.invokestatic 232, 3) := by decide +kernel
theorem dX10_walks_67 : decode cX10_walks 67 = .ok (.iastore, 1) := by decide +kernel
theorem dX10_walks_68 : decode cX10_walks 68 = .ok (.aload_n 0, 1) := by decide +kernel
theorem dX10_walks_69 : decode cX10_walks 69 = .ok (.iload_n 2, 1) := by decide +kernel
theorem dX10_walks_70 : decode cX10_walks 70 = .ok (.aload_n 0, 1) := by decide +kernel
theorem dX10_walks_71 : decode cX10_walks 71 = .ok (.getfield 97, 3) := by decide +kernel
theorem dX10_walks_74 : decode cX10_walks 74 = .ok (.iload_n 3, 1) := by decide +kernel
theorem dX10_walks_75 : decode cX10_walks 75 = .ok (.iaload, 1) := by decide +kernel
theorem dX10_walks_76 : decode cX10_walks 76 = .ok (.isub, 1) := by decide +kernel
theorem dX10_walks_77 : decode cX10_walks 77 = .ok (.aload_n 0, 1) := by decide +kernel
theorem dX10_walks_78 : decode cX10_walks 78 = .ok (.getfield 97, 3) := by decide +kernel
theorem dX10_walks_81 : decode cX10_walks 81 = .ok (.iload_n 3, 1) := by decide +kernel
theorem dX10_walks_82 : decode cX10_walks 82 = .ok (.iaload, 1) := by decide +kernel
theorem dX10_walks_83 : decode cX10_walks 83 = .ok (.iload_n 3, 1) := by decide +kernel
theorem dX10_walks_84 : decode cX10_walks 84 = .ok (.invokevirtual 252, 3) := by decide +kernel
theorem dX10_walks_87 : decode cX10_walks 87 = .ok (.istore_n 2, 1) := by decide +kernel
theorem dX10_walks_88 : decode cX10_walks 88 = .ok (.iinc 3 1, 3) := by decide +kernel
theorem dX10_walks_91 : decode cX10_walks 91 = .ok (.goto (-78), 3) := by decide +kernel
theorem dX10_walks_94 : decode cX10_walks 94 = .ok (.aload_n 0, 1) := by decide +kernel
theorem dX10_walks_95 : decode cX10_walks 95 = .ok (.getfield 94, 3) := by decide +kernel
theorem dX10_walks_98 : decode cX10_walks 98 = .ok (.bipush 30, 2) := by decide +kernel
theorem dX10_walks_100 : decode cX10_walks 100 = .ok (.iload_n 2, 1) := by decide +kernel
theorem dX10_walks_101 : decode cX10_walks 101 = .ok (.iastore, 1) := by decide +kernel
theorem dX10_walks_102 : decode cX10_walks 102 = .ok (.return_, 1) := by decide +kernel
abbrev rX10_walks : Room := { frames := 4, cells := 0, slots := 0, locals := 94 }
def mX10_walks_b45   (k13 : gS → Int32 → Int32 → Option (Unit × gS)) (σ : gS) (x9 : Int32) (x10 : Int32) : Option (Unit × gS) := if inbB x10 31 = true then gLet (gUI σ 80 (Int32.toNatClampNeg x10) x9) (fun s11 => if inbB x10 30 = true then (if inbB x10 30 = true then gLet (gUI s11 81 (Int32.toNatClampNeg x10) (gMin x9 (s11.1 79 (Int32.toNatClampNeg x10)))) (fun s12 => if inbB x10 30 = true then (if inbB x10 30 = true then (gBind (mX10_nextCold s12 (x9 - (s12.1 81 (Int32.toNatClampNeg x10))) (s12.1 81 (Int32.toNatClampNeg x10)) x10) (fun r13 s14 => gLet r13 (fun v15 => gLet (x10 + 1) (fun v16 => (k13 s14 v15 v16))))) else none) else none) else none) else none) else none
set_option maxHeartbeats 4000000 in
set_option maxRecDepth 100000 in
theorem wX10_walks_b45 {p : Program} {l : Launch} {e : Env} {s : State} {m : MethodId} {args : Array Value} {below : List Frame} {meth : Method} {c : Code} {G : gE} (hC : gCx p s m args meth c G RX10 cX10_walks 4 (none))    {k13 : gS → Int32 → Int32 → Option (Unit × gS)} (hk13 : ∀ (σ : gS) (x6 : Int32) (x7 : Int32), gT p l e rX10_walks s m args below meth c G 4 iV σ 13 [(0, .ref (G.2.1 52)), (2, .int x6), (3, .int x7)] [] (k13 σ x6 x7)) (σ : gS) (x9 : Int32) (x10 : Int32)  : gT p l e rX10_walks s m args below meth c G 4 iV σ 45 [(0, .ref (G.2.1 52)), (2, .int x9), (3, .int x10)] [] (mX10_walks_b45 k13 σ x9 x10) := by
  unfold mX10_walks_b45
  refine g_aload_n (pc := 45) (q := 0) hC dX10_walks_45 rfl rfl ?_
  refine g_get (pc := 46) (v := .ref (G.2.1 80)) hC kX10 rfl 41 (by decide) fl_RX10_94 rfl dX10_walks_46 ?_
  refine g_iload_n (pc := 49) (q := 2) hC dX10_walks_49 rfl rfl ?_
  refine g_iload_n (pc := 50) (q := 1) hC dX10_walks_50 rfl rfl ?_
  refine g_iast (pc := 51) hC 31 rfl (by decide) dX10_walks_51 (fun s11 => ?_)
  refine g_aload_n (pc := 52) (q := 0) hC dX10_walks_52 rfl rfl ?_
  refine g_get (pc := 53) (v := .ref (G.2.1 81)) hC kX10 rfl 42 (by decide) fl_RX10_97 rfl dX10_walks_53 ?_
  refine g_iload_n (pc := 56) (q := 2) hC dX10_walks_56 rfl rfl ?_
  refine g_iload_n (pc := 57) (q := 1) hC dX10_walks_57 rfl rfl ?_
  refine g_aload_n (pc := 58) (q := 0) hC dX10_walks_58 rfl rfl ?_
  refine g_get (pc := 59) (v := .ref (G.2.1 79)) hC kX10 rfl 40 (by decide) fl_RX10_91 rfl dX10_walks_59 ?_
  refine g_iload_n (pc := 62) (q := 2) hC dX10_walks_62 rfl rfl ?_
  refine g_iald (pc := 63) hC 30 rfl (by decide) dX10_walks_63 ?_
  refine g_min (pc := 64) hC mth_RX10_232 ⟨Nat.le_of_ble_eq_true rfl, Nat.le_of_ble_eq_true rfl⟩ (Nat.le_of_ble_eq_true rfl) dX10_walks_64 ?_
  refine g_iast (pc := 67) hC 30 rfl (by decide) dX10_walks_67 (fun s12 => ?_)
  refine g_aload_n (pc := 68) (q := 0) hC dX10_walks_68 rfl rfl ?_
  refine g_iload_n (pc := 69) (q := 1) hC dX10_walks_69 rfl rfl ?_
  refine g_aload_n (pc := 70) (q := 0) hC dX10_walks_70 rfl rfl ?_
  refine g_get (pc := 71) (v := .ref (G.2.1 81)) hC kX10 rfl 42 (by decide) fl_RX10_97 rfl dX10_walks_71 ?_
  refine g_iload_n (pc := 74) (q := 2) hC dX10_walks_74 rfl rfl ?_
  refine g_iald (pc := 75) hC 30 rfl (by decide) dX10_walks_75 ?_
  refine g_isub (pc := 76) hC dX10_walks_76 ?_
  refine g_aload_n (pc := 77) (q := 0) hC dX10_walks_77 rfl rfl ?_
  refine g_get (pc := 78) (v := .ref (G.2.1 81)) hC kX10 rfl 42 (by decide) fl_RX10_97 rfl dX10_walks_78 ?_
  refine g_iload_n (pc := 81) (q := 2) hC dX10_walks_81 rfl rfl ?_
  refine g_iald (pc := 82) hC 30 rfl (by decide) dX10_walks_82 ?_
  refine g_iload_n (pc := 83) (q := 2) hC dX10_walks_83 rfl rfl ?_
  refine g_callVi (pc := 84) (As := [.int (x9 - (s12.1 81 (Int32.toNatClampNeg x10))), .int (s12.1 81 (Int32.toNatClampNeg x10)), .int x10]) (rest := []) hC lk_RX10_252 kX10 rfl (tX10_nextCold _ _ s12 (x9 - (s12.1 81 (Int32.toNatClampNeg x10))) (s12.1 81 (Int32.toNatClampNeg x10)) x10) rfl rfl (Nat.le_of_ble_eq_true rfl) ⟨rfl, rfl, Nat.le_of_ble_eq_true rfl, Nat.le_of_ble_eq_true rfl⟩ dX10_walks_84 (fun r13 s14 => ?_)
  refine g_istore_n (pc := 87) (lv' := fun v15 => [(2, .int v15), (0, .ref (G.2.1 52)), (3, .int x10)]) hC dX10_walks_87 rfl (by decide) (fun _ => rfl) (fun v15 => ?_)
  refine g_iinc (pc := 88) (q := 2) (w := 1) (lv' := fun v16 => [(3, .int v16), (2, .int v15), (0, .ref (G.2.1 52))]) hC dX10_walks_88 rfl (by decide) (by decide) (fun _ => rfl) (fun v16 => ?_)
  refine g_goto (pc := 91) (tgt := 13) hC dX10_walks_91 (by decide) ?_
  exact gT_sub [2, 1, 0] rfl (hk13 s14 v15 v16)
def mX10_walks_b13    : Nat → gS → Int32 → Int32 → Option (Unit × gS)
  | 0, _, _, _ => none
  | n + 1, σ, x6, x7 => if 30 ≤ x7 then (if inbB 30 31 = true then gLet (gUI σ 80 (Int32.toNatClampNeg 30) x6) (fun s8 => some ((), s8)) else none) else (if inbB 1 5 = true then (if x6 ≤ (σ.1 59 (Int32.toNatClampNeg 1)) then ((mX10_walks_b45 (mX10_walks_b13  n) σ x6 x7)) else (gLet 0 (fun v17 => if (σ.1 52 43) = (-2) then (gLet (gUI σ 52 43 x7) (fun s18 => (mX10_walks_b45 (mX10_walks_b13  n) s18 v17 x7))) else ((mX10_walks_b45 (mX10_walks_b13  n) σ v17 x7))))) else none)
set_option maxHeartbeats 4000000 in
set_option maxRecDepth 100000 in
theorem wX10_walks_b13 {p : Program} {l : Launch} {e : Env} {s : State} {m : MethodId} {args : Array Value} {below : List Frame} {meth : Method} {c : Code} {G : gE} (hC : gCx p s m args meth c G RX10 cX10_walks 4 (none))     (n : Nat) (σ : gS) (x6 : Int32) (x7 : Int32)  : gT p l e rX10_walks s m args below meth c G 4 iV σ 13 [(0, .ref (G.2.1 52)), (2, .int x6), (3, .int x7)] [] (mX10_walks_b13  n σ x6 x7) := by
  induction n generalizing σ x6 x7 with
  | zero => exact gT_none
  | succ n ih =>
    unfold mX10_walks_b13
    refine g_iload_n (pc := 13) (q := 2) hC dX10_walks_13 rfl rfl ?_
    refine g_bipush (pc := 14) (v := 30) hC dX10_walks_14 (by decide) ?_
    refine g_icmp_ge (pc := 16) (tgt := 94) hC dX10_walks_16 (by decide) ?_ ?_
    · refine g_aload_n (pc := 94) (q := 0) hC dX10_walks_94 rfl rfl ?_
      refine g_get (pc := 95) (v := .ref (G.2.1 80)) hC kX10 rfl 41 (by decide) fl_RX10_94 rfl dX10_walks_95 ?_
      refine g_bipush (pc := 98) (v := 30) hC dX10_walks_98 (by decide) ?_
      refine g_iload_n (pc := 100) (q := 1) hC dX10_walks_100 rfl rfl ?_
      refine g_iast (pc := 101) hC 31 rfl (by decide) dX10_walks_101 (fun s8 => ?_)
      exact g_vret (pc := 102) hC dX10_walks_102
    · refine g_iload_n (pc := 19) (q := 1) hC dX10_walks_19 rfl rfl ?_
      refine g_aload_n (pc := 20) (q := 0) hC dX10_walks_20 rfl rfl ?_
      refine g_get (pc := 21) (v := .ref (G.2.1 59)) hC kX10 rfl 8 (by decide) fl_RX10_30 rfl dX10_walks_21 ?_
      refine g_iconst (pc := 24) (v := 1) hC dX10_walks_24 (by decide) ?_
      refine g_iald (pc := 25) hC 5 rfl (by decide) dX10_walks_25 ?_
      refine g_icmp_le (pc := 26) (tgt := 45) hC dX10_walks_26 (by decide) ?_ ?_
      · exact gT_sub [0, 1, 2] rfl (wX10_walks_b45 hC ih σ x6 x7)
      · refine g_iconst (pc := 29) (v := 0) hC dX10_walks_29 (by decide) ?_
        refine g_istore_n (pc := 30) (lv' := fun v17 => [(2, .int v17), (0, .ref (G.2.1 52)), (3, .int x7)]) hC dX10_walks_30 rfl (by decide) (fun _ => rfl) (fun v17 => ?_)
        refine g_aload_n (pc := 31) (q := 1) hC dX10_walks_31 rfl rfl ?_
        refine g_get (pc := 32) (v := .int (σ.1 52 43)) hC kX10 rfl 43 (by decide) fl_RX10_249 rfl dX10_walks_32 ?_
        refine g_bipush (pc := 35) (v := (-2)) hC dX10_walks_35 (by decide) ?_
        refine g_icmp_ne (pc := 37) (tgt := 45) hC dX10_walks_37 (by decide) ?_ ?_
        · exact gT_sub [1, 0, 2] rfl (wX10_walks_b45 hC ih σ v17 x7)
        · refine g_aload_n (pc := 40) (q := 1) hC dX10_walks_40 rfl rfl ?_
          refine g_iload_n (pc := 41) (q := 2) hC dX10_walks_41 rfl rfl ?_
          refine g_puti (pc := 42) (fty := .int) hC kX10 rfl 43 (by decide) fl_RX10_249 rfl rfl rfl rfl (fun _ _ => Nat.le_of_ble_eq_true rfl) (fun _ _ => rfl) dX10_walks_42 (fun s18 => ?_)
          exact gT_sub [1, 0, 2] rfl (wX10_walks_b45 hC ih s18 v17 x7)
def mX10_walks (σ : gS) (p0 : Int32) : Option (Unit × gS) := gLet p0 (fun v1 => gLet (gUI σ 52 43 (-2)) (fun s2 => gBind (mX10_now s2 ) (fun r3 s4 => gLet r3 (fun v5 => (mX10_walks_b13  1100 s4 v1 v5)))))
set_option maxHeartbeats 4000000 in
set_option maxRecDepth 100000 in
theorem tX10_walks (l : Launch) (G : gE) (σ : gS) (p0 : Int32) : gM l G yX10_walks cX10_walks 4 (none) rX10_walks iV [.ref (G.2.1 52), .int p0] σ (mX10_walks σ p0) := by
  refine gM_of (by decide) (Nat.le_of_ble_eq_true rfl) ?_
  intro p e s m args below meth c hC
  unfold mX10_walks
  show gT p l e rX10_walks s m args below meth c G 4 iV σ 0 [(0, .ref (G.2.1 52)), (1, .int p0)] [] _
  refine g_iload_n (pc := 0) (q := 1) hC dX10_walks_0 rfl rfl ?_
  refine g_istore_n (pc := 1) (lv' := fun v1 => [(2, .int v1), (0, .ref (G.2.1 52)), (1, .int p0)]) hC dX10_walks_1 rfl (by decide) (fun _ => rfl) (fun v1 => ?_)
  refine g_aload_n (pc := 2) (q := 1) hC dX10_walks_2 rfl rfl ?_
  refine g_bipush (pc := 3) (v := (-2)) hC dX10_walks_3 (by decide) ?_
  refine g_puti (pc := 5) (fty := .int) hC kX10 rfl 43 (by decide) fl_RX10_249 rfl rfl rfl rfl (fun _ _ => Nat.le_of_ble_eq_true rfl) (fun _ _ => rfl) dX10_walks_5 (fun s2 => ?_)
  refine g_aload_n (pc := 8) (q := 1) hC dX10_walks_8 rfl rfl ?_
  refine g_callVi (pc := 9) (As := []) (rest := []) hC lk_RX10_246 kX10 rfl (tX10_now _ _ s2 ) rfl rfl (Nat.le_of_ble_eq_true rfl) ⟨rfl, rfl, Nat.le_of_ble_eq_true rfl, Nat.le_of_ble_eq_true rfl⟩ dX10_walks_9 (fun r3 s4 => ?_)
  refine g_istore_n (pc := 12) (lv' := fun v5 => [(3, .int v5), (2, .int v1), (0, .ref (G.2.1 52)), (1, .int p0)]) hC dX10_walks_12 rfl (by decide) (fun _ => rfl) (fun v5 => ?_)
  exact gT_sub [2, 1, 0] rfl (wX10_walks_b13 hC  1100 s4 v1 v5)
theorem dX10_metOn_0 : decode cX10_metOn 0 = .ok (.iconst 0, 1) := by decide +kernel
theorem dX10_metOn_1 : decode cX10_metOn 1 = .ok (.istore_n 3, 1) := by decide +kernel
theorem dX10_metOn_2 : decode cX10_metOn 2 = .ok (.iconst 0, 1) := by decide +kernel
theorem dX10_metOn_3 : decode cX10_metOn 3 = .ok (.istore 4, 2) := by decide +kernel
theorem dX10_metOn_5 : decode cX10_metOn 5 = .ok (.iload 4, 2) := by decide +kernel
theorem dX10_metOn_7 : decode cX10_metOn 7 = .ok (.aload_n 0, 1) := by decide +kernel
theorem dX10_metOn_8 : decode cX10_metOn 8 = .ok (.getfield 114, 3) := by decide +kernel
theorem dX10_metOn_11 : decode cX10_metOn 11 = .ok (.if_icmp .ge 38, 3) := by decide +kernel
theorem dX10_metOn_14 : decode cX10_metOn 14 = .ok (.aload_n 0, 1) := by decide +kernel
theorem dX10_metOn_15 : decode cX10_metOn 15 = .ok (.getfield 21, 3) := by decide +kernel
theorem dX10_metOn_18 : decode cX10_metOn 18 = .ok (.iload 4, 2) := by decide +kernel
theorem dX10_metOn_20 : decode cX10_metOn 20 = .ok (.iaload, 1) := by decide +kernel
theorem dX10_metOn_21 : decode cX10_metOn 21 = .ok (.iload_n 1, 1) := by decide +kernel
theorem dX10_metOn_22 : decode cX10_metOn 22 = .ok (.if_icmp .ne 21, 3) := by decide +kernel
theorem dX10_metOn_25 : decode cX10_metOn 25 = .ok (.aload_n 0, 1) := by decide +kernel
theorem dX10_metOn_26 : decode cX10_metOn 26 = .ok (.getfield 24, 3) := by decide +kernel
theorem dX10_metOn_29 : decode cX10_metOn 29 = .ok (.iload 4, 2) := by decide +kernel
theorem dX10_metOn_31 : decode cX10_metOn 31 = .ok (.iaload, 1) := by decide +kernel
theorem dX10_metOn_32 : decode cX10_metOn 32 = .ok (.iload_n 2, 1) := by decide +kernel
theorem dX10_metOn_33 : decode cX10_metOn 33 = .ok (.if_icmp .gt 10, 3) := by decide +kernel
theorem dX10_metOn_36 : decode cX10_metOn 36 = .ok (.iload_n 3, 1) := by decide +kernel
theorem dX10_metOn_37 : decode cX10_metOn 37 = .ok (.iconst 1, 1) := by decide +kernel
theorem dX10_metOn_38 : decode cX10_metOn 38 = .ok (.iload 4, 2) := by decide +kernel
theorem dX10_metOn_40 : decode cX10_metOn 40 = .ok (.ishl, 1) := by decide +kernel
theorem dX10_metOn_41 : decode cX10_metOn 41 = .ok (.ior, 1) := by decide +kernel
theorem dX10_metOn_42 : decode cX10_metOn 42 = .ok (.istore_n 3, 1) := by decide +kernel
theorem dX10_metOn_43 : decode cX10_metOn 43 = .ok (.iinc 4 1, 3) := by decide +kernel
theorem dX10_metOn_46 : decode cX10_metOn 46 = .ok (.goto (-41), 3) := by decide +kernel
theorem dX10_metOn_49 : decode cX10_metOn 49 = .ok (.iload_n 3, 1) := by decide +kernel
theorem dX10_metOn_50 : decode cX10_metOn 50 = .ok (.ireturn, 1) := by decide +kernel
abbrev rX10_metOn : Room := { frames := 0, cells := 0, slots := 0, locals := 0 }
def mX10_metOn_b43   (k5 : gS → Int32 → Int32 → Int32 → Int32 → Option (Int32 × gS)) (σ : gS) (x7 : Int32) (x8 : Int32) (x9 : Int32) (x10 : Int32) : Option (Int32 × gS) := gLet (x10 + 1) (fun v11 => (k5 σ x7 x8 x9 v11))
set_option maxHeartbeats 4000000 in
set_option maxRecDepth 100000 in
theorem wX10_metOn_b43 {p : Program} {l : Launch} {e : Env} {s : State} {m : MethodId} {args : Array Value} {below : List Frame} {meth : Method} {c : Code} {G : gE} (hC : gCx p s m args meth c G RX10 cX10_metOn 5 (some .int))    {k5 : gS → Int32 → Int32 → Int32 → Int32 → Option (Int32 × gS)} (hk5 : ∀ (σ : gS) (x3 : Int32) (x4 : Int32) (x5 : Int32) (x6 : Int32), gT p l e rX10_metOn s m args below meth c G 5 iI σ 5 [(0, .ref (G.2.1 52)), (1, .int x3), (2, .int x4), (3, .int x5), (4, .int x6)] [] (k5 σ x3 x4 x5 x6)) (σ : gS) (x7 : Int32) (x8 : Int32) (x9 : Int32) (x10 : Int32)  : gT p l e rX10_metOn s m args below meth c G 5 iI σ 43 [(0, .ref (G.2.1 52)), (1, .int x7), (2, .int x8), (3, .int x9), (4, .int x10)] [] (mX10_metOn_b43 k5 σ x7 x8 x9 x10) := by
  unfold mX10_metOn_b43
  refine g_iinc (pc := 43) (q := 4) (w := 1) (lv' := fun v11 => [(4, .int v11), (0, .ref (G.2.1 52)), (1, .int x7), (2, .int x8), (3, .int x9)]) hC dX10_metOn_43 rfl (by decide) (by decide) (fun _ => rfl) (fun v11 => ?_)
  refine g_goto (pc := 46) (tgt := 5) hC dX10_metOn_46 (by decide) ?_
  exact gT_sub [1, 2, 3, 4, 0] rfl (hk5 σ x7 x8 x9 v11)
def mX10_metOn_b5    : Nat → gS → Int32 → Int32 → Int32 → Int32 → Option (Int32 × gS)
  | 0, _, _, _, _, _ => none
  | n + 1, σ, x3, x4, x5, x6 => if (σ.1 52 3) ≤ x6 then (some (x5, σ)) else (if inbB x6 12 = true then (if (σ.1 56 (Int32.toNatClampNeg x6)) = x3 then (if inbB x6 12 = true then (if x4 < (σ.1 57 (Int32.toNatClampNeg x6)) then ((mX10_metOn_b43 (mX10_metOn_b5  n) σ x3 x4 x5 x6)) else (gLet (x5 ||| (1 <<< (x6 &&& 31))) (fun v12 => (mX10_metOn_b43 (mX10_metOn_b5  n) σ x3 x4 v12 x6)))) else none) else ((mX10_metOn_b43 (mX10_metOn_b5  n) σ x3 x4 x5 x6))) else none)
set_option maxHeartbeats 4000000 in
set_option maxRecDepth 100000 in
theorem wX10_metOn_b5 {p : Program} {l : Launch} {e : Env} {s : State} {m : MethodId} {args : Array Value} {below : List Frame} {meth : Method} {c : Code} {G : gE} (hC : gCx p s m args meth c G RX10 cX10_metOn 5 (some .int))     (n : Nat) (σ : gS) (x3 : Int32) (x4 : Int32) (x5 : Int32) (x6 : Int32)  : gT p l e rX10_metOn s m args below meth c G 5 iI σ 5 [(0, .ref (G.2.1 52)), (1, .int x3), (2, .int x4), (3, .int x5), (4, .int x6)] [] (mX10_metOn_b5  n σ x3 x4 x5 x6) := by
  induction n generalizing σ x3 x4 x5 x6 with
  | zero => exact gT_none
  | succ n ih =>
    unfold mX10_metOn_b5
    refine g_iload (pc := 5) (q := 4) hC dX10_metOn_5 rfl ?_
    refine g_aload_n (pc := 7) (q := 0) hC dX10_metOn_7 rfl rfl ?_
    refine g_get (pc := 8) (v := .int (σ.1 52 3)) hC kX10 rfl 3 (by decide) fl_RX10_114 rfl dX10_metOn_8 ?_
    refine g_icmp_ge (pc := 11) (tgt := 49) hC dX10_metOn_11 (by decide) ?_ ?_
    · refine g_iload_n (pc := 49) (q := 3) hC dX10_metOn_49 rfl rfl ?_
      exact g_iret (pc := 50) hC dX10_metOn_50
    · refine g_aload_n (pc := 14) (q := 0) hC dX10_metOn_14 rfl rfl ?_
      refine g_get (pc := 15) (v := .ref (G.2.1 56)) hC kX10 rfl 5 (by decide) fl_RX10_21 rfl dX10_metOn_15 ?_
      refine g_iload (pc := 18) (q := 4) hC dX10_metOn_18 rfl ?_
      refine g_iald (pc := 20) hC 12 rfl (by decide) dX10_metOn_20 ?_
      refine g_iload_n (pc := 21) (q := 1) hC dX10_metOn_21 rfl rfl ?_
      refine g_icmp_ne (pc := 22) (tgt := 43) hC dX10_metOn_22 (by decide) ?_ ?_
      · exact gT_sub [0, 1, 2, 3, 4] rfl (wX10_metOn_b43 hC ih σ x3 x4 x5 x6)
      · refine g_aload_n (pc := 25) (q := 0) hC dX10_metOn_25 rfl rfl ?_
        refine g_get (pc := 26) (v := .ref (G.2.1 57)) hC kX10 rfl 6 (by decide) fl_RX10_24 rfl dX10_metOn_26 ?_
        refine g_iload (pc := 29) (q := 4) hC dX10_metOn_29 rfl ?_
        refine g_iald (pc := 31) hC 12 rfl (by decide) dX10_metOn_31 ?_
        refine g_iload_n (pc := 32) (q := 2) hC dX10_metOn_32 rfl rfl ?_
        refine g_icmp_gt (pc := 33) (tgt := 43) hC dX10_metOn_33 (by decide) ?_ ?_
        · exact gT_sub [0, 1, 2, 3, 4] rfl (wX10_metOn_b43 hC ih σ x3 x4 x5 x6)
        · refine g_iload_n (pc := 36) (q := 3) hC dX10_metOn_36 rfl rfl ?_
          refine g_iconst (pc := 37) (v := 1) hC dX10_metOn_37 (by decide) ?_
          refine g_iload (pc := 38) (q := 4) hC dX10_metOn_38 rfl ?_
          refine g_ishl (pc := 40) hC dX10_metOn_40 ?_
          refine g_ior (pc := 41) hC dX10_metOn_41 ?_
          refine g_istore_n (pc := 42) (lv' := fun v12 => [(3, .int v12), (0, .ref (G.2.1 52)), (1, .int x3), (2, .int x4), (4, .int x6)]) hC dX10_metOn_42 rfl (by decide) (fun _ => rfl) (fun v12 => ?_)
          exact gT_sub [1, 2, 3, 0, 4] rfl (wX10_metOn_b43 hC ih σ x3 x4 v12 x6)
def mX10_metOn (σ : gS) (p0 : Int32) (p1 : Int32) : Option (Int32 × gS) := gLet 0 (fun v1 => gLet 0 (fun v2 => (mX10_metOn_b5  1100 σ p0 p1 v1 v2)))
set_option maxHeartbeats 4000000 in
set_option maxRecDepth 100000 in
theorem tX10_metOn (l : Launch) (G : gE) (σ : gS) (p0 : Int32) (p1 : Int32) : gM l G yX10_metOn cX10_metOn 5 (some .int) rX10_metOn iI [.ref (G.2.1 52), .int p0, .int p1] σ (mX10_metOn σ p0 p1) := by
  refine gM_of (by decide) (Nat.le_of_ble_eq_true rfl) ?_
  intro p e s m args below meth c hC
  unfold mX10_metOn
  show gT p l e rX10_metOn s m args below meth c G 5 iI σ 0 [(0, .ref (G.2.1 52)), (1, .int p0), (2, .int p1)] [] _
  refine g_iconst (pc := 0) (v := 0) hC dX10_metOn_0 (by decide) ?_
  refine g_istore_n (pc := 1) (lv' := fun v1 => [(3, .int v1), (0, .ref (G.2.1 52)), (1, .int p0), (2, .int p1)]) hC dX10_metOn_1 rfl (by decide) (fun _ => rfl) (fun v1 => ?_)
  refine g_iconst (pc := 2) (v := 0) hC dX10_metOn_2 (by decide) ?_
  refine g_istore (pc := 3) (lv' := fun v2 => [(4, .int v2), (3, .int v1), (0, .ref (G.2.1 52)), (1, .int p0), (2, .int p1)]) hC dX10_metOn_3 (by decide) (fun _ => rfl) (fun v2 => ?_)
  exact gT_sub [2, 3, 4, 1, 0] rfl (wX10_metOn_b5 hC  1100 σ p0 p1 v1 v2)
theorem dX10_gainOf_0 : decode cX10_gainOf 0 = .ok (.iconst 0, 1) := by decide +kernel
theorem dX10_gainOf_1 : decode cX10_gainOf 1 = .ok (.istore_n 2, 1) := by decide +kernel
theorem dX10_gainOf_2 : decode cX10_gainOf 2 = .ok (.iconst 0, 1) := by decide +kernel
theorem dX10_gainOf_3 : decode cX10_gainOf 3 = .ok (.istore_n 3, 1) := by decide +kernel
theorem dX10_gainOf_4 : decode cX10_gainOf 4 = .ok (.iload_n 3, 1) := by decide +kernel
theorem dX10_gainOf_5 : decode cX10_gainOf 5 = .ok (.aload_n 0, 1) := by decide +kernel
theorem dX10_gainOf_6 : decode cX10_gainOf 6 = .ok (.getfield 114, 3) := by decide +kernel
theorem dX10_gainOf_9 : decode cX10_gainOf 9 = .ok (.if_icmp .ge 27, 3) := by decide +kernel
theorem dX10_gainOf_12 : decode cX10_gainOf 12 = .ok (.iload_n 1, 1) := by decide +kernel
theorem dX10_gainOf_13 : decode cX10_gainOf 13 = .ok (.iload_n 3, 1) := by decide +kernel
theorem dX10_gainOf_14 : decode cX10_gainOf 14 = .ok (.ishr, 1) := by decide +kernel
theorem dX10_gainOf_15 : decode cX10_gainOf 15 = .ok (.iconst 1, 1) := by decide +kernel
theorem dX10_gainOf_16 : decode cX10_gainOf 16 = .ok (.iand, 1) := by decide +kernel
theorem dX10_gainOf_17 : decode cX10_gainOf 17 = .ok (.iconst 1, 1) := by decide +kernel
theorem dX10_gainOf_18 : decode cX10_gainOf 18 = .ok (.if_icmp .ne 12, 3) := by decide +kernel
theorem dX10_gainOf_21 : decode cX10_gainOf 21 = .ok (.iload_n 2, 1) := by decide +kernel
theorem dX10_gainOf_22 : decode cX10_gainOf 22 = .ok (.aload_n 0, 1) := by decide +kernel
theorem dX10_gainOf_23 : decode cX10_gainOf 23 = .ok (.getfield 27, 3) := by decide +kernel
theorem dX10_gainOf_26 : decode cX10_gainOf 26 = .ok (.iload_n 3, 1) := by decide +kernel
theorem dX10_gainOf_27 : decode cX10_gainOf 27 = .ok (.iaload, 1) := by decide +kernel
theorem dX10_gainOf_28 : decode cX10_gainOf 28 = .ok (.iadd, 1) := by decide +kernel
theorem dX10_gainOf_29 : decode cX10_gainOf 29 = .ok (.istore_n 2, 1) := by decide +kernel
theorem dX10_gainOf_30 : decode cX10_gainOf 30 = .ok (.iinc 3 1, 3) := by decide +kernel
theorem dX10_gainOf_33 : decode cX10_gainOf 33 = .ok (.goto (-29), 3) := by decide +kernel
theorem dX10_gainOf_36 : decode cX10_gainOf 36 = .ok (.iload_n 2, 1) := by decide +kernel
theorem dX10_gainOf_37 : decode cX10_gainOf 37 = .ok (.ireturn, 1) := by decide +kernel
abbrev rX10_gainOf : Room := { frames := 0, cells := 0, slots := 0, locals := 0 }
def mX10_gainOf_b30   (k4 : gS → Int32 → Int32 → Int32 → Option (Int32 × gS)) (σ : gS) (x6 : Int32) (x7 : Int32) (x8 : Int32) : Option (Int32 × gS) := gLet (x8 + 1) (fun v9 => (k4 σ x6 x7 v9))
set_option maxHeartbeats 4000000 in
set_option maxRecDepth 100000 in
theorem wX10_gainOf_b30 {p : Program} {l : Launch} {e : Env} {s : State} {m : MethodId} {args : Array Value} {below : List Frame} {meth : Method} {c : Code} {G : gE} (hC : gCx p s m args meth c G RX10 cX10_gainOf 4 (some .int))    {k4 : gS → Int32 → Int32 → Int32 → Option (Int32 × gS)} (hk4 : ∀ (σ : gS) (x3 : Int32) (x4 : Int32) (x5 : Int32), gT p l e rX10_gainOf s m args below meth c G 4 iI σ 4 [(0, .ref (G.2.1 52)), (1, .int x3), (2, .int x4), (3, .int x5)] [] (k4 σ x3 x4 x5)) (σ : gS) (x6 : Int32) (x7 : Int32) (x8 : Int32)  : gT p l e rX10_gainOf s m args below meth c G 4 iI σ 30 [(0, .ref (G.2.1 52)), (1, .int x6), (2, .int x7), (3, .int x8)] [] (mX10_gainOf_b30 k4 σ x6 x7 x8) := by
  unfold mX10_gainOf_b30
  refine g_iinc (pc := 30) (q := 3) (w := 1) (lv' := fun v9 => [(3, .int v9), (0, .ref (G.2.1 52)), (1, .int x6), (2, .int x7)]) hC dX10_gainOf_30 rfl (by decide) (by decide) (fun _ => rfl) (fun v9 => ?_)
  refine g_goto (pc := 33) (tgt := 4) hC dX10_gainOf_33 (by decide) ?_
  exact gT_sub [1, 2, 3, 0] rfl (hk4 σ x6 x7 v9)
def mX10_gainOf_b4    : Nat → gS → Int32 → Int32 → Int32 → Option (Int32 × gS)
  | 0, _, _, _, _ => none
  | n + 1, σ, x3, x4, x5 => if (σ.1 52 3) ≤ x5 then (some (x4, σ)) else (if ((x3 >>> (x5 &&& 31)) &&& 1) = 1 then (if inbB x5 12 = true then (gLet (x4 + (σ.1 58 (Int32.toNatClampNeg x5))) (fun v10 => (mX10_gainOf_b30 (mX10_gainOf_b4  n) σ x3 v10 x5))) else none) else ((mX10_gainOf_b30 (mX10_gainOf_b4  n) σ x3 x4 x5)))
set_option maxHeartbeats 4000000 in
set_option maxRecDepth 100000 in
theorem wX10_gainOf_b4 {p : Program} {l : Launch} {e : Env} {s : State} {m : MethodId} {args : Array Value} {below : List Frame} {meth : Method} {c : Code} {G : gE} (hC : gCx p s m args meth c G RX10 cX10_gainOf 4 (some .int))     (n : Nat) (σ : gS) (x3 : Int32) (x4 : Int32) (x5 : Int32)  : gT p l e rX10_gainOf s m args below meth c G 4 iI σ 4 [(0, .ref (G.2.1 52)), (1, .int x3), (2, .int x4), (3, .int x5)] [] (mX10_gainOf_b4  n σ x3 x4 x5) := by
  induction n generalizing σ x3 x4 x5 with
  | zero => exact gT_none
  | succ n ih =>
    unfold mX10_gainOf_b4
    refine g_iload_n (pc := 4) (q := 3) hC dX10_gainOf_4 rfl rfl ?_
    refine g_aload_n (pc := 5) (q := 0) hC dX10_gainOf_5 rfl rfl ?_
    refine g_get (pc := 6) (v := .int (σ.1 52 3)) hC kX10 rfl 3 (by decide) fl_RX10_114 rfl dX10_gainOf_6 ?_
    refine g_icmp_ge (pc := 9) (tgt := 36) hC dX10_gainOf_9 (by decide) ?_ ?_
    · refine g_iload_n (pc := 36) (q := 2) hC dX10_gainOf_36 rfl rfl ?_
      exact g_iret (pc := 37) hC dX10_gainOf_37
    · refine g_iload_n (pc := 12) (q := 1) hC dX10_gainOf_12 rfl rfl ?_
      refine g_iload_n (pc := 13) (q := 3) hC dX10_gainOf_13 rfl rfl ?_
      refine g_ishr (pc := 14) hC dX10_gainOf_14 ?_
      refine g_iconst (pc := 15) (v := 1) hC dX10_gainOf_15 (by decide) ?_
      refine g_iand (pc := 16) hC dX10_gainOf_16 ?_
      refine g_iconst (pc := 17) (v := 1) hC dX10_gainOf_17 (by decide) ?_
      refine g_icmp_ne (pc := 18) (tgt := 30) hC dX10_gainOf_18 (by decide) ?_ ?_
      · exact gT_sub [0, 1, 2, 3] rfl (wX10_gainOf_b30 hC ih σ x3 x4 x5)
      · refine g_iload_n (pc := 21) (q := 2) hC dX10_gainOf_21 rfl rfl ?_
        refine g_aload_n (pc := 22) (q := 0) hC dX10_gainOf_22 rfl rfl ?_
        refine g_get (pc := 23) (v := .ref (G.2.1 58)) hC kX10 rfl 7 (by decide) fl_RX10_27 rfl dX10_gainOf_23 ?_
        refine g_iload_n (pc := 26) (q := 3) hC dX10_gainOf_26 rfl rfl ?_
        refine g_iald (pc := 27) hC 12 rfl (by decide) dX10_gainOf_27 ?_
        refine g_iadd (pc := 28) hC dX10_gainOf_28 ?_
        refine g_istore_n (pc := 29) (lv' := fun v10 => [(2, .int v10), (0, .ref (G.2.1 52)), (1, .int x3), (3, .int x5)]) hC dX10_gainOf_29 rfl (by decide) (fun _ => rfl) (fun v10 => ?_)
        exact gT_sub [1, 2, 0, 3] rfl (wX10_gainOf_b30 hC ih σ x3 v10 x5)
def mX10_gainOf (σ : gS) (p0 : Int32) : Option (Int32 × gS) := gLet 0 (fun v1 => gLet 0 (fun v2 => (mX10_gainOf_b4  1100 σ p0 v1 v2)))
set_option maxHeartbeats 4000000 in
set_option maxRecDepth 100000 in
theorem tX10_gainOf (l : Launch) (G : gE) (σ : gS) (p0 : Int32) : gM l G yX10_gainOf cX10_gainOf 4 (some .int) rX10_gainOf iI [.ref (G.2.1 52), .int p0] σ (mX10_gainOf σ p0) := by
  refine gM_of (by decide) (Nat.le_of_ble_eq_true rfl) ?_
  intro p e s m args below meth c hC
  unfold mX10_gainOf
  show gT p l e rX10_gainOf s m args below meth c G 4 iI σ 0 [(0, .ref (G.2.1 52)), (1, .int p0)] [] _
  refine g_iconst (pc := 0) (v := 0) hC dX10_gainOf_0 (by decide) ?_
  refine g_istore_n (pc := 1) (lv' := fun v1 => [(2, .int v1), (0, .ref (G.2.1 52)), (1, .int p0)]) hC dX10_gainOf_1 rfl (by decide) (fun _ => rfl) (fun v1 => ?_)
  refine g_iconst (pc := 2) (v := 0) hC dX10_gainOf_2 (by decide) ?_
  refine g_istore_n (pc := 3) (lv' := fun v2 => [(3, .int v2), (2, .int v1), (0, .ref (G.2.1 52)), (1, .int p0)]) hC dX10_gainOf_3 rfl (by decide) (fun _ => rfl) (fun v2 => ?_)
  exact gT_sub [2, 3, 1, 0] rfl (wX10_gainOf_b4 hC  1100 σ p0 v1 v2)
theorem dX10_ownOf_0 : decode cX10_ownOf 0 = .ok (.iconst 0, 1) := by decide +kernel
theorem dX10_ownOf_1 : decode cX10_ownOf 1 = .ok (.istore_n 3, 1) := by decide +kernel
theorem dX10_ownOf_2 : decode cX10_ownOf 2 = .ok (.iconst 0, 1) := by decide +kernel
theorem dX10_ownOf_3 : decode cX10_ownOf 3 = .ok (.istore 4, 2) := by decide +kernel
theorem dX10_ownOf_5 : decode cX10_ownOf 5 = .ok (.iload 4, 2) := by decide +kernel
theorem dX10_ownOf_7 : decode cX10_ownOf 7 = .ok (.aload_n 0, 1) := by decide +kernel
theorem dX10_ownOf_8 : decode cX10_ownOf 8 = .ok (.getfield 114, 3) := by decide +kernel
theorem dX10_ownOf_11 : decode cX10_ownOf 11 = .ok (.if_icmp .ge 37, 3) := by decide +kernel
theorem dX10_ownOf_14 : decode cX10_ownOf 14 = .ok (.iload_n 2, 1) := by decide +kernel
theorem dX10_ownOf_15 : decode cX10_ownOf 15 = .ok (.iload 4, 2) := by decide +kernel
theorem dX10_ownOf_17 : decode cX10_ownOf 17 = .ok (.ishr, 1) := by decide +kernel
theorem dX10_ownOf_18 : decode cX10_ownOf 18 = .ok (.iconst 1, 1) := by decide +kernel
theorem dX10_ownOf_19 : decode cX10_ownOf 19 = .ok (.iand, 1) := by decide +kernel
theorem dX10_ownOf_20 : decode cX10_ownOf 20 = .ok (.iconst 1, 1) := by decide +kernel
theorem dX10_ownOf_21 : decode cX10_ownOf 21 = .ok (.if_icmp .ne 21, 3) := by decide +kernel
theorem dX10_ownOf_24 : decode cX10_ownOf 24 = .ok (.aload_n 0, 1) := by decide +kernel
theorem dX10_ownOf_25 : decode cX10_ownOf 25 = .ok (.getfield 18, 3) := by decide +kernel
theorem dX10_ownOf_28 : decode cX10_ownOf 28 = .ok (.iload 4, 2) := by decide +kernel
theorem dX10_ownOf_30 : decode cX10_ownOf 30 = .ok (.iaload, 1) := by decide +kernel
theorem dX10_ownOf_31 : decode cX10_ownOf 31 = .ok (.iload_n 1, 1) := by decide +kernel
theorem dX10_ownOf_32 : decode cX10_ownOf 32 = .ok (.if_icmp .ne 10, 3) := by decide +kernel
theorem dX10_ownOf_35 : decode cX10_ownOf 35 = .ok (.iload_n 3, 1) := by decide +kernel
theorem dX10_ownOf_36 : decode cX10_ownOf 36 = .ok (.iconst 1, 1) := by decide +kernel
theorem dX10_ownOf_37 : decode cX10_ownOf 37 = .ok (.iload 4, 2) := by decide +kernel
theorem dX10_ownOf_39 : decode cX10_ownOf 39 = .ok (.ishl, 1) := by decide +kernel
theorem dX10_ownOf_40 : decode cX10_ownOf 40 = .ok (.ior, 1) := by decide +kernel
theorem dX10_ownOf_41 : decode cX10_ownOf 41 = .ok (.istore_n 3, 1) := by decide +kernel
theorem dX10_ownOf_42 : decode cX10_ownOf 42 = .ok (.iinc 4 1, 3) := by decide +kernel
theorem dX10_ownOf_45 : decode cX10_ownOf 45 = .ok (.goto (-40), 3) := by decide +kernel
theorem dX10_ownOf_48 : decode cX10_ownOf 48 = .ok (.iload_n 3, 1) := by decide +kernel
theorem dX10_ownOf_49 : decode cX10_ownOf 49 = .ok (.ireturn, 1) := by decide +kernel
abbrev rX10_ownOf : Room := { frames := 0, cells := 0, slots := 0, locals := 0 }
def mX10_ownOf_b42   (k5 : gS → Int32 → Int32 → Int32 → Int32 → Option (Int32 × gS)) (σ : gS) (x7 : Int32) (x8 : Int32) (x9 : Int32) (x10 : Int32) : Option (Int32 × gS) := gLet (x10 + 1) (fun v11 => (k5 σ x7 x8 x9 v11))
set_option maxHeartbeats 4000000 in
set_option maxRecDepth 100000 in
theorem wX10_ownOf_b42 {p : Program} {l : Launch} {e : Env} {s : State} {m : MethodId} {args : Array Value} {below : List Frame} {meth : Method} {c : Code} {G : gE} (hC : gCx p s m args meth c G RX10 cX10_ownOf 5 (some .int))    {k5 : gS → Int32 → Int32 → Int32 → Int32 → Option (Int32 × gS)} (hk5 : ∀ (σ : gS) (x3 : Int32) (x4 : Int32) (x5 : Int32) (x6 : Int32), gT p l e rX10_ownOf s m args below meth c G 5 iI σ 5 [(0, .ref (G.2.1 52)), (1, .int x3), (2, .int x4), (3, .int x5), (4, .int x6)] [] (k5 σ x3 x4 x5 x6)) (σ : gS) (x7 : Int32) (x8 : Int32) (x9 : Int32) (x10 : Int32)  : gT p l e rX10_ownOf s m args below meth c G 5 iI σ 42 [(0, .ref (G.2.1 52)), (1, .int x7), (2, .int x8), (3, .int x9), (4, .int x10)] [] (mX10_ownOf_b42 k5 σ x7 x8 x9 x10) := by
  unfold mX10_ownOf_b42
  refine g_iinc (pc := 42) (q := 4) (w := 1) (lv' := fun v11 => [(4, .int v11), (0, .ref (G.2.1 52)), (1, .int x7), (2, .int x8), (3, .int x9)]) hC dX10_ownOf_42 rfl (by decide) (by decide) (fun _ => rfl) (fun v11 => ?_)
  refine g_goto (pc := 45) (tgt := 5) hC dX10_ownOf_45 (by decide) ?_
  exact gT_sub [1, 2, 3, 4, 0] rfl (hk5 σ x7 x8 x9 v11)
def mX10_ownOf_b5    : Nat → gS → Int32 → Int32 → Int32 → Int32 → Option (Int32 × gS)
  | 0, _, _, _, _, _ => none
  | n + 1, σ, x3, x4, x5, x6 => if (σ.1 52 3) ≤ x6 then (some (x5, σ)) else (if ((x4 >>> (x6 &&& 31)) &&& 1) = 1 then (if inbB x6 12 = true then (if (σ.1 55 (Int32.toNatClampNeg x6)) = x3 then (gLet (x5 ||| (1 <<< (x6 &&& 31))) (fun v12 => (mX10_ownOf_b42 (mX10_ownOf_b5  n) σ x3 x4 v12 x6))) else ((mX10_ownOf_b42 (mX10_ownOf_b5  n) σ x3 x4 x5 x6))) else none) else ((mX10_ownOf_b42 (mX10_ownOf_b5  n) σ x3 x4 x5 x6)))
set_option maxHeartbeats 4000000 in
set_option maxRecDepth 100000 in
theorem wX10_ownOf_b5 {p : Program} {l : Launch} {e : Env} {s : State} {m : MethodId} {args : Array Value} {below : List Frame} {meth : Method} {c : Code} {G : gE} (hC : gCx p s m args meth c G RX10 cX10_ownOf 5 (some .int))     (n : Nat) (σ : gS) (x3 : Int32) (x4 : Int32) (x5 : Int32) (x6 : Int32)  : gT p l e rX10_ownOf s m args below meth c G 5 iI σ 5 [(0, .ref (G.2.1 52)), (1, .int x3), (2, .int x4), (3, .int x5), (4, .int x6)] [] (mX10_ownOf_b5  n σ x3 x4 x5 x6) := by
  induction n generalizing σ x3 x4 x5 x6 with
  | zero => exact gT_none
  | succ n ih =>
    unfold mX10_ownOf_b5
    refine g_iload (pc := 5) (q := 4) hC dX10_ownOf_5 rfl ?_
    refine g_aload_n (pc := 7) (q := 0) hC dX10_ownOf_7 rfl rfl ?_
    refine g_get (pc := 8) (v := .int (σ.1 52 3)) hC kX10 rfl 3 (by decide) fl_RX10_114 rfl dX10_ownOf_8 ?_
    refine g_icmp_ge (pc := 11) (tgt := 48) hC dX10_ownOf_11 (by decide) ?_ ?_
    · refine g_iload_n (pc := 48) (q := 3) hC dX10_ownOf_48 rfl rfl ?_
      exact g_iret (pc := 49) hC dX10_ownOf_49
    · refine g_iload_n (pc := 14) (q := 2) hC dX10_ownOf_14 rfl rfl ?_
      refine g_iload (pc := 15) (q := 4) hC dX10_ownOf_15 rfl ?_
      refine g_ishr (pc := 17) hC dX10_ownOf_17 ?_
      refine g_iconst (pc := 18) (v := 1) hC dX10_ownOf_18 (by decide) ?_
      refine g_iand (pc := 19) hC dX10_ownOf_19 ?_
      refine g_iconst (pc := 20) (v := 1) hC dX10_ownOf_20 (by decide) ?_
      refine g_icmp_ne (pc := 21) (tgt := 42) hC dX10_ownOf_21 (by decide) ?_ ?_
      · exact gT_sub [0, 1, 2, 3, 4] rfl (wX10_ownOf_b42 hC ih σ x3 x4 x5 x6)
      · refine g_aload_n (pc := 24) (q := 0) hC dX10_ownOf_24 rfl rfl ?_
        refine g_get (pc := 25) (v := .ref (G.2.1 55)) hC kX10 rfl 4 (by decide) fl_RX10_18 rfl dX10_ownOf_25 ?_
        refine g_iload (pc := 28) (q := 4) hC dX10_ownOf_28 rfl ?_
        refine g_iald (pc := 30) hC 12 rfl (by decide) dX10_ownOf_30 ?_
        refine g_iload_n (pc := 31) (q := 1) hC dX10_ownOf_31 rfl rfl ?_
        refine g_icmp_ne (pc := 32) (tgt := 42) hC dX10_ownOf_32 (by decide) ?_ ?_
        · exact gT_sub [0, 1, 2, 3, 4] rfl (wX10_ownOf_b42 hC ih σ x3 x4 x5 x6)
        · refine g_iload_n (pc := 35) (q := 3) hC dX10_ownOf_35 rfl rfl ?_
          refine g_iconst (pc := 36) (v := 1) hC dX10_ownOf_36 (by decide) ?_
          refine g_iload (pc := 37) (q := 4) hC dX10_ownOf_37 rfl ?_
          refine g_ishl (pc := 39) hC dX10_ownOf_39 ?_
          refine g_ior (pc := 40) hC dX10_ownOf_40 ?_
          refine g_istore_n (pc := 41) (lv' := fun v12 => [(3, .int v12), (0, .ref (G.2.1 52)), (1, .int x3), (2, .int x4), (4, .int x6)]) hC dX10_ownOf_41 rfl (by decide) (fun _ => rfl) (fun v12 => ?_)
          exact gT_sub [1, 2, 3, 0, 4] rfl (wX10_ownOf_b42 hC ih σ x3 x4 v12 x6)
def mX10_ownOf (σ : gS) (p0 : Int32) (p1 : Int32) : Option (Int32 × gS) := gLet 0 (fun v1 => gLet 0 (fun v2 => (mX10_ownOf_b5  1100 σ p0 p1 v1 v2)))
set_option maxHeartbeats 4000000 in
set_option maxRecDepth 100000 in
theorem tX10_ownOf (l : Launch) (G : gE) (σ : gS) (p0 : Int32) (p1 : Int32) : gM l G yX10_ownOf cX10_ownOf 5 (some .int) rX10_ownOf iI [.ref (G.2.1 52), .int p0, .int p1] σ (mX10_ownOf σ p0 p1) := by
  refine gM_of (by decide) (Nat.le_of_ble_eq_true rfl) ?_
  intro p e s m args below meth c hC
  unfold mX10_ownOf
  show gT p l e rX10_ownOf s m args below meth c G 5 iI σ 0 [(0, .ref (G.2.1 52)), (1, .int p0), (2, .int p1)] [] _
  refine g_iconst (pc := 0) (v := 0) hC dX10_ownOf_0 (by decide) ?_
  refine g_istore_n (pc := 1) (lv' := fun v1 => [(3, .int v1), (0, .ref (G.2.1 52)), (1, .int p0), (2, .int p1)]) hC dX10_ownOf_1 rfl (by decide) (fun _ => rfl) (fun v1 => ?_)
  refine g_iconst (pc := 2) (v := 0) hC dX10_ownOf_2 (by decide) ?_
  refine g_istore (pc := 3) (lv' := fun v2 => [(4, .int v2), (3, .int v1), (0, .ref (G.2.1 52)), (1, .int p0), (2, .int p1)]) hC dX10_ownOf_3 (by decide) (fun _ => rfl) (fun v2 => ?_)
  exact gT_sub [2, 3, 4, 1, 0] rfl (wX10_ownOf_b5 hC  1100 σ p0 p1 v1 v2)
theorem lk_RX10_258 : gLV RX10 258 RX10 yX10_ownOf cX10_ownOf 5 (some .int) 2 := ⟨(gBig_tab 1379 (by decide +kernel) (by decide +kernel)), (gBig_tab 1381 (by decide +kernel) (by decide +kernel)), (gBig_sel 73 (by decide +kernel) (by decide +kernel)), (gBig_tab 11 (by decide +kernel) (by decide +kernel)), (gBig_tab 1382 (by decide +kernel) (by decide +kernel)), rfl, by decide +kernel, by decide +kernel, by decide +kernel⟩
theorem lk_RX10_255 : gLV RX10 255 RX10 yX10_metOn cX10_metOn 5 (some .int) 2 := ⟨(gBig_tab 1371 (by decide +kernel) (by decide +kernel)), (gBig_tab 1373 (by decide +kernel) (by decide +kernel)), (gBig_sel 71 (by decide +kernel) (by decide +kernel)), (gBig_tab 11 (by decide +kernel) (by decide +kernel)), (gBig_tab 1374 (by decide +kernel) (by decide +kernel)), rfl, by decide +kernel, by decide +kernel, by decide +kernel⟩
theorem dX10_harmOn_0 : decode cX10_harmOn 0 = .ok (.aload_n 0, 1) := by decide +kernel
theorem dX10_harmOn_1 : decode cX10_harmOn 1 = .ok (.iload_n 1, 1) := by decide +kernel
theorem dX10_harmOn_2 : decode cX10_harmOn 2 = .ok (.aload_n 0, 1) := by decide +kernel
theorem dX10_harmOn_3 : decode cX10_harmOn 3 = .ok (.iload_n 2, 1) := by decide +kernel
theorem dX10_harmOn_4 : decode cX10_harmOn 4 = .ok (.iload_n 3, 1) := by decide +kernel
theorem dX10_harmOn_5 : decode cX10_harmOn 5 = .ok (.invokevirtual 255, 3) := by decide +kernel
theorem dX10_harmOn_8 : decode cX10_harmOn 8 = .ok (.invokevirtual 258, 3) := by decide +kernel
theorem dX10_harmOn_11 : decode cX10_harmOn 11 = .ok (.ifCond .ne 14, 3) := by decide +kernel
theorem dX10_harmOn_14 : decode cX10_harmOn 14 = .ok (.aload_n 0, 1) := by decide +kernel
theorem dX10_harmOn_15 : decode cX10_harmOn 15 = .ok (.getfield 9, 3) := by decide +kernel
theorem dX10_harmOn_18 : decode cX10_harmOn 18 = .ok (.iload_n 1, 1) := by decide +kernel
theorem dX10_harmOn_19 : decode cX10_harmOn 19 = .ok (.iaload, 1) := by decide +kernel
theorem dX10_harmOn_20 : decode cX10_harmOn 20 = .ok (.iload_n 3, 1) := by decide +kernel
theorem dX10_harmOn_21 : decode cX10_harmOn 21 = .ok (.imul, 1) := by decide +kernel
theorem dX10_harmOn_22 : decode cX10_harmOn 22 = .ok (.goto 4, 3) := by decide +kernel
theorem dX10_harmOn_25 : decode cX10_harmOn 25 = .ok (.iconst 0, 1) := by decide +kernel
theorem dX10_harmOn_26 : decode cX10_harmOn 26 = .ok (.ireturn, 1) := by decide +kernel
abbrev rX10_harmOn : Room := { frames := 1, cells := 0, slots := 0, locals := 24 }
def mX10_harmOn (σ : gS) (p0 : Int32) (p1 : Int32) (p2 : Int32) : Option (Int32 × gS) := gBind (mX10_metOn σ p1 p2) (fun r1 s2 => gBind (mX10_ownOf s2 p0 r1) (fun r3 s4 => if r3 = 0 then (if inbB p0 6 = true then (some (((s4.1 53 (Int32.toNatClampNeg p0)) * p2), s4)) else none) else (some (0, s4))))
set_option maxHeartbeats 4000000 in
set_option maxRecDepth 100000 in
theorem tX10_harmOn (l : Launch) (G : gE) (σ : gS) (p0 : Int32) (p1 : Int32) (p2 : Int32) : gM l G yX10_harmOn cX10_harmOn 4 (some .int) rX10_harmOn iI [.ref (G.2.1 52), .int p0, .int p1, .int p2] σ (mX10_harmOn σ p0 p1 p2) := by
  refine gM_of (by decide) (Nat.le_of_ble_eq_true rfl) ?_
  intro p e s m args below meth c hC
  unfold mX10_harmOn
  show gT p l e rX10_harmOn s m args below meth c G 4 iI σ 0 [(0, .ref (G.2.1 52)), (1, .int p0), (2, .int p1), (3, .int p2)] [] _
  refine g_aload_n (pc := 0) (q := 0) hC dX10_harmOn_0 rfl rfl ?_
  refine g_iload_n (pc := 1) (q := 1) hC dX10_harmOn_1 rfl rfl ?_
  refine g_aload_n (pc := 2) (q := 0) hC dX10_harmOn_2 rfl rfl ?_
  refine g_iload_n (pc := 3) (q := 2) hC dX10_harmOn_3 rfl rfl ?_
  refine g_iload_n (pc := 4) (q := 3) hC dX10_harmOn_4 rfl rfl ?_
  refine g_callVi (pc := 5) (As := [.int p1, .int p2]) (rest := [.int p0, .ref (G.2.1 52)]) hC lk_RX10_255 kX10 rfl (tX10_metOn _ _ σ p1 p2) rfl rfl (Nat.le_of_ble_eq_true rfl) ⟨rfl, rfl, Nat.le_of_ble_eq_true rfl, Nat.le_of_ble_eq_true rfl⟩ dX10_harmOn_5 (fun r1 s2 => ?_)
  refine g_callVi (pc := 8) (As := [.int p0, .int r1]) (rest := []) hC lk_RX10_258 kX10 rfl (tX10_ownOf _ _ s2 p0 r1) rfl rfl (Nat.le_of_ble_eq_true rfl) ⟨rfl, rfl, Nat.le_of_ble_eq_true rfl, Nat.le_of_ble_eq_true rfl⟩ dX10_harmOn_8 (fun r3 s4 => ?_)
  refine g_if_ne (pc := 11) (tgt := 25) hC dX10_harmOn_11 (by decide) ?_ ?_
  · refine g_iconst (pc := 25) (v := 0) hC dX10_harmOn_25 (by decide) ?_
    exact g_iret (pc := 26) hC dX10_harmOn_26
  · refine g_aload_n (pc := 14) (q := 0) hC dX10_harmOn_14 rfl rfl ?_
    refine g_get (pc := 15) (v := .ref (G.2.1 53)) hC kX10 rfl 1 (by decide) fl_RX10_9 rfl dX10_harmOn_15 ?_
    refine g_iload_n (pc := 18) (q := 1) hC dX10_harmOn_18 rfl rfl ?_
    refine g_iald (pc := 19) hC 6 rfl (by decide) dX10_harmOn_19 ?_
    refine g_iload_n (pc := 20) (q := 3) hC dX10_harmOn_20 rfl rfl ?_
    refine g_imul (pc := 21) hC dX10_harmOn_21 ?_
    refine g_goto (pc := 22) (tgt := 26) hC dX10_harmOn_22 (by decide) ?_
    exact g_iret (pc := 26) hC dX10_harmOn_26
theorem lk_RX10_261 : gLV RX10 261 RX10 yX10_harmOn cX10_harmOn 4 (some .int) 3 := ⟨(gBig_tab 1375 (by decide +kernel) (by decide +kernel)), (gBig_tab 1377 (by decide +kernel) (by decide +kernel)), (gBig_sel 72 (by decide +kernel) (by decide +kernel)), (gBig_tab 11 (by decide +kernel) (by decide +kernel)), (gBig_tab 1378 (by decide +kernel) (by decide +kernel)), rfl, by decide +kernel, by decide +kernel, by decide +kernel⟩
theorem dX10_allHarm_0 : decode cX10_allHarm 0 = .ok (.iconst 0, 1) := by decide +kernel
theorem dX10_allHarm_1 : decode cX10_allHarm 1 = .ok (.istore_n 3, 1) := by decide +kernel
theorem dX10_allHarm_2 : decode cX10_allHarm 2 = .ok (.iconst 0, 1) := by decide +kernel
theorem dX10_allHarm_3 : decode cX10_allHarm 3 = .ok (.istore 4, 2) := by decide +kernel
theorem dX10_allHarm_5 : decode cX10_allHarm 5 = .ok (.iload 4, 2) := by decide +kernel
theorem dX10_allHarm_7 : decode cX10_allHarm 7 = .ok (.aload_n 0, 1) := by decide +kernel
theorem dX10_allHarm_8 : decode cX10_allHarm 8 = .ok (.getfield 106, 3) := by decide +kernel
theorem dX10_allHarm_11 : decode cX10_allHarm 11 = .ok (.if_icmp .ge 20, 3) := by decide +kernel
theorem dX10_allHarm_14 : decode cX10_allHarm 14 = .ok (.iload_n 3, 1) := by decide +kernel
theorem dX10_allHarm_15 : decode cX10_allHarm 15 = .ok (.aload_n 0, 1) := by decide +kernel
theorem dX10_allHarm_16 : decode cX10_allHarm 16 = .ok (.iload 4, 2) := by decide +kernel
theorem dX10_allHarm_18 : decode cX10_allHarm 18 = .ok (.iload_n 1, 1) := by decide +kernel
theorem dX10_allHarm_19 : decode cX10_allHarm 19 = .ok (.iload_n 2, 1) := by decide +kernel
theorem dX10_allHarm_20 : decode cX10_allHarm 20 = .ok (.invokevirtual 261, 3) := by decide +kernel
theorem dX10_allHarm_23 : decode cX10_allHarm 23 = .ok (.iadd, 1) := by decide +kernel
theorem dX10_allHarm_24 : decode cX10_allHarm 24 = .ok (.istore_n 3, 1) := by decide +kernel
theorem dX10_allHarm_25 : decode cX10_allHarm 25 = .ok (.iinc 4 1, 3) := by decide +kernel
theorem dX10_allHarm_28 : decode cX10_allHarm 28 = .ok (.goto (-23), 3) := by decide +kernel
theorem dX10_allHarm_31 : decode cX10_allHarm 31 = .ok (.iload_n 3, 1) := by decide +kernel
theorem dX10_allHarm_32 : decode cX10_allHarm 32 = .ok (.ireturn, 1) := by decide +kernel
abbrev rX10_allHarm : Room := { frames := 2, cells := 0, slots := 0, locals := 47 }
def mX10_allHarm_b5    : Nat → gS → Int32 → Int32 → Int32 → Int32 → Option (Int32 × gS)
  | 0, _, _, _, _, _ => none
  | n + 1, σ, x3, x4, x5, x6 => if (σ.1 52 0) ≤ x6 then (some (x5, σ)) else (gBind (mX10_harmOn σ x6 x3 x4) (fun r7 s8 => gLet (x5 + r7) (fun v9 => gLet (x6 + 1) (fun v10 => ((mX10_allHarm_b5  n) s8 x3 x4 v9 v10)))))
set_option maxHeartbeats 4000000 in
set_option maxRecDepth 100000 in
theorem wX10_allHarm_b5 {p : Program} {l : Launch} {e : Env} {s : State} {m : MethodId} {args : Array Value} {below : List Frame} {meth : Method} {c : Code} {G : gE} (hC : gCx p s m args meth c G RX10 cX10_allHarm 5 (some .int))     (n : Nat) (σ : gS) (x3 : Int32) (x4 : Int32) (x5 : Int32) (x6 : Int32)  : gT p l e rX10_allHarm s m args below meth c G 5 iI σ 5 [(0, .ref (G.2.1 52)), (1, .int x3), (2, .int x4), (3, .int x5), (4, .int x6)] [] (mX10_allHarm_b5  n σ x3 x4 x5 x6) := by
  induction n generalizing σ x3 x4 x5 x6 with
  | zero => exact gT_none
  | succ n ih =>
    unfold mX10_allHarm_b5
    refine g_iload (pc := 5) (q := 4) hC dX10_allHarm_5 rfl ?_
    refine g_aload_n (pc := 7) (q := 0) hC dX10_allHarm_7 rfl rfl ?_
    refine g_get (pc := 8) (v := .int (σ.1 52 0)) hC kX10 rfl 0 (by decide) fl_RX10_106 rfl dX10_allHarm_8 ?_
    refine g_icmp_ge (pc := 11) (tgt := 31) hC dX10_allHarm_11 (by decide) ?_ ?_
    · refine g_iload_n (pc := 31) (q := 3) hC dX10_allHarm_31 rfl rfl ?_
      exact g_iret (pc := 32) hC dX10_allHarm_32
    · refine g_iload_n (pc := 14) (q := 3) hC dX10_allHarm_14 rfl rfl ?_
      refine g_aload_n (pc := 15) (q := 0) hC dX10_allHarm_15 rfl rfl ?_
      refine g_iload (pc := 16) (q := 4) hC dX10_allHarm_16 rfl ?_
      refine g_iload_n (pc := 18) (q := 1) hC dX10_allHarm_18 rfl rfl ?_
      refine g_iload_n (pc := 19) (q := 2) hC dX10_allHarm_19 rfl rfl ?_
      refine g_callVi (pc := 20) (As := [.int x6, .int x3, .int x4]) (rest := [.int x5]) hC lk_RX10_261 kX10 rfl (tX10_harmOn _ _ σ x6 x3 x4) rfl rfl (Nat.le_of_ble_eq_true rfl) ⟨rfl, rfl, Nat.le_of_ble_eq_true rfl, Nat.le_of_ble_eq_true rfl⟩ dX10_allHarm_20 (fun r7 s8 => ?_)
      refine g_iadd (pc := 23) hC dX10_allHarm_23 ?_
      refine g_istore_n (pc := 24) (lv' := fun v9 => [(3, .int v9), (0, .ref (G.2.1 52)), (1, .int x3), (2, .int x4), (4, .int x6)]) hC dX10_allHarm_24 rfl (by decide) (fun _ => rfl) (fun v9 => ?_)
      refine g_iinc (pc := 25) (q := 4) (w := 1) (lv' := fun v10 => [(4, .int v10), (3, .int v9), (0, .ref (G.2.1 52)), (1, .int x3), (2, .int x4)]) hC dX10_allHarm_25 rfl (by decide) (by decide) (fun _ => rfl) (fun v10 => ?_)
      refine g_goto (pc := 28) (tgt := 5) hC dX10_allHarm_28 (by decide) ?_
      exact gT_sub [2, 3, 4, 1, 0] rfl (ih s8 x3 x4 v9 v10)
def mX10_allHarm (σ : gS) (p0 : Int32) (p1 : Int32) : Option (Int32 × gS) := gLet 0 (fun v1 => gLet 0 (fun v2 => (mX10_allHarm_b5  1100 σ p0 p1 v1 v2)))
set_option maxHeartbeats 4000000 in
set_option maxRecDepth 100000 in
theorem tX10_allHarm (l : Launch) (G : gE) (σ : gS) (p0 : Int32) (p1 : Int32) : gM l G yX10_allHarm cX10_allHarm 5 (some .int) rX10_allHarm iI [.ref (G.2.1 52), .int p0, .int p1] σ (mX10_allHarm σ p0 p1) := by
  refine gM_of (by decide) (Nat.le_of_ble_eq_true rfl) ?_
  intro p e s m args below meth c hC
  unfold mX10_allHarm
  show gT p l e rX10_allHarm s m args below meth c G 5 iI σ 0 [(0, .ref (G.2.1 52)), (1, .int p0), (2, .int p1)] [] _
  refine g_iconst (pc := 0) (v := 0) hC dX10_allHarm_0 (by decide) ?_
  refine g_istore_n (pc := 1) (lv' := fun v1 => [(3, .int v1), (0, .ref (G.2.1 52)), (1, .int p0), (2, .int p1)]) hC dX10_allHarm_1 rfl (by decide) (fun _ => rfl) (fun v1 => ?_)
  refine g_iconst (pc := 2) (v := 0) hC dX10_allHarm_2 (by decide) ?_
  refine g_istore (pc := 3) (lv' := fun v2 => [(4, .int v2), (3, .int v1), (0, .ref (G.2.1 52)), (1, .int p0), (2, .int p1)]) hC dX10_allHarm_3 (by decide) (fun _ => rfl) (fun v2 => ?_)
  exact gT_sub [2, 3, 4, 1, 0] rfl (wX10_allHarm_b5 hC  1100 σ p0 p1 v1 v2)
theorem lk_RX10_264 : gLV RX10 264 RX10 yX10_gainOf cX10_gainOf 4 (some .int) 1 := ⟨(gBig_tab 1387 (by decide +kernel) (by decide +kernel)), (gBig_tab 1389 (by decide +kernel) (by decide +kernel)), (gBig_sel 75 (by decide +kernel) (by decide +kernel)), (gBig_tab 11 (by decide +kernel) (by decide +kernel)), (gBig_tab 1390 (by decide +kernel) (by decide +kernel)), rfl, by decide +kernel, by decide +kernel, by decide +kernel⟩
theorem dX10_has_0 : decode cX10_has 0 = .ok (.aload_n 0, 1) := by decide +kernel
theorem dX10_has_1 : decode cX10_has 1 = .ok (.aload_n 0, 1) := by decide +kernel
theorem dX10_has_2 : decode cX10_has 2 = .ok (.iload_n 1, 1) := by decide +kernel
theorem dX10_has_3 : decode cX10_has 3 = .ok (.aload_n 0, 1) := by decide +kernel
theorem dX10_has_4 : decode cX10_has 4 = .ok (.iload_n 2, 1) := by decide +kernel
theorem dX10_has_5 : decode cX10_has 5 = .ok (.iload_n 3, 1) := by decide +kernel
theorem dX10_has_6 : decode cX10_has 6 = .ok (.invokevirtual 255, 3) := by decide +kernel
theorem dX10_has_9 : decode cX10_has 9 = .ok (.invokevirtual 258, 3) := by decide +kernel
theorem dX10_has_12 : decode cX10_has 12 = .ok (.invokevirtual 264, 3) := by decide +kernel
theorem dX10_has_15 : decode cX10_has 15 = .ok (.aload_n 0, 1) := by decide +kernel
theorem dX10_has_16 : decode cX10_has 16 = .ok (.iload_n 1, 1) := by decide +kernel
theorem dX10_has_17 : decode cX10_has 17 = .ok (.iload_n 2, 1) := by decide +kernel
theorem dX10_has_18 : decode cX10_has 18 = .ok (.iload_n 3, 1) := by decide +kernel
theorem dX10_has_19 : decode cX10_has 19 = .ok (.invokevirtual 261, 3) := by decide +kernel
theorem dX10_has_22 : decode cX10_has 22 = .ok (.isub, 1) := by decide +kernel
theorem dX10_has_23 : decode cX10_has 23 = .ok (.ireturn, 1) := by decide +kernel
abbrev rX10_has : Room := { frames := 2, cells := 0, slots := 0, locals := 47 }
def mX10_has (σ : gS) (p0 : Int32) (p1 : Int32) (p2 : Int32) : Option (Int32 × gS) := gBind (mX10_metOn σ p1 p2) (fun r1 s2 => gBind (mX10_ownOf s2 p0 r1) (fun r3 s4 => gBind (mX10_gainOf s4 r3) (fun r5 s6 => gBind (mX10_harmOn s6 p0 p1 p2) (fun r7 s8 => some ((r5 - r7), s8)))))
set_option maxHeartbeats 4000000 in
set_option maxRecDepth 100000 in
theorem tX10_has (l : Launch) (G : gE) (σ : gS) (p0 : Int32) (p1 : Int32) (p2 : Int32) : gM l G yX10_has cX10_has 4 (some .int) rX10_has iI [.ref (G.2.1 52), .int p0, .int p1, .int p2] σ (mX10_has σ p0 p1 p2) := by
  refine gM_of (by decide) (Nat.le_of_ble_eq_true rfl) ?_
  intro p e s m args below meth c hC
  unfold mX10_has
  show gT p l e rX10_has s m args below meth c G 4 iI σ 0 [(0, .ref (G.2.1 52)), (1, .int p0), (2, .int p1), (3, .int p2)] [] _
  refine g_aload_n (pc := 0) (q := 0) hC dX10_has_0 rfl rfl ?_
  refine g_aload_n (pc := 1) (q := 0) hC dX10_has_1 rfl rfl ?_
  refine g_iload_n (pc := 2) (q := 1) hC dX10_has_2 rfl rfl ?_
  refine g_aload_n (pc := 3) (q := 0) hC dX10_has_3 rfl rfl ?_
  refine g_iload_n (pc := 4) (q := 2) hC dX10_has_4 rfl rfl ?_
  refine g_iload_n (pc := 5) (q := 3) hC dX10_has_5 rfl rfl ?_
  refine g_callVi (pc := 6) (As := [.int p1, .int p2]) (rest := [.int p0, .ref (G.2.1 52), .ref (G.2.1 52)]) hC lk_RX10_255 kX10 rfl (tX10_metOn _ _ σ p1 p2) rfl rfl (Nat.le_of_ble_eq_true rfl) ⟨rfl, rfl, Nat.le_of_ble_eq_true rfl, Nat.le_of_ble_eq_true rfl⟩ dX10_has_6 (fun r1 s2 => ?_)
  refine g_callVi (pc := 9) (As := [.int p0, .int r1]) (rest := [.ref (G.2.1 52)]) hC lk_RX10_258 kX10 rfl (tX10_ownOf _ _ s2 p0 r1) rfl rfl (Nat.le_of_ble_eq_true rfl) ⟨rfl, rfl, Nat.le_of_ble_eq_true rfl, Nat.le_of_ble_eq_true rfl⟩ dX10_has_9 (fun r3 s4 => ?_)
  refine g_callVi (pc := 12) (As := [.int r3]) (rest := []) hC lk_RX10_264 kX10 rfl (tX10_gainOf _ _ s4 r3) rfl rfl (Nat.le_of_ble_eq_true rfl) ⟨rfl, rfl, Nat.le_of_ble_eq_true rfl, Nat.le_of_ble_eq_true rfl⟩ dX10_has_12 (fun r5 s6 => ?_)
  refine g_aload_n (pc := 15) (q := 0) hC dX10_has_15 rfl rfl ?_
  refine g_iload_n (pc := 16) (q := 1) hC dX10_has_16 rfl rfl ?_
  refine g_iload_n (pc := 17) (q := 2) hC dX10_has_17 rfl rfl ?_
  refine g_iload_n (pc := 18) (q := 3) hC dX10_has_18 rfl rfl ?_
  refine g_callVi (pc := 19) (As := [.int p0, .int p1, .int p2]) (rest := [.int r5]) hC lk_RX10_261 kX10 rfl (tX10_harmOn _ _ s6 p0 p1 p2) rfl rfl (Nat.le_of_ble_eq_true rfl) ⟨rfl, rfl, Nat.le_of_ble_eq_true rfl, Nat.le_of_ble_eq_true rfl⟩ dX10_has_19 (fun r7 s8 => ?_)
  refine g_isub (pc := 22) hC dX10_has_22 ?_
  exact g_iret (pc := 23) hC dX10_has_23
theorem lk_RX10_274 : gLV RX10 274 RX10 yX10_walks cX10_walks 4 (none) 1 := ⟨(gBig_tab 1348 (by decide +kernel) (by decide +kernel)), (gBig_tab 1350 (by decide +kernel) (by decide +kernel)), (gBig_sel 67 (by decide +kernel) (by decide +kernel)), (gBig_tab 11 (by decide +kernel) (by decide +kernel)), (gBig_tab 1351 (by decide +kernel) (by decide +kernel)), rfl, by decide +kernel, by decide +kernel, by decide +kernel⟩
theorem lk_RX10_270 : gLV RX10 270 RX10 yX10_reads cX10_reads 3 (none) 1 := ⟨(gBig_tab 1338 (by decide +kernel) (by decide +kernel)), (gBig_tab 1340 (by decide +kernel) (by decide +kernel)), (gBig_sel 65 (by decide +kernel) (by decide +kernel)), (gBig_tab 11 (by decide +kernel) (by decide +kernel)), (gBig_tab 1341 (by decide +kernel) (by decide +kernel)), rfl, by decide +kernel, by decide +kernel, by decide +kernel⟩
theorem lk_RX10_267 : gLV RX10 267 RX10 yX10_noRow cX10_noRow 3 (some .int) 2 := ⟨(gBig_tab 1334 (by decide +kernel) (by decide +kernel)), (gBig_tab 1336 (by decide +kernel) (by decide +kernel)), (gBig_sel 64 (by decide +kernel) (by decide +kernel)), (gBig_tab 11 (by decide +kernel) (by decide +kernel)), (gBig_tab 1337 (by decide +kernel) (by decide +kernel)), rfl, by decide +kernel, by decide +kernel, by decide +kernel⟩
theorem dX10_cold_0 : decode cX10_cold 0 = .ok (.iload_n 1, 1) := by decide +kernel
theorem dX10_cold_1 : decode cX10_cold 1 = .ok (.invokestatic 132, 3) := by decide +kernel
theorem dX10_cold_4 : decode cX10_cold 4 = .ok (.ifCond .eq 16, 3) := by decide +kernel
theorem dX10_cold_7 : decode cX10_cold 7 = .ok (.iload_n 2, 1) := by decide +kernel
theorem dX10_cold_8 : decode cX10_cold 8 = .ok (.aload_n 0, 1) := by decide +kernel
theorem dX10_cold_9 : decode cX10_cold 9 = .ok (.invokevirtual 246, 3) := by decide +kernel
theorem dX10_cold_12 : decode cX10_cold 12 = .ok (.bipush 30, 2) := by decide +kernel
theorem dX10_cold_14 : decode cX10_cold 14 = .ok (.invokestatic 110, 3) := by decide +kernel
theorem dX10_cold_17 : decode cX10_cold 17 = .ok (.ifCond .ne 5, 3) := by decide +kernel
theorem dX10_cold_20 : decode cX10_cold 20 = .ok (.iconst (-1), 1) := by decide +kernel
theorem dX10_cold_21 : decode cX10_cold 21 = .ok (.ireturn, 1) := by decide +kernel
theorem dX10_cold_22 : decode cX10_cold 22 = .ok (.aload_n 0, 1) := by decide +kernel
theorem dX10_cold_23 : decode cX10_cold 23 = .ok (.iload_n 1, 1) := by decide +kernel
theorem dX10_cold_24 : decode cX10_cold 24 = .ok (.iconst 0, 1) := by decide +kernel
theorem dX10_cold_25 : decode cX10_cold 25 = .ok (.invokevirtual 267, 3) := by decide +kernel
theorem dX10_cold_28 : decode cX10_cold 28 = .ok (.istore_n 3, 1) := by decide +kernel
theorem dX10_cold_29 : decode cX10_cold 29 = .ok (.iload_n 3, 1) := by decide +kernel
theorem dX10_cold_30 : decode cX10_cold 30 = .ok (.ifCond .ge 5, 3) := by decide +kernel
theorem dX10_cold_33 : decode cX10_cold 33 = .ok (.iload_n 3, 1) := by decide +kernel
theorem dX10_cold_34 : decode cX10_cold 34 = .ok (.ireturn, 1) := by decide +kernel
theorem dX10_cold_35 : decode cX10_cold 35 = .ok (.aload_n 0, 1) := by decide +kernel
theorem dX10_cold_36 : decode cX10_cold 36 = .ok (.iload_n 1, 1) := by decide +kernel
theorem dX10_cold_37 : decode cX10_cold 37 = .ok (.invokevirtual 270, 3) := by decide +kernel
theorem dX10_cold_40 : decode cX10_cold 40 = .ok (.aload_n 0, 1) := by decide +kernel
theorem dX10_cold_41 : decode cX10_cold 41 = .ok (.aload_n 0, 1) := by decide +kernel
theorem dX10_cold_42 : decode cX10_cold 42 = .ok (.getfield 30, 3) := by decide +kernel
theorem dX10_cold_45 : decode cX10_cold 45 = .ok (.iconst 0, 1) := by decide +kernel
theorem dX10_cold_46 : decode cX10_cold 46 = .ok (.iaload, 1) := by decide +kernel
theorem dX10_cold_47 : decode cX10_cold 47 = .ok (.invokevirtual 274, 3) := by decide +kernel
theorem dX10_cold_50 : decode cX10_cold 50 = .ok (.aload_n 0, 1) := by decide +kernel
theorem dX10_cold_51 : decode cX10_cold 51 = .ok (.getfield 94, 3) := by decide +kernel
theorem dX10_cold_54 : decode cX10_cold 54 = .ok (.iload_n 2, 1) := by decide +kernel
theorem dX10_cold_55 : decode cX10_cold 55 = .ok (.iaload, 1) := by decide +kernel
theorem dX10_cold_56 : decode cX10_cold 56 = .ok (.ireturn, 1) := by decide +kernel
abbrev rX10_cold : Room := { frames := 5, cells := 0, slots := 0, locals := 117 }
def mX10_cold (σ : gS) (p0 : Int32) (p1 : Int32) : Option (Int32 × gS) := gBind (mX10_isShelf σ p0) (fun r1 s2 => if r1 = true then (gBind (mX10_now s2 ) (fun r3 s4 => gBind (mX10_within s4 p1 r3 30) (fun r5 s6 => if r5 = true then (gBind (mX10_noRow s6 p0 0) (fun r7 s8 => gLet r7 (fun v9 => if 0 ≤ v9 then (gBind (mX10_reads s8 p0) (fun r10 s11 => if inbB 0 5 = true then (gBind (mX10_walks s11 (s11.1 59 (Int32.toNatClampNeg 0))) (fun r12 s13 => if inbB p1 31 = true then (some ((s13.1 80 (Int32.toNatClampNeg p1)), s13)) else none)) else none)) else (some (v9, s8))))) else (some ((-1), s6))))) else (some ((-1), s2)))
set_option maxHeartbeats 4000000 in
set_option maxRecDepth 100000 in
theorem tX10_cold (l : Launch) (G : gE) (σ : gS) (p0 : Int32) (p1 : Int32) : gM l G yX10_cold cX10_cold 4 (some .int) rX10_cold iI [.ref (G.2.1 52), .int p0, .int p1] σ (mX10_cold σ p0 p1) := by
  refine gM_of (by decide) (Nat.le_of_ble_eq_true rfl) ?_
  intro p e s m args below meth c hC
  unfold mX10_cold
  show gT p l e rX10_cold s m args below meth c G 4 iI σ 0 [(0, .ref (G.2.1 52)), (1, .int p0), (2, .int p1)] [] _
  refine g_iload_n (pc := 0) (q := 1) hC dX10_cold_0 rfl rfl ?_
  refine g_callSz (pc := 1) (As := [.int p0]) (rest := []) hC lk_RX10_132 (tX10_isShelf _ _ σ p0) rfl rfl (Nat.le_of_ble_eq_true rfl) ⟨rfl, rfl, Nat.le_of_ble_eq_true rfl, Nat.le_of_ble_eq_true rfl⟩ dX10_cold_1 (fun r1 s2 => ?_)
  refine g_bif_eq (pc := 4) (tgt := 20) hC dX10_cold_4 (by decide) ?_ ?_
  · refine g_iconst (pc := 20) (v := (-1)) hC dX10_cold_20 (by decide) ?_
    exact g_iret (pc := 21) hC dX10_cold_21
  · refine g_iload_n (pc := 7) (q := 2) hC dX10_cold_7 rfl rfl ?_
    refine g_aload_n (pc := 8) (q := 0) hC dX10_cold_8 rfl rfl ?_
    refine g_callVi (pc := 9) (As := []) (rest := [.int p1]) hC lk_RX10_246 kX10 rfl (tX10_now _ _ s2 ) rfl rfl (Nat.le_of_ble_eq_true rfl) ⟨rfl, rfl, Nat.le_of_ble_eq_true rfl, Nat.le_of_ble_eq_true rfl⟩ dX10_cold_9 (fun r3 s4 => ?_)
    refine g_bipush (pc := 12) (v := 30) hC dX10_cold_12 (by decide) ?_
    refine g_callSz (pc := 14) (As := [.int p1, .int r3, .int 30]) (rest := []) hC lk_RX10_110 (tX10_within _ _ s4 p1 r3 30) rfl rfl (Nat.le_of_ble_eq_true rfl) ⟨rfl, rfl, Nat.le_of_ble_eq_true rfl, Nat.le_of_ble_eq_true rfl⟩ dX10_cold_14 (fun r5 s6 => ?_)
    refine g_bif_ne (pc := 17) (tgt := 22) hC dX10_cold_17 (by decide) ?_ ?_
    · refine g_aload_n (pc := 22) (q := 0) hC dX10_cold_22 rfl rfl ?_
      refine g_iload_n (pc := 23) (q := 1) hC dX10_cold_23 rfl rfl ?_
      refine g_iconst (pc := 24) (v := 0) hC dX10_cold_24 (by decide) ?_
      refine g_callVi (pc := 25) (As := [.int p0, .int 0]) (rest := []) hC lk_RX10_267 kX10 rfl (tX10_noRow _ _ s6 p0 0) rfl rfl (Nat.le_of_ble_eq_true rfl) ⟨rfl, rfl, Nat.le_of_ble_eq_true rfl, Nat.le_of_ble_eq_true rfl⟩ dX10_cold_25 (fun r7 s8 => ?_)
      refine g_istore_n (pc := 28) (lv' := fun v9 => [(3, .int v9), (0, .ref (G.2.1 52)), (1, .int p0), (2, .int p1)]) hC dX10_cold_28 rfl (by decide) (fun _ => rfl) (fun v9 => ?_)
      refine g_iload_n (pc := 29) (q := 0) hC dX10_cold_29 rfl rfl ?_
      refine g_if_ge (pc := 30) (tgt := 35) hC dX10_cold_30 (by decide) ?_ ?_
      · refine g_aload_n (pc := 35) (q := 1) hC dX10_cold_35 rfl rfl ?_
        refine g_iload_n (pc := 36) (q := 2) hC dX10_cold_36 rfl rfl ?_
        refine g_callVv (pc := 37) (As := [.int p0]) (rest := []) hC lk_RX10_270 kX10 rfl (tX10_reads _ _ s8 p0) rfl rfl (Nat.le_of_ble_eq_true rfl) ⟨rfl, rfl, Nat.le_of_ble_eq_true rfl, Nat.le_of_ble_eq_true rfl⟩ dX10_cold_37 (fun r10 s11 => ?_)
        refine g_aload_n (pc := 40) (q := 1) hC dX10_cold_40 rfl rfl ?_
        refine g_aload_n (pc := 41) (q := 1) hC dX10_cold_41 rfl rfl ?_
        refine g_get (pc := 42) (v := .ref (G.2.1 59)) hC kX10 rfl 8 (by decide) fl_RX10_30 rfl dX10_cold_42 ?_
        refine g_iconst (pc := 45) (v := 0) hC dX10_cold_45 (by decide) ?_
        refine g_iald (pc := 46) hC 5 rfl (by decide) dX10_cold_46 ?_
        refine g_callVv (pc := 47) (As := [.int (s11.1 59 (Int32.toNatClampNeg 0))]) (rest := []) hC lk_RX10_274 kX10 rfl (tX10_walks _ _ s11 (s11.1 59 (Int32.toNatClampNeg 0))) rfl rfl (Nat.le_of_ble_eq_true rfl) ⟨rfl, rfl, Nat.le_of_ble_eq_true rfl, Nat.le_of_ble_eq_true rfl⟩ dX10_cold_47 (fun r12 s13 => ?_)
        refine g_aload_n (pc := 50) (q := 1) hC dX10_cold_50 rfl rfl ?_
        refine g_get (pc := 51) (v := .ref (G.2.1 80)) hC kX10 rfl 41 (by decide) fl_RX10_94 rfl dX10_cold_51 ?_
        refine g_iload_n (pc := 54) (q := 3) hC dX10_cold_54 rfl rfl ?_
        refine g_iald (pc := 55) hC 31 rfl (by decide) dX10_cold_55 ?_
        exact g_iret (pc := 56) hC dX10_cold_56
      · refine g_iload_n (pc := 33) (q := 0) hC dX10_cold_33 rfl rfl ?_
        exact g_iret (pc := 34) hC dX10_cold_34
    · refine g_iconst (pc := 20) (v := (-1)) hC dX10_cold_20 (by decide) ?_
      exact g_iret (pc := 21) hC dX10_cold_21
theorem lk_RX10_277 : gLV RX10 277 RX10 yX10_allHarm cX10_allHarm 5 (some .int) 2 := ⟨(gBig_tab 1383 (by decide +kernel) (by decide +kernel)), (gBig_tab 1385 (by decide +kernel) (by decide +kernel)), (gBig_sel 74 (by decide +kernel) (by decide +kernel)), (gBig_tab 11 (by decide +kernel) (by decide +kernel)), (gBig_tab 1386 (by decide +kernel) (by decide +kernel)), rfl, by decide +kernel, by decide +kernel, by decide +kernel⟩
theorem dX10_plan_0 : decode cX10_plan 0 = .ok (.iload_n 1, 1) := by decide +kernel
theorem dX10_plan_1 : decode cX10_plan 1 = .ok (.invokestatic 132, 3) := by decide +kernel
theorem dX10_plan_4 : decode cX10_plan 4 = .ok (.ifCond .eq 36, 3) := by decide +kernel
theorem dX10_plan_7 : decode cX10_plan 7 = .ok (.iload_n 2, 1) := by decide +kernel
theorem dX10_plan_8 : decode cX10_plan 8 = .ok (.aload_n 0, 1) := by decide +kernel
theorem dX10_plan_9 : decode cX10_plan 9 = .ok (.invokevirtual 246, 3) := by decide +kernel
theorem dX10_plan_12 : decode cX10_plan 12 = .ok (.bipush 29, 2) := by decide +kernel
theorem dX10_plan_14 : decode cX10_plan 14 = .ok (.invokestatic 110, 3) := by decide +kernel
theorem dX10_plan_17 : decode cX10_plan 17 = .ok (.ifCond .eq 23, 3) := by decide +kernel
theorem dX10_plan_20 : decode cX10_plan 20 = .ok (.iload_n 3, 1) := by decide +kernel
theorem dX10_plan_21 : decode cX10_plan 21 = .ok (.iconst 0, 1) := by decide +kernel
theorem dX10_plan_22 : decode cX10_plan 22 = .ok (.iconst 3, 1) := by decide +kernel
theorem dX10_plan_23 : decode cX10_plan 23 = .ok (.invokestatic 110, 3) := by decide +kernel
theorem dX10_plan_26 : decode cX10_plan 26 = .ok (.ifCond .ne 16, 3) := by decide +kernel
theorem dX10_plan_29 : decode cX10_plan 29 = .ok (.aload_n 0, 1) := by decide +kernel
theorem dX10_plan_30 : decode cX10_plan 30 = .ok (.iload_n 3, 1) := by decide +kernel
theorem dX10_plan_31 : decode cX10_plan 31 = .ok (.bipush 10, 2) := by decide +kernel
theorem dX10_plan_33 : decode cX10_plan 33 = .ok (.isub, 1) := by decide +kernel
theorem dX10_plan_34 : decode cX10_plan 34 = .ok (.invokevirtual 117, 3) := by decide +kernel
theorem dX10_plan_37 : decode cX10_plan 37 = .ok (.ifCond .ne 5, 3) := by decide +kernel
theorem dX10_plan_40 : decode cX10_plan 40 = .ok (.iconst (-1), 1) := by decide +kernel
theorem dX10_plan_41 : decode cX10_plan 41 = .ok (.ireturn, 1) := by decide +kernel
theorem dX10_plan_42 : decode cX10_plan 42 = .ok (.aload_n 0, 1) := by decide +kernel
theorem dX10_plan_43 : decode cX10_plan 43 = .ok (.iload_n 1, 1) := by decide +kernel
theorem dX10_plan_44 : decode cX10_plan 44 = .ok (.iconst 0, 1) := by decide +kernel
theorem dX10_plan_45 : decode cX10_plan 45 = .ok (.invokevirtual 267, 3) := by decide +kernel
theorem dX10_plan_48 : decode cX10_plan 48 = .ok (.istore 4, 2) := by decide +kernel
theorem dX10_plan_50 : decode cX10_plan 50 = .ok (.iload 4, 2) := by decide +kernel
theorem dX10_plan_52 : decode cX10_plan 52 = .ok (.ifCond .ge 6, 3) := by decide +kernel
theorem dX10_plan_55 : decode cX10_plan 55 = .ok (.iload 4, 2) := by decide +kernel
theorem dX10_plan_57 : decode cX10_plan 57 = .ok (.ireturn, 1) := by decide +kernel
theorem dX10_plan_58 : decode cX10_plan 58 = .ok (.aload_n 0, 1) := by decide +kernel
theorem dX10_plan_59 : decode cX10_plan 59 = .ok (.iload_n 1, 1) := by decide +kernel
theorem dX10_plan_60 : decode cX10_plan 60 = .ok (.invokevirtual 270, 3) := by decide +kernel
theorem dX10_plan_63 : decode cX10_plan 63 = .ok (.aload_n 0, 1) := by decide +kernel
theorem dX10_plan_64 : decode cX10_plan 64 = .ok (.aload_n 0, 1) := by decide +kernel
theorem dX10_plan_65 : decode cX10_plan 65 = .ok (.getfield 30, 3) := by decide +kernel
theorem dX10_plan_68 : decode cX10_plan 68 = .ok (.iconst 0, 1) := by decide +kernel
theorem dX10_plan_69 : decode cX10_plan 69 = .ok (.iaload, 1) := by decide +kernel
theorem dX10_plan_70 : decode cX10_plan 70 = .ok (.invokevirtual 274, 3) := by decide +kernel
theorem dX10_plan_73 : decode cX10_plan 73 = .ok (.iload_n 3, 1) := by decide +kernel
theorem dX10_plan_74 : decode cX10_plan 74 = .ok (.ifCond .ne 10, 3) := by decide +kernel
theorem dX10_plan_77 : decode cX10_plan 77 = .ok (.aload_n 0, 1) := by decide +kernel
theorem dX10_plan_78 : decode cX10_plan 78 = .ok (.getfield 97, 3) := by decide +kernel
theorem dX10_plan_81 : decode cX10_plan 81 = .ok (.iload_n 2, 1) := by decide +kernel
theorem dX10_plan_82 : decode cX10_plan 82 = .ok (.iaload, 1) := by decide +kernel
theorem dX10_plan_83 : decode cX10_plan 83 = .ok (.ireturn, 1) := by decide +kernel
theorem dX10_plan_84 : decode cX10_plan 84 = .ok (.iconst 0, 1) := by decide +kernel
theorem dX10_plan_85 : decode cX10_plan 85 = .ok (.istore 5, 2) := by decide +kernel
theorem dX10_plan_87 : decode cX10_plan 87 = .ok (.iconst 0, 1) := by decide +kernel
theorem dX10_plan_88 : decode cX10_plan 88 = .ok (.istore 6, 2) := by decide +kernel
theorem dX10_plan_90 : decode cX10_plan 90 = .ok (.aload_n 0, 1) := by decide +kernel
theorem dX10_plan_91 : decode cX10_plan 91 = .ok (.invokevirtual 246, 3) := by decide +kernel
theorem dX10_plan_94 : decode cX10_plan 94 = .ok (.istore 7, 2) := by decide +kernel
theorem dX10_plan_96 : decode cX10_plan 96 = .ok (.iload 7, 2) := by decide +kernel
theorem dX10_plan_98 : decode cX10_plan 98 = .ok (.iload_n 2, 1) := by decide +kernel
theorem dX10_plan_99 : decode cX10_plan 99 = .ok (.if_icmp .gt 71, 3) := by decide +kernel
theorem dX10_plan_102 : decode cX10_plan 102 = .ok (.iload 5, 2) := by decide +kernel
theorem dX10_plan_104 : decode cX10_plan 104 = .ok (.aload_n 0, 1) := by decide +kernel
theorem dX10_plan_105 : decode cX10_plan 105 = .ok (.iload 7, 2) := by decide +kernel
theorem dX10_plan_107 : decode cX10_plan 107 = .ok (.aload_n 0, 1) := by decide +kernel
theorem dX10_plan_108 : decode cX10_plan 108 = .ok (.getfield 97, 3) := by decide +kernel
theorem dX10_plan_111 : decode cX10_plan 111 = .ok (.iload 7, 2) := by decide +kernel
theorem dX10_plan_113 : decode cX10_plan 113 = .ok (.iaload, 1) := by decide +kernel
theorem dX10_plan_114 : decode cX10_plan 114 = .ok (.invokevirtual 255, 3) := by decide +kernel
theorem dX10_plan_117 : decode cX10_plan 117 = .ok (.ior, 1) := by decide +kernel
theorem dX10_plan_118 : decode cX10_plan 118 = .ok (.istore 5, 2) := by decide +kernel
theorem dX10_plan_120 : decode cX10_plan 120 = .ok (.iload 6, 2) := by decide +kernel
theorem dX10_plan_122 : decode cX10_plan 122 = .ok (.iload_n 3, 1) := by decide +kernel
theorem dX10_plan_123 : decode cX10_plan 123 = .ok (.bipush 10, 2) := by decide +kernel
theorem dX10_plan_125 : decode cX10_plan 125 = .ok (.if_icmp .lt 23, 3) := by decide +kernel
theorem dX10_plan_128 : decode cX10_plan 128 = .ok (.aload_n 0, 1) := by decide +kernel
theorem dX10_plan_129 : decode cX10_plan 129 = .ok (.iload_n 3, 1) := by decide +kernel
theorem dX10_plan_130 : decode cX10_plan 130 = .ok (.bipush 10, 2) := by decide +kernel
theorem dX10_plan_132 : decode cX10_plan 132 = .ok (.isub, 1) := by decide +kernel
theorem dX10_plan_133 : decode cX10_plan 133 = .ok (.iload 7, 2) := by decide +kernel
theorem dX10_plan_135 : decode cX10_plan 135 = .ok (.aload_n 0, 1) := by decide +kernel
theorem dX10_plan_136 : decode cX10_plan 136 = .ok (.getfield 97, 3) := by decide +kernel
theorem dX10_plan_139 : decode cX10_plan 139 = .ok (.iload 7, 2) := by decide +kernel
theorem dX10_plan_141 : decode cX10_plan 141 = .ok (.iaload, 1) := by decide +kernel
theorem dX10_plan_142 : decode cX10_plan 142 = .ok (.invokevirtual 261, 3) := by decide +kernel
theorem dX10_plan_145 : decode cX10_plan 145 = .ok (.goto 16, 3) := by decide +kernel
theorem dX10_plan_148 : decode cX10_plan 148 = .ok (.aload_n 0, 1) := by decide +kernel
theorem dX10_plan_149 : decode cX10_plan 149 = .ok (.iload 7, 2) := by decide +kernel
theorem dX10_plan_151 : decode cX10_plan 151 = .ok (.aload_n 0, 1) := by decide +kernel
theorem dX10_plan_152 : decode cX10_plan 152 = .ok (.getfield 97, 3) := by decide +kernel
theorem dX10_plan_155 : decode cX10_plan 155 = .ok (.iload 7, 2) := by decide +kernel
theorem dX10_plan_157 : decode cX10_plan 157 = .ok (.iaload, 1) := by decide +kernel
theorem dX10_plan_158 : decode cX10_plan 158 = .ok (.invokevirtual 277, 3) := by decide +kernel
theorem dX10_plan_161 : decode cX10_plan 161 = .ok (.iadd, 1) := by decide +kernel
theorem dX10_plan_162 : decode cX10_plan 162 = .ok (.istore 6, 2) := by decide +kernel
theorem dX10_plan_164 : decode cX10_plan 164 = .ok (.iinc 7 1, 3) := by decide +kernel
theorem dX10_plan_167 : decode cX10_plan 167 = .ok (.goto (-71), 3) := by decide +kernel
theorem dX10_plan_170 : decode cX10_plan 170 = .ok (.iload_n 3, 1) := by decide +kernel
theorem dX10_plan_171 : decode cX10_plan 171 = .ok (.iconst 1, 1) := by decide +kernel
theorem dX10_plan_172 : decode cX10_plan 172 = .ok (.if_icmp .ne 8, 3) := by decide +kernel
theorem dX10_plan_175 : decode cX10_plan 175 = .ok (.iload 5, 2) := by decide +kernel
theorem dX10_plan_177 : decode cX10_plan 177 = .ok (.goto 19, 3) := by decide +kernel
theorem dX10_plan_180 : decode cX10_plan 180 = .ok (.iload_n 3, 1) := by decide +kernel
theorem dX10_plan_181 : decode cX10_plan 181 = .ok (.iconst 2, 1) := by decide +kernel
theorem dX10_plan_182 : decode cX10_plan 182 = .ok (.if_icmp .ne 12, 3) := by decide +kernel
theorem dX10_plan_185 : decode cX10_plan 185 = .ok (.aload_n 0, 1) := by decide +kernel
theorem dX10_plan_186 : decode cX10_plan 186 = .ok (.iload 5, 2) := by decide +kernel
theorem dX10_plan_188 : decode cX10_plan 188 = .ok (.invokevirtual 264, 3) := by decide +kernel
theorem dX10_plan_191 : decode cX10_plan 191 = .ok (.goto 5, 3) := by decide +kernel
theorem dX10_plan_194 : decode cX10_plan 194 = .ok (.iload 6, 2) := by decide +kernel
theorem dX10_plan_196 : decode cX10_plan 196 = .ok (.ireturn, 1) := by decide +kernel
abbrev rX10_plan : Room := { frames := 5, cells := 0, slots := 0, locals := 117 }
def mX10_plan_b161   (k96 : gS → Int32 → Int32 → Int32 → Int32 → Int32 → Option (Int32 × gS)) (σ : gS) (x36 : Int32) (x37 : Int32) (x38 : Int32) (x39 : Int32) (x40 : Int32) (x41 : Int32) : Option (Int32 × gS) := gLet (x41 + x40) (fun v42 => gLet (x39 + 1) (fun v43 => (k96 σ x36 x37 x38 v42 v43)))
set_option maxHeartbeats 4000000 in
set_option maxRecDepth 100000 in
theorem wX10_plan_b161 {p : Program} {l : Launch} {e : Env} {s : State} {m : MethodId} {args : Array Value} {below : List Frame} {meth : Method} {c : Code} {G : gE} (hC : gCx p s m args meth c G RX10 cX10_plan 8 (some .int))    {k96 : gS → Int32 → Int32 → Int32 → Int32 → Int32 → Option (Int32 × gS)} (hk96 : ∀ (σ : gS) (x24 : Int32) (x25 : Int32) (x26 : Int32) (x27 : Int32) (x28 : Int32), gT p l e rX10_plan s m args below meth c G 8 iI σ 96 [(0, .ref (G.2.1 52)), (2, .int x24), (3, .int x25), (5, .int x26), (6, .int x27), (7, .int x28)] [] (k96 σ x24 x25 x26 x27 x28)) (σ : gS) (x36 : Int32) (x37 : Int32) (x38 : Int32) (x39 : Int32) (x40 : Int32) (x41 : Int32)  : gT p l e rX10_plan s m args below meth c G 8 iI σ 161 [(0, .ref (G.2.1 52)), (2, .int x36), (3, .int x37), (5, .int x38), (7, .int x39)] [.int x40, .int x41] (mX10_plan_b161 k96 σ x36 x37 x38 x39 x40 x41) := by
  unfold mX10_plan_b161
  refine g_iadd (pc := 161) hC dX10_plan_161 ?_
  refine g_istore (pc := 162) (lv' := fun v42 => [(6, .int v42), (0, .ref (G.2.1 52)), (2, .int x36), (3, .int x37), (5, .int x38), (7, .int x39)]) hC dX10_plan_162 (by decide) (fun _ => rfl) (fun v42 => ?_)
  refine g_iinc (pc := 164) (q := 5) (w := 1) (lv' := fun v43 => [(7, .int v43), (6, .int v42), (0, .ref (G.2.1 52)), (2, .int x36), (3, .int x37), (5, .int x38)]) hC dX10_plan_164 rfl (by decide) (by decide) (fun _ => rfl) (fun v43 => ?_)
  refine g_goto (pc := 167) (tgt := 96) hC dX10_plan_167 (by decide) ?_
  exact gT_sub [2, 3, 4, 5, 1, 0] rfl (hk96 σ x36 x37 x38 v42 v43)
def mX10_plan_b96    : Nat → gS → Int32 → Int32 → Int32 → Int32 → Int32 → Option (Int32 × gS)
  | 0, _, _, _, _, _, _ => none
  | n + 1, σ, x24, x25, x26, x27, x28 => if x24 < x28 then (if x25 = 1 then (some (x26, σ)) else (if x25 = 2 then (gBind (mX10_gainOf σ x26) (fun r29 s30 => some (r29, s30))) else (some (x27, σ)))) else (if inbB x28 30 = true then (gBind (mX10_metOn σ x28 (σ.1 81 (Int32.toNatClampNeg x28))) (fun r31 s32 => gLet (x26 ||| r31) (fun v33 => if x25 < 10 then (if inbB x28 30 = true then (gBind (mX10_allHarm s32 x28 (s32.1 81 (Int32.toNatClampNeg x28))) (fun r34 s35 => (mX10_plan_b161 (mX10_plan_b96  n) s35 x24 x25 v33 x28 r34 x27))) else none) else (if inbB x28 30 = true then (gBind (mX10_harmOn s32 (x25 - 10) x28 (s32.1 81 (Int32.toNatClampNeg x28))) (fun r44 s45 => (mX10_plan_b161 (mX10_plan_b96  n) s45 x24 x25 v33 x28 r44 x27))) else none)))) else none)
set_option maxHeartbeats 4000000 in
set_option maxRecDepth 100000 in
theorem wX10_plan_b96 {p : Program} {l : Launch} {e : Env} {s : State} {m : MethodId} {args : Array Value} {below : List Frame} {meth : Method} {c : Code} {G : gE} (hC : gCx p s m args meth c G RX10 cX10_plan 8 (some .int))     (n : Nat) (σ : gS) (x24 : Int32) (x25 : Int32) (x26 : Int32) (x27 : Int32) (x28 : Int32)  : gT p l e rX10_plan s m args below meth c G 8 iI σ 96 [(0, .ref (G.2.1 52)), (2, .int x24), (3, .int x25), (5, .int x26), (6, .int x27), (7, .int x28)] [] (mX10_plan_b96  n σ x24 x25 x26 x27 x28) := by
  induction n generalizing σ x24 x25 x26 x27 x28 with
  | zero => exact gT_none
  | succ n ih =>
    unfold mX10_plan_b96
    refine g_iload (pc := 96) (q := 5) hC dX10_plan_96 rfl ?_
    refine g_iload_n (pc := 98) (q := 1) hC dX10_plan_98 rfl rfl ?_
    refine g_icmp_gt (pc := 99) (tgt := 170) hC dX10_plan_99 (by decide) ?_ ?_
    · refine g_iload_n (pc := 170) (q := 2) hC dX10_plan_170 rfl rfl ?_
      refine g_iconst (pc := 171) (v := 1) hC dX10_plan_171 (by decide) ?_
      refine g_icmp_ne (pc := 172) (tgt := 180) hC dX10_plan_172 (by decide) ?_ ?_
      · refine g_iload_n (pc := 180) (q := 2) hC dX10_plan_180 rfl rfl ?_
        refine g_iconst (pc := 181) (v := 2) hC dX10_plan_181 (by decide) ?_
        refine g_icmp_ne (pc := 182) (tgt := 194) hC dX10_plan_182 (by decide) ?_ ?_
        · refine g_iload (pc := 194) (q := 4) hC dX10_plan_194 rfl ?_
          exact g_iret (pc := 196) hC dX10_plan_196
        · refine g_aload_n (pc := 185) (q := 0) hC dX10_plan_185 rfl rfl ?_
          refine g_iload (pc := 186) (q := 3) hC dX10_plan_186 rfl ?_
          refine g_callVi (pc := 188) (As := [.int x26]) (rest := []) hC lk_RX10_264 kX10 rfl (tX10_gainOf _ _ σ x26) rfl rfl (Nat.le_of_ble_eq_true rfl) ⟨rfl, rfl, Nat.le_of_ble_eq_true rfl, Nat.le_of_ble_eq_true rfl⟩ dX10_plan_188 (fun r29 s30 => ?_)
          refine g_goto (pc := 191) (tgt := 196) hC dX10_plan_191 (by decide) ?_
          exact g_iret (pc := 196) hC dX10_plan_196
      · refine g_iload (pc := 175) (q := 3) hC dX10_plan_175 rfl ?_
        refine g_goto (pc := 177) (tgt := 196) hC dX10_plan_177 (by decide) ?_
        exact g_iret (pc := 196) hC dX10_plan_196
    · refine g_iload (pc := 102) (q := 3) hC dX10_plan_102 rfl ?_
      refine g_aload_n (pc := 104) (q := 0) hC dX10_plan_104 rfl rfl ?_
      refine g_iload (pc := 105) (q := 5) hC dX10_plan_105 rfl ?_
      refine g_aload_n (pc := 107) (q := 0) hC dX10_plan_107 rfl rfl ?_
      refine g_get (pc := 108) (v := .ref (G.2.1 81)) hC kX10 rfl 42 (by decide) fl_RX10_97 rfl dX10_plan_108 ?_
      refine g_iload (pc := 111) (q := 5) hC dX10_plan_111 rfl ?_
      refine g_iald (pc := 113) hC 30 rfl (by decide) dX10_plan_113 ?_
      refine g_callVi (pc := 114) (As := [.int x28, .int (σ.1 81 (Int32.toNatClampNeg x28))]) (rest := [.int x26]) hC lk_RX10_255 kX10 rfl (tX10_metOn _ _ σ x28 (σ.1 81 (Int32.toNatClampNeg x28))) rfl rfl (Nat.le_of_ble_eq_true rfl) ⟨rfl, rfl, Nat.le_of_ble_eq_true rfl, Nat.le_of_ble_eq_true rfl⟩ dX10_plan_114 (fun r31 s32 => ?_)
      refine g_ior (pc := 117) hC dX10_plan_117 ?_
      refine g_istore (pc := 118) (lv' := fun v33 => [(5, .int v33), (0, .ref (G.2.1 52)), (2, .int x24), (3, .int x25), (6, .int x27), (7, .int x28)]) hC dX10_plan_118 (by decide) (fun _ => rfl) (fun v33 => ?_)
      refine g_iload (pc := 120) (q := 4) hC dX10_plan_120 rfl ?_
      refine g_iload_n (pc := 122) (q := 3) hC dX10_plan_122 rfl rfl ?_
      refine g_bipush (pc := 123) (v := 10) hC dX10_plan_123 (by decide) ?_
      refine g_icmp_lt (pc := 125) (tgt := 148) hC dX10_plan_125 (by decide) ?_ ?_
      · refine g_aload_n (pc := 148) (q := 1) hC dX10_plan_148 rfl rfl ?_
        refine g_iload (pc := 149) (q := 5) hC dX10_plan_149 rfl ?_
        refine g_aload_n (pc := 151) (q := 1) hC dX10_plan_151 rfl rfl ?_
        refine g_get (pc := 152) (v := .ref (G.2.1 81)) hC kX10 rfl 42 (by decide) fl_RX10_97 rfl dX10_plan_152 ?_
        refine g_iload (pc := 155) (q := 5) hC dX10_plan_155 rfl ?_
        refine g_iald (pc := 157) hC 30 rfl (by decide) dX10_plan_157 ?_
        refine g_callVi (pc := 158) (As := [.int x28, .int (s32.1 81 (Int32.toNatClampNeg x28))]) (rest := [.int x27]) hC lk_RX10_277 kX10 rfl (tX10_allHarm _ _ s32 x28 (s32.1 81 (Int32.toNatClampNeg x28))) rfl rfl (Nat.le_of_ble_eq_true rfl) ⟨rfl, rfl, Nat.le_of_ble_eq_true rfl, Nat.le_of_ble_eq_true rfl⟩ dX10_plan_158 (fun r34 s35 => ?_)
        exact gT_sub [1, 2, 3, 0, 5] rfl (wX10_plan_b161 hC ih s35 x24 x25 v33 x28 r34 x27)
      · refine g_aload_n (pc := 128) (q := 1) hC dX10_plan_128 rfl rfl ?_
        refine g_iload_n (pc := 129) (q := 3) hC dX10_plan_129 rfl rfl ?_
        refine g_bipush (pc := 130) (v := 10) hC dX10_plan_130 (by decide) ?_
        refine g_isub (pc := 132) hC dX10_plan_132 ?_
        refine g_iload (pc := 133) (q := 5) hC dX10_plan_133 rfl ?_
        refine g_aload_n (pc := 135) (q := 1) hC dX10_plan_135 rfl rfl ?_
        refine g_get (pc := 136) (v := .ref (G.2.1 81)) hC kX10 rfl 42 (by decide) fl_RX10_97 rfl dX10_plan_136 ?_
        refine g_iload (pc := 139) (q := 5) hC dX10_plan_139 rfl ?_
        refine g_iald (pc := 141) hC 30 rfl (by decide) dX10_plan_141 ?_
        refine g_callVi (pc := 142) (As := [.int (x25 - 10), .int x28, .int (s32.1 81 (Int32.toNatClampNeg x28))]) (rest := [.int x27]) hC lk_RX10_261 kX10 rfl (tX10_harmOn _ _ s32 (x25 - 10) x28 (s32.1 81 (Int32.toNatClampNeg x28))) rfl rfl (Nat.le_of_ble_eq_true rfl) ⟨rfl, rfl, Nat.le_of_ble_eq_true rfl, Nat.le_of_ble_eq_true rfl⟩ dX10_plan_142 (fun r44 s45 => ?_)
        refine g_goto (pc := 145) (tgt := 161) hC dX10_plan_145 (by decide) ?_
        exact gT_sub [1, 2, 3, 0, 5] rfl (wX10_plan_b161 hC ih s45 x24 x25 v33 x28 r44 x27)
def mX10_plan_b42    (σ : gS) (x9 : Int32) (x10 : Int32) (x11 : Int32) : Option (Int32 × gS) := gBind (mX10_noRow σ x9 0) (fun r12 s13 => gLet r12 (fun v14 => if 0 ≤ v14 then (gBind (mX10_reads s13 x9) (fun r15 s16 => if inbB 0 5 = true then (gBind (mX10_walks s16 (s16.1 59 (Int32.toNatClampNeg 0))) (fun r17 s18 => if x11 = 0 then (if inbB x10 30 = true then (some ((s18.1 81 (Int32.toNatClampNeg x10)), s18)) else none) else (gLet 0 (fun v19 => gLet 0 (fun v20 => gBind (mX10_now s18 ) (fun r21 s22 => gLet r21 (fun v23 => (mX10_plan_b96  1100 s22 x10 x11 v19 v20 v23)))))))) else none)) else (some (v14, s13))))
set_option maxHeartbeats 4000000 in
set_option maxRecDepth 100000 in
theorem wX10_plan_b42 {p : Program} {l : Launch} {e : Env} {s : State} {m : MethodId} {args : Array Value} {below : List Frame} {meth : Method} {c : Code} {G : gE} (hC : gCx p s m args meth c G RX10 cX10_plan 8 (some .int))     (σ : gS) (x9 : Int32) (x10 : Int32) (x11 : Int32)  : gT p l e rX10_plan s m args below meth c G 8 iI σ 42 [(0, .ref (G.2.1 52)), (1, .int x9), (2, .int x10), (3, .int x11)] [] (mX10_plan_b42  σ x9 x10 x11) := by
  unfold mX10_plan_b42
  refine g_aload_n (pc := 42) (q := 0) hC dX10_plan_42 rfl rfl ?_
  refine g_iload_n (pc := 43) (q := 1) hC dX10_plan_43 rfl rfl ?_
  refine g_iconst (pc := 44) (v := 0) hC dX10_plan_44 (by decide) ?_
  refine g_callVi (pc := 45) (As := [.int x9, .int 0]) (rest := []) hC lk_RX10_267 kX10 rfl (tX10_noRow _ _ σ x9 0) rfl rfl (Nat.le_of_ble_eq_true rfl) ⟨rfl, rfl, Nat.le_of_ble_eq_true rfl, Nat.le_of_ble_eq_true rfl⟩ dX10_plan_45 (fun r12 s13 => ?_)
  refine g_istore (pc := 48) (lv' := fun v14 => [(4, .int v14), (0, .ref (G.2.1 52)), (1, .int x9), (2, .int x10), (3, .int x11)]) hC dX10_plan_48 (by decide) (fun _ => rfl) (fun v14 => ?_)
  refine g_iload (pc := 50) (q := 0) hC dX10_plan_50 rfl ?_
  refine g_if_ge (pc := 52) (tgt := 58) hC dX10_plan_52 (by decide) ?_ ?_
  · refine g_aload_n (pc := 58) (q := 1) hC dX10_plan_58 rfl rfl ?_
    refine g_iload_n (pc := 59) (q := 2) hC dX10_plan_59 rfl rfl ?_
    refine g_callVv (pc := 60) (As := [.int x9]) (rest := []) hC lk_RX10_270 kX10 rfl (tX10_reads _ _ s13 x9) rfl rfl (Nat.le_of_ble_eq_true rfl) ⟨rfl, rfl, Nat.le_of_ble_eq_true rfl, Nat.le_of_ble_eq_true rfl⟩ dX10_plan_60 (fun r15 s16 => ?_)
    refine g_aload_n (pc := 63) (q := 1) hC dX10_plan_63 rfl rfl ?_
    refine g_aload_n (pc := 64) (q := 1) hC dX10_plan_64 rfl rfl ?_
    refine g_get (pc := 65) (v := .ref (G.2.1 59)) hC kX10 rfl 8 (by decide) fl_RX10_30 rfl dX10_plan_65 ?_
    refine g_iconst (pc := 68) (v := 0) hC dX10_plan_68 (by decide) ?_
    refine g_iald (pc := 69) hC 5 rfl (by decide) dX10_plan_69 ?_
    refine g_callVv (pc := 70) (As := [.int (s16.1 59 (Int32.toNatClampNeg 0))]) (rest := []) hC lk_RX10_274 kX10 rfl (tX10_walks _ _ s16 (s16.1 59 (Int32.toNatClampNeg 0))) rfl rfl (Nat.le_of_ble_eq_true rfl) ⟨rfl, rfl, Nat.le_of_ble_eq_true rfl, Nat.le_of_ble_eq_true rfl⟩ dX10_plan_70 (fun r17 s18 => ?_)
    refine g_iload_n (pc := 73) (q := 4) hC dX10_plan_73 rfl rfl ?_
    refine g_if_ne (pc := 74) (tgt := 84) hC dX10_plan_74 (by decide) ?_ ?_
    · refine g_iconst (pc := 84) (v := 0) hC dX10_plan_84 (by decide) ?_
      refine g_istore (pc := 85) (lv' := fun v19 => [(5, .int v19), (4, .int v14), (0, .ref (G.2.1 52)), (1, .int x9), (2, .int x10), (3, .int x11)]) hC dX10_plan_85 (by decide) (fun _ => rfl) (fun v19 => ?_)
      refine g_iconst (pc := 87) (v := 0) hC dX10_plan_87 (by decide) ?_
      refine g_istore (pc := 88) (lv' := fun v20 => [(6, .int v20), (5, .int v19), (4, .int v14), (0, .ref (G.2.1 52)), (1, .int x9), (2, .int x10), (3, .int x11)]) hC dX10_plan_88 (by decide) (fun _ => rfl) (fun v20 => ?_)
      refine g_aload_n (pc := 90) (q := 3) hC dX10_plan_90 rfl rfl ?_
      refine g_callVi (pc := 91) (As := []) (rest := []) hC lk_RX10_246 kX10 rfl (tX10_now _ _ s18 ) rfl rfl (Nat.le_of_ble_eq_true rfl) ⟨rfl, rfl, Nat.le_of_ble_eq_true rfl, Nat.le_of_ble_eq_true rfl⟩ dX10_plan_91 (fun r21 s22 => ?_)
      refine g_istore (pc := 94) (lv' := fun v23 => [(7, .int v23), (6, .int v20), (5, .int v19), (4, .int v14), (0, .ref (G.2.1 52)), (1, .int x9), (2, .int x10), (3, .int x11)]) hC dX10_plan_94 (by decide) (fun _ => rfl) (fun v23 => ?_)
      exact gT_sub [4, 6, 7, 2, 1, 0] rfl (wX10_plan_b96 hC  1100 s22 x10 x11 v19 v20 v23)
    · refine g_aload_n (pc := 77) (q := 1) hC dX10_plan_77 rfl rfl ?_
      refine g_get (pc := 78) (v := .ref (G.2.1 81)) hC kX10 rfl 42 (by decide) fl_RX10_97 rfl dX10_plan_78 ?_
      refine g_iload_n (pc := 81) (q := 3) hC dX10_plan_81 rfl rfl ?_
      refine g_iald (pc := 82) hC 30 rfl (by decide) dX10_plan_82 ?_
      exact g_iret (pc := 83) hC dX10_plan_83
  · refine g_iload (pc := 55) (q := 0) hC dX10_plan_55 rfl ?_
    exact g_iret (pc := 57) hC dX10_plan_57
def mX10_plan (σ : gS) (p0 : Int32) (p1 : Int32) (p2 : Int32) : Option (Int32 × gS) := gBind (mX10_isShelf σ p0) (fun r1 s2 => if r1 = true then (gBind (mX10_now s2 ) (fun r3 s4 => gBind (mX10_within s4 p1 r3 29) (fun r5 s6 => if r5 = true then (gBind (mX10_within s6 p2 0 3) (fun r7 s8 => if r7 = true then ((mX10_plan_b42  s8 p0 p1 p2)) else (gBind (mX10_isFarm s8 (p2 - 10)) (fun r46 s47 => if r46 = true then ((mX10_plan_b42  s47 p0 p1 p2)) else (some ((-1), s47)))))) else (some ((-1), s6))))) else (some ((-1), s2)))
set_option maxHeartbeats 4000000 in
set_option maxRecDepth 100000 in
theorem tX10_plan (l : Launch) (G : gE) (σ : gS) (p0 : Int32) (p1 : Int32) (p2 : Int32) : gM l G yX10_plan cX10_plan 8 (some .int) rX10_plan iI [.ref (G.2.1 52), .int p0, .int p1, .int p2] σ (mX10_plan σ p0 p1 p2) := by
  refine gM_of (by decide) (Nat.le_of_ble_eq_true rfl) ?_
  intro p e s m args below meth c hC
  unfold mX10_plan
  show gT p l e rX10_plan s m args below meth c G 8 iI σ 0 [(0, .ref (G.2.1 52)), (1, .int p0), (2, .int p1), (3, .int p2)] [] _
  refine g_iload_n (pc := 0) (q := 1) hC dX10_plan_0 rfl rfl ?_
  refine g_callSz (pc := 1) (As := [.int p0]) (rest := []) hC lk_RX10_132 (tX10_isShelf _ _ σ p0) rfl rfl (Nat.le_of_ble_eq_true rfl) ⟨rfl, rfl, Nat.le_of_ble_eq_true rfl, Nat.le_of_ble_eq_true rfl⟩ dX10_plan_1 (fun r1 s2 => ?_)
  refine g_bif_eq (pc := 4) (tgt := 40) hC dX10_plan_4 (by decide) ?_ ?_
  · refine g_iconst (pc := 40) (v := (-1)) hC dX10_plan_40 (by decide) ?_
    exact g_iret (pc := 41) hC dX10_plan_41
  · refine g_iload_n (pc := 7) (q := 2) hC dX10_plan_7 rfl rfl ?_
    refine g_aload_n (pc := 8) (q := 0) hC dX10_plan_8 rfl rfl ?_
    refine g_callVi (pc := 9) (As := []) (rest := [.int p1]) hC lk_RX10_246 kX10 rfl (tX10_now _ _ s2 ) rfl rfl (Nat.le_of_ble_eq_true rfl) ⟨rfl, rfl, Nat.le_of_ble_eq_true rfl, Nat.le_of_ble_eq_true rfl⟩ dX10_plan_9 (fun r3 s4 => ?_)
    refine g_bipush (pc := 12) (v := 29) hC dX10_plan_12 (by decide) ?_
    refine g_callSz (pc := 14) (As := [.int p1, .int r3, .int 29]) (rest := []) hC lk_RX10_110 (tX10_within _ _ s4 p1 r3 29) rfl rfl (Nat.le_of_ble_eq_true rfl) ⟨rfl, rfl, Nat.le_of_ble_eq_true rfl, Nat.le_of_ble_eq_true rfl⟩ dX10_plan_14 (fun r5 s6 => ?_)
    refine g_bif_eq (pc := 17) (tgt := 40) hC dX10_plan_17 (by decide) ?_ ?_
    · refine g_iconst (pc := 40) (v := (-1)) hC dX10_plan_40 (by decide) ?_
      exact g_iret (pc := 41) hC dX10_plan_41
    · refine g_iload_n (pc := 20) (q := 3) hC dX10_plan_20 rfl rfl ?_
      refine g_iconst (pc := 21) (v := 0) hC dX10_plan_21 (by decide) ?_
      refine g_iconst (pc := 22) (v := 3) hC dX10_plan_22 (by decide) ?_
      refine g_callSz (pc := 23) (As := [.int p2, .int 0, .int 3]) (rest := []) hC lk_RX10_110 (tX10_within _ _ s6 p2 0 3) rfl rfl (Nat.le_of_ble_eq_true rfl) ⟨rfl, rfl, Nat.le_of_ble_eq_true rfl, Nat.le_of_ble_eq_true rfl⟩ dX10_plan_23 (fun r7 s8 => ?_)
      refine g_bif_ne (pc := 26) (tgt := 42) hC dX10_plan_26 (by decide) ?_ ?_
      · exact gT_sub [0, 1, 2, 3] rfl (wX10_plan_b42 hC  s8 p0 p1 p2)
      · refine g_aload_n (pc := 29) (q := 0) hC dX10_plan_29 rfl rfl ?_
        refine g_iload_n (pc := 30) (q := 3) hC dX10_plan_30 rfl rfl ?_
        refine g_bipush (pc := 31) (v := 10) hC dX10_plan_31 (by decide) ?_
        refine g_isub (pc := 33) hC dX10_plan_33 ?_
        refine g_callVz (pc := 34) (As := [.int (p2 - 10)]) (rest := []) hC lk_RX10_117 kX10 rfl (tX10_isFarm _ _ s8 (p2 - 10)) rfl rfl (Nat.le_of_ble_eq_true rfl) ⟨rfl, rfl, Nat.le_of_ble_eq_true rfl, Nat.le_of_ble_eq_true rfl⟩ dX10_plan_34 (fun r46 s47 => ?_)
        refine g_bif_ne (pc := 37) (tgt := 42) hC dX10_plan_37 (by decide) ?_ ?_
        · exact gT_sub [0, 1, 2, 3] rfl (wX10_plan_b42 hC  s47 p0 p1 p2)
        · refine g_iconst (pc := 40) (v := (-1)) hC dX10_plan_40 (by decide) ?_
          exact g_iret (pc := 41) hC dX10_plan_41
theorem dX10_gives_0 : decode cX10_gives 0 = .ok (.iload_n 1, 1) := by decide +kernel
theorem dX10_gives_1 : decode cX10_gives 1 = .ok (.invokestatic 132, 3) := by decide +kernel
theorem dX10_gives_4 : decode cX10_gives 4 = .ok (.ifCond .eq 12, 3) := by decide +kernel
theorem dX10_gives_7 : decode cX10_gives 7 = .ok (.iload_n 2, 1) := by decide +kernel
theorem dX10_gives_8 : decode cX10_gives 8 = .ok (.iconst 0, 1) := by decide +kernel
theorem dX10_gives_9 : decode cX10_gives 9 = .ok (.iconst 1, 1) := by decide +kernel
theorem dX10_gives_10 : decode cX10_gives 10 = .ok (.invokestatic 110, 3) := by decide +kernel
theorem dX10_gives_13 : decode cX10_gives 13 = .ok (.ifCond .ne 5, 3) := by decide +kernel
theorem dX10_gives_16 : decode cX10_gives 16 = .ok (.iconst (-1), 1) := by decide +kernel
theorem dX10_gives_17 : decode cX10_gives 17 = .ok (.ireturn, 1) := by decide +kernel
theorem dX10_gives_18 : decode cX10_gives 18 = .ok (.aload_n 0, 1) := by decide +kernel
theorem dX10_gives_19 : decode cX10_gives 19 = .ok (.iload_n 1, 1) := by decide +kernel
theorem dX10_gives_20 : decode cX10_gives 20 = .ok (.iconst 0, 1) := by decide +kernel
theorem dX10_gives_21 : decode cX10_gives 21 = .ok (.invokevirtual 267, 3) := by decide +kernel
theorem dX10_gives_24 : decode cX10_gives 24 = .ok (.istore_n 3, 1) := by decide +kernel
theorem dX10_gives_25 : decode cX10_gives 25 = .ok (.iload_n 3, 1) := by decide +kernel
theorem dX10_gives_26 : decode cX10_gives 26 = .ok (.ifCond .ge 5, 3) := by decide +kernel
theorem dX10_gives_29 : decode cX10_gives 29 = .ok (.iload_n 3, 1) := by decide +kernel
theorem dX10_gives_30 : decode cX10_gives 30 = .ok (.ireturn, 1) := by decide +kernel
theorem dX10_gives_31 : decode cX10_gives 31 = .ok (.aload_n 0, 1) := by decide +kernel
theorem dX10_gives_32 : decode cX10_gives 32 = .ok (.iload_n 1, 1) := by decide +kernel
theorem dX10_gives_33 : decode cX10_gives 33 = .ok (.invokevirtual 270, 3) := by decide +kernel
theorem dX10_gives_36 : decode cX10_gives 36 = .ok (.aload_n 0, 1) := by decide +kernel
theorem dX10_gives_37 : decode cX10_gives 37 = .ok (.aload_n 0, 1) := by decide +kernel
theorem dX10_gives_38 : decode cX10_gives 38 = .ok (.getfield 30, 3) := by decide +kernel
theorem dX10_gives_41 : decode cX10_gives 41 = .ok (.iconst 0, 1) := by decide +kernel
theorem dX10_gives_42 : decode cX10_gives 42 = .ok (.iaload, 1) := by decide +kernel
theorem dX10_gives_43 : decode cX10_gives 43 = .ok (.invokevirtual 274, 3) := by decide +kernel
theorem dX10_gives_46 : decode cX10_gives 46 = .ok (.iload_n 2, 1) := by decide +kernel
theorem dX10_gives_47 : decode cX10_gives 47 = .ok (.ifCond .ne 8, 3) := by decide +kernel
theorem dX10_gives_50 : decode cX10_gives 50 = .ok (.aload_n 0, 1) := by decide +kernel
theorem dX10_gives_51 : decode cX10_gives 51 = .ok (.getfield 249, 3) := by decide +kernel
theorem dX10_gives_54 : decode cX10_gives 54 = .ok (.ireturn, 1) := by decide +kernel
theorem dX10_gives_55 : decode cX10_gives 55 = .ok (.aload_n 0, 1) := by decide +kernel
theorem dX10_gives_56 : decode cX10_gives 56 = .ok (.invokevirtual 246, 3) := by decide +kernel
theorem dX10_gives_59 : decode cX10_gives 59 = .ok (.istore 4, 2) := by decide +kernel
theorem dX10_gives_61 : decode cX10_gives 61 = .ok (.iload 4, 2) := by decide +kernel
theorem dX10_gives_63 : decode cX10_gives 63 = .ok (.bipush 30, 2) := by decide +kernel
theorem dX10_gives_65 : decode cX10_gives 65 = .ok (.if_icmp .gt 22, 3) := by decide +kernel
theorem dX10_gives_68 : decode cX10_gives 68 = .ok (.aload_n 0, 1) := by decide +kernel
theorem dX10_gives_69 : decode cX10_gives 69 = .ok (.getfield 94, 3) := by decide +kernel
theorem dX10_gives_72 : decode cX10_gives 72 = .ok (.iload 4, 2) := by decide +kernel
theorem dX10_gives_74 : decode cX10_gives 74 = .ok (.iaload, 1) := by decide +kernel
theorem dX10_gives_75 : decode cX10_gives 75 = .ok (.ifCond .ne 6, 3) := by decide +kernel
theorem dX10_gives_78 : decode cX10_gives 78 = .ok (.iload 4, 2) := by decide +kernel
theorem dX10_gives_80 : decode cX10_gives 80 = .ok (.ireturn, 1) := by decide +kernel
theorem dX10_gives_81 : decode cX10_gives 81 = .ok (.iinc 4 1, 3) := by decide +kernel
theorem dX10_gives_84 : decode cX10_gives 84 = .ok (.goto (-23), 3) := by decide +kernel
theorem dX10_gives_87 : decode cX10_gives 87 = .ok (.bipush (-2), 2) := by decide +kernel
theorem dX10_gives_89 : decode cX10_gives 89 = .ok (.ireturn, 1) := by decide +kernel
abbrev rX10_gives : Room := { frames := 5, cells := 0, slots := 0, locals := 117 }
def mX10_gives_b61    : Nat → gS → Int32 → Option (Int32 × gS)
  | 0, _, _ => none
  | n + 1, σ, x15 => if 30 < x15 then (some ((-2), σ)) else (if inbB x15 31 = true then (if (σ.1 80 (Int32.toNatClampNeg x15)) = 0 then (some (x15, σ)) else (gLet (x15 + 1) (fun v16 => ((mX10_gives_b61  n) σ v16)))) else none)
set_option maxHeartbeats 4000000 in
set_option maxRecDepth 100000 in
theorem wX10_gives_b61 {p : Program} {l : Launch} {e : Env} {s : State} {m : MethodId} {args : Array Value} {below : List Frame} {meth : Method} {c : Code} {G : gE} (hC : gCx p s m args meth c G RX10 cX10_gives 5 (some .int))     (n : Nat) (σ : gS) (x15 : Int32)  : gT p l e rX10_gives s m args below meth c G 5 iI σ 61 [(0, .ref (G.2.1 52)), (4, .int x15)] [] (mX10_gives_b61  n σ x15) := by
  induction n generalizing σ x15 with
  | zero => exact gT_none
  | succ n ih =>
    unfold mX10_gives_b61
    refine g_iload (pc := 61) (q := 1) hC dX10_gives_61 rfl ?_
    refine g_bipush (pc := 63) (v := 30) hC dX10_gives_63 (by decide) ?_
    refine g_icmp_gt (pc := 65) (tgt := 87) hC dX10_gives_65 (by decide) ?_ ?_
    · refine g_bipush (pc := 87) (v := (-2)) hC dX10_gives_87 (by decide) ?_
      exact g_iret (pc := 89) hC dX10_gives_89
    · refine g_aload_n (pc := 68) (q := 0) hC dX10_gives_68 rfl rfl ?_
      refine g_get (pc := 69) (v := .ref (G.2.1 80)) hC kX10 rfl 41 (by decide) fl_RX10_94 rfl dX10_gives_69 ?_
      refine g_iload (pc := 72) (q := 1) hC dX10_gives_72 rfl ?_
      refine g_iald (pc := 74) hC 31 rfl (by decide) dX10_gives_74 ?_
      refine g_if_ne (pc := 75) (tgt := 81) hC dX10_gives_75 (by decide) ?_ ?_
      · refine g_iinc (pc := 81) (q := 1) (w := 1) (lv' := fun v16 => [(4, .int v16), (0, .ref (G.2.1 52))]) hC dX10_gives_81 rfl (by decide) (by decide) (fun _ => rfl) (fun v16 => ?_)
        refine g_goto (pc := 84) (tgt := 61) hC dX10_gives_84 (by decide) ?_
        exact gT_sub [1, 0] rfl (ih σ v16)
      · refine g_iload (pc := 78) (q := 1) hC dX10_gives_78 rfl ?_
        exact g_iret (pc := 80) hC dX10_gives_80
def mX10_gives (σ : gS) (p0 : Int32) (p1 : Int32) : Option (Int32 × gS) := gBind (mX10_isShelf σ p0) (fun r1 s2 => if r1 = true then (gBind (mX10_within s2 p1 0 1) (fun r3 s4 => if r3 = true then (gBind (mX10_noRow s4 p0 0) (fun r5 s6 => gLet r5 (fun v7 => if 0 ≤ v7 then (gBind (mX10_reads s6 p0) (fun r8 s9 => if inbB 0 5 = true then (gBind (mX10_walks s9 (s9.1 59 (Int32.toNatClampNeg 0))) (fun r10 s11 => if p1 = 0 then (some ((s11.1 52 43), s11)) else (gBind (mX10_now s11 ) (fun r12 s13 => gLet r12 (fun v14 => (mX10_gives_b61  1100 s13 v14)))))) else none)) else (some (v7, s6))))) else (some ((-1), s4)))) else (some ((-1), s2)))
set_option maxHeartbeats 4000000 in
set_option maxRecDepth 100000 in
theorem tX10_gives (l : Launch) (G : gE) (σ : gS) (p0 : Int32) (p1 : Int32) : gM l G yX10_gives cX10_gives 5 (some .int) rX10_gives iI [.ref (G.2.1 52), .int p0, .int p1] σ (mX10_gives σ p0 p1) := by
  refine gM_of (by decide) (Nat.le_of_ble_eq_true rfl) ?_
  intro p e s m args below meth c hC
  unfold mX10_gives
  show gT p l e rX10_gives s m args below meth c G 5 iI σ 0 [(0, .ref (G.2.1 52)), (1, .int p0), (2, .int p1)] [] _
  refine g_iload_n (pc := 0) (q := 1) hC dX10_gives_0 rfl rfl ?_
  refine g_callSz (pc := 1) (As := [.int p0]) (rest := []) hC lk_RX10_132 (tX10_isShelf _ _ σ p0) rfl rfl (Nat.le_of_ble_eq_true rfl) ⟨rfl, rfl, Nat.le_of_ble_eq_true rfl, Nat.le_of_ble_eq_true rfl⟩ dX10_gives_1 (fun r1 s2 => ?_)
  refine g_bif_eq (pc := 4) (tgt := 16) hC dX10_gives_4 (by decide) ?_ ?_
  · refine g_iconst (pc := 16) (v := (-1)) hC dX10_gives_16 (by decide) ?_
    exact g_iret (pc := 17) hC dX10_gives_17
  · refine g_iload_n (pc := 7) (q := 2) hC dX10_gives_7 rfl rfl ?_
    refine g_iconst (pc := 8) (v := 0) hC dX10_gives_8 (by decide) ?_
    refine g_iconst (pc := 9) (v := 1) hC dX10_gives_9 (by decide) ?_
    refine g_callSz (pc := 10) (As := [.int p1, .int 0, .int 1]) (rest := []) hC lk_RX10_110 (tX10_within _ _ s2 p1 0 1) rfl rfl (Nat.le_of_ble_eq_true rfl) ⟨rfl, rfl, Nat.le_of_ble_eq_true rfl, Nat.le_of_ble_eq_true rfl⟩ dX10_gives_10 (fun r3 s4 => ?_)
    refine g_bif_ne (pc := 13) (tgt := 18) hC dX10_gives_13 (by decide) ?_ ?_
    · refine g_aload_n (pc := 18) (q := 0) hC dX10_gives_18 rfl rfl ?_
      refine g_iload_n (pc := 19) (q := 1) hC dX10_gives_19 rfl rfl ?_
      refine g_iconst (pc := 20) (v := 0) hC dX10_gives_20 (by decide) ?_
      refine g_callVi (pc := 21) (As := [.int p0, .int 0]) (rest := []) hC lk_RX10_267 kX10 rfl (tX10_noRow _ _ s4 p0 0) rfl rfl (Nat.le_of_ble_eq_true rfl) ⟨rfl, rfl, Nat.le_of_ble_eq_true rfl, Nat.le_of_ble_eq_true rfl⟩ dX10_gives_21 (fun r5 s6 => ?_)
      refine g_istore_n (pc := 24) (lv' := fun v7 => [(3, .int v7), (0, .ref (G.2.1 52)), (1, .int p0), (2, .int p1)]) hC dX10_gives_24 rfl (by decide) (fun _ => rfl) (fun v7 => ?_)
      refine g_iload_n (pc := 25) (q := 0) hC dX10_gives_25 rfl rfl ?_
      refine g_if_ge (pc := 26) (tgt := 31) hC dX10_gives_26 (by decide) ?_ ?_
      · refine g_aload_n (pc := 31) (q := 1) hC dX10_gives_31 rfl rfl ?_
        refine g_iload_n (pc := 32) (q := 2) hC dX10_gives_32 rfl rfl ?_
        refine g_callVv (pc := 33) (As := [.int p0]) (rest := []) hC lk_RX10_270 kX10 rfl (tX10_reads _ _ s6 p0) rfl rfl (Nat.le_of_ble_eq_true rfl) ⟨rfl, rfl, Nat.le_of_ble_eq_true rfl, Nat.le_of_ble_eq_true rfl⟩ dX10_gives_33 (fun r8 s9 => ?_)
        refine g_aload_n (pc := 36) (q := 1) hC dX10_gives_36 rfl rfl ?_
        refine g_aload_n (pc := 37) (q := 1) hC dX10_gives_37 rfl rfl ?_
        refine g_get (pc := 38) (v := .ref (G.2.1 59)) hC kX10 rfl 8 (by decide) fl_RX10_30 rfl dX10_gives_38 ?_
        refine g_iconst (pc := 41) (v := 0) hC dX10_gives_41 (by decide) ?_
        refine g_iald (pc := 42) hC 5 rfl (by decide) dX10_gives_42 ?_
        refine g_callVv (pc := 43) (As := [.int (s9.1 59 (Int32.toNatClampNeg 0))]) (rest := []) hC lk_RX10_274 kX10 rfl (tX10_walks _ _ s9 (s9.1 59 (Int32.toNatClampNeg 0))) rfl rfl (Nat.le_of_ble_eq_true rfl) ⟨rfl, rfl, Nat.le_of_ble_eq_true rfl, Nat.le_of_ble_eq_true rfl⟩ dX10_gives_43 (fun r10 s11 => ?_)
        refine g_iload_n (pc := 46) (q := 3) hC dX10_gives_46 rfl rfl ?_
        refine g_if_ne (pc := 47) (tgt := 55) hC dX10_gives_47 (by decide) ?_ ?_
        · refine g_aload_n (pc := 55) (q := 1) hC dX10_gives_55 rfl rfl ?_
          refine g_callVi (pc := 56) (As := []) (rest := []) hC lk_RX10_246 kX10 rfl (tX10_now _ _ s11 ) rfl rfl (Nat.le_of_ble_eq_true rfl) ⟨rfl, rfl, Nat.le_of_ble_eq_true rfl, Nat.le_of_ble_eq_true rfl⟩ dX10_gives_56 (fun r12 s13 => ?_)
          refine g_istore (pc := 59) (lv' := fun v14 => [(4, .int v14), (3, .int v7), (0, .ref (G.2.1 52)), (1, .int p0), (2, .int p1)]) hC dX10_gives_59 (by decide) (fun _ => rfl) (fun v14 => ?_)
          exact gT_sub [2, 0] rfl (wX10_gives_b61 hC  1100 s13 v14)
        · refine g_aload_n (pc := 50) (q := 1) hC dX10_gives_50 rfl rfl ?_
          refine g_get (pc := 51) (v := .int (s11.1 52 43)) hC kX10 rfl 43 (by decide) fl_RX10_249 rfl dX10_gives_51 ?_
          exact g_iret (pc := 54) hC dX10_gives_54
      · refine g_iload_n (pc := 29) (q := 0) hC dX10_gives_29 rfl rfl ?_
        exact g_iret (pc := 30) hC dX10_gives_30
    · refine g_iconst (pc := 16) (v := (-1)) hC dX10_gives_16 (by decide) ?_
      exact g_iret (pc := 17) hC dX10_gives_17
theorem dX10_idle_0 : decode cX10_idle 0 = .ok (.iload_n 1, 1) := by decide +kernel
theorem dX10_idle_1 : decode cX10_idle 1 = .ok (.aload_n 0, 1) := by decide +kernel
theorem dX10_idle_2 : decode cX10_idle 2 = .ok (.invokevirtual 246, 3) := by decide +kernel
theorem dX10_idle_5 : decode cX10_idle 5 = .ok (.bipush 30, 2) := by decide +kernel
theorem dX10_idle_7 : decode cX10_idle 7 = .ok (.invokestatic 110, 3) := by decide +kernel
theorem dX10_idle_10 : decode cX10_idle 10 = .ok (.ifCond .ne 5, 3) := by decide +kernel
theorem dX10_idle_13 : decode cX10_idle 13 = .ok (.iconst (-1), 1) := by decide +kernel
theorem dX10_idle_14 : decode cX10_idle 14 = .ok (.ireturn, 1) := by decide +kernel
theorem dX10_idle_15 : decode cX10_idle 15 = .ok (.aload_n 0, 1) := by decide +kernel
theorem dX10_idle_16 : decode cX10_idle 16 = .ok (.invokevirtual 243, 3) := by decide +kernel
theorem dX10_idle_19 : decode cX10_idle 19 = .ok (.aload_n 0, 1) := by decide +kernel
theorem dX10_idle_20 : decode cX10_idle 20 = .ok (.aload_n 0, 1) := by decide +kernel
theorem dX10_idle_21 : decode cX10_idle 21 = .ok (.getfield 30, 3) := by decide +kernel
theorem dX10_idle_24 : decode cX10_idle 24 = .ok (.iconst 0, 1) := by decide +kernel
theorem dX10_idle_25 : decode cX10_idle 25 = .ok (.iaload, 1) := by decide +kernel
theorem dX10_idle_26 : decode cX10_idle 26 = .ok (.invokevirtual 274, 3) := by decide +kernel
theorem dX10_idle_29 : decode cX10_idle 29 = .ok (.aload_n 0, 1) := by decide +kernel
theorem dX10_idle_30 : decode cX10_idle 30 = .ok (.getfield 94, 3) := by decide +kernel
theorem dX10_idle_33 : decode cX10_idle 33 = .ok (.iload_n 1, 1) := by decide +kernel
theorem dX10_idle_34 : decode cX10_idle 34 = .ok (.iaload, 1) := by decide +kernel
theorem dX10_idle_35 : decode cX10_idle 35 = .ok (.ireturn, 1) := by decide +kernel
abbrev rX10_idle : Room := { frames := 5, cells := 0, slots := 0, locals := 117 }
def mX10_idle (σ : gS) (p0 : Int32) : Option (Int32 × gS) := gBind (mX10_now σ ) (fun r1 s2 => gBind (mX10_within s2 p0 r1 30) (fun r3 s4 => if r3 = true then (gBind (mX10_idles s4 ) (fun r5 s6 => if inbB 0 5 = true then (gBind (mX10_walks s6 (s6.1 59 (Int32.toNatClampNeg 0))) (fun r7 s8 => if inbB p0 31 = true then (some ((s8.1 80 (Int32.toNatClampNeg p0)), s8)) else none)) else none)) else (some ((-1), s4))))
set_option maxHeartbeats 4000000 in
set_option maxRecDepth 100000 in
theorem tX10_idle (l : Launch) (G : gE) (σ : gS) (p0 : Int32) : gM l G yX10_idle cX10_idle 2 (some .int) rX10_idle iI [.ref (G.2.1 52), .int p0] σ (mX10_idle σ p0) := by
  refine gM_of (by decide) (Nat.le_of_ble_eq_true rfl) ?_
  intro p e s m args below meth c hC
  unfold mX10_idle
  show gT p l e rX10_idle s m args below meth c G 2 iI σ 0 [(0, .ref (G.2.1 52)), (1, .int p0)] [] _
  refine g_iload_n (pc := 0) (q := 1) hC dX10_idle_0 rfl rfl ?_
  refine g_aload_n (pc := 1) (q := 0) hC dX10_idle_1 rfl rfl ?_
  refine g_callVi (pc := 2) (As := []) (rest := [.int p0]) hC lk_RX10_246 kX10 rfl (tX10_now _ _ σ ) rfl rfl (Nat.le_of_ble_eq_true rfl) ⟨rfl, rfl, Nat.le_of_ble_eq_true rfl, Nat.le_of_ble_eq_true rfl⟩ dX10_idle_2 (fun r1 s2 => ?_)
  refine g_bipush (pc := 5) (v := 30) hC dX10_idle_5 (by decide) ?_
  refine g_callSz (pc := 7) (As := [.int p0, .int r1, .int 30]) (rest := []) hC lk_RX10_110 (tX10_within _ _ s2 p0 r1 30) rfl rfl (Nat.le_of_ble_eq_true rfl) ⟨rfl, rfl, Nat.le_of_ble_eq_true rfl, Nat.le_of_ble_eq_true rfl⟩ dX10_idle_7 (fun r3 s4 => ?_)
  refine g_bif_ne (pc := 10) (tgt := 15) hC dX10_idle_10 (by decide) ?_ ?_
  · refine g_aload_n (pc := 15) (q := 0) hC dX10_idle_15 rfl rfl ?_
    refine g_callVv (pc := 16) (As := []) (rest := []) hC lk_RX10_243 kX10 rfl (tX10_idles _ _ s4 ) rfl rfl (Nat.le_of_ble_eq_true rfl) ⟨rfl, rfl, Nat.le_of_ble_eq_true rfl, Nat.le_of_ble_eq_true rfl⟩ dX10_idle_16 (fun r5 s6 => ?_)
    refine g_aload_n (pc := 19) (q := 0) hC dX10_idle_19 rfl rfl ?_
    refine g_aload_n (pc := 20) (q := 0) hC dX10_idle_20 rfl rfl ?_
    refine g_get (pc := 21) (v := .ref (G.2.1 59)) hC kX10 rfl 8 (by decide) fl_RX10_30 rfl dX10_idle_21 ?_
    refine g_iconst (pc := 24) (v := 0) hC dX10_idle_24 (by decide) ?_
    refine g_iald (pc := 25) hC 5 rfl (by decide) dX10_idle_25 ?_
    refine g_callVv (pc := 26) (As := [.int (s6.1 59 (Int32.toNatClampNeg 0))]) (rest := []) hC lk_RX10_274 kX10 rfl (tX10_walks _ _ s6 (s6.1 59 (Int32.toNatClampNeg 0))) rfl rfl (Nat.le_of_ble_eq_true rfl) ⟨rfl, rfl, Nat.le_of_ble_eq_true rfl, Nat.le_of_ble_eq_true rfl⟩ dX10_idle_26 (fun r7 s8 => ?_)
    refine g_aload_n (pc := 29) (q := 0) hC dX10_idle_29 rfl rfl ?_
    refine g_get (pc := 30) (v := .ref (G.2.1 80)) hC kX10 rfl 41 (by decide) fl_RX10_94 rfl dX10_idle_30 ?_
    refine g_iload_n (pc := 33) (q := 1) hC dX10_idle_33 rfl rfl ?_
    refine g_iald (pc := 34) hC 31 rfl (by decide) dX10_idle_34 ?_
    exact g_iret (pc := 35) hC dX10_idle_35
  · refine g_iconst (pc := 13) (v := (-1)) hC dX10_idle_13 (by decide) ?_
    exact g_iret (pc := 14) hC dX10_idle_14
theorem dX10_isWanted_0 : decode cX10_isWanted 0 = .ok (.iconst 0, 1) := by decide +kernel
theorem dX10_isWanted_1 : decode cX10_isWanted 1 = .ok (.istore_n 3, 1) := by decide +kernel
theorem dX10_isWanted_2 : decode cX10_isWanted 2 = .ok (.iload_n 3, 1) := by decide +kernel
theorem dX10_isWanted_3 : decode cX10_isWanted 3 = .ok (.aload_n 0, 1) := by decide +kernel
theorem dX10_isWanted_4 : decode cX10_isWanted 4 = .ok (.getfield 114, 3) := by decide +kernel
theorem dX10_isWanted_7 : decode cX10_isWanted 7 = .ok (.if_icmp .ge 31, 3) := by decide +kernel
theorem dX10_isWanted_10 : decode cX10_isWanted 10 = .ok (.aload_n 0, 1) := by decide +kernel
theorem dX10_isWanted_11 : decode cX10_isWanted 11 = .ok (.getfield 21, 3) := by decide +kernel
theorem dX10_isWanted_14 : decode cX10_isWanted 14 = .ok (.iload_n 3, 1) := by decide +kernel
theorem dX10_isWanted_15 : decode cX10_isWanted 15 = .ok (.iaload, 1) := by decide +kernel
theorem dX10_isWanted_16 : decode cX10_isWanted 16 = .ok (.iload_n 1, 1) := by decide +kernel
theorem dX10_isWanted_17 : decode cX10_isWanted 17 = .ok (.if_icmp .ne 15, 3) := by decide +kernel
theorem dX10_isWanted_20 : decode cX10_isWanted 20 = .ok (.aload_n 0, 1) := by decide +kernel
theorem dX10_isWanted_21 : decode cX10_isWanted 21 = .ok (.getfield 24, 3) := by decide +kernel
theorem dX10_isWanted_24 : decode cX10_isWanted 24 = .ok (.iload_n 3, 1) := by decide +kernel
theorem dX10_isWanted_25 : decode cX10_isWanted 25 = .ok (.iaload, 1) := by decide +kernel
theorem dX10_isWanted_26 : decode cX10_isWanted 26 = .ok (.iload_n 2, 1) := by decide +kernel
theorem dX10_isWanted_27 : decode cX10_isWanted 27 = .ok (.if_icmp .ne 5, 3) := by decide +kernel
theorem dX10_isWanted_30 : decode cX10_isWanted 30 = .ok (.iconst 1, 1) := by decide +kernel
theorem dX10_isWanted_31 : decode cX10_isWanted 31 = .ok (.ireturn, 1) := by decide +kernel
theorem dX10_isWanted_32 : decode cX10_isWanted 32 = .ok (.iinc 3 1, 3) := by decide +kernel
theorem dX10_isWanted_35 : decode cX10_isWanted 35 = .ok (.goto (-33), 3) := by decide +kernel
theorem dX10_isWanted_38 : decode cX10_isWanted 38 = .ok (.iconst 0, 1) := by decide +kernel
theorem dX10_isWanted_39 : decode cX10_isWanted 39 = .ok (.ireturn, 1) := by decide +kernel
abbrev rX10_isWanted : Room := { frames := 0, cells := 0, slots := 0, locals := 0 }
def mX10_isWanted_b32   (k2 : gS → Int32 → Int32 → Int32 → Option (Bool × gS)) (σ : gS) (x5 : Int32) (x6 : Int32) (x7 : Int32) : Option (Bool × gS) := gLet (x7 + 1) (fun v8 => (k2 σ x5 x6 v8))
set_option maxHeartbeats 4000000 in
set_option maxRecDepth 100000 in
theorem wX10_isWanted_b32 {p : Program} {l : Launch} {e : Env} {s : State} {m : MethodId} {args : Array Value} {below : List Frame} {meth : Method} {c : Code} {G : gE} (hC : gCx p s m args meth c G RX10 cX10_isWanted 4 (some .boolean))    {k2 : gS → Int32 → Int32 → Int32 → Option (Bool × gS)} (hk2 : ∀ (σ : gS) (x2 : Int32) (x3 : Int32) (x4 : Int32), gT p l e rX10_isWanted s m args below meth c G 4 iZ σ 2 [(0, .ref (G.2.1 52)), (1, .int x2), (2, .int x3), (3, .int x4)] [] (k2 σ x2 x3 x4)) (σ : gS) (x5 : Int32) (x6 : Int32) (x7 : Int32)  : gT p l e rX10_isWanted s m args below meth c G 4 iZ σ 32 [(0, .ref (G.2.1 52)), (1, .int x5), (2, .int x6), (3, .int x7)] [] (mX10_isWanted_b32 k2 σ x5 x6 x7) := by
  unfold mX10_isWanted_b32
  refine g_iinc (pc := 32) (q := 3) (w := 1) (lv' := fun v8 => [(3, .int v8), (0, .ref (G.2.1 52)), (1, .int x5), (2, .int x6)]) hC dX10_isWanted_32 rfl (by decide) (by decide) (fun _ => rfl) (fun v8 => ?_)
  refine g_goto (pc := 35) (tgt := 2) hC dX10_isWanted_35 (by decide) ?_
  exact gT_sub [1, 2, 3, 0] rfl (hk2 σ x5 x6 v8)
def mX10_isWanted_b2    : Nat → gS → Int32 → Int32 → Int32 → Option (Bool × gS)
  | 0, _, _, _, _ => none
  | n + 1, σ, x2, x3, x4 => if (σ.1 52 3) ≤ x4 then (some (false, σ)) else (if inbB x4 12 = true then (if (σ.1 56 (Int32.toNatClampNeg x4)) = x2 then (if inbB x4 12 = true then (if (σ.1 57 (Int32.toNatClampNeg x4)) = x3 then (some (true, σ)) else ((mX10_isWanted_b32 (mX10_isWanted_b2  n) σ x2 x3 x4))) else none) else ((mX10_isWanted_b32 (mX10_isWanted_b2  n) σ x2 x3 x4))) else none)
set_option maxHeartbeats 4000000 in
set_option maxRecDepth 100000 in
theorem wX10_isWanted_b2 {p : Program} {l : Launch} {e : Env} {s : State} {m : MethodId} {args : Array Value} {below : List Frame} {meth : Method} {c : Code} {G : gE} (hC : gCx p s m args meth c G RX10 cX10_isWanted 4 (some .boolean))     (n : Nat) (σ : gS) (x2 : Int32) (x3 : Int32) (x4 : Int32)  : gT p l e rX10_isWanted s m args below meth c G 4 iZ σ 2 [(0, .ref (G.2.1 52)), (1, .int x2), (2, .int x3), (3, .int x4)] [] (mX10_isWanted_b2  n σ x2 x3 x4) := by
  induction n generalizing σ x2 x3 x4 with
  | zero => exact gT_none
  | succ n ih =>
    unfold mX10_isWanted_b2
    refine g_iload_n (pc := 2) (q := 3) hC dX10_isWanted_2 rfl rfl ?_
    refine g_aload_n (pc := 3) (q := 0) hC dX10_isWanted_3 rfl rfl ?_
    refine g_get (pc := 4) (v := .int (σ.1 52 3)) hC kX10 rfl 3 (by decide) fl_RX10_114 rfl dX10_isWanted_4 ?_
    refine g_icmp_ge (pc := 7) (tgt := 38) hC dX10_isWanted_7 (by decide) ?_ ?_
    · refine g_iconst (pc := 38) (v := 0) hC dX10_isWanted_38 (by decide) ?_
      exact g_zret0 (pc := 39) hC dX10_isWanted_39
    · refine g_aload_n (pc := 10) (q := 0) hC dX10_isWanted_10 rfl rfl ?_
      refine g_get (pc := 11) (v := .ref (G.2.1 56)) hC kX10 rfl 5 (by decide) fl_RX10_21 rfl dX10_isWanted_11 ?_
      refine g_iload_n (pc := 14) (q := 3) hC dX10_isWanted_14 rfl rfl ?_
      refine g_iald (pc := 15) hC 12 rfl (by decide) dX10_isWanted_15 ?_
      refine g_iload_n (pc := 16) (q := 1) hC dX10_isWanted_16 rfl rfl ?_
      refine g_icmp_ne (pc := 17) (tgt := 32) hC dX10_isWanted_17 (by decide) ?_ ?_
      · exact gT_sub [0, 1, 2, 3] rfl (wX10_isWanted_b32 hC ih σ x2 x3 x4)
      · refine g_aload_n (pc := 20) (q := 0) hC dX10_isWanted_20 rfl rfl ?_
        refine g_get (pc := 21) (v := .ref (G.2.1 57)) hC kX10 rfl 6 (by decide) fl_RX10_24 rfl dX10_isWanted_21 ?_
        refine g_iload_n (pc := 24) (q := 3) hC dX10_isWanted_24 rfl rfl ?_
        refine g_iald (pc := 25) hC 12 rfl (by decide) dX10_isWanted_25 ?_
        refine g_iload_n (pc := 26) (q := 2) hC dX10_isWanted_26 rfl rfl ?_
        refine g_icmp_ne (pc := 27) (tgt := 32) hC dX10_isWanted_27 (by decide) ?_ ?_
        · exact gT_sub [0, 1, 2, 3] rfl (wX10_isWanted_b32 hC ih σ x2 x3 x4)
        · refine g_iconst (pc := 30) (v := 1) hC dX10_isWanted_30 (by decide) ?_
          exact g_zret1 (pc := 31) hC dX10_isWanted_31
def mX10_isWanted (σ : gS) (p0 : Int32) (p1 : Int32) : Option (Bool × gS) := gLet 0 (fun v1 => (mX10_isWanted_b2  1100 σ p0 p1 v1))
set_option maxHeartbeats 4000000 in
set_option maxRecDepth 100000 in
theorem tX10_isWanted (l : Launch) (G : gE) (σ : gS) (p0 : Int32) (p1 : Int32) : gM l G yX10_isWanted cX10_isWanted 4 (some .boolean) rX10_isWanted iZ [.ref (G.2.1 52), .int p0, .int p1] σ (mX10_isWanted σ p0 p1) := by
  refine gM_of (by decide) (Nat.le_of_ble_eq_true rfl) ?_
  intro p e s m args below meth c hC
  unfold mX10_isWanted
  show gT p l e rX10_isWanted s m args below meth c G 4 iZ σ 0 [(0, .ref (G.2.1 52)), (1, .int p0), (2, .int p1)] [] _
  refine g_iconst (pc := 0) (v := 0) hC dX10_isWanted_0 (by decide) ?_
  refine g_istore_n (pc := 1) (lv' := fun v1 => [(3, .int v1), (0, .ref (G.2.1 52)), (1, .int p0), (2, .int p1)]) hC dX10_isWanted_1 rfl (by decide) (fun _ => rfl) (fun v1 => ?_)
  exact gT_sub [1, 2, 3, 0] rfl (wX10_isWanted_b2 hC  1100 σ p0 p1 v1)
theorem dX10_plansAll_0 : decode cX10_plansAll 0 = .ok (.aload_n 0, 1) := by decide +kernel
theorem dX10_plansAll_1 : decode cX10_plansAll 1 = .ok (.invokevirtual 243, 3) := by decide +kernel
theorem dX10_plansAll_4 : decode cX10_plansAll 4 = .ok (.iconst 0, 1) := by decide +kernel
theorem dX10_plansAll_5 : decode cX10_plansAll 5 = .ok (.istore_n 1, 1) := by decide +kernel
theorem dX10_plansAll_6 : decode cX10_plansAll 6 = .ok (.iload_n 1, 1) := by decide +kernel
theorem dX10_plansAll_7 : decode cX10_plansAll 7 = .ok (.aload_n 0, 1) := by decide +kernel
theorem dX10_plansAll_8 : decode cX10_plansAll 8 = .ok (.getfield 114, 3) := by decide +kernel
theorem dX10_plansAll_11 : decode cX10_plansAll 11 = .ok (.if_icmp .ge 40, 3) := by decide +kernel
theorem dX10_plansAll_14 : decode cX10_plansAll 14 = .ok (.aload_n 0, 1) := by decide +kernel
theorem dX10_plansAll_15 : decode cX10_plansAll 15 = .ok (.getfield 91, 3) := by decide +kernel
theorem dX10_plansAll_18 : decode cX10_plansAll 18 = .ok (.aload_n 0, 1) := by decide +kernel
theorem dX10_plansAll_19 : decode cX10_plansAll 19 = .ok (.getfield 21, 3) := by decide +kernel
theorem dX10_plansAll_22 : decode cX10_plansAll 22 = .ok (.iload_n 1, 1) := by decide +kernel
theorem dX10_plansAll_23 : decode cX10_plansAll 23 = .ok (.iaload, 1) := by decide +kernel
theorem dX10_plansAll_24 : decode cX10_plansAll 24 = .ok (.aload_n 0, 1) := by decide +kernel
theorem dX10_plansAll_25 : decode cX10_plansAll 25 = .ok (.getfield 91, 3) := by decide +kernel
theorem dX10_plansAll_28 : decode cX10_plansAll 28 = .ok (.aload_n 0, 1) := by decide +kernel
theorem dX10_plansAll_29 : decode cX10_plansAll 29 = .ok (.getfield 21, 3) := by decide +kernel
theorem dX10_plansAll_32 : decode cX10_plansAll 32 = .ok (.iload_n 1, 1) := by decide +kernel
theorem dX10_plansAll_33 : decode cX10_plansAll 33 = .ok (.iaload, 1) := by decide +kernel
theorem dX10_plansAll_34 : decode cX10_plansAll 34 = .ok (.iaload, 1) := by decide +kernel
theorem dX10_plansAll_35 : decode cX10_plansAll 35 = .ok (.aload_n 0, 1) := by decide +kernel
theorem dX10_plansAll_36 : decode cX10_plansAll 36 = .ok (.getfield 24, 3) := by decide +kernel
theorem dX10_plansAll_39 : decode cX10_plansAll 39 = .ok (.iload_n 1, 1) := by decide +kernel
theorem dX10_plansAll_40 : decode cX10_plansAll 40 = .ok (.iaload, 1) := by decide +kernel
theorem dX10_plansAll_41 : decode cX10_plansAll 41 = .ok (.invokestatic 237, 3) := by decide +kernel
theorem dX10_plansAll_44 : decode cX10_plansAll 44 = .ok (.iastore, 1) := by decide +kernel
theorem dX10_plansAll_45 : decode cX10_plansAll 45 = .ok (.iinc 1 1, 3) := by decide +kernel
theorem dX10_plansAll_48 : decode cX10_plansAll 48 = .ok (.goto (-42), 3) := by decide +kernel
theorem dX10_plansAll_51 : decode cX10_plansAll 51 = .ok (.return_, 1) := by decide +kernel
abbrev rX10_plansAll : Room := { frames := 1, cells := 0, slots := 0, locals := 21 }
def mX10_plansAll_b6    : Nat → gS → Int32 → Option (Unit × gS)
  | 0, _, _ => none
  | n + 1, σ, x4 => if (σ.1 52 3) ≤ x4 then (some ((), σ)) else (if inbB x4 12 = true then (if inbB x4 12 = true then (if inbB (σ.1 56 (Int32.toNatClampNeg x4)) 30 = true then (if inbB x4 12 = true then (if inbB (σ.1 56 (Int32.toNatClampNeg x4)) 30 = true then gLet (gUI σ 79 (Int32.toNatClampNeg (σ.1 56 (Int32.toNatClampNeg x4))) (gMax (σ.1 79 (Int32.toNatClampNeg (σ.1 56 (Int32.toNatClampNeg x4)))) (σ.1 57 (Int32.toNatClampNeg x4)))) (fun s5 => gLet (x4 + 1) (fun v6 => ((mX10_plansAll_b6  n) s5 v6))) else none) else none) else none) else none) else none)
set_option maxHeartbeats 4000000 in
set_option maxRecDepth 100000 in
theorem wX10_plansAll_b6 {p : Program} {l : Launch} {e : Env} {s : State} {m : MethodId} {args : Array Value} {below : List Frame} {meth : Method} {c : Code} {G : gE} (hC : gCx p s m args meth c G RX10 cX10_plansAll 2 (none))     (n : Nat) (σ : gS) (x4 : Int32)  : gT p l e rX10_plansAll s m args below meth c G 2 iV σ 6 [(0, .ref (G.2.1 52)), (1, .int x4)] [] (mX10_plansAll_b6  n σ x4) := by
  induction n generalizing σ x4 with
  | zero => exact gT_none
  | succ n ih =>
    unfold mX10_plansAll_b6
    refine g_iload_n (pc := 6) (q := 1) hC dX10_plansAll_6 rfl rfl ?_
    refine g_aload_n (pc := 7) (q := 0) hC dX10_plansAll_7 rfl rfl ?_
    refine g_get (pc := 8) (v := .int (σ.1 52 3)) hC kX10 rfl 3 (by decide) fl_RX10_114 rfl dX10_plansAll_8 ?_
    refine g_icmp_ge (pc := 11) (tgt := 51) hC dX10_plansAll_11 (by decide) ?_ ?_
    · exact g_vret (pc := 51) hC dX10_plansAll_51
    · refine g_aload_n (pc := 14) (q := 0) hC dX10_plansAll_14 rfl rfl ?_
      refine g_get (pc := 15) (v := .ref (G.2.1 79)) hC kX10 rfl 40 (by decide) fl_RX10_91 rfl dX10_plansAll_15 ?_
      refine g_aload_n (pc := 18) (q := 0) hC dX10_plansAll_18 rfl rfl ?_
      refine g_get (pc := 19) (v := .ref (G.2.1 56)) hC kX10 rfl 5 (by decide) fl_RX10_21 rfl dX10_plansAll_19 ?_
      refine g_iload_n (pc := 22) (q := 1) hC dX10_plansAll_22 rfl rfl ?_
      refine g_iald (pc := 23) hC 12 rfl (by decide) dX10_plansAll_23 ?_
      refine g_aload_n (pc := 24) (q := 0) hC dX10_plansAll_24 rfl rfl ?_
      refine g_get (pc := 25) (v := .ref (G.2.1 79)) hC kX10 rfl 40 (by decide) fl_RX10_91 rfl dX10_plansAll_25 ?_
      refine g_aload_n (pc := 28) (q := 0) hC dX10_plansAll_28 rfl rfl ?_
      refine g_get (pc := 29) (v := .ref (G.2.1 56)) hC kX10 rfl 5 (by decide) fl_RX10_21 rfl dX10_plansAll_29 ?_
      refine g_iload_n (pc := 32) (q := 1) hC dX10_plansAll_32 rfl rfl ?_
      refine g_iald (pc := 33) hC 12 rfl (by decide) dX10_plansAll_33 ?_
      refine g_iald (pc := 34) hC 30 rfl (by decide) dX10_plansAll_34 ?_
      refine g_aload_n (pc := 35) (q := 0) hC dX10_plansAll_35 rfl rfl ?_
      refine g_get (pc := 36) (v := .ref (G.2.1 57)) hC kX10 rfl 6 (by decide) fl_RX10_24 rfl dX10_plansAll_36 ?_
      refine g_iload_n (pc := 39) (q := 1) hC dX10_plansAll_39 rfl rfl ?_
      refine g_iald (pc := 40) hC 12 rfl (by decide) dX10_plansAll_40 ?_
      refine g_max (pc := 41) hC mth_RX10_237 ⟨Nat.le_of_ble_eq_true rfl, Nat.le_of_ble_eq_true rfl⟩ (Nat.le_of_ble_eq_true rfl) dX10_plansAll_41 ?_
      refine g_iast (pc := 44) hC 30 rfl (by decide) dX10_plansAll_44 (fun s5 => ?_)
      refine g_iinc (pc := 45) (q := 1) (w := 1) (lv' := fun v6 => [(1, .int v6), (0, .ref (G.2.1 52))]) hC dX10_plansAll_45 rfl (by decide) (by decide) (fun _ => rfl) (fun v6 => ?_)
      refine g_goto (pc := 48) (tgt := 6) hC dX10_plansAll_48 (by decide) ?_
      exact gT_sub [1, 0] rfl (ih s5 v6)
def mX10_plansAll (σ : gS)  : Option (Unit × gS) := gBind (mX10_idles σ ) (fun r1 s2 => gLet 0 (fun v3 => (mX10_plansAll_b6  1100 s2 v3)))
set_option maxHeartbeats 4000000 in
set_option maxRecDepth 100000 in
theorem tX10_plansAll (l : Launch) (G : gE) (σ : gS)  : gM l G yX10_plansAll cX10_plansAll 2 (none) rX10_plansAll iV [.ref (G.2.1 52)] σ (mX10_plansAll σ ) := by
  refine gM_of (by decide) (Nat.le_of_ble_eq_true rfl) ?_
  intro p e s m args below meth c hC
  unfold mX10_plansAll
  show gT p l e rX10_plansAll s m args below meth c G 2 iV σ 0 [(0, .ref (G.2.1 52))] [] _
  refine g_aload_n (pc := 0) (q := 0) hC dX10_plansAll_0 rfl rfl ?_
  refine g_callVv (pc := 1) (As := []) (rest := []) hC lk_RX10_243 kX10 rfl (tX10_idles _ _ σ ) rfl rfl (Nat.le_of_ble_eq_true rfl) ⟨rfl, rfl, Nat.le_of_ble_eq_true rfl, Nat.le_of_ble_eq_true rfl⟩ dX10_plansAll_1 (fun r1 s2 => ?_)
  refine g_iconst (pc := 4) (v := 0) hC dX10_plansAll_4 (by decide) ?_
  refine g_istore_n (pc := 5) (lv' := fun v3 => [(1, .int v3), (0, .ref (G.2.1 52))]) hC dX10_plansAll_5 rfl (by decide) (fun _ => rfl) (fun v3 => ?_)
  exact gT_sub [1, 0] rfl (wX10_plansAll_b6 hC  1100 s2 v3)
theorem dX10_firstUnmet_0 : decode cX10_firstUnmet 0 = .ok (.iconst 0, 1) := by decide +kernel
theorem dX10_firstUnmet_1 : decode cX10_firstUnmet 1 = .ok (.istore_n 1, 1) := by decide +kernel
theorem dX10_firstUnmet_2 : decode cX10_firstUnmet 2 = .ok (.iload_n 1, 1) := by decide +kernel
theorem dX10_firstUnmet_3 : decode cX10_firstUnmet 3 = .ok (.aload_n 0, 1) := by decide +kernel
theorem dX10_firstUnmet_4 : decode cX10_firstUnmet 4 = .ok (.getfield 114, 3) := by decide +kernel
theorem dX10_firstUnmet_7 : decode cX10_firstUnmet 7 = .ok (.if_icmp .ge 44, 3) := by decide +kernel
theorem dX10_firstUnmet_10 : decode cX10_firstUnmet 10 = .ok (.aload_n 0, 1) := by decide +kernel
theorem dX10_firstUnmet_11 : decode cX10_firstUnmet 11 = .ok (.getfield 21, 3) := by decide +kernel
theorem dX10_firstUnmet_14 : decode cX10_firstUnmet 14 = .ok (.iload_n 1, 1) := by decide +kernel
theorem dX10_firstUnmet_15 : decode cX10_firstUnmet 15 = .ok (.iaload, 1) := by decide +kernel
theorem dX10_firstUnmet_16 : decode cX10_firstUnmet 16 = .ok (.aload_n 0, 1) := by decide +kernel
theorem dX10_firstUnmet_17 : decode cX10_firstUnmet 17 = .ok (.invokevirtual 246, 3) := by decide +kernel
theorem dX10_firstUnmet_20 : decode cX10_firstUnmet 20 = .ok (.if_icmp .lt 25, 3) := by decide +kernel
theorem dX10_firstUnmet_23 : decode cX10_firstUnmet 23 = .ok (.aload_n 0, 1) := by decide +kernel
theorem dX10_firstUnmet_24 : decode cX10_firstUnmet 24 = .ok (.getfield 97, 3) := by decide +kernel
theorem dX10_firstUnmet_27 : decode cX10_firstUnmet 27 = .ok (.aload_n 0, 1) := by decide +kernel
theorem dX10_firstUnmet_28 : decode cX10_firstUnmet 28 = .ok (.getfield 21, 3) := by decide +kernel
theorem dX10_firstUnmet_31 : decode cX10_firstUnmet 31 = .ok (.iload_n 1, 1) := by decide +kernel
theorem dX10_firstUnmet_32 : decode cX10_firstUnmet 32 = .ok (.iaload, 1) := by decide +kernel
theorem dX10_firstUnmet_33 : decode cX10_firstUnmet 33 = .ok (.iaload, 1) := by decide +kernel
theorem dX10_firstUnmet_34 : decode cX10_firstUnmet 34 = .ok (.aload_n 0, 1) := by decide +kernel
theorem dX10_firstUnmet_35 : decode cX10_firstUnmet 35 = .ok (.getfield 24, 3) := by decide +kernel
theorem dX10_firstUnmet_38 : decode cX10_firstUnmet 38 = .ok (.iload_n 1, 1) := by decide +kernel
theorem dX10_firstUnmet_39 : decode cX10_firstUnmet 39 = .ok (.iaload, 1) := by decide +kernel
theorem dX10_firstUnmet_40 : decode cX10_firstUnmet 40 = .ok (.if_icmp .ge 5, 3) := by decide +kernel
theorem dX10_firstUnmet_43 : decode cX10_firstUnmet 43 = .ok (.iload_n 1, 1) := by decide +kernel
theorem dX10_firstUnmet_44 : decode cX10_firstUnmet 44 = .ok (.ireturn, 1) := by decide +kernel
theorem dX10_firstUnmet_45 : decode cX10_firstUnmet 45 = .ok (.iinc 1 1, 3) := by decide +kernel
theorem dX10_firstUnmet_48 : decode cX10_firstUnmet 48 = .ok (.goto (-46), 3) := by decide +kernel
theorem dX10_firstUnmet_51 : decode cX10_firstUnmet 51 = .ok (.bipush (-2), 2) := by decide +kernel
theorem dX10_firstUnmet_53 : decode cX10_firstUnmet 53 = .ok (.ireturn, 1) := by decide +kernel
abbrev rX10_firstUnmet : Room := { frames := 1, cells := 0, slots := 0, locals := 20 }
def mX10_firstUnmet_b45   (k2 : gS → Int32 → Option (Int32 × gS)) (σ : gS) (x5 : Int32) : Option (Int32 × gS) := gLet (x5 + 1) (fun v6 => (k2 σ v6))
set_option maxHeartbeats 4000000 in
set_option maxRecDepth 100000 in
theorem wX10_firstUnmet_b45 {p : Program} {l : Launch} {e : Env} {s : State} {m : MethodId} {args : Array Value} {below : List Frame} {meth : Method} {c : Code} {G : gE} (hC : gCx p s m args meth c G RX10 cX10_firstUnmet 2 (some .int))    {k2 : gS → Int32 → Option (Int32 × gS)} (hk2 : ∀ (σ : gS) (x2 : Int32), gT p l e rX10_firstUnmet s m args below meth c G 2 iI σ 2 [(0, .ref (G.2.1 52)), (1, .int x2)] [] (k2 σ x2)) (σ : gS) (x5 : Int32)  : gT p l e rX10_firstUnmet s m args below meth c G 2 iI σ 45 [(0, .ref (G.2.1 52)), (1, .int x5)] [] (mX10_firstUnmet_b45 k2 σ x5) := by
  unfold mX10_firstUnmet_b45
  refine g_iinc (pc := 45) (q := 1) (w := 1) (lv' := fun v6 => [(1, .int v6), (0, .ref (G.2.1 52))]) hC dX10_firstUnmet_45 rfl (by decide) (by decide) (fun _ => rfl) (fun v6 => ?_)
  refine g_goto (pc := 48) (tgt := 2) hC dX10_firstUnmet_48 (by decide) ?_
  exact gT_sub [1, 0] rfl (hk2 σ v6)
def mX10_firstUnmet_b2    : Nat → gS → Int32 → Option (Int32 × gS)
  | 0, _, _ => none
  | n + 1, σ, x2 => if (σ.1 52 3) ≤ x2 then (some ((-2), σ)) else (if inbB x2 12 = true then (gBind (mX10_now σ ) (fun r3 s4 => if (σ.1 56 (Int32.toNatClampNeg x2)) < r3 then ((mX10_firstUnmet_b45 (mX10_firstUnmet_b2  n) s4 x2)) else (if inbB x2 12 = true then (if inbB (s4.1 56 (Int32.toNatClampNeg x2)) 30 = true then (if inbB x2 12 = true then (if (s4.1 57 (Int32.toNatClampNeg x2)) ≤ (s4.1 81 (Int32.toNatClampNeg (s4.1 56 (Int32.toNatClampNeg x2)))) then ((mX10_firstUnmet_b45 (mX10_firstUnmet_b2  n) s4 x2)) else (some (x2, s4))) else none) else none) else none))) else none)
set_option maxHeartbeats 4000000 in
set_option maxRecDepth 100000 in
theorem wX10_firstUnmet_b2 {p : Program} {l : Launch} {e : Env} {s : State} {m : MethodId} {args : Array Value} {below : List Frame} {meth : Method} {c : Code} {G : gE} (hC : gCx p s m args meth c G RX10 cX10_firstUnmet 2 (some .int))     (n : Nat) (σ : gS) (x2 : Int32)  : gT p l e rX10_firstUnmet s m args below meth c G 2 iI σ 2 [(0, .ref (G.2.1 52)), (1, .int x2)] [] (mX10_firstUnmet_b2  n σ x2) := by
  induction n generalizing σ x2 with
  | zero => exact gT_none
  | succ n ih =>
    unfold mX10_firstUnmet_b2
    refine g_iload_n (pc := 2) (q := 1) hC dX10_firstUnmet_2 rfl rfl ?_
    refine g_aload_n (pc := 3) (q := 0) hC dX10_firstUnmet_3 rfl rfl ?_
    refine g_get (pc := 4) (v := .int (σ.1 52 3)) hC kX10 rfl 3 (by decide) fl_RX10_114 rfl dX10_firstUnmet_4 ?_
    refine g_icmp_ge (pc := 7) (tgt := 51) hC dX10_firstUnmet_7 (by decide) ?_ ?_
    · refine g_bipush (pc := 51) (v := (-2)) hC dX10_firstUnmet_51 (by decide) ?_
      exact g_iret (pc := 53) hC dX10_firstUnmet_53
    · refine g_aload_n (pc := 10) (q := 0) hC dX10_firstUnmet_10 rfl rfl ?_
      refine g_get (pc := 11) (v := .ref (G.2.1 56)) hC kX10 rfl 5 (by decide) fl_RX10_21 rfl dX10_firstUnmet_11 ?_
      refine g_iload_n (pc := 14) (q := 1) hC dX10_firstUnmet_14 rfl rfl ?_
      refine g_iald (pc := 15) hC 12 rfl (by decide) dX10_firstUnmet_15 ?_
      refine g_aload_n (pc := 16) (q := 0) hC dX10_firstUnmet_16 rfl rfl ?_
      refine g_callVi (pc := 17) (As := []) (rest := [.int (σ.1 56 (Int32.toNatClampNeg x2))]) hC lk_RX10_246 kX10 rfl (tX10_now _ _ σ ) rfl rfl (Nat.le_of_ble_eq_true rfl) ⟨rfl, rfl, Nat.le_of_ble_eq_true rfl, Nat.le_of_ble_eq_true rfl⟩ dX10_firstUnmet_17 (fun r3 s4 => ?_)
      refine g_icmp_lt (pc := 20) (tgt := 45) hC dX10_firstUnmet_20 (by decide) ?_ ?_
      · exact gT_sub [0, 1] rfl (wX10_firstUnmet_b45 hC ih s4 x2)
      · refine g_aload_n (pc := 23) (q := 0) hC dX10_firstUnmet_23 rfl rfl ?_
        refine g_get (pc := 24) (v := .ref (G.2.1 81)) hC kX10 rfl 42 (by decide) fl_RX10_97 rfl dX10_firstUnmet_24 ?_
        refine g_aload_n (pc := 27) (q := 0) hC dX10_firstUnmet_27 rfl rfl ?_
        refine g_get (pc := 28) (v := .ref (G.2.1 56)) hC kX10 rfl 5 (by decide) fl_RX10_21 rfl dX10_firstUnmet_28 ?_
        refine g_iload_n (pc := 31) (q := 1) hC dX10_firstUnmet_31 rfl rfl ?_
        refine g_iald (pc := 32) hC 12 rfl (by decide) dX10_firstUnmet_32 ?_
        refine g_iald (pc := 33) hC 30 rfl (by decide) dX10_firstUnmet_33 ?_
        refine g_aload_n (pc := 34) (q := 0) hC dX10_firstUnmet_34 rfl rfl ?_
        refine g_get (pc := 35) (v := .ref (G.2.1 57)) hC kX10 rfl 6 (by decide) fl_RX10_24 rfl dX10_firstUnmet_35 ?_
        refine g_iload_n (pc := 38) (q := 1) hC dX10_firstUnmet_38 rfl rfl ?_
        refine g_iald (pc := 39) hC 12 rfl (by decide) dX10_firstUnmet_39 ?_
        refine g_icmp_ge (pc := 40) (tgt := 45) hC dX10_firstUnmet_40 (by decide) ?_ ?_
        · exact gT_sub [0, 1] rfl (wX10_firstUnmet_b45 hC ih s4 x2)
        · refine g_iload_n (pc := 43) (q := 1) hC dX10_firstUnmet_43 rfl rfl ?_
          exact g_iret (pc := 44) hC dX10_firstUnmet_44
def mX10_firstUnmet (σ : gS)  : Option (Int32 × gS) := gLet 0 (fun v1 => (mX10_firstUnmet_b2  1100 σ v1))
set_option maxHeartbeats 4000000 in
set_option maxRecDepth 100000 in
theorem tX10_firstUnmet (l : Launch) (G : gE) (σ : gS)  : gM l G yX10_firstUnmet cX10_firstUnmet 2 (some .int) rX10_firstUnmet iI [.ref (G.2.1 52)] σ (mX10_firstUnmet σ ) := by
  refine gM_of (by decide) (Nat.le_of_ble_eq_true rfl) ?_
  intro p e s m args below meth c hC
  unfold mX10_firstUnmet
  show gT p l e rX10_firstUnmet s m args below meth c G 2 iI σ 0 [(0, .ref (G.2.1 52))] [] _
  refine g_iconst (pc := 0) (v := 0) hC dX10_firstUnmet_0 (by decide) ?_
  refine g_istore_n (pc := 1) (lv' := fun v1 => [(1, .int v1), (0, .ref (G.2.1 52))]) hC dX10_firstUnmet_1 rfl (by decide) (fun _ => rfl) (fun v1 => ?_)
  exact gT_sub [1, 0] rfl (wX10_firstUnmet_b2 hC  1100 σ v1)
theorem lk_RX10_297 : gLV RX10 297 RX10 yX10_firstUnmet cX10_firstUnmet 2 (some .int) 0 := ⟨(gBig_tab 1420 (by decide +kernel) (by decide +kernel)), (gBig_tab 1422 (by decide +kernel) (by decide +kernel)), (gBig_sel 79 (by decide +kernel) (by decide +kernel)), (gBig_tab 11 (by decide +kernel) (by decide +kernel)), (gBig_tab 1423 (by decide +kernel) (by decide +kernel)), rfl, by decide +kernel, by decide +kernel, by decide +kernel⟩
theorem lk_RX10_294 : gLV RX10 294 RX10 yX10_plansAll cX10_plansAll 2 (none) 0 := ⟨(gBig_tab 1416 (by decide +kernel) (by decide +kernel)), (gBig_tab 1418 (by decide +kernel) (by decide +kernel)), (gBig_sel 78 (by decide +kernel) (by decide +kernel)), (gBig_tab 11 (by decide +kernel) (by decide +kernel)), (gBig_tab 1419 (by decide +kernel) (by decide +kernel)), rfl, by decide +kernel, by decide +kernel, by decide +kernel⟩
theorem dX10_all_0 : decode cX10_all 0 = .ok (.iload_n 1, 1) := by decide +kernel
theorem dX10_all_1 : decode cX10_all 1 = .ok (.iconst 0, 1) := by decide +kernel
theorem dX10_all_2 : decode cX10_all 2 = .ok (.iconst 1, 1) := by decide +kernel
theorem dX10_all_3 : decode cX10_all 3 = .ok (.invokestatic 110, 3) := by decide +kernel
theorem dX10_all_6 : decode cX10_all 6 = .ok (.ifCond .ne 5, 3) := by decide +kernel
theorem dX10_all_9 : decode cX10_all 9 = .ok (.iconst (-1), 1) := by decide +kernel
theorem dX10_all_10 : decode cX10_all 10 = .ok (.ireturn, 1) := by decide +kernel
theorem dX10_all_11 : decode cX10_all 11 = .ok (.aload_n 0, 1) := by decide +kernel
theorem dX10_all_12 : decode cX10_all 12 = .ok (.invokevirtual 294, 3) := by decide +kernel
theorem dX10_all_15 : decode cX10_all 15 = .ok (.iload_n 1, 1) := by decide +kernel
theorem dX10_all_16 : decode cX10_all 16 = .ok (.ifCond .ne 18, 3) := by decide +kernel
theorem dX10_all_19 : decode cX10_all 19 = .ok (.aload_n 0, 1) := by decide +kernel
theorem dX10_all_20 : decode cX10_all 20 = .ok (.aload_n 0, 1) := by decide +kernel
theorem dX10_all_21 : decode cX10_all 21 = .ok (.getfield 30, 3) := by decide +kernel
theorem dX10_all_24 : decode cX10_all 24 = .ok (.iconst 0, 1) := by decide +kernel
theorem dX10_all_25 : decode cX10_all 25 = .ok (.iaload, 1) := by decide +kernel
theorem dX10_all_26 : decode cX10_all 26 = .ok (.invokevirtual 274, 3) := by decide +kernel
theorem dX10_all_29 : decode cX10_all 29 = .ok (.aload_n 0, 1) := by decide +kernel
theorem dX10_all_30 : decode cX10_all 30 = .ok (.invokevirtual 297, 3) := by decide +kernel
theorem dX10_all_33 : decode cX10_all 33 = .ok (.ireturn, 1) := by decide +kernel
theorem dX10_all_34 : decode cX10_all 34 = .ok (.iconst 0, 1) := by decide +kernel
theorem dX10_all_35 : decode cX10_all 35 = .ok (.istore_n 2, 1) := by decide +kernel
theorem dX10_all_36 : decode cX10_all 36 = .ok (.iload_n 2, 1) := by decide +kernel
theorem dX10_all_37 : decode cX10_all 37 = .ok (.sipush 1000, 3) := by decide +kernel
theorem dX10_all_40 : decode cX10_all 40 = .ok (.if_icmp .ge 34, 3) := by decide +kernel
theorem dX10_all_43 : decode cX10_all 43 = .ok (.aload_n 0, 1) := by decide +kernel
theorem dX10_all_44 : decode cX10_all 44 = .ok (.iload_n 2, 1) := by decide +kernel
theorem dX10_all_45 : decode cX10_all 45 = .ok (.invokevirtual 274, 3) := by decide +kernel
theorem dX10_all_48 : decode cX10_all 48 = .ok (.aload_n 0, 1) := by decide +kernel
theorem dX10_all_49 : decode cX10_all 49 = .ok (.invokevirtual 297, 3) := by decide +kernel
theorem dX10_all_52 : decode cX10_all 52 = .ok (.bipush (-2), 2) := by decide +kernel
theorem dX10_all_54 : decode cX10_all 54 = .ok (.if_icmp .ne 14, 3) := by decide +kernel
theorem dX10_all_57 : decode cX10_all 57 = .ok (.aload_n 0, 1) := by decide +kernel
theorem dX10_all_58 : decode cX10_all 58 = .ok (.getfield 249, 3) := by decide +kernel
theorem dX10_all_61 : decode cX10_all 61 = .ok (.bipush (-2), 2) := by decide +kernel
theorem dX10_all_63 : decode cX10_all 63 = .ok (.if_icmp .ne 5, 3) := by decide +kernel
theorem dX10_all_66 : decode cX10_all 66 = .ok (.iload_n 2, 1) := by decide +kernel
theorem dX10_all_67 : decode cX10_all 67 = .ok (.ireturn, 1) := by decide +kernel
theorem dX10_all_68 : decode cX10_all 68 = .ok (.iinc 2 1, 3) := by decide +kernel
theorem dX10_all_71 : decode cX10_all 71 = .ok (.goto (-35), 3) := by decide +kernel
theorem dX10_all_74 : decode cX10_all 74 = .ok (.bipush (-2), 2) := by decide +kernel
theorem dX10_all_76 : decode cX10_all 76 = .ok (.ireturn, 1) := by decide +kernel
abbrev rX10_all : Room := { frames := 5, cells := 0, slots := 0, locals := 117 }
def mX10_all_b68   (k36 : gS → Int32 → Option (Int32 × gS)) (σ : gS) (x11 : Int32) : Option (Int32 × gS) := gLet (x11 + 1) (fun v12 => (k36 σ v12))
set_option maxHeartbeats 4000000 in
set_option maxRecDepth 100000 in
theorem wX10_all_b68 {p : Program} {l : Launch} {e : Env} {s : State} {m : MethodId} {args : Array Value} {below : List Frame} {meth : Method} {c : Code} {G : gE} (hC : gCx p s m args meth c G RX10 cX10_all 3 (some .int))    {k36 : gS → Int32 → Option (Int32 × gS)} (hk36 : ∀ (σ : gS) (x6 : Int32), gT p l e rX10_all s m args below meth c G 3 iI σ 36 [(0, .ref (G.2.1 52)), (2, .int x6)] [] (k36 σ x6)) (σ : gS) (x11 : Int32)  : gT p l e rX10_all s m args below meth c G 3 iI σ 68 [(0, .ref (G.2.1 52)), (2, .int x11)] [] (mX10_all_b68 k36 σ x11) := by
  unfold mX10_all_b68
  refine g_iinc (pc := 68) (q := 1) (w := 1) (lv' := fun v12 => [(2, .int v12), (0, .ref (G.2.1 52))]) hC dX10_all_68 rfl (by decide) (by decide) (fun _ => rfl) (fun v12 => ?_)
  refine g_goto (pc := 71) (tgt := 36) hC dX10_all_71 (by decide) ?_
  exact gT_sub [1, 0] rfl (hk36 σ v12)
def mX10_all_b36    : Nat → gS → Int32 → Option (Int32 × gS)
  | 0, _, _ => none
  | n + 1, σ, x6 => if 1000 ≤ x6 then (some ((-2), σ)) else (gBind (mX10_walks σ x6) (fun r7 s8 => gBind (mX10_firstUnmet s8 ) (fun r9 s10 => if r9 = (-2) then (if (s10.1 52 43) = (-2) then (some (x6, s10)) else ((mX10_all_b68 (mX10_all_b36  n) s10 x6))) else ((mX10_all_b68 (mX10_all_b36  n) s10 x6)))))
set_option maxHeartbeats 4000000 in
set_option maxRecDepth 100000 in
theorem wX10_all_b36 {p : Program} {l : Launch} {e : Env} {s : State} {m : MethodId} {args : Array Value} {below : List Frame} {meth : Method} {c : Code} {G : gE} (hC : gCx p s m args meth c G RX10 cX10_all 3 (some .int))     (n : Nat) (σ : gS) (x6 : Int32)  : gT p l e rX10_all s m args below meth c G 3 iI σ 36 [(0, .ref (G.2.1 52)), (2, .int x6)] [] (mX10_all_b36  n σ x6) := by
  induction n generalizing σ x6 with
  | zero => exact gT_none
  | succ n ih =>
    unfold mX10_all_b36
    refine g_iload_n (pc := 36) (q := 1) hC dX10_all_36 rfl rfl ?_
    refine g_sipush (pc := 37) (v := 1000) hC dX10_all_37 (by decide) ?_
    refine g_icmp_ge (pc := 40) (tgt := 74) hC dX10_all_40 (by decide) ?_ ?_
    · refine g_bipush (pc := 74) (v := (-2)) hC dX10_all_74 (by decide) ?_
      exact g_iret (pc := 76) hC dX10_all_76
    · refine g_aload_n (pc := 43) (q := 0) hC dX10_all_43 rfl rfl ?_
      refine g_iload_n (pc := 44) (q := 1) hC dX10_all_44 rfl rfl ?_
      refine g_callVv (pc := 45) (As := [.int x6]) (rest := []) hC lk_RX10_274 kX10 rfl (tX10_walks _ _ σ x6) rfl rfl (Nat.le_of_ble_eq_true rfl) ⟨rfl, rfl, Nat.le_of_ble_eq_true rfl, Nat.le_of_ble_eq_true rfl⟩ dX10_all_45 (fun r7 s8 => ?_)
      refine g_aload_n (pc := 48) (q := 0) hC dX10_all_48 rfl rfl ?_
      refine g_callVi (pc := 49) (As := []) (rest := []) hC lk_RX10_297 kX10 rfl (tX10_firstUnmet _ _ s8 ) rfl rfl (Nat.le_of_ble_eq_true rfl) ⟨rfl, rfl, Nat.le_of_ble_eq_true rfl, Nat.le_of_ble_eq_true rfl⟩ dX10_all_49 (fun r9 s10 => ?_)
      refine g_bipush (pc := 52) (v := (-2)) hC dX10_all_52 (by decide) ?_
      refine g_icmp_ne (pc := 54) (tgt := 68) hC dX10_all_54 (by decide) ?_ ?_
      · exact gT_sub [0, 1] rfl (wX10_all_b68 hC ih s10 x6)
      · refine g_aload_n (pc := 57) (q := 0) hC dX10_all_57 rfl rfl ?_
        refine g_get (pc := 58) (v := .int (s10.1 52 43)) hC kX10 rfl 43 (by decide) fl_RX10_249 rfl dX10_all_58 ?_
        refine g_bipush (pc := 61) (v := (-2)) hC dX10_all_61 (by decide) ?_
        refine g_icmp_ne (pc := 63) (tgt := 68) hC dX10_all_63 (by decide) ?_ ?_
        · exact gT_sub [0, 1] rfl (wX10_all_b68 hC ih s10 x6)
        · refine g_iload_n (pc := 66) (q := 1) hC dX10_all_66 rfl rfl ?_
          exact g_iret (pc := 67) hC dX10_all_67
def mX10_all (σ : gS) (p0 : Int32) : Option (Int32 × gS) := gBind (mX10_within σ p0 0 1) (fun r1 s2 => if r1 = true then (gBind (mX10_plansAll s2 ) (fun r3 s4 => if p0 = 0 then (if inbB 0 5 = true then (gBind (mX10_walks s4 (s4.1 59 (Int32.toNatClampNeg 0))) (fun r13 s14 => gBind (mX10_firstUnmet s14 ) (fun r15 s16 => some (r15, s16)))) else none) else (gLet 0 (fun v5 => (mX10_all_b36  1100 s4 v5))))) else (some ((-1), s2)))
set_option maxHeartbeats 4000000 in
set_option maxRecDepth 100000 in
theorem tX10_all (l : Launch) (G : gE) (σ : gS) (p0 : Int32) : gM l G yX10_all cX10_all 3 (some .int) rX10_all iI [.ref (G.2.1 52), .int p0] σ (mX10_all σ p0) := by
  refine gM_of (by decide) (Nat.le_of_ble_eq_true rfl) ?_
  intro p e s m args below meth c hC
  unfold mX10_all
  show gT p l e rX10_all s m args below meth c G 3 iI σ 0 [(0, .ref (G.2.1 52)), (1, .int p0)] [] _
  refine g_iload_n (pc := 0) (q := 1) hC dX10_all_0 rfl rfl ?_
  refine g_iconst (pc := 1) (v := 0) hC dX10_all_1 (by decide) ?_
  refine g_iconst (pc := 2) (v := 1) hC dX10_all_2 (by decide) ?_
  refine g_callSz (pc := 3) (As := [.int p0, .int 0, .int 1]) (rest := []) hC lk_RX10_110 (tX10_within _ _ σ p0 0 1) rfl rfl (Nat.le_of_ble_eq_true rfl) ⟨rfl, rfl, Nat.le_of_ble_eq_true rfl, Nat.le_of_ble_eq_true rfl⟩ dX10_all_3 (fun r1 s2 => ?_)
  refine g_bif_ne (pc := 6) (tgt := 11) hC dX10_all_6 (by decide) ?_ ?_
  · refine g_aload_n (pc := 11) (q := 0) hC dX10_all_11 rfl rfl ?_
    refine g_callVv (pc := 12) (As := []) (rest := []) hC lk_RX10_294 kX10 rfl (tX10_plansAll _ _ s2 ) rfl rfl (Nat.le_of_ble_eq_true rfl) ⟨rfl, rfl, Nat.le_of_ble_eq_true rfl, Nat.le_of_ble_eq_true rfl⟩ dX10_all_12 (fun r3 s4 => ?_)
    refine g_iload_n (pc := 15) (q := 1) hC dX10_all_15 rfl rfl ?_
    refine g_if_ne (pc := 16) (tgt := 34) hC dX10_all_16 (by decide) ?_ ?_
    · refine g_iconst (pc := 34) (v := 0) hC dX10_all_34 (by decide) ?_
      refine g_istore_n (pc := 35) (lv' := fun v5 => [(2, .int v5), (0, .ref (G.2.1 52)), (1, .int p0)]) hC dX10_all_35 rfl (by decide) (fun _ => rfl) (fun v5 => ?_)
      exact gT_sub [1, 0] rfl (wX10_all_b36 hC  1100 s4 v5)
    · refine g_aload_n (pc := 19) (q := 0) hC dX10_all_19 rfl rfl ?_
      refine g_aload_n (pc := 20) (q := 0) hC dX10_all_20 rfl rfl ?_
      refine g_get (pc := 21) (v := .ref (G.2.1 59)) hC kX10 rfl 8 (by decide) fl_RX10_30 rfl dX10_all_21 ?_
      refine g_iconst (pc := 24) (v := 0) hC dX10_all_24 (by decide) ?_
      refine g_iald (pc := 25) hC 5 rfl (by decide) dX10_all_25 ?_
      refine g_callVv (pc := 26) (As := [.int (s4.1 59 (Int32.toNatClampNeg 0))]) (rest := []) hC lk_RX10_274 kX10 rfl (tX10_walks _ _ s4 (s4.1 59 (Int32.toNatClampNeg 0))) rfl rfl (Nat.le_of_ble_eq_true rfl) ⟨rfl, rfl, Nat.le_of_ble_eq_true rfl, Nat.le_of_ble_eq_true rfl⟩ dX10_all_26 (fun r13 s14 => ?_)
      refine g_aload_n (pc := 29) (q := 0) hC dX10_all_29 rfl rfl ?_
      refine g_callVi (pc := 30) (As := []) (rest := []) hC lk_RX10_297 kX10 rfl (tX10_firstUnmet _ _ s14 ) rfl rfl (Nat.le_of_ble_eq_true rfl) ⟨rfl, rfl, Nat.le_of_ble_eq_true rfl, Nat.le_of_ble_eq_true rfl⟩ dX10_all_30 (fun r15 s16 => ?_)
      exact g_iret (pc := 33) hC dX10_all_33
  · refine g_iconst (pc := 9) (v := (-1)) hC dX10_all_9 (by decide) ?_
    exact g_iret (pc := 10) hC dX10_all_10
theorem dX10_isHours_0 : decode cX10_isHours 0 = .ok (.iload_n 0, 1) := by decide +kernel
theorem dX10_isHours_1 : decode cX10_isHours 1 = .ok (.ifCond .lt 26, 3) := by decide +kernel
theorem dX10_isHours_4 : decode cX10_isHours 4 = .ok (.iload_n 0, 1) := by decide +kernel
theorem dX10_isHours_5 : decode cX10_isHours 5 = .ok (.bipush 100, 2) := by decide +kernel
theorem dX10_isHours_7 : decode cX10_isHours 7 = .ok (.idiv, 1) := by decide +kernel
theorem dX10_isHours_8 : decode cX10_isHours 8 = .ok (.invokestatic 121, 3) := by decide +kernel
theorem dX10_isHours_11 : decode cX10_isHours 11 = .ok (.ifCond .eq 16, 3) := by decide +kernel
theorem dX10_isHours_14 : decode cX10_isHours 14 = .ok (.iload_n 0, 1) := by decide +kernel
theorem dX10_isHours_15 : decode cX10_isHours 15 = .ok (.bipush 100, 2) := by decide +kernel
theorem dX10_isHours_17 : decode cX10_isHours 17 = .ok (.irem, 1) := by decide +kernel
theorem dX10_isHours_18 : decode cX10_isHours 18 = .ok (.bipush 25, 2) := by decide +kernel
theorem dX10_isHours_20 : decode cX10_isHours 20 = .ok (.if_icmp .ge 7, 3) := by decide +kernel
theorem dX10_isHours_23 : decode cX10_isHours 23 = .ok (.iconst 1, 1) := by decide +kernel
theorem dX10_isHours_24 : decode cX10_isHours 24 = .ok (.goto 4, 3) := by decide +kernel
theorem dX10_isHours_27 : decode cX10_isHours 27 = .ok (.iconst 0, 1) := by decide +kernel
theorem dX10_isHours_28 : decode cX10_isHours 28 = .ok (.ireturn, 1) := by decide +kernel
abbrev rX10_isHours : Room := { frames := 2, cells := 0, slots := 0, locals := 42 }
def mX10_isHours (σ : gS) (p0 : Int32) : Option (Bool × gS) := if p0 < 0 then (some (false, σ)) else (gBind (mX10_isDay σ (p0 / 100)) (fun r1 s2 => if r1 = true then (if 25 ≤ (gRem p0 100) then (some (false, s2)) else (some (true, s2))) else (some (false, s2))))
set_option maxHeartbeats 4000000 in
set_option maxRecDepth 100000 in
theorem tX10_isHours (l : Launch) (G : gE) (σ : gS) (p0 : Int32) : gM l G yX10_isHours cX10_isHours 1 (some .boolean) rX10_isHours iZ [.int p0] σ (mX10_isHours σ p0) := by
  refine gM_of (by decide) (Nat.le_of_ble_eq_true rfl) ?_
  intro p e s m args below meth c hC
  unfold mX10_isHours
  show gT p l e rX10_isHours s m args below meth c G 1 iZ σ 0 [(0, .int p0)] [] _
  refine g_iload_n (pc := 0) (q := 0) hC dX10_isHours_0 rfl rfl ?_
  refine g_if_lt (pc := 1) (tgt := 27) hC dX10_isHours_1 (by decide) ?_ ?_
  · refine g_iconst (pc := 27) (v := 0) hC dX10_isHours_27 (by decide) ?_
    exact g_zret0 (pc := 28) hC dX10_isHours_28
  · refine g_iload_n (pc := 4) (q := 0) hC dX10_isHours_4 rfl rfl ?_
    refine g_bipush (pc := 5) (v := 100) hC dX10_isHours_5 (by decide) ?_
    refine g_idivL (pc := 7) hC dX10_isHours_7 (by decide) ?_
    refine g_callSz (pc := 8) (As := [.int (p0 / 100)]) (rest := []) hC lk_RX10_121 (tX10_isDay _ _ σ (p0 / 100)) rfl rfl (Nat.le_of_ble_eq_true rfl) ⟨rfl, rfl, Nat.le_of_ble_eq_true rfl, Nat.le_of_ble_eq_true rfl⟩ dX10_isHours_8 (fun r1 s2 => ?_)
    refine g_bif_eq (pc := 11) (tgt := 27) hC dX10_isHours_11 (by decide) ?_ ?_
    · refine g_iconst (pc := 27) (v := 0) hC dX10_isHours_27 (by decide) ?_
      exact g_zret0 (pc := 28) hC dX10_isHours_28
    · refine g_iload_n (pc := 14) (q := 0) hC dX10_isHours_14 rfl rfl ?_
      refine g_bipush (pc := 15) (v := 100) hC dX10_isHours_15 (by decide) ?_
      refine g_iremL (pc := 17) hC dX10_isHours_17 (by decide) ?_
      refine g_bipush (pc := 18) (v := 25) hC dX10_isHours_18 (by decide) ?_
      refine g_icmp_ge (pc := 20) (tgt := 27) hC dX10_isHours_20 (by decide) ?_ ?_
      · refine g_iconst (pc := 27) (v := 0) hC dX10_isHours_27 (by decide) ?_
        exact g_zret0 (pc := 28) hC dX10_isHours_28
      · refine g_iconst (pc := 23) (v := 1) hC dX10_isHours_23 (by decide) ?_
        refine g_goto (pc := 24) (tgt := 28) hC dX10_isHours_24 (by decide) ?_
        exact g_zret1 (pc := 28) hC dX10_isHours_28
theorem lk_RX10_300 : gLV RX10 300 RX10 yX10_has cX10_has 4 (some .int) 3 := ⟨(gBig_tab 1435 (by decide +kernel) (by decide +kernel)), (gBig_tab 1437 (by decide +kernel) (by decide +kernel)), (gBig_sel 81 (by decide +kernel) (by decide +kernel)), (gBig_tab 11 (by decide +kernel) (by decide +kernel)), (gBig_tab 1438 (by decide +kernel) (by decide +kernel)), rfl, by decide +kernel, by decide +kernel, by decide +kernel⟩
theorem dX10_yesOf_0 : decode cX10_yesOf 0 = .ok (.iconst 0, 1) := by decide +kernel
theorem dX10_yesOf_1 : decode cX10_yesOf 1 = .ok (.istore_n 3, 1) := by decide +kernel
theorem dX10_yesOf_2 : decode cX10_yesOf 2 = .ok (.iconst 0, 1) := by decide +kernel
theorem dX10_yesOf_3 : decode cX10_yesOf 3 = .ok (.istore 4, 2) := by decide +kernel
theorem dX10_yesOf_5 : decode cX10_yesOf 5 = .ok (.iload 4, 2) := by decide +kernel
theorem dX10_yesOf_7 : decode cX10_yesOf 7 = .ok (.aload_n 0, 1) := by decide +kernel
theorem dX10_yesOf_8 : decode cX10_yesOf 8 = .ok (.getfield 106, 3) := by decide +kernel
theorem dX10_yesOf_11 : decode cX10_yesOf 11 = .ok (.if_icmp .ge 27, 3) := by decide +kernel
theorem dX10_yesOf_14 : decode cX10_yesOf 14 = .ok (.aload_n 0, 1) := by decide +kernel
theorem dX10_yesOf_15 : decode cX10_yesOf 15 = .ok (.iload 4, 2) := by decide +kernel
theorem dX10_yesOf_17 : decode cX10_yesOf 17 = .ok (.iload_n 1, 1) := by decide +kernel
theorem dX10_yesOf_18 : decode cX10_yesOf 18 = .ok (.iload_n 2, 1) := by decide +kernel
theorem dX10_yesOf_19 : decode cX10_yesOf 19 = .ok (.invokevirtual 300, 3) := by decide +kernel
theorem dX10_yesOf_22 : decode cX10_yesOf 22 = .ok (.ifCond .le 10, 3) := by decide +kernel
theorem dX10_yesOf_25 : decode cX10_yesOf 25 = .ok (.iload_n 3, 1) := by decide +kernel
theorem dX10_yesOf_26 : decode cX10_yesOf 26 = .ok (.iconst 1, 1) := by decide +kernel
theorem dX10_yesOf_27 : decode cX10_yesOf 27 = .ok (.iload 4, 2) := by decide +kernel
theorem dX10_yesOf_29 : decode cX10_yesOf 29 = .ok (.ishl, 1) := by decide +kernel
theorem dX10_yesOf_30 : decode cX10_yesOf 30 = .ok (.ior, 1) := by decide +kernel
theorem dX10_yesOf_31 : decode cX10_yesOf 31 = .ok (.istore_n 3, 1) := by decide +kernel
theorem dX10_yesOf_32 : decode cX10_yesOf 32 = .ok (.iinc 4 1, 3) := by decide +kernel
theorem dX10_yesOf_35 : decode cX10_yesOf 35 = .ok (.goto (-30), 3) := by decide +kernel
theorem dX10_yesOf_38 : decode cX10_yesOf 38 = .ok (.iload_n 3, 1) := by decide +kernel
theorem dX10_yesOf_39 : decode cX10_yesOf 39 = .ok (.ireturn, 1) := by decide +kernel
abbrev rX10_yesOf : Room := { frames := 3, cells := 0, slots := 0, locals := 70 }
def mX10_yesOf_b32   (k5 : gS → Int32 → Int32 → Int32 → Int32 → Option (Int32 × gS)) (σ : gS) (x9 : Int32) (x10 : Int32) (x11 : Int32) (x12 : Int32) : Option (Int32 × gS) := gLet (x12 + 1) (fun v13 => (k5 σ x9 x10 x11 v13))
set_option maxHeartbeats 4000000 in
set_option maxRecDepth 100000 in
theorem wX10_yesOf_b32 {p : Program} {l : Launch} {e : Env} {s : State} {m : MethodId} {args : Array Value} {below : List Frame} {meth : Method} {c : Code} {G : gE} (hC : gCx p s m args meth c G RX10 cX10_yesOf 5 (some .int))    {k5 : gS → Int32 → Int32 → Int32 → Int32 → Option (Int32 × gS)} (hk5 : ∀ (σ : gS) (x3 : Int32) (x4 : Int32) (x5 : Int32) (x6 : Int32), gT p l e rX10_yesOf s m args below meth c G 5 iI σ 5 [(0, .ref (G.2.1 52)), (1, .int x3), (2, .int x4), (3, .int x5), (4, .int x6)] [] (k5 σ x3 x4 x5 x6)) (σ : gS) (x9 : Int32) (x10 : Int32) (x11 : Int32) (x12 : Int32)  : gT p l e rX10_yesOf s m args below meth c G 5 iI σ 32 [(0, .ref (G.2.1 52)), (1, .int x9), (2, .int x10), (3, .int x11), (4, .int x12)] [] (mX10_yesOf_b32 k5 σ x9 x10 x11 x12) := by
  unfold mX10_yesOf_b32
  refine g_iinc (pc := 32) (q := 4) (w := 1) (lv' := fun v13 => [(4, .int v13), (0, .ref (G.2.1 52)), (1, .int x9), (2, .int x10), (3, .int x11)]) hC dX10_yesOf_32 rfl (by decide) (by decide) (fun _ => rfl) (fun v13 => ?_)
  refine g_goto (pc := 35) (tgt := 5) hC dX10_yesOf_35 (by decide) ?_
  exact gT_sub [1, 2, 3, 4, 0] rfl (hk5 σ x9 x10 x11 v13)
def mX10_yesOf_b5    : Nat → gS → Int32 → Int32 → Int32 → Int32 → Option (Int32 × gS)
  | 0, _, _, _, _, _ => none
  | n + 1, σ, x3, x4, x5, x6 => if (σ.1 52 0) ≤ x6 then (some (x5, σ)) else (gBind (mX10_has σ x6 x3 x4) (fun r7 s8 => if r7 ≤ 0 then ((mX10_yesOf_b32 (mX10_yesOf_b5  n) s8 x3 x4 x5 x6)) else (gLet (x5 ||| (1 <<< (x6 &&& 31))) (fun v14 => (mX10_yesOf_b32 (mX10_yesOf_b5  n) s8 x3 x4 v14 x6)))))
set_option maxHeartbeats 4000000 in
set_option maxRecDepth 100000 in
theorem wX10_yesOf_b5 {p : Program} {l : Launch} {e : Env} {s : State} {m : MethodId} {args : Array Value} {below : List Frame} {meth : Method} {c : Code} {G : gE} (hC : gCx p s m args meth c G RX10 cX10_yesOf 5 (some .int))     (n : Nat) (σ : gS) (x3 : Int32) (x4 : Int32) (x5 : Int32) (x6 : Int32)  : gT p l e rX10_yesOf s m args below meth c G 5 iI σ 5 [(0, .ref (G.2.1 52)), (1, .int x3), (2, .int x4), (3, .int x5), (4, .int x6)] [] (mX10_yesOf_b5  n σ x3 x4 x5 x6) := by
  induction n generalizing σ x3 x4 x5 x6 with
  | zero => exact gT_none
  | succ n ih =>
    unfold mX10_yesOf_b5
    refine g_iload (pc := 5) (q := 4) hC dX10_yesOf_5 rfl ?_
    refine g_aload_n (pc := 7) (q := 0) hC dX10_yesOf_7 rfl rfl ?_
    refine g_get (pc := 8) (v := .int (σ.1 52 0)) hC kX10 rfl 0 (by decide) fl_RX10_106 rfl dX10_yesOf_8 ?_
    refine g_icmp_ge (pc := 11) (tgt := 38) hC dX10_yesOf_11 (by decide) ?_ ?_
    · refine g_iload_n (pc := 38) (q := 3) hC dX10_yesOf_38 rfl rfl ?_
      exact g_iret (pc := 39) hC dX10_yesOf_39
    · refine g_aload_n (pc := 14) (q := 0) hC dX10_yesOf_14 rfl rfl ?_
      refine g_iload (pc := 15) (q := 4) hC dX10_yesOf_15 rfl ?_
      refine g_iload_n (pc := 17) (q := 1) hC dX10_yesOf_17 rfl rfl ?_
      refine g_iload_n (pc := 18) (q := 2) hC dX10_yesOf_18 rfl rfl ?_
      refine g_callVi (pc := 19) (As := [.int x6, .int x3, .int x4]) (rest := []) hC lk_RX10_300 kX10 rfl (tX10_has _ _ σ x6 x3 x4) rfl rfl (Nat.le_of_ble_eq_true rfl) ⟨rfl, rfl, Nat.le_of_ble_eq_true rfl, Nat.le_of_ble_eq_true rfl⟩ dX10_yesOf_19 (fun r7 s8 => ?_)
      refine g_if_le (pc := 22) (tgt := 32) hC dX10_yesOf_22 (by decide) ?_ ?_
      · exact gT_sub [0, 1, 2, 3, 4] rfl (wX10_yesOf_b32 hC ih s8 x3 x4 x5 x6)
      · refine g_iload_n (pc := 25) (q := 3) hC dX10_yesOf_25 rfl rfl ?_
        refine g_iconst (pc := 26) (v := 1) hC dX10_yesOf_26 (by decide) ?_
        refine g_iload (pc := 27) (q := 4) hC dX10_yesOf_27 rfl ?_
        refine g_ishl (pc := 29) hC dX10_yesOf_29 ?_
        refine g_ior (pc := 30) hC dX10_yesOf_30 ?_
        refine g_istore_n (pc := 31) (lv' := fun v14 => [(3, .int v14), (0, .ref (G.2.1 52)), (1, .int x3), (2, .int x4), (4, .int x6)]) hC dX10_yesOf_31 rfl (by decide) (fun _ => rfl) (fun v14 => ?_)
        exact gT_sub [1, 2, 3, 0, 4] rfl (wX10_yesOf_b32 hC ih s8 x3 x4 v14 x6)
def mX10_yesOf (σ : gS) (p0 : Int32) (p1 : Int32) : Option (Int32 × gS) := gLet 0 (fun v1 => gLet 0 (fun v2 => (mX10_yesOf_b5  1100 σ p0 p1 v1 v2)))
set_option maxHeartbeats 4000000 in
set_option maxRecDepth 100000 in
theorem tX10_yesOf (l : Launch) (G : gE) (σ : gS) (p0 : Int32) (p1 : Int32) : gM l G yX10_yesOf cX10_yesOf 5 (some .int) rX10_yesOf iI [.ref (G.2.1 52), .int p0, .int p1] σ (mX10_yesOf σ p0 p1) := by
  refine gM_of (by decide) (Nat.le_of_ble_eq_true rfl) ?_
  intro p e s m args below meth c hC
  unfold mX10_yesOf
  show gT p l e rX10_yesOf s m args below meth c G 5 iI σ 0 [(0, .ref (G.2.1 52)), (1, .int p0), (2, .int p1)] [] _
  refine g_iconst (pc := 0) (v := 0) hC dX10_yesOf_0 (by decide) ?_
  refine g_istore_n (pc := 1) (lv' := fun v1 => [(3, .int v1), (0, .ref (G.2.1 52)), (1, .int p0), (2, .int p1)]) hC dX10_yesOf_1 rfl (by decide) (fun _ => rfl) (fun v1 => ?_)
  refine g_iconst (pc := 2) (v := 0) hC dX10_yesOf_2 (by decide) ?_
  refine g_istore (pc := 3) (lv' := fun v2 => [(4, .int v2), (3, .int v1), (0, .ref (G.2.1 52)), (1, .int p0), (2, .int p1)]) hC dX10_yesOf_3 (by decide) (fun _ => rfl) (fun v2 => ?_)
  exact gT_sub [2, 3, 4, 1, 0] rfl (wX10_yesOf_b5 hC  1100 σ p0 p1 v1 v2)
theorem dX10_carries_0 : decode cX10_carries 0 = .ok (.iconst 0, 1) := by decide +kernel
theorem dX10_carries_1 : decode cX10_carries 1 = .ok (.istore_n 2, 1) := by decide +kernel
theorem dX10_carries_2 : decode cX10_carries 2 = .ok (.iconst 0, 1) := by decide +kernel
theorem dX10_carries_3 : decode cX10_carries 3 = .ok (.istore_n 3, 1) := by decide +kernel
theorem dX10_carries_4 : decode cX10_carries 4 = .ok (.iconst 0, 1) := by decide +kernel
theorem dX10_carries_5 : decode cX10_carries 5 = .ok (.istore 4, 2) := by decide +kernel
theorem dX10_carries_7 : decode cX10_carries 7 = .ok (.iload 4, 2) := by decide +kernel
theorem dX10_carries_9 : decode cX10_carries 9 = .ok (.aload_n 0, 1) := by decide +kernel
theorem dX10_carries_10 : decode cX10_carries 10 = .ok (.getfield 106, 3) := by decide +kernel
theorem dX10_carries_13 : decode cX10_carries 13 = .ok (.if_icmp .ge 39, 3) := by decide +kernel
theorem dX10_carries_16 : decode cX10_carries 16 = .ok (.iload_n 3, 1) := by decide +kernel
theorem dX10_carries_17 : decode cX10_carries 17 = .ok (.aload_n 0, 1) := by decide +kernel
theorem dX10_carries_18 : decode cX10_carries 18 = .ok (.getfield 15, 3) := by decide +kernel
theorem dX10_carries_21 : decode cX10_carries 21 = .ok (.iload 4, 2) := by decide +kernel
theorem dX10_carries_23 : decode cX10_carries 23 = .ok (.iaload, 1) := by decide +kernel
theorem dX10_carries_24 : decode cX10_carries 24 = .ok (.iadd, 1) := by decide +kernel
theorem dX10_carries_25 : decode cX10_carries 25 = .ok (.istore_n 3, 1) := by decide +kernel
theorem dX10_carries_26 : decode cX10_carries 26 = .ok (.iload_n 1, 1) := by decide +kernel
theorem dX10_carries_27 : decode cX10_carries 27 = .ok (.iload 4, 2) := by decide +kernel
theorem dX10_carries_29 : decode cX10_carries 29 = .ok (.ishr, 1) := by decide +kernel
theorem dX10_carries_30 : decode cX10_carries 30 = .ok (.iconst 1, 1) := by decide +kernel
theorem dX10_carries_31 : decode cX10_carries 31 = .ok (.iand, 1) := by decide +kernel
theorem dX10_carries_32 : decode cX10_carries 32 = .ok (.iconst 1, 1) := by decide +kernel
theorem dX10_carries_33 : decode cX10_carries 33 = .ok (.if_icmp .ne 13, 3) := by decide +kernel
theorem dX10_carries_36 : decode cX10_carries 36 = .ok (.iload_n 2, 1) := by decide +kernel
theorem dX10_carries_37 : decode cX10_carries 37 = .ok (.aload_n 0, 1) := by decide +kernel
theorem dX10_carries_38 : decode cX10_carries 38 = .ok (.getfield 15, 3) := by decide +kernel
theorem dX10_carries_41 : decode cX10_carries 41 = .ok (.iload 4, 2) := by decide +kernel
theorem dX10_carries_43 : decode cX10_carries 43 = .ok (.iaload, 1) := by decide +kernel
theorem dX10_carries_44 : decode cX10_carries 44 = .ok (.iadd, 1) := by decide +kernel
theorem dX10_carries_45 : decode cX10_carries 45 = .ok (.istore_n 2, 1) := by decide +kernel
theorem dX10_carries_46 : decode cX10_carries 46 = .ok (.iinc 4 1, 3) := by decide +kernel
theorem dX10_carries_49 : decode cX10_carries 49 = .ok (.goto (-42), 3) := by decide +kernel
theorem dX10_carries_52 : decode cX10_carries 52 = .ok (.iconst 2, 1) := by decide +kernel
theorem dX10_carries_53 : decode cX10_carries 53 = .ok (.iload_n 2, 1) := by decide +kernel
theorem dX10_carries_54 : decode cX10_carries 54 = .ok (.imul, 1) := by decide +kernel
theorem dX10_carries_55 : decode cX10_carries 55 = .ok (.iload_n 3, 1) := by decide +kernel
theorem dX10_carries_56 : decode cX10_carries 56 = .ok (.if_icmp .le 7, 3) := by decide +kernel
theorem dX10_carries_59 : decode cX10_carries 59 = .ok (.iconst 1, 1) := by decide +kernel
theorem dX10_carries_60 : decode cX10_carries 60 = .ok (.goto 4, 3) := by decide +kernel
theorem dX10_carries_63 : decode cX10_carries 63 = .ok (.iconst 0, 1) := by decide +kernel
theorem dX10_carries_64 : decode cX10_carries 64 = .ok (.ireturn, 1) := by decide +kernel
abbrev rX10_carries : Room := { frames := 0, cells := 0, slots := 0, locals := 0 }
def mX10_carries_b46   (k7 : gS → Int32 → Int32 → Int32 → Int32 → Option (Bool × gS)) (σ : gS) (x9 : Int32) (x10 : Int32) (x11 : Int32) (x12 : Int32) : Option (Bool × gS) := gLet (x12 + 1) (fun v13 => (k7 σ x9 x10 x11 v13))
set_option maxHeartbeats 4000000 in
set_option maxRecDepth 100000 in
theorem wX10_carries_b46 {p : Program} {l : Launch} {e : Env} {s : State} {m : MethodId} {args : Array Value} {below : List Frame} {meth : Method} {c : Code} {G : gE} (hC : gCx p s m args meth c G RX10 cX10_carries 5 (some .boolean))    {k7 : gS → Int32 → Int32 → Int32 → Int32 → Option (Bool × gS)} (hk7 : ∀ (σ : gS) (x4 : Int32) (x5 : Int32) (x6 : Int32) (x7 : Int32), gT p l e rX10_carries s m args below meth c G 5 iZ σ 7 [(0, .ref (G.2.1 52)), (1, .int x4), (2, .int x5), (3, .int x6), (4, .int x7)] [] (k7 σ x4 x5 x6 x7)) (σ : gS) (x9 : Int32) (x10 : Int32) (x11 : Int32) (x12 : Int32)  : gT p l e rX10_carries s m args below meth c G 5 iZ σ 46 [(0, .ref (G.2.1 52)), (1, .int x9), (2, .int x10), (3, .int x11), (4, .int x12)] [] (mX10_carries_b46 k7 σ x9 x10 x11 x12) := by
  unfold mX10_carries_b46
  refine g_iinc (pc := 46) (q := 4) (w := 1) (lv' := fun v13 => [(4, .int v13), (0, .ref (G.2.1 52)), (1, .int x9), (2, .int x10), (3, .int x11)]) hC dX10_carries_46 rfl (by decide) (by decide) (fun _ => rfl) (fun v13 => ?_)
  refine g_goto (pc := 49) (tgt := 7) hC dX10_carries_49 (by decide) ?_
  exact gT_sub [1, 2, 3, 4, 0] rfl (hk7 σ x9 x10 x11 v13)
def mX10_carries_b7    : Nat → gS → Int32 → Int32 → Int32 → Int32 → Option (Bool × gS)
  | 0, _, _, _, _, _ => none
  | n + 1, σ, x4, x5, x6, x7 => if (σ.1 52 0) ≤ x7 then (if (2 * x5) ≤ x6 then (some (false, σ)) else (some (true, σ))) else (if inbB x7 6 = true then (gLet (x6 + (σ.1 54 (Int32.toNatClampNeg x7))) (fun v8 => if ((x4 >>> (x7 &&& 31)) &&& 1) = 1 then (if inbB x7 6 = true then (gLet (x5 + (σ.1 54 (Int32.toNatClampNeg x7))) (fun v14 => (mX10_carries_b46 (mX10_carries_b7  n) σ x4 v14 v8 x7))) else none) else ((mX10_carries_b46 (mX10_carries_b7  n) σ x4 x5 v8 x7)))) else none)
set_option maxHeartbeats 4000000 in
set_option maxRecDepth 100000 in
theorem wX10_carries_b7 {p : Program} {l : Launch} {e : Env} {s : State} {m : MethodId} {args : Array Value} {below : List Frame} {meth : Method} {c : Code} {G : gE} (hC : gCx p s m args meth c G RX10 cX10_carries 5 (some .boolean))     (n : Nat) (σ : gS) (x4 : Int32) (x5 : Int32) (x6 : Int32) (x7 : Int32)  : gT p l e rX10_carries s m args below meth c G 5 iZ σ 7 [(0, .ref (G.2.1 52)), (1, .int x4), (2, .int x5), (3, .int x6), (4, .int x7)] [] (mX10_carries_b7  n σ x4 x5 x6 x7) := by
  induction n generalizing σ x4 x5 x6 x7 with
  | zero => exact gT_none
  | succ n ih =>
    unfold mX10_carries_b7
    refine g_iload (pc := 7) (q := 4) hC dX10_carries_7 rfl ?_
    refine g_aload_n (pc := 9) (q := 0) hC dX10_carries_9 rfl rfl ?_
    refine g_get (pc := 10) (v := .int (σ.1 52 0)) hC kX10 rfl 0 (by decide) fl_RX10_106 rfl dX10_carries_10 ?_
    refine g_icmp_ge (pc := 13) (tgt := 52) hC dX10_carries_13 (by decide) ?_ ?_
    · refine g_iconst (pc := 52) (v := 2) hC dX10_carries_52 (by decide) ?_
      refine g_iload_n (pc := 53) (q := 2) hC dX10_carries_53 rfl rfl ?_
      refine g_imul (pc := 54) hC dX10_carries_54 ?_
      refine g_iload_n (pc := 55) (q := 3) hC dX10_carries_55 rfl rfl ?_
      refine g_icmp_le (pc := 56) (tgt := 63) hC dX10_carries_56 (by decide) ?_ ?_
      · refine g_iconst (pc := 63) (v := 0) hC dX10_carries_63 (by decide) ?_
        exact g_zret0 (pc := 64) hC dX10_carries_64
      · refine g_iconst (pc := 59) (v := 1) hC dX10_carries_59 (by decide) ?_
        refine g_goto (pc := 60) (tgt := 64) hC dX10_carries_60 (by decide) ?_
        exact g_zret1 (pc := 64) hC dX10_carries_64
    · refine g_iload_n (pc := 16) (q := 3) hC dX10_carries_16 rfl rfl ?_
      refine g_aload_n (pc := 17) (q := 0) hC dX10_carries_17 rfl rfl ?_
      refine g_get (pc := 18) (v := .ref (G.2.1 54)) hC kX10 rfl 2 (by decide) fl_RX10_15 rfl dX10_carries_18 ?_
      refine g_iload (pc := 21) (q := 4) hC dX10_carries_21 rfl ?_
      refine g_iald (pc := 23) hC 6 rfl (by decide) dX10_carries_23 ?_
      refine g_iadd (pc := 24) hC dX10_carries_24 ?_
      refine g_istore_n (pc := 25) (lv' := fun v8 => [(3, .int v8), (0, .ref (G.2.1 52)), (1, .int x4), (2, .int x5), (4, .int x7)]) hC dX10_carries_25 rfl (by decide) (fun _ => rfl) (fun v8 => ?_)
      refine g_iload_n (pc := 26) (q := 2) hC dX10_carries_26 rfl rfl ?_
      refine g_iload (pc := 27) (q := 4) hC dX10_carries_27 rfl ?_
      refine g_ishr (pc := 29) hC dX10_carries_29 ?_
      refine g_iconst (pc := 30) (v := 1) hC dX10_carries_30 (by decide) ?_
      refine g_iand (pc := 31) hC dX10_carries_31 ?_
      refine g_iconst (pc := 32) (v := 1) hC dX10_carries_32 (by decide) ?_
      refine g_icmp_ne (pc := 33) (tgt := 46) hC dX10_carries_33 (by decide) ?_ ?_
      · exact gT_sub [1, 2, 3, 0, 4] rfl (wX10_carries_b46 hC ih σ x4 x5 v8 x7)
      · refine g_iload_n (pc := 36) (q := 3) hC dX10_carries_36 rfl rfl ?_
        refine g_aload_n (pc := 37) (q := 1) hC dX10_carries_37 rfl rfl ?_
        refine g_get (pc := 38) (v := .ref (G.2.1 54)) hC kX10 rfl 2 (by decide) fl_RX10_15 rfl dX10_carries_38 ?_
        refine g_iload (pc := 41) (q := 4) hC dX10_carries_41 rfl ?_
        refine g_iald (pc := 43) hC 6 rfl (by decide) dX10_carries_43 ?_
        refine g_iadd (pc := 44) hC dX10_carries_44 ?_
        refine g_istore_n (pc := 45) (lv' := fun v14 => [(2, .int v14), (3, .int v8), (0, .ref (G.2.1 52)), (1, .int x4), (4, .int x7)]) hC dX10_carries_45 rfl (by decide) (fun _ => rfl) (fun v14 => ?_)
        exact gT_sub [2, 3, 0, 1, 4] rfl (wX10_carries_b46 hC ih σ x4 v14 v8 x7)
def mX10_carries (σ : gS) (p0 : Int32) : Option (Bool × gS) := gLet 0 (fun v1 => gLet 0 (fun v2 => gLet 0 (fun v3 => (mX10_carries_b7  1100 σ p0 v1 v2 v3))))
set_option maxHeartbeats 4000000 in
set_option maxRecDepth 100000 in
theorem tX10_carries (l : Launch) (G : gE) (σ : gS) (p0 : Int32) : gM l G yX10_carries cX10_carries 5 (some .boolean) rX10_carries iZ [.ref (G.2.1 52), .int p0] σ (mX10_carries σ p0) := by
  refine gM_of (by decide) (Nat.le_of_ble_eq_true rfl) ?_
  intro p e s m args below meth c hC
  unfold mX10_carries
  show gT p l e rX10_carries s m args below meth c G 5 iZ σ 0 [(0, .ref (G.2.1 52)), (1, .int p0)] [] _
  refine g_iconst (pc := 0) (v := 0) hC dX10_carries_0 (by decide) ?_
  refine g_istore_n (pc := 1) (lv' := fun v1 => [(2, .int v1), (0, .ref (G.2.1 52)), (1, .int p0)]) hC dX10_carries_1 rfl (by decide) (fun _ => rfl) (fun v1 => ?_)
  refine g_iconst (pc := 2) (v := 0) hC dX10_carries_2 (by decide) ?_
  refine g_istore_n (pc := 3) (lv' := fun v2 => [(3, .int v2), (2, .int v1), (0, .ref (G.2.1 52)), (1, .int p0)]) hC dX10_carries_3 rfl (by decide) (fun _ => rfl) (fun v2 => ?_)
  refine g_iconst (pc := 4) (v := 0) hC dX10_carries_4 (by decide) ?_
  refine g_istore (pc := 5) (lv' := fun v3 => [(4, .int v3), (3, .int v2), (2, .int v1), (0, .ref (G.2.1 52)), (1, .int p0)]) hC dX10_carries_5 (by decide) (fun _ => rfl) (fun v3 => ?_)
  exact gT_sub [3, 4, 2, 1, 0] rfl (wX10_carries_b7 hC  1100 σ p0 v1 v2 v3)
theorem lk_RX10_309 : gLV RX10 309 RX10 yX10_carries cX10_carries 5 (some .boolean) 1 := ⟨(gBig_tab 1439 (by decide +kernel) (by decide +kernel)), (gBig_tab 1441 (by decide +kernel) (by decide +kernel)), (gBig_sel 82 (by decide +kernel) (by decide +kernel)), (gBig_tab 11 (by decide +kernel) (by decide +kernel)), (gBig_tab 1442 (by decide +kernel) (by decide +kernel)), rfl, by decide +kernel, by decide +kernel, by decide +kernel⟩
theorem lk_RX10_306 : gLV RX10 306 RX10 yX10_yesOf cX10_yesOf 5 (some .int) 2 := ⟨(gBig_tab 1431 (by decide +kernel) (by decide +kernel)), (gBig_tab 1433 (by decide +kernel) (by decide +kernel)), (gBig_sel 80 (by decide +kernel) (by decide +kernel)), (gBig_tab 11 (by decide +kernel) (by decide +kernel)), (gBig_tab 1434 (by decide +kernel) (by decide +kernel)), rfl, by decide +kernel, by decide +kernel, by decide +kernel⟩
theorem lk_RX10_303 : gLS RX10 303 yX10_isHours cX10_isHours 1 (some .boolean) 1 := ⟨(gBig_tab 1428 (by decide +kernel) (by decide +kernel)), (gBig_tab 1429 (by decide +kernel) (by decide +kernel)), (gBig_tab 11 (by decide +kernel) (by decide +kernel)), (gBig_tab 1430 (by decide +kernel) (by decide +kernel)), by decide +kernel, by decide +kernel, by decide +kernel⟩
theorem dX10_vote_0 : decode cX10_vote 0 = .ok (.iload_n 1, 1) := by decide +kernel
theorem dX10_vote_1 : decode cX10_vote 1 = .ok (.invokestatic 303, 3) := by decide +kernel
theorem dX10_vote_4 : decode cX10_vote 4 = .ok (.ifCond .eq 12, 3) := by decide +kernel
theorem dX10_vote_7 : decode cX10_vote 7 = .ok (.iload_n 2, 1) := by decide +kernel
theorem dX10_vote_8 : decode cX10_vote 8 = .ok (.iconst 0, 1) := by decide +kernel
theorem dX10_vote_9 : decode cX10_vote 9 = .ok (.iconst 2, 1) := by decide +kernel
theorem dX10_vote_10 : decode cX10_vote 10 = .ok (.invokestatic 110, 3) := by decide +kernel
theorem dX10_vote_13 : decode cX10_vote 13 = .ok (.ifCond .ne 5, 3) := by decide +kernel
theorem dX10_vote_16 : decode cX10_vote 16 = .ok (.iconst (-1), 1) := by decide +kernel
theorem dX10_vote_17 : decode cX10_vote 17 = .ok (.ireturn, 1) := by decide +kernel
theorem dX10_vote_18 : decode cX10_vote 18 = .ok (.aload_n 0, 1) := by decide +kernel
theorem dX10_vote_19 : decode cX10_vote 19 = .ok (.iload_n 1, 1) := by decide +kernel
theorem dX10_vote_20 : decode cX10_vote 20 = .ok (.bipush 100, 2) := by decide +kernel
theorem dX10_vote_22 : decode cX10_vote 22 = .ok (.idiv, 1) := by decide +kernel
theorem dX10_vote_23 : decode cX10_vote 23 = .ok (.iload_n 1, 1) := by decide +kernel
theorem dX10_vote_24 : decode cX10_vote 24 = .ok (.bipush 100, 2) := by decide +kernel
theorem dX10_vote_26 : decode cX10_vote 26 = .ok (.irem, 1) := by decide +kernel
theorem dX10_vote_27 : decode cX10_vote 27 = .ok (.invokevirtual 306, 3) := by decide +kernel
theorem dX10_vote_30 : decode cX10_vote 30 = .ok (.istore_n 3, 1) := by decide +kernel
theorem dX10_vote_31 : decode cX10_vote 31 = .ok (.iload_n 2, 1) := by decide +kernel
theorem dX10_vote_32 : decode cX10_vote 32 = .ok (.ifCond .ne 5, 3) := by decide +kernel
theorem dX10_vote_35 : decode cX10_vote 35 = .ok (.iload_n 3, 1) := by decide +kernel
theorem dX10_vote_36 : decode cX10_vote 36 = .ok (.ireturn, 1) := by decide +kernel
theorem dX10_vote_37 : decode cX10_vote 37 = .ok (.iload_n 2, 1) := by decide +kernel
theorem dX10_vote_38 : decode cX10_vote 38 = .ok (.iconst 1, 1) := by decide +kernel
theorem dX10_vote_39 : decode cX10_vote 39 = .ok (.if_icmp .ne 17, 3) := by decide +kernel
theorem dX10_vote_42 : decode cX10_vote 42 = .ok (.aload_n 0, 1) := by decide +kernel
theorem dX10_vote_43 : decode cX10_vote 43 = .ok (.iload_n 3, 1) := by decide +kernel
theorem dX10_vote_44 : decode cX10_vote 44 = .ok (.invokevirtual 309, 3) := by decide +kernel
theorem dX10_vote_47 : decode cX10_vote 47 = .ok (.ifCond .eq 7, 3) := by decide +kernel
theorem dX10_vote_50 : decode cX10_vote 50 = .ok (.iconst 1, 1) := by decide +kernel
theorem dX10_vote_51 : decode cX10_vote 51 = .ok (.goto 4, 3) := by decide +kernel
theorem dX10_vote_54 : decode cX10_vote 54 = .ok (.iconst 0, 1) := by decide +kernel
theorem dX10_vote_55 : decode cX10_vote 55 = .ok (.ireturn, 1) := by decide +kernel
theorem dX10_vote_56 : decode cX10_vote 56 = .ok (.iconst 0, 1) := by decide +kernel
theorem dX10_vote_57 : decode cX10_vote 57 = .ok (.istore 4, 2) := by decide +kernel
theorem dX10_vote_59 : decode cX10_vote 59 = .ok (.iconst 0, 1) := by decide +kernel
theorem dX10_vote_60 : decode cX10_vote 60 = .ok (.istore 5, 2) := by decide +kernel
theorem dX10_vote_62 : decode cX10_vote 62 = .ok (.iload 5, 2) := by decide +kernel
theorem dX10_vote_64 : decode cX10_vote 64 = .ok (.aload_n 0, 1) := by decide +kernel
theorem dX10_vote_65 : decode cX10_vote 65 = .ok (.getfield 106, 3) := by decide +kernel
theorem dX10_vote_68 : decode cX10_vote 68 = .ok (.if_icmp .ge 36, 3) := by decide +kernel
theorem dX10_vote_71 : decode cX10_vote 71 = .ok (.aload_n 0, 1) := by decide +kernel
theorem dX10_vote_72 : decode cX10_vote 72 = .ok (.iload_n 3, 1) := by decide +kernel
theorem dX10_vote_73 : decode cX10_vote 73 = .ok (.iconst 1, 1) := by decide +kernel
theorem dX10_vote_74 : decode cX10_vote 74 = .ok (.iload 5, 2) := by decide +kernel
theorem dX10_vote_76 : decode cX10_vote 76 = .ok (.ishl, 1) := by decide +kernel
theorem dX10_vote_77 : decode cX10_vote 77 = .ok (.ixor, 1) := by decide +kernel
theorem dX10_vote_78 : decode cX10_vote 78 = .ok (.invokevirtual 309, 3) := by decide +kernel
theorem dX10_vote_81 : decode cX10_vote 81 = .ok (.aload_n 0, 1) := by decide +kernel
theorem dX10_vote_82 : decode cX10_vote 82 = .ok (.iload_n 3, 1) := by decide +kernel
theorem dX10_vote_83 : decode cX10_vote 83 = .ok (.invokevirtual 309, 3) := by decide +kernel
theorem dX10_vote_86 : decode cX10_vote 86 = .ok (.if_icmp .eq 12, 3) := by decide +kernel
theorem dX10_vote_89 : decode cX10_vote 89 = .ok (.iload 4, 2) := by decide +kernel
theorem dX10_vote_91 : decode cX10_vote 91 = .ok (.iconst 1, 1) := by decide +kernel
theorem dX10_vote_92 : decode cX10_vote 92 = .ok (.iload 5, 2) := by decide +kernel
theorem dX10_vote_94 : decode cX10_vote 94 = .ok (.ishl, 1) := by decide +kernel
theorem dX10_vote_95 : decode cX10_vote 95 = .ok (.ior, 1) := by decide +kernel
theorem dX10_vote_96 : decode cX10_vote 96 = .ok (.istore 4, 2) := by decide +kernel
theorem dX10_vote_98 : decode cX10_vote 98 = .ok (.iinc 5 1, 3) := by decide +kernel
theorem dX10_vote_101 : decode cX10_vote 101 = .ok (.goto (-39), 3) := by decide +kernel
theorem dX10_vote_104 : decode cX10_vote 104 = .ok (.iload 4, 2) := by decide +kernel
theorem dX10_vote_106 : decode cX10_vote 106 = .ok (.ireturn, 1) := by decide +kernel
abbrev rX10_vote : Room := { frames := 4, cells := 0, slots := 0, locals := 94 }
def mX10_vote_b98   (k62 : gS → Int32 → Int32 → Int32 → Option (Int32 × gS)) (σ : gS) (x17 : Int32) (x18 : Int32) (x19 : Int32) : Option (Int32 × gS) := gLet (x19 + 1) (fun v20 => (k62 σ x17 x18 v20))
set_option maxHeartbeats 4000000 in
set_option maxRecDepth 100000 in
theorem wX10_vote_b98 {p : Program} {l : Launch} {e : Env} {s : State} {m : MethodId} {args : Array Value} {below : List Frame} {meth : Method} {c : Code} {G : gE} (hC : gCx p s m args meth c G RX10 cX10_vote 6 (some .int))    {k62 : gS → Int32 → Int32 → Int32 → Option (Int32 × gS)} (hk62 : ∀ (σ : gS) (x10 : Int32) (x11 : Int32) (x12 : Int32), gT p l e rX10_vote s m args below meth c G 6 iI σ 62 [(0, .ref (G.2.1 52)), (3, .int x10), (4, .int x11), (5, .int x12)] [] (k62 σ x10 x11 x12)) (σ : gS) (x17 : Int32) (x18 : Int32) (x19 : Int32)  : gT p l e rX10_vote s m args below meth c G 6 iI σ 98 [(0, .ref (G.2.1 52)), (3, .int x17), (4, .int x18), (5, .int x19)] [] (mX10_vote_b98 k62 σ x17 x18 x19) := by
  unfold mX10_vote_b98
  refine g_iinc (pc := 98) (q := 3) (w := 1) (lv' := fun v20 => [(5, .int v20), (0, .ref (G.2.1 52)), (3, .int x17), (4, .int x18)]) hC dX10_vote_98 rfl (by decide) (by decide) (fun _ => rfl) (fun v20 => ?_)
  refine g_goto (pc := 101) (tgt := 62) hC dX10_vote_101 (by decide) ?_
  exact gT_sub [1, 2, 3, 0] rfl (hk62 σ x17 x18 v20)
def mX10_vote_b62    : Nat → gS → Int32 → Int32 → Int32 → Option (Int32 × gS)
  | 0, _, _, _, _ => none
  | n + 1, σ, x10, x11, x12 => if (σ.1 52 0) ≤ x12 then (some (x11, σ)) else (gBind (mX10_carries σ (x10 ^^^ (1 <<< (x12 &&& 31)))) (fun r13 s14 => gBind (mX10_carries s14 x10) (fun r15 s16 => if (b2i r13) = (b2i r15) then ((mX10_vote_b98 (mX10_vote_b62  n) s16 x10 x11 x12)) else (gLet (x11 ||| (1 <<< (x12 &&& 31))) (fun v21 => (mX10_vote_b98 (mX10_vote_b62  n) s16 x10 v21 x12))))))
set_option maxHeartbeats 4000000 in
set_option maxRecDepth 100000 in
theorem wX10_vote_b62 {p : Program} {l : Launch} {e : Env} {s : State} {m : MethodId} {args : Array Value} {below : List Frame} {meth : Method} {c : Code} {G : gE} (hC : gCx p s m args meth c G RX10 cX10_vote 6 (some .int))     (n : Nat) (σ : gS) (x10 : Int32) (x11 : Int32) (x12 : Int32)  : gT p l e rX10_vote s m args below meth c G 6 iI σ 62 [(0, .ref (G.2.1 52)), (3, .int x10), (4, .int x11), (5, .int x12)] [] (mX10_vote_b62  n σ x10 x11 x12) := by
  induction n generalizing σ x10 x11 x12 with
  | zero => exact gT_none
  | succ n ih =>
    unfold mX10_vote_b62
    refine g_iload (pc := 62) (q := 3) hC dX10_vote_62 rfl ?_
    refine g_aload_n (pc := 64) (q := 0) hC dX10_vote_64 rfl rfl ?_
    refine g_get (pc := 65) (v := .int (σ.1 52 0)) hC kX10 rfl 0 (by decide) fl_RX10_106 rfl dX10_vote_65 ?_
    refine g_icmp_ge (pc := 68) (tgt := 104) hC dX10_vote_68 (by decide) ?_ ?_
    · refine g_iload (pc := 104) (q := 2) hC dX10_vote_104 rfl ?_
      exact g_iret (pc := 106) hC dX10_vote_106
    · refine g_aload_n (pc := 71) (q := 0) hC dX10_vote_71 rfl rfl ?_
      refine g_iload_n (pc := 72) (q := 1) hC dX10_vote_72 rfl rfl ?_
      refine g_iconst (pc := 73) (v := 1) hC dX10_vote_73 (by decide) ?_
      refine g_iload (pc := 74) (q := 3) hC dX10_vote_74 rfl ?_
      refine g_ishl (pc := 76) hC dX10_vote_76 ?_
      refine g_ixor (pc := 77) hC dX10_vote_77 ?_
      refine g_callVz (pc := 78) (As := [.int (x10 ^^^ (1 <<< (x12 &&& 31)))]) (rest := []) hC lk_RX10_309 kX10 rfl (tX10_carries _ _ σ (x10 ^^^ (1 <<< (x12 &&& 31)))) rfl rfl (Nat.le_of_ble_eq_true rfl) ⟨rfl, rfl, Nat.le_of_ble_eq_true rfl, Nat.le_of_ble_eq_true rfl⟩ dX10_vote_78 (fun r13 s14 => ?_)
      refine g_aload_n (pc := 81) (q := 0) hC dX10_vote_81 rfl rfl ?_
      refine g_iload_n (pc := 82) (q := 1) hC dX10_vote_82 rfl rfl ?_
      refine g_callVz (pc := 83) (As := [.int x10]) (rest := [.int (b2i r13)]) hC lk_RX10_309 kX10 rfl (tX10_carries _ _ s14 x10) rfl rfl (Nat.le_of_ble_eq_true rfl) ⟨rfl, rfl, Nat.le_of_ble_eq_true rfl, Nat.le_of_ble_eq_true rfl⟩ dX10_vote_83 (fun r15 s16 => ?_)
      refine g_icmp_eq (pc := 86) (tgt := 98) hC dX10_vote_86 (by decide) ?_ ?_
      · exact gT_sub [0, 1, 2, 3] rfl (wX10_vote_b98 hC ih s16 x10 x11 x12)
      · refine g_iload (pc := 89) (q := 2) hC dX10_vote_89 rfl ?_
        refine g_iconst (pc := 91) (v := 1) hC dX10_vote_91 (by decide) ?_
        refine g_iload (pc := 92) (q := 3) hC dX10_vote_92 rfl ?_
        refine g_ishl (pc := 94) hC dX10_vote_94 ?_
        refine g_ior (pc := 95) hC dX10_vote_95 ?_
        refine g_istore (pc := 96) (lv' := fun v21 => [(4, .int v21), (0, .ref (G.2.1 52)), (3, .int x10), (5, .int x12)]) hC dX10_vote_96 (by decide) (fun _ => rfl) (fun v21 => ?_)
        exact gT_sub [1, 2, 0, 3] rfl (wX10_vote_b98 hC ih s16 x10 v21 x12)
def mX10_vote (σ : gS) (p0 : Int32) (p1 : Int32) : Option (Int32 × gS) := gBind (mX10_isHours σ p0) (fun r1 s2 => if r1 = true then (gBind (mX10_within s2 p1 0 2) (fun r3 s4 => if r3 = true then (gBind (mX10_yesOf s4 (p0 / 100) (gRem p0 100)) (fun r5 s6 => gLet r5 (fun v7 => if p1 = 0 then (some (v7, s6)) else (if p1 = 1 then (gBind (mX10_carries s6 v7) (fun r22 s23 => if r22 = true then (some (1, s23)) else (some (0, s23)))) else (gLet 0 (fun v8 => gLet 0 (fun v9 => (mX10_vote_b62  1100 s6 v7 v8 v9)))))))) else (some ((-1), s4)))) else (some ((-1), s2)))
set_option maxHeartbeats 4000000 in
set_option maxRecDepth 100000 in
theorem tX10_vote (l : Launch) (G : gE) (σ : gS) (p0 : Int32) (p1 : Int32) : gM l G yX10_vote cX10_vote 6 (some .int) rX10_vote iI [.ref (G.2.1 52), .int p0, .int p1] σ (mX10_vote σ p0 p1) := by
  refine gM_of (by decide) (Nat.le_of_ble_eq_true rfl) ?_
  intro p e s m args below meth c hC
  unfold mX10_vote
  show gT p l e rX10_vote s m args below meth c G 6 iI σ 0 [(0, .ref (G.2.1 52)), (1, .int p0), (2, .int p1)] [] _
  refine g_iload_n (pc := 0) (q := 1) hC dX10_vote_0 rfl rfl ?_
  refine g_callSz (pc := 1) (As := [.int p0]) (rest := []) hC lk_RX10_303 (tX10_isHours _ _ σ p0) rfl rfl (Nat.le_of_ble_eq_true rfl) ⟨rfl, rfl, Nat.le_of_ble_eq_true rfl, Nat.le_of_ble_eq_true rfl⟩ dX10_vote_1 (fun r1 s2 => ?_)
  refine g_bif_eq (pc := 4) (tgt := 16) hC dX10_vote_4 (by decide) ?_ ?_
  · refine g_iconst (pc := 16) (v := (-1)) hC dX10_vote_16 (by decide) ?_
    exact g_iret (pc := 17) hC dX10_vote_17
  · refine g_iload_n (pc := 7) (q := 2) hC dX10_vote_7 rfl rfl ?_
    refine g_iconst (pc := 8) (v := 0) hC dX10_vote_8 (by decide) ?_
    refine g_iconst (pc := 9) (v := 2) hC dX10_vote_9 (by decide) ?_
    refine g_callSz (pc := 10) (As := [.int p1, .int 0, .int 2]) (rest := []) hC lk_RX10_110 (tX10_within _ _ s2 p1 0 2) rfl rfl (Nat.le_of_ble_eq_true rfl) ⟨rfl, rfl, Nat.le_of_ble_eq_true rfl, Nat.le_of_ble_eq_true rfl⟩ dX10_vote_10 (fun r3 s4 => ?_)
    refine g_bif_ne (pc := 13) (tgt := 18) hC dX10_vote_13 (by decide) ?_ ?_
    · refine g_aload_n (pc := 18) (q := 0) hC dX10_vote_18 rfl rfl ?_
      refine g_iload_n (pc := 19) (q := 1) hC dX10_vote_19 rfl rfl ?_
      refine g_bipush (pc := 20) (v := 100) hC dX10_vote_20 (by decide) ?_
      refine g_idivL (pc := 22) hC dX10_vote_22 (by decide) ?_
      refine g_iload_n (pc := 23) (q := 1) hC dX10_vote_23 rfl rfl ?_
      refine g_bipush (pc := 24) (v := 100) hC dX10_vote_24 (by decide) ?_
      refine g_iremL (pc := 26) hC dX10_vote_26 (by decide) ?_
      refine g_callVi (pc := 27) (As := [.int (p0 / 100), .int (gRem p0 100)]) (rest := []) hC lk_RX10_306 kX10 rfl (tX10_yesOf _ _ s4 (p0 / 100) (gRem p0 100)) rfl rfl (Nat.le_of_ble_eq_true rfl) ⟨rfl, rfl, Nat.le_of_ble_eq_true rfl, Nat.le_of_ble_eq_true rfl⟩ dX10_vote_27 (fun r5 s6 => ?_)
      refine g_istore_n (pc := 30) (lv' := fun v7 => [(3, .int v7), (0, .ref (G.2.1 52)), (1, .int p0), (2, .int p1)]) hC dX10_vote_30 rfl (by decide) (fun _ => rfl) (fun v7 => ?_)
      refine g_iload_n (pc := 31) (q := 3) hC dX10_vote_31 rfl rfl ?_
      refine g_if_ne (pc := 32) (tgt := 37) hC dX10_vote_32 (by decide) ?_ ?_
      · refine g_iload_n (pc := 37) (q := 3) hC dX10_vote_37 rfl rfl ?_
        refine g_iconst (pc := 38) (v := 1) hC dX10_vote_38 (by decide) ?_
        refine g_icmp_ne (pc := 39) (tgt := 56) hC dX10_vote_39 (by decide) ?_ ?_
        · refine g_iconst (pc := 56) (v := 0) hC dX10_vote_56 (by decide) ?_
          refine g_istore (pc := 57) (lv' := fun v8 => [(4, .int v8), (3, .int v7), (0, .ref (G.2.1 52)), (1, .int p0), (2, .int p1)]) hC dX10_vote_57 (by decide) (fun _ => rfl) (fun v8 => ?_)
          refine g_iconst (pc := 59) (v := 0) hC dX10_vote_59 (by decide) ?_
          refine g_istore (pc := 60) (lv' := fun v9 => [(5, .int v9), (4, .int v8), (3, .int v7), (0, .ref (G.2.1 52)), (1, .int p0), (2, .int p1)]) hC dX10_vote_60 (by decide) (fun _ => rfl) (fun v9 => ?_)
          exact gT_sub [3, 2, 1, 0] rfl (wX10_vote_b62 hC  1100 s6 v7 v8 v9)
        · refine g_aload_n (pc := 42) (q := 1) hC dX10_vote_42 rfl rfl ?_
          refine g_iload_n (pc := 43) (q := 0) hC dX10_vote_43 rfl rfl ?_
          refine g_callVz (pc := 44) (As := [.int v7]) (rest := []) hC lk_RX10_309 kX10 rfl (tX10_carries _ _ s6 v7) rfl rfl (Nat.le_of_ble_eq_true rfl) ⟨rfl, rfl, Nat.le_of_ble_eq_true rfl, Nat.le_of_ble_eq_true rfl⟩ dX10_vote_44 (fun r22 s23 => ?_)
          refine g_bif_eq (pc := 47) (tgt := 54) hC dX10_vote_47 (by decide) ?_ ?_
          · refine g_iconst (pc := 54) (v := 0) hC dX10_vote_54 (by decide) ?_
            exact g_iret (pc := 55) hC dX10_vote_55
          · refine g_iconst (pc := 50) (v := 1) hC dX10_vote_50 (by decide) ?_
            refine g_goto (pc := 51) (tgt := 55) hC dX10_vote_51 (by decide) ?_
            exact g_iret (pc := 55) hC dX10_vote_55
      · refine g_iload_n (pc := 35) (q := 0) hC dX10_vote_35 rfl rfl ?_
        exact g_iret (pc := 36) hC dX10_vote_36
    · refine g_iconst (pc := 16) (v := (-1)) hC dX10_vote_16 (by decide) ?_
      exact g_iret (pc := 17) hC dX10_vote_17
theorem dX10_most_0 : decode cX10_most 0 = .ok (.iload_n 1, 1) := by decide +kernel
theorem dX10_most_1 : decode cX10_most 1 = .ok (.invokestatic 121, 3) := by decide +kernel
theorem dX10_most_4 : decode cX10_most 4 = .ok (.ifCond .ne 5, 3) := by decide +kernel
theorem dX10_most_7 : decode cX10_most 7 = .ok (.iconst (-1), 1) := by decide +kernel
theorem dX10_most_8 : decode cX10_most 8 = .ok (.ireturn, 1) := by decide +kernel
theorem dX10_most_9 : decode cX10_most 9 = .ok (.bipush 24, 2) := by decide +kernel
theorem dX10_most_11 : decode cX10_most 11 = .ok (.istore_n 2, 1) := by decide +kernel
theorem dX10_most_12 : decode cX10_most 12 = .ok (.iload_n 2, 1) := by decide +kernel
theorem dX10_most_13 : decode cX10_most 13 = .ok (.ifCond .lt 24, 3) := by decide +kernel
theorem dX10_most_16 : decode cX10_most 16 = .ok (.aload_n 0, 1) := by decide +kernel
theorem dX10_most_17 : decode cX10_most 17 = .ok (.aload_n 0, 1) := by decide +kernel
theorem dX10_most_18 : decode cX10_most 18 = .ok (.iload_n 1, 1) := by decide +kernel
theorem dX10_most_19 : decode cX10_most 19 = .ok (.iload_n 2, 1) := by decide +kernel
theorem dX10_most_20 : decode cX10_most 20 = .ok (.invokevirtual 306, 3) := by decide +kernel
theorem dX10_most_23 : decode cX10_most 23 = .ok (.invokevirtual 309, 3) := by decide +kernel
theorem dX10_most_26 : decode cX10_most 26 = .ok (.ifCond .eq 5, 3) := by decide +kernel
theorem dX10_most_29 : decode cX10_most 29 = .ok (.iload_n 2, 1) := by decide +kernel
theorem dX10_most_30 : decode cX10_most 30 = .ok (.ireturn, 1) := by decide +kernel
theorem dX10_most_31 : decode cX10_most 31 = .ok (.iinc 2 (-1), 3) := by decide +kernel
theorem dX10_most_34 : decode cX10_most 34 = .ok (.goto (-22), 3) := by decide +kernel
theorem dX10_most_37 : decode cX10_most 37 = .ok (.bipush (-2), 2) := by decide +kernel
theorem dX10_most_39 : decode cX10_most 39 = .ok (.ireturn, 1) := by decide +kernel
abbrev rX10_most : Room := { frames := 4, cells := 0, slots := 0, locals := 94 }
def mX10_most_b12    : Nat → gS → Int32 → Int32 → Option (Int32 × gS)
  | 0, _, _, _ => none
  | n + 1, σ, x4, x5 => if x5 < 0 then (some ((-2), σ)) else (gBind (mX10_yesOf σ x4 x5) (fun r6 s7 => gBind (mX10_carries s7 r6) (fun r8 s9 => if r8 = true then (some (x5, s9)) else (gLet (x5 + (-1)) (fun v10 => ((mX10_most_b12  n) s9 x4 v10))))))
set_option maxHeartbeats 4000000 in
set_option maxRecDepth 100000 in
theorem wX10_most_b12 {p : Program} {l : Launch} {e : Env} {s : State} {m : MethodId} {args : Array Value} {below : List Frame} {meth : Method} {c : Code} {G : gE} (hC : gCx p s m args meth c G RX10 cX10_most 3 (some .int))     (n : Nat) (σ : gS) (x4 : Int32) (x5 : Int32)  : gT p l e rX10_most s m args below meth c G 3 iI σ 12 [(0, .ref (G.2.1 52)), (1, .int x4), (2, .int x5)] [] (mX10_most_b12  n σ x4 x5) := by
  induction n generalizing σ x4 x5 with
  | zero => exact gT_none
  | succ n ih =>
    unfold mX10_most_b12
    refine g_iload_n (pc := 12) (q := 2) hC dX10_most_12 rfl rfl ?_
    refine g_if_lt (pc := 13) (tgt := 37) hC dX10_most_13 (by decide) ?_ ?_
    · refine g_bipush (pc := 37) (v := (-2)) hC dX10_most_37 (by decide) ?_
      exact g_iret (pc := 39) hC dX10_most_39
    · refine g_aload_n (pc := 16) (q := 0) hC dX10_most_16 rfl rfl ?_
      refine g_aload_n (pc := 17) (q := 0) hC dX10_most_17 rfl rfl ?_
      refine g_iload_n (pc := 18) (q := 1) hC dX10_most_18 rfl rfl ?_
      refine g_iload_n (pc := 19) (q := 2) hC dX10_most_19 rfl rfl ?_
      refine g_callVi (pc := 20) (As := [.int x4, .int x5]) (rest := [.ref (G.2.1 52)]) hC lk_RX10_306 kX10 rfl (tX10_yesOf _ _ σ x4 x5) rfl rfl (Nat.le_of_ble_eq_true rfl) ⟨rfl, rfl, Nat.le_of_ble_eq_true rfl, Nat.le_of_ble_eq_true rfl⟩ dX10_most_20 (fun r6 s7 => ?_)
      refine g_callVz (pc := 23) (As := [.int r6]) (rest := []) hC lk_RX10_309 kX10 rfl (tX10_carries _ _ s7 r6) rfl rfl (Nat.le_of_ble_eq_true rfl) ⟨rfl, rfl, Nat.le_of_ble_eq_true rfl, Nat.le_of_ble_eq_true rfl⟩ dX10_most_23 (fun r8 s9 => ?_)
      refine g_bif_eq (pc := 26) (tgt := 31) hC dX10_most_26 (by decide) ?_ ?_
      · refine g_iinc (pc := 31) (q := 2) (w := (-1)) (lv' := fun v10 => [(2, .int v10), (0, .ref (G.2.1 52)), (1, .int x4)]) hC dX10_most_31 rfl (by decide) (by decide) (fun _ => rfl) (fun v10 => ?_)
        refine g_goto (pc := 34) (tgt := 12) hC dX10_most_34 (by decide) ?_
        exact gT_sub [1, 2, 0] rfl (ih s9 x4 v10)
      · refine g_iload_n (pc := 29) (q := 2) hC dX10_most_29 rfl rfl ?_
        exact g_iret (pc := 30) hC dX10_most_30
def mX10_most (σ : gS) (p0 : Int32) : Option (Int32 × gS) := gBind (mX10_isDay σ p0) (fun r1 s2 => if r1 = true then (gLet 24 (fun v3 => (mX10_most_b12  1100 s2 p0 v3))) else (some ((-1), s2)))
set_option maxHeartbeats 4000000 in
set_option maxRecDepth 100000 in
theorem tX10_most (l : Launch) (G : gE) (σ : gS) (p0 : Int32) : gM l G yX10_most cX10_most 3 (some .int) rX10_most iI [.ref (G.2.1 52), .int p0] σ (mX10_most σ p0) := by
  refine gM_of (by decide) (Nat.le_of_ble_eq_true rfl) ?_
  intro p e s m args below meth c hC
  unfold mX10_most
  show gT p l e rX10_most s m args below meth c G 3 iI σ 0 [(0, .ref (G.2.1 52)), (1, .int p0)] [] _
  refine g_iload_n (pc := 0) (q := 1) hC dX10_most_0 rfl rfl ?_
  refine g_callSz (pc := 1) (As := [.int p0]) (rest := []) hC lk_RX10_121 (tX10_isDay _ _ σ p0) rfl rfl (Nat.le_of_ble_eq_true rfl) ⟨rfl, rfl, Nat.le_of_ble_eq_true rfl, Nat.le_of_ble_eq_true rfl⟩ dX10_most_1 (fun r1 s2 => ?_)
  refine g_bif_ne (pc := 4) (tgt := 9) hC dX10_most_4 (by decide) ?_ ?_
  · refine g_bipush (pc := 9) (v := 24) hC dX10_most_9 (by decide) ?_
    refine g_istore_n (pc := 11) (lv' := fun v3 => [(2, .int v3), (0, .ref (G.2.1 52)), (1, .int p0)]) hC dX10_most_11 rfl (by decide) (fun _ => rfl) (fun v3 => ?_)
    exact gT_sub [1, 2, 0] rfl (wX10_most_b12 hC  1100 s2 p0 v3)
  · refine g_iconst (pc := 7) (v := (-1)) hC dX10_most_7 (by decide) ?_
    exact g_iret (pc := 8) hC dX10_most_8
theorem cst_RX10_312 : Cond.constantLong RX10 312 (-9223372036854775808) ∈ gBig := (gBig_tab 1451 (by decide +kernel) (by decide +kernel))
theorem dX10_power_0 : decode cX10_power 0 = .ok (.aload_n 0, 1) := by decide +kernel
theorem dX10_power_1 : decode cX10_power 1 = .ok (.iload_n 1, 1) := by decide +kernel
theorem dX10_power_2 : decode cX10_power 2 = .ok (.invokevirtual 117, 3) := by decide +kernel
theorem dX10_power_5 : decode cX10_power 5 = .ok (.ifCond .eq 12, 3) := by decide +kernel
theorem dX10_power_8 : decode cX10_power 8 = .ok (.iload_n 2, 1) := by decide +kernel
theorem dX10_power_9 : decode cX10_power 9 = .ok (.iconst 0, 1) := by decide +kernel
theorem dX10_power_10 : decode cX10_power 10 = .ok (.iconst 1, 1) := by decide +kernel
theorem dX10_power_11 : decode cX10_power 11 = .ok (.invokestatic 110, 3) := by decide +kernel
theorem dX10_power_14 : decode cX10_power 14 = .ok (.ifCond .ne 7, 3) := by decide +kernel
theorem dX10_power_17 : decode cX10_power 17 = .ok (.ldc2_w 312, 3) := by decide +kernel
theorem dX10_power_20 : decode cX10_power 20 = .ok (.lreturn, 1) := by decide +kernel
theorem dX10_power_21 : decode cX10_power 21 = .ok (.iconst 0, 1) := by decide +kernel
theorem dX10_power_22 : decode cX10_power 22 = .ok (.istore_n 3, 1) := by decide +kernel
theorem dX10_power_23 : decode cX10_power 23 = .ok (.iconst 0, 1) := by decide +kernel
theorem dX10_power_24 : decode cX10_power 24 = .ok (.istore 4, 2) := by decide +kernel
theorem dX10_power_26 : decode cX10_power 26 = .ok (.iload 4, 2) := by decide +kernel
theorem dX10_power_28 : decode cX10_power 28 = .ok (.iconst 1, 1) := by decide +kernel
theorem dX10_power_29 : decode cX10_power 29 = .ok (.aload_n 0, 1) := by decide +kernel
theorem dX10_power_30 : decode cX10_power 30 = .ok (.getfield 106, 3) := by decide +kernel
theorem dX10_power_33 : decode cX10_power 33 = .ok (.ishl, 1) := by decide +kernel
theorem dX10_power_34 : decode cX10_power 34 = .ok (.if_icmp .ge 40, 3) := by decide +kernel
theorem dX10_power_37 : decode cX10_power 37 = .ok (.iload 4, 2) := by decide +kernel
theorem dX10_power_39 : decode cX10_power 39 = .ok (.iload_n 1, 1) := by decide +kernel
theorem dX10_power_40 : decode cX10_power 40 = .ok (.ishr, 1) := by decide +kernel
theorem dX10_power_41 : decode cX10_power 41 = .ok (.iconst 1, 1) := by decide +kernel
theorem dX10_power_42 : decode cX10_power 42 = .ok (.iand, 1) := by decide +kernel
theorem dX10_power_43 : decode cX10_power 43 = .ok (.ifCond .ne 25, 3) := by decide +kernel
theorem dX10_power_46 : decode cX10_power 46 = .ok (.aload_n 0, 1) := by decide +kernel
theorem dX10_power_47 : decode cX10_power 47 = .ok (.iload 4, 2) := by decide +kernel
theorem dX10_power_49 : decode cX10_power 49 = .ok (.invokevirtual 309, 3) := by decide +kernel
theorem dX10_power_52 : decode cX10_power 52 = .ok (.aload_n 0, 1) := by decide +kernel
theorem dX10_power_53 : decode cX10_power 53 = .ok (.iload 4, 2) := by decide +kernel
theorem dX10_power_55 : decode cX10_power 55 = .ok (.iconst 1, 1) := by decide +kernel
theorem dX10_power_56 : decode cX10_power 56 = .ok (.iload_n 1, 1) := by decide +kernel
theorem dX10_power_57 : decode cX10_power 57 = .ok (.ishl, 1) := by decide +kernel
theorem dX10_power_58 : decode cX10_power 58 = .ok (.ior, 1) := by decide +kernel
theorem dX10_power_59 : decode cX10_power 59 = .ok (.invokevirtual 309, 3) := by decide +kernel
theorem dX10_power_62 : decode cX10_power 62 = .ok (.if_icmp .eq 6, 3) := by decide +kernel
theorem dX10_power_65 : decode cX10_power 65 = .ok (.iinc 3 1, 3) := by decide +kernel
theorem dX10_power_68 : decode cX10_power 68 = .ok (.iinc 4 1, 3) := by decide +kernel
theorem dX10_power_71 : decode cX10_power 71 = .ok (.goto (-45), 3) := by decide +kernel
theorem dX10_power_74 : decode cX10_power 74 = .ok (.iload_n 3, 1) := by decide +kernel
theorem dX10_power_75 : decode cX10_power 75 = .ok (.istore 4, 2) := by decide +kernel
theorem dX10_power_77 : decode cX10_power 77 = .ok (.iconst 1, 1) := by decide +kernel
theorem dX10_power_78 : decode cX10_power 78 = .ok (.aload_n 0, 1) := by decide +kernel
theorem dX10_power_79 : decode cX10_power 79 = .ok (.getfield 106, 3) := by decide +kernel
theorem dX10_power_82 : decode cX10_power 82 = .ok (.iconst 1, 1) := by decide +kernel
theorem dX10_power_83 : decode cX10_power 83 = .ok (.isub, 1) := by decide +kernel
theorem dX10_power_84 : decode cX10_power 84 = .ok (.ishl, 1) := by decide +kernel
theorem dX10_power_85 : decode cX10_power 85 = .ok (.istore 5, 2) := by decide +kernel
theorem dX10_power_87 : decode cX10_power 87 = .ok (.iload 5, 2) := by decide +kernel
theorem dX10_power_89 : decode cX10_power 89 = .ok (.ifCond .eq 21, 3) := by decide +kernel
theorem dX10_power_92 : decode cX10_power 92 = .ok (.iload 4, 2) := by decide +kernel
theorem dX10_power_94 : decode cX10_power 94 = .ok (.iload 5, 2) := by decide +kernel
theorem dX10_power_96 : decode cX10_power 96 = .ok (.irem, 1) := by decide +kernel
theorem dX10_power_97 : decode cX10_power 97 = .ok (.istore 6, 2) := by decide +kernel
theorem dX10_power_99 : decode cX10_power 99 = .ok (.iload 5, 2) := by decide +kernel
theorem dX10_power_101 : decode cX10_power 101 = .ok (.istore 4, 2) := by decide +kernel
theorem dX10_power_103 : decode cX10_power 103 = .ok (.iload 6, 2) := by decide +kernel
theorem dX10_power_105 : decode cX10_power 105 = .ok (.istore 5, 2) := by decide +kernel
theorem dX10_power_107 : decode cX10_power 107 = .ok (.goto (-20), 3) := by decide +kernel
theorem dX10_power_110 : decode cX10_power 110 = .ok (.iload_n 2, 1) := by decide +kernel
theorem dX10_power_111 : decode cX10_power 111 = .ok (.ifCond .ne 11, 3) := by decide +kernel
theorem dX10_power_114 : decode cX10_power 114 = .ok (.iload_n 3, 1) := by decide +kernel
theorem dX10_power_115 : decode cX10_power 115 = .ok (.iload 4, 2) := by decide +kernel
theorem dX10_power_117 : decode cX10_power 117 = .ok (.idiv, 1) := by decide +kernel
theorem dX10_power_118 : decode cX10_power 118 = .ok (.i2l, 1) := by decide +kernel
theorem dX10_power_119 : decode cX10_power 119 = .ok (.goto 15, 3) := by decide +kernel
theorem dX10_power_122 : decode cX10_power 122 = .ok (.iconst 1, 1) := by decide +kernel
theorem dX10_power_123 : decode cX10_power 123 = .ok (.aload_n 0, 1) := by decide +kernel
theorem dX10_power_124 : decode cX10_power 124 = .ok (.getfield 106, 3) := by decide +kernel
theorem dX10_power_127 : decode cX10_power 127 = .ok (.iconst 1, 1) := by decide +kernel
theorem dX10_power_128 : decode cX10_power 128 = .ok (.isub, 1) := by decide +kernel
theorem dX10_power_129 : decode cX10_power 129 = .ok (.ishl, 1) := by decide +kernel
theorem dX10_power_130 : decode cX10_power 130 = .ok (.iload 4, 2) := by decide +kernel
theorem dX10_power_132 : decode cX10_power 132 = .ok (.idiv, 1) := by decide +kernel
theorem dX10_power_133 : decode cX10_power 133 = .ok (.i2l, 1) := by decide +kernel
theorem dX10_power_134 : decode cX10_power 134 = .ok (.lreturn, 1) := by decide +kernel
abbrev rX10_power : Room := { frames := 2, cells := 0, slots := 0, locals := 43 }
def mX10_power_b87    : Nat → gS → Int32 → Int32 → Int32 → Int32 → Option (Int64 × gS)
  | 0, _, _, _, _, _ => none
  | n + 1, σ, x13, x14, x15, x16 => if x16 = 0 then (if x13 = 0 then (if x15 = 0 then none else some ((Int32.toInt64 (x14 / x15)), σ)) else (if x15 = 0 then none else some ((Int32.toInt64 ((1 <<< (((σ.1 52 0) - 1) &&& 31)) / x15)), σ))) else (if x16 = 0 then none else gLet (gRem x15 x16) (fun v17 => gLet x16 (fun v18 => gLet v17 (fun v19 => ((mX10_power_b87  n) σ x13 x14 v18 v19)))))
set_option maxHeartbeats 4000000 in
set_option maxRecDepth 100000 in
theorem wX10_power_b87 {p : Program} {l : Launch} {e : Env} {s : State} {m : MethodId} {args : Array Value} {below : List Frame} {meth : Method} {c : Code} {G : gE} (hC : gCx p s m args meth c G RX10 cX10_power 7 (some .long))     (n : Nat) (σ : gS) (x13 : Int32) (x14 : Int32) (x15 : Int32) (x16 : Int32)  : gT p l e rX10_power s m args below meth c G 7 iJ σ 87 [(0, .ref (G.2.1 52)), (2, .int x13), (3, .int x14), (4, .int x15), (5, .int x16)] [] (mX10_power_b87  n σ x13 x14 x15 x16) := by
  induction n generalizing σ x13 x14 x15 x16 with
  | zero => exact gT_none
  | succ n ih =>
    unfold mX10_power_b87
    refine g_iload (pc := 87) (q := 4) hC dX10_power_87 rfl ?_
    refine g_if_eq (pc := 89) (tgt := 110) hC dX10_power_89 (by decide) ?_ ?_
    · refine g_iload_n (pc := 110) (q := 1) hC dX10_power_110 rfl rfl ?_
      refine g_if_ne (pc := 111) (tgt := 122) hC dX10_power_111 (by decide) ?_ ?_
      · refine g_iconst (pc := 122) (v := 1) hC dX10_power_122 (by decide) ?_
        refine g_aload_n (pc := 123) (q := 0) hC dX10_power_123 rfl rfl ?_
        refine g_get (pc := 124) (v := .int (σ.1 52 0)) hC kX10 rfl 0 (by decide) fl_RX10_106 rfl dX10_power_124 ?_
        refine g_iconst (pc := 127) (v := 1) hC dX10_power_127 (by decide) ?_
        refine g_isub (pc := 128) hC dX10_power_128 ?_
        refine g_ishl (pc := 129) hC dX10_power_129 ?_
        refine g_iload (pc := 130) (q := 3) hC dX10_power_130 rfl ?_
        refine g_idiv (pc := 132) hC dX10_power_132 ?_
        refine g_i2l (pc := 133) hC dX10_power_133 ?_
        exact g_lret (pc := 134) hC dX10_power_134
      · refine g_iload_n (pc := 114) (q := 2) hC dX10_power_114 rfl rfl ?_
        refine g_iload (pc := 115) (q := 3) hC dX10_power_115 rfl ?_
        refine g_idiv (pc := 117) hC dX10_power_117 ?_
        refine g_i2l (pc := 118) hC dX10_power_118 ?_
        refine g_goto (pc := 119) (tgt := 134) hC dX10_power_119 (by decide) ?_
        exact g_lret (pc := 134) hC dX10_power_134
    · refine g_iload (pc := 92) (q := 3) hC dX10_power_92 rfl ?_
      refine g_iload (pc := 94) (q := 4) hC dX10_power_94 rfl ?_
      refine g_irem (pc := 96) hC dX10_power_96 ?_
      refine g_istore (pc := 97) (lv' := fun v17 => [(6, .int v17), (0, .ref (G.2.1 52)), (2, .int x13), (3, .int x14), (4, .int x15), (5, .int x16)]) hC dX10_power_97 (by decide) (fun _ => rfl) (fun v17 => ?_)
      refine g_iload (pc := 99) (q := 5) hC dX10_power_99 rfl ?_
      refine g_istore (pc := 101) (lv' := fun v18 => [(4, .int v18), (6, .int v17), (0, .ref (G.2.1 52)), (2, .int x13), (3, .int x14), (5, .int x16)]) hC dX10_power_101 (by decide) (fun _ => rfl) (fun v18 => ?_)
      refine g_iload (pc := 103) (q := 1) hC dX10_power_103 rfl ?_
      refine g_istore (pc := 105) (lv' := fun v19 => [(5, .int v19), (4, .int v18), (6, .int v17), (0, .ref (G.2.1 52)), (2, .int x13), (3, .int x14)]) hC dX10_power_105 (by decide) (fun _ => rfl) (fun v19 => ?_)
      refine g_goto (pc := 107) (tgt := 87) hC dX10_power_107 (by decide) ?_
      exact gT_sub [3, 4, 5, 1, 0] rfl (ih σ x13 x14 v18 v19)
def mX10_power_b68   (k26 : gS → Int32 → Int32 → Int32 → Int32 → Option (Int64 × gS)) (σ : gS) (x20 : Int32) (x21 : Int32) (x22 : Int32) (x23 : Int32) : Option (Int64 × gS) := gLet (x23 + 1) (fun v24 => (k26 σ x20 x21 x22 v24))
set_option maxHeartbeats 4000000 in
set_option maxRecDepth 100000 in
theorem wX10_power_b68 {p : Program} {l : Launch} {e : Env} {s : State} {m : MethodId} {args : Array Value} {below : List Frame} {meth : Method} {c : Code} {G : gE} (hC : gCx p s m args meth c G RX10 cX10_power 7 (some .long))    {k26 : gS → Int32 → Int32 → Int32 → Int32 → Option (Int64 × gS)} (hk26 : ∀ (σ : gS) (x7 : Int32) (x8 : Int32) (x9 : Int32) (x10 : Int32), gT p l e rX10_power s m args below meth c G 7 iJ σ 26 [(0, .ref (G.2.1 52)), (1, .int x7), (2, .int x8), (3, .int x9), (4, .int x10)] [] (k26 σ x7 x8 x9 x10)) (σ : gS) (x20 : Int32) (x21 : Int32) (x22 : Int32) (x23 : Int32)  : gT p l e rX10_power s m args below meth c G 7 iJ σ 68 [(0, .ref (G.2.1 52)), (1, .int x20), (2, .int x21), (3, .int x22), (4, .int x23)] [] (mX10_power_b68 k26 σ x20 x21 x22 x23) := by
  unfold mX10_power_b68
  refine g_iinc (pc := 68) (q := 4) (w := 1) (lv' := fun v24 => [(4, .int v24), (0, .ref (G.2.1 52)), (1, .int x20), (2, .int x21), (3, .int x22)]) hC dX10_power_68 rfl (by decide) (by decide) (fun _ => rfl) (fun v24 => ?_)
  refine g_goto (pc := 71) (tgt := 26) hC dX10_power_71 (by decide) ?_
  exact gT_sub [1, 2, 3, 4, 0] rfl (hk26 σ x20 x21 x22 v24)
def mX10_power_b26    : Nat → gS → Int32 → Int32 → Int32 → Int32 → Option (Int64 × gS)
  | 0, _, _, _, _, _ => none
  | n + 1, σ, x7, x8, x9, x10 => if (1 <<< ((σ.1 52 0) &&& 31)) ≤ x10 then (gLet x9 (fun v11 => gLet (1 <<< (((σ.1 52 0) - 1) &&& 31)) (fun v12 => (mX10_power_b87  1100 σ x8 x9 v11 v12)))) else (if ((x10 >>> (x7 &&& 31)) &&& 1) = 0 then (gBind (mX10_carries σ x10) (fun r25 s26 => gBind (mX10_carries s26 (x10 ||| (1 <<< (x7 &&& 31)))) (fun r27 s28 => if (b2i r25) = (b2i r27) then ((mX10_power_b68 (mX10_power_b26  n) s28 x7 x8 x9 x10)) else (gLet (x9 + 1) (fun v29 => (mX10_power_b68 (mX10_power_b26  n) s28 x7 x8 v29 x10)))))) else ((mX10_power_b68 (mX10_power_b26  n) σ x7 x8 x9 x10)))
set_option maxHeartbeats 4000000 in
set_option maxRecDepth 100000 in
theorem wX10_power_b26 {p : Program} {l : Launch} {e : Env} {s : State} {m : MethodId} {args : Array Value} {below : List Frame} {meth : Method} {c : Code} {G : gE} (hC : gCx p s m args meth c G RX10 cX10_power 7 (some .long))     (n : Nat) (σ : gS) (x7 : Int32) (x8 : Int32) (x9 : Int32) (x10 : Int32)  : gT p l e rX10_power s m args below meth c G 7 iJ σ 26 [(0, .ref (G.2.1 52)), (1, .int x7), (2, .int x8), (3, .int x9), (4, .int x10)] [] (mX10_power_b26  n σ x7 x8 x9 x10) := by
  induction n generalizing σ x7 x8 x9 x10 with
  | zero => exact gT_none
  | succ n ih =>
    unfold mX10_power_b26
    refine g_iload (pc := 26) (q := 4) hC dX10_power_26 rfl ?_
    refine g_iconst (pc := 28) (v := 1) hC dX10_power_28 (by decide) ?_
    refine g_aload_n (pc := 29) (q := 0) hC dX10_power_29 rfl rfl ?_
    refine g_get (pc := 30) (v := .int (σ.1 52 0)) hC kX10 rfl 0 (by decide) fl_RX10_106 rfl dX10_power_30 ?_
    refine g_ishl (pc := 33) hC dX10_power_33 ?_
    refine g_icmp_ge (pc := 34) (tgt := 74) hC dX10_power_34 (by decide) ?_ ?_
    · refine g_iload_n (pc := 74) (q := 3) hC dX10_power_74 rfl rfl ?_
      refine g_istore (pc := 75) (lv' := fun v11 => [(4, .int v11), (0, .ref (G.2.1 52)), (1, .int x7), (2, .int x8), (3, .int x9)]) hC dX10_power_75 (by decide) (fun _ => rfl) (fun v11 => ?_)
      refine g_iconst (pc := 77) (v := 1) hC dX10_power_77 (by decide) ?_
      refine g_aload_n (pc := 78) (q := 1) hC dX10_power_78 rfl rfl ?_
      refine g_get (pc := 79) (v := .int (σ.1 52 0)) hC kX10 rfl 0 (by decide) fl_RX10_106 rfl dX10_power_79 ?_
      refine g_iconst (pc := 82) (v := 1) hC dX10_power_82 (by decide) ?_
      refine g_isub (pc := 83) hC dX10_power_83 ?_
      refine g_ishl (pc := 84) hC dX10_power_84 ?_
      refine g_istore (pc := 85) (lv' := fun v12 => [(5, .int v12), (4, .int v11), (0, .ref (G.2.1 52)), (1, .int x7), (2, .int x8), (3, .int x9)]) hC dX10_power_85 (by decide) (fun _ => rfl) (fun v12 => ?_)
      exact gT_sub [2, 4, 5, 1, 0] rfl (wX10_power_b87 hC  1100 σ x8 x9 v11 v12)
    · refine g_iload (pc := 37) (q := 4) hC dX10_power_37 rfl ?_
      refine g_iload_n (pc := 39) (q := 1) hC dX10_power_39 rfl rfl ?_
      refine g_ishr (pc := 40) hC dX10_power_40 ?_
      refine g_iconst (pc := 41) (v := 1) hC dX10_power_41 (by decide) ?_
      refine g_iand (pc := 42) hC dX10_power_42 ?_
      refine g_if_ne (pc := 43) (tgt := 68) hC dX10_power_43 (by decide) ?_ ?_
      · exact gT_sub [0, 1, 2, 3, 4] rfl (wX10_power_b68 hC ih σ x7 x8 x9 x10)
      · refine g_aload_n (pc := 46) (q := 0) hC dX10_power_46 rfl rfl ?_
        refine g_iload (pc := 47) (q := 4) hC dX10_power_47 rfl ?_
        refine g_callVz (pc := 49) (As := [.int x10]) (rest := []) hC lk_RX10_309 kX10 rfl (tX10_carries _ _ σ x10) rfl rfl (Nat.le_of_ble_eq_true rfl) ⟨rfl, rfl, Nat.le_of_ble_eq_true rfl, Nat.le_of_ble_eq_true rfl⟩ dX10_power_49 (fun r25 s26 => ?_)
        refine g_aload_n (pc := 52) (q := 0) hC dX10_power_52 rfl rfl ?_
        refine g_iload (pc := 53) (q := 4) hC dX10_power_53 rfl ?_
        refine g_iconst (pc := 55) (v := 1) hC dX10_power_55 (by decide) ?_
        refine g_iload_n (pc := 56) (q := 1) hC dX10_power_56 rfl rfl ?_
        refine g_ishl (pc := 57) hC dX10_power_57 ?_
        refine g_ior (pc := 58) hC dX10_power_58 ?_
        refine g_callVz (pc := 59) (As := [.int (x10 ||| (1 <<< (x7 &&& 31)))]) (rest := [.int (b2i r25)]) hC lk_RX10_309 kX10 rfl (tX10_carries _ _ s26 (x10 ||| (1 <<< (x7 &&& 31)))) rfl rfl (Nat.le_of_ble_eq_true rfl) ⟨rfl, rfl, Nat.le_of_ble_eq_true rfl, Nat.le_of_ble_eq_true rfl⟩ dX10_power_59 (fun r27 s28 => ?_)
        refine g_icmp_eq (pc := 62) (tgt := 68) hC dX10_power_62 (by decide) ?_ ?_
        · exact gT_sub [0, 1, 2, 3, 4] rfl (wX10_power_b68 hC ih s28 x7 x8 x9 x10)
        · refine g_iinc (pc := 65) (q := 3) (w := 1) (lv' := fun v29 => [(3, .int v29), (0, .ref (G.2.1 52)), (1, .int x7), (2, .int x8), (4, .int x10)]) hC dX10_power_65 rfl (by decide) (by decide) (fun _ => rfl) (fun v29 => ?_)
          exact gT_sub [1, 2, 3, 0, 4] rfl (wX10_power_b68 hC ih s28 x7 x8 v29 x10)
def mX10_power (σ : gS) (p0 : Int32) (p1 : Int32) : Option (Int64 × gS) := gBind (mX10_isFarm σ p0) (fun r1 s2 => if r1 = true then (gBind (mX10_within s2 p1 0 1) (fun r3 s4 => if r3 = true then (gLet 0 (fun v5 => gLet 0 (fun v6 => (mX10_power_b26  1100 s4 p0 p1 v5 v6)))) else (some ((-9223372036854775808), s4)))) else (some ((-9223372036854775808), s2)))
set_option maxHeartbeats 4000000 in
set_option maxRecDepth 100000 in
theorem tX10_power (l : Launch) (G : gE) (σ : gS) (p0 : Int32) (p1 : Int32) : gM l G yX10_power cX10_power 7 (some .long) rX10_power iJ [.ref (G.2.1 52), .int p0, .int p1] σ (mX10_power σ p0 p1) := by
  refine gM_of (by decide) (Nat.le_of_ble_eq_true rfl) ?_
  intro p e s m args below meth c hC
  unfold mX10_power
  show gT p l e rX10_power s m args below meth c G 7 iJ σ 0 [(0, .ref (G.2.1 52)), (1, .int p0), (2, .int p1)] [] _
  refine g_aload_n (pc := 0) (q := 0) hC dX10_power_0 rfl rfl ?_
  refine g_iload_n (pc := 1) (q := 1) hC dX10_power_1 rfl rfl ?_
  refine g_callVz (pc := 2) (As := [.int p0]) (rest := []) hC lk_RX10_117 kX10 rfl (tX10_isFarm _ _ σ p0) rfl rfl (Nat.le_of_ble_eq_true rfl) ⟨rfl, rfl, Nat.le_of_ble_eq_true rfl, Nat.le_of_ble_eq_true rfl⟩ dX10_power_2 (fun r1 s2 => ?_)
  refine g_bif_eq (pc := 5) (tgt := 17) hC dX10_power_5 (by decide) ?_ ?_
  · refine g_ldc2 (pc := 17) hC dX10_power_17 cst_RX10_312 ?_
    exact g_lret (pc := 20) hC dX10_power_20
  · refine g_iload_n (pc := 8) (q := 2) hC dX10_power_8 rfl rfl ?_
    refine g_iconst (pc := 9) (v := 0) hC dX10_power_9 (by decide) ?_
    refine g_iconst (pc := 10) (v := 1) hC dX10_power_10 (by decide) ?_
    refine g_callSz (pc := 11) (As := [.int p1, .int 0, .int 1]) (rest := []) hC lk_RX10_110 (tX10_within _ _ s2 p1 0 1) rfl rfl (Nat.le_of_ble_eq_true rfl) ⟨rfl, rfl, Nat.le_of_ble_eq_true rfl, Nat.le_of_ble_eq_true rfl⟩ dX10_power_11 (fun r3 s4 => ?_)
    refine g_bif_ne (pc := 14) (tgt := 21) hC dX10_power_14 (by decide) ?_ ?_
    · refine g_iconst (pc := 21) (v := 0) hC dX10_power_21 (by decide) ?_
      refine g_istore_n (pc := 22) (lv' := fun v5 => [(3, .int v5), (0, .ref (G.2.1 52)), (1, .int p0), (2, .int p1)]) hC dX10_power_22 rfl (by decide) (fun _ => rfl) (fun v5 => ?_)
      refine g_iconst (pc := 23) (v := 0) hC dX10_power_23 (by decide) ?_
      refine g_istore (pc := 24) (lv' := fun v6 => [(4, .int v6), (3, .int v5), (0, .ref (G.2.1 52)), (1, .int p0), (2, .int p1)]) hC dX10_power_24 (by decide) (fun _ => rfl) (fun v6 => ?_)
      exact gT_sub [2, 3, 4, 1, 0] rfl (wX10_power_b26 hC  1100 s4 p0 p1 v5 v6)
    · refine g_ldc2 (pc := 17) hC dX10_power_17 cst_RX10_312 ?_
      exact g_lret (pc := 20) hC dX10_power_20
theorem cst_RX10_314 : Cond.constant RX10 314 33554432 ∈ gBig := (gBig_tab 1456 (by decide +kernel) (by decide +kernel))
theorem dX10_agenda_0 : decode cX10_agenda 0 = .ok (.iload_n 1, 1) := by decide +kernel
theorem dX10_agenda_1 : decode cX10_agenda 1 = .ok (.invokestatic 121, 3) := by decide +kernel
theorem dX10_agenda_4 : decode cX10_agenda 4 = .ok (.ifCond .eq 21, 3) := by decide +kernel
theorem dX10_agenda_7 : decode cX10_agenda 7 = .ok (.iload_n 2, 1) := by decide +kernel
theorem dX10_agenda_8 : decode cX10_agenda 8 = .ok (.ifCond .lt 17, 3) := by decide +kernel
theorem dX10_agenda_11 : decode cX10_agenda 11 = .ok (.iload_n 2, 1) := by decide +kernel
theorem dX10_agenda_12 : decode cX10_agenda 12 = .ok (.iconst 1, 1) := by decide +kernel
theorem dX10_agenda_13 : decode cX10_agenda 13 = .ok (.iand, 1) := by decide +kernel
theorem dX10_agenda_14 : decode cX10_agenda 14 = .ok (.iconst 1, 1) := by decide +kernel
theorem dX10_agenda_15 : decode cX10_agenda 15 = .ok (.if_icmp .eq 10, 3) := by decide +kernel
theorem dX10_agenda_18 : decode cX10_agenda 18 = .ok (.iload_n 2, 1) := by decide +kernel
theorem dX10_agenda_19 : decode cX10_agenda 19 = .ok (.ldc_w 314, 3) := by decide +kernel
theorem dX10_agenda_22 : decode cX10_agenda 22 = .ok (.if_icmp .lt 5, 3) := by decide +kernel
theorem dX10_agenda_25 : decode cX10_agenda 25 = .ok (.iconst (-1), 1) := by decide +kernel
theorem dX10_agenda_26 : decode cX10_agenda 26 = .ok (.ireturn, 1) := by decide +kernel
theorem dX10_agenda_27 : decode cX10_agenda 27 = .ok (.iconst 0, 1) := by decide +kernel
theorem dX10_agenda_28 : decode cX10_agenda 28 = .ok (.istore_n 3, 1) := by decide +kernel
theorem dX10_agenda_29 : decode cX10_agenda 29 = .ok (.iconst 1, 1) := by decide +kernel
theorem dX10_agenda_30 : decode cX10_agenda 30 = .ok (.istore 4, 2) := by decide +kernel
theorem dX10_agenda_32 : decode cX10_agenda 32 = .ok (.iload 4, 2) := by decide +kernel
theorem dX10_agenda_34 : decode cX10_agenda 34 = .ok (.bipush 25, 2) := by decide +kernel
theorem dX10_agenda_36 : decode cX10_agenda 36 = .ok (.if_icmp .ge 83, 3) := by decide +kernel
theorem dX10_agenda_39 : decode cX10_agenda 39 = .ok (.iload_n 2, 1) := by decide +kernel
theorem dX10_agenda_40 : decode cX10_agenda 40 = .ok (.iload 4, 2) := by decide +kernel
theorem dX10_agenda_42 : decode cX10_agenda 42 = .ok (.ishr, 1) := by decide +kernel
theorem dX10_agenda_43 : decode cX10_agenda 43 = .ok (.iconst 1, 1) := by decide +kernel
theorem dX10_agenda_44 : decode cX10_agenda 44 = .ok (.iand, 1) := by decide +kernel
theorem dX10_agenda_45 : decode cX10_agenda 45 = .ok (.ifCond .ne 6, 3) := by decide +kernel
theorem dX10_agenda_48 : decode cX10_agenda 48 = .ok (.goto 65, 3) := by decide +kernel
theorem dX10_agenda_51 : decode cX10_agenda 51 = .ok (.iconst 0, 1) := by decide +kernel
theorem dX10_agenda_52 : decode cX10_agenda 52 = .ok (.istore 5, 2) := by decide +kernel
theorem dX10_agenda_54 : decode cX10_agenda 54 = .ok (.iconst 0, 1) := by decide +kernel
theorem dX10_agenda_55 : decode cX10_agenda 55 = .ok (.istore 6, 2) := by decide +kernel
theorem dX10_agenda_57 : decode cX10_agenda 57 = .ok (.iload 6, 2) := by decide +kernel
theorem dX10_agenda_59 : decode cX10_agenda 59 = .ok (.aload_n 0, 1) := by decide +kernel
theorem dX10_agenda_60 : decode cX10_agenda 60 = .ok (.getfield 106, 3) := by decide +kernel
theorem dX10_agenda_63 : decode cX10_agenda 63 = .ok (.if_icmp .ge 38, 3) := by decide +kernel
theorem dX10_agenda_66 : decode cX10_agenda 66 = .ok (.aload_n 0, 1) := by decide +kernel
theorem dX10_agenda_67 : decode cX10_agenda 67 = .ok (.iload 6, 2) := by decide +kernel
theorem dX10_agenda_69 : decode cX10_agenda 69 = .ok (.iload_n 1, 1) := by decide +kernel
theorem dX10_agenda_70 : decode cX10_agenda 70 = .ok (.iload 4, 2) := by decide +kernel
theorem dX10_agenda_72 : decode cX10_agenda 72 = .ok (.invokevirtual 300, 3) := by decide +kernel
theorem dX10_agenda_75 : decode cX10_agenda 75 = .ok (.aload_n 0, 1) := by decide +kernel
theorem dX10_agenda_76 : decode cX10_agenda 76 = .ok (.iload 6, 2) := by decide +kernel
theorem dX10_agenda_78 : decode cX10_agenda 78 = .ok (.iload_n 1, 1) := by decide +kernel
theorem dX10_agenda_79 : decode cX10_agenda 79 = .ok (.iload_n 3, 1) := by decide +kernel
theorem dX10_agenda_80 : decode cX10_agenda 80 = .ok (.invokevirtual 300, 3) := by decide +kernel
theorem dX10_agenda_83 : decode cX10_agenda 83 = .ok (.if_icmp .le 12, 3) := by decide +kernel
theorem dX10_agenda_86 : decode cX10_agenda 86 = .ok (.iload 5, 2) := by decide +kernel
theorem dX10_agenda_88 : decode cX10_agenda 88 = .ok (.iconst 1, 1) := by decide +kernel
theorem dX10_agenda_89 : decode cX10_agenda 89 = .ok (.iload 6, 2) := by decide +kernel
theorem dX10_agenda_91 : decode cX10_agenda 91 = .ok (.ishl, 1) := by decide +kernel
theorem dX10_agenda_92 : decode cX10_agenda 92 = .ok (.ior, 1) := by decide +kernel
theorem dX10_agenda_93 : decode cX10_agenda 93 = .ok (.istore 5, 2) := by decide +kernel
theorem dX10_agenda_95 : decode cX10_agenda 95 = .ok (.iinc 6 1, 3) := by decide +kernel
theorem dX10_agenda_98 : decode cX10_agenda 98 = .ok (.goto (-41), 3) := by decide +kernel
theorem dX10_agenda_101 : decode cX10_agenda 101 = .ok (.aload_n 0, 1) := by decide +kernel
theorem dX10_agenda_102 : decode cX10_agenda 102 = .ok (.iload 5, 2) := by decide +kernel
theorem dX10_agenda_104 : decode cX10_agenda 104 = .ok (.invokevirtual 309, 3) := by decide +kernel
theorem dX10_agenda_107 : decode cX10_agenda 107 = .ok (.ifCond .eq 6, 3) := by decide +kernel
theorem dX10_agenda_110 : decode cX10_agenda 110 = .ok (.iload 4, 2) := by decide +kernel
theorem dX10_agenda_112 : decode cX10_agenda 112 = .ok (.istore_n 3, 1) := by decide +kernel
theorem dX10_agenda_113 : decode cX10_agenda 113 = .ok (.iinc 4 1, 3) := by decide +kernel
theorem dX10_agenda_116 : decode cX10_agenda 116 = .ok (.goto (-84), 3) := by decide +kernel
theorem dX10_agenda_119 : decode cX10_agenda 119 = .ok (.iload_n 3, 1) := by decide +kernel
theorem dX10_agenda_120 : decode cX10_agenda 120 = .ok (.ireturn, 1) := by decide +kernel
abbrev rX10_agenda : Room := { frames := 3, cells := 0, slots := 0, locals := 70 }
def mX10_agenda_b113   (k32 : gS → Int32 → Int32 → Int32 → Int32 → Option (Int32 × gS)) (σ : gS) (x19 : Int32) (x20 : Int32) (x21 : Int32) (x22 : Int32) : Option (Int32 × gS) := gLet (x22 + 1) (fun v23 => (k32 σ x19 x20 x21 v23))
set_option maxHeartbeats 4000000 in
set_option maxRecDepth 100000 in
theorem wX10_agenda_b113 {p : Program} {l : Launch} {e : Env} {s : State} {m : MethodId} {args : Array Value} {below : List Frame} {meth : Method} {c : Code} {G : gE} (hC : gCx p s m args meth c G RX10 cX10_agenda 7 (some .int))    {k32 : gS → Int32 → Int32 → Int32 → Int32 → Option (Int32 × gS)} (hk32 : ∀ (σ : gS) (x5 : Int32) (x6 : Int32) (x7 : Int32) (x8 : Int32), gT p l e rX10_agenda s m args below meth c G 7 iI σ 32 [(0, .ref (G.2.1 52)), (1, .int x5), (2, .int x6), (3, .int x7), (4, .int x8)] [] (k32 σ x5 x6 x7 x8)) (σ : gS) (x19 : Int32) (x20 : Int32) (x21 : Int32) (x22 : Int32)  : gT p l e rX10_agenda s m args below meth c G 7 iI σ 113 [(0, .ref (G.2.1 52)), (1, .int x19), (2, .int x20), (3, .int x21), (4, .int x22)] [] (mX10_agenda_b113 k32 σ x19 x20 x21 x22) := by
  unfold mX10_agenda_b113
  refine g_iinc (pc := 113) (q := 4) (w := 1) (lv' := fun v23 => [(4, .int v23), (0, .ref (G.2.1 52)), (1, .int x19), (2, .int x20), (3, .int x21)]) hC dX10_agenda_113 rfl (by decide) (by decide) (fun _ => rfl) (fun v23 => ?_)
  refine g_goto (pc := 116) (tgt := 32) hC dX10_agenda_116 (by decide) ?_
  exact gT_sub [1, 2, 3, 4, 0] rfl (hk32 σ x19 x20 x21 v23)
def mX10_agenda_b95   (k32 : gS → Int32 → Int32 → Int32 → Int32 → Option (Int32 × gS)) (k57 : gS → Int32 → Int32 → Int32 → Int32 → Int32 → Int32 → Option (Int32 × gS)) (σ : gS) (x29 : Int32) (x30 : Int32) (x31 : Int32) (x32 : Int32) (x33 : Int32) (x34 : Int32) : Option (Int32 × gS) := gLet (x34 + 1) (fun v35 => (k57 σ x29 x30 x31 x32 x33 v35))
set_option maxHeartbeats 4000000 in
set_option maxRecDepth 100000 in
theorem wX10_agenda_b95 {p : Program} {l : Launch} {e : Env} {s : State} {m : MethodId} {args : Array Value} {below : List Frame} {meth : Method} {c : Code} {G : gE} (hC : gCx p s m args meth c G RX10 cX10_agenda 7 (some .int))    {k32 : gS → Int32 → Int32 → Int32 → Int32 → Option (Int32 × gS)} (hk32 : ∀ (σ : gS) (x5 : Int32) (x6 : Int32) (x7 : Int32) (x8 : Int32), gT p l e rX10_agenda s m args below meth c G 7 iI σ 32 [(0, .ref (G.2.1 52)), (1, .int x5), (2, .int x6), (3, .int x7), (4, .int x8)] [] (k32 σ x5 x6 x7 x8)) {k57 : gS → Int32 → Int32 → Int32 → Int32 → Int32 → Int32 → Option (Int32 × gS)} (hk57 : ∀ (σ : gS) (x11 : Int32) (x12 : Int32) (x13 : Int32) (x14 : Int32) (x15 : Int32) (x16 : Int32), gT p l e rX10_agenda s m args below meth c G 7 iI σ 57 [(0, .ref (G.2.1 52)), (1, .int x11), (2, .int x12), (3, .int x13), (4, .int x14), (5, .int x15), (6, .int x16)] [] (k57 σ x11 x12 x13 x14 x15 x16)) (σ : gS) (x29 : Int32) (x30 : Int32) (x31 : Int32) (x32 : Int32) (x33 : Int32) (x34 : Int32)  : gT p l e rX10_agenda s m args below meth c G 7 iI σ 95 [(0, .ref (G.2.1 52)), (1, .int x29), (2, .int x30), (3, .int x31), (4, .int x32), (5, .int x33), (6, .int x34)] [] (mX10_agenda_b95 k32 k57 σ x29 x30 x31 x32 x33 x34) := by
  unfold mX10_agenda_b95
  refine g_iinc (pc := 95) (q := 6) (w := 1) (lv' := fun v35 => [(6, .int v35), (0, .ref (G.2.1 52)), (1, .int x29), (2, .int x30), (3, .int x31), (4, .int x32), (5, .int x33)]) hC dX10_agenda_95 rfl (by decide) (by decide) (fun _ => rfl) (fun v35 => ?_)
  refine g_goto (pc := 98) (tgt := 57) hC dX10_agenda_98 (by decide) ?_
  exact gT_sub [1, 2, 3, 4, 5, 6, 0] rfl (hk57 σ x29 x30 x31 x32 x33 v35)
def mX10_agenda_b57   (k32 : gS → Int32 → Int32 → Int32 → Int32 → Option (Int32 × gS)) : Nat → gS → Int32 → Int32 → Int32 → Int32 → Int32 → Int32 → Option (Int32 × gS)
  | 0, _, _, _, _, _, _, _ => none
  | n + 1, σ, x11, x12, x13, x14, x15, x16 => if (σ.1 52 0) ≤ x16 then (gBind (mX10_carries σ x15) (fun r17 s18 => if r17 = true then (gLet x14 (fun v24 => (mX10_agenda_b113 k32 s18 x11 x12 v24 x14))) else ((mX10_agenda_b113 k32 s18 x11 x12 x13 x14)))) else (gBind (mX10_has σ x16 x11 x14) (fun r25 s26 => gBind (mX10_has s26 x16 x11 x13) (fun r27 s28 => if r25 ≤ r27 then ((mX10_agenda_b95 k32 (mX10_agenda_b57 k32 n) s28 x11 x12 x13 x14 x15 x16)) else (gLet (x15 ||| (1 <<< (x16 &&& 31))) (fun v36 => (mX10_agenda_b95 k32 (mX10_agenda_b57 k32 n) s28 x11 x12 x13 x14 v36 x16))))))
set_option maxHeartbeats 4000000 in
set_option maxRecDepth 100000 in
theorem wX10_agenda_b57 {p : Program} {l : Launch} {e : Env} {s : State} {m : MethodId} {args : Array Value} {below : List Frame} {meth : Method} {c : Code} {G : gE} (hC : gCx p s m args meth c G RX10 cX10_agenda 7 (some .int))    {k32 : gS → Int32 → Int32 → Int32 → Int32 → Option (Int32 × gS)} (hk32 : ∀ (σ : gS) (x5 : Int32) (x6 : Int32) (x7 : Int32) (x8 : Int32), gT p l e rX10_agenda s m args below meth c G 7 iI σ 32 [(0, .ref (G.2.1 52)), (1, .int x5), (2, .int x6), (3, .int x7), (4, .int x8)] [] (k32 σ x5 x6 x7 x8)) (n : Nat) (σ : gS) (x11 : Int32) (x12 : Int32) (x13 : Int32) (x14 : Int32) (x15 : Int32) (x16 : Int32)  : gT p l e rX10_agenda s m args below meth c G 7 iI σ 57 [(0, .ref (G.2.1 52)), (1, .int x11), (2, .int x12), (3, .int x13), (4, .int x14), (5, .int x15), (6, .int x16)] [] (mX10_agenda_b57 k32 n σ x11 x12 x13 x14 x15 x16) := by
  induction n generalizing σ x11 x12 x13 x14 x15 x16 with
  | zero => exact gT_none
  | succ n ih =>
    unfold mX10_agenda_b57
    refine g_iload (pc := 57) (q := 6) hC dX10_agenda_57 rfl ?_
    refine g_aload_n (pc := 59) (q := 0) hC dX10_agenda_59 rfl rfl ?_
    refine g_get (pc := 60) (v := .int (σ.1 52 0)) hC kX10 rfl 0 (by decide) fl_RX10_106 rfl dX10_agenda_60 ?_
    refine g_icmp_ge (pc := 63) (tgt := 101) hC dX10_agenda_63 (by decide) ?_ ?_
    · refine g_aload_n (pc := 101) (q := 0) hC dX10_agenda_101 rfl rfl ?_
      refine g_iload (pc := 102) (q := 5) hC dX10_agenda_102 rfl ?_
      refine g_callVz (pc := 104) (As := [.int x15]) (rest := []) hC lk_RX10_309 kX10 rfl (tX10_carries _ _ σ x15) rfl rfl (Nat.le_of_ble_eq_true rfl) ⟨rfl, rfl, Nat.le_of_ble_eq_true rfl, Nat.le_of_ble_eq_true rfl⟩ dX10_agenda_104 (fun r17 s18 => ?_)
      refine g_bif_eq (pc := 107) (tgt := 113) hC dX10_agenda_107 (by decide) ?_ ?_
      · exact gT_sub [0, 1, 2, 3, 4] rfl (wX10_agenda_b113 hC hk32 s18 x11 x12 x13 x14)
      · refine g_iload (pc := 110) (q := 4) hC dX10_agenda_110 rfl ?_
        refine g_istore_n (pc := 112) (lv' := fun v24 => [(3, .int v24), (0, .ref (G.2.1 52)), (1, .int x11), (2, .int x12), (4, .int x14), (5, .int x15), (6, .int x16)]) hC dX10_agenda_112 rfl (by decide) (fun _ => rfl) (fun v24 => ?_)
        exact gT_sub [1, 2, 3, 0, 4] rfl (wX10_agenda_b113 hC hk32 s18 x11 x12 v24 x14)
    · refine g_aload_n (pc := 66) (q := 0) hC dX10_agenda_66 rfl rfl ?_
      refine g_iload (pc := 67) (q := 6) hC dX10_agenda_67 rfl ?_
      refine g_iload_n (pc := 69) (q := 1) hC dX10_agenda_69 rfl rfl ?_
      refine g_iload (pc := 70) (q := 4) hC dX10_agenda_70 rfl ?_
      refine g_callVi (pc := 72) (As := [.int x16, .int x11, .int x14]) (rest := []) hC lk_RX10_300 kX10 rfl (tX10_has _ _ σ x16 x11 x14) rfl rfl (Nat.le_of_ble_eq_true rfl) ⟨rfl, rfl, Nat.le_of_ble_eq_true rfl, Nat.le_of_ble_eq_true rfl⟩ dX10_agenda_72 (fun r25 s26 => ?_)
      refine g_aload_n (pc := 75) (q := 0) hC dX10_agenda_75 rfl rfl ?_
      refine g_iload (pc := 76) (q := 6) hC dX10_agenda_76 rfl ?_
      refine g_iload_n (pc := 78) (q := 1) hC dX10_agenda_78 rfl rfl ?_
      refine g_iload_n (pc := 79) (q := 3) hC dX10_agenda_79 rfl rfl ?_
      refine g_callVi (pc := 80) (As := [.int x16, .int x11, .int x13]) (rest := [.int r25]) hC lk_RX10_300 kX10 rfl (tX10_has _ _ s26 x16 x11 x13) rfl rfl (Nat.le_of_ble_eq_true rfl) ⟨rfl, rfl, Nat.le_of_ble_eq_true rfl, Nat.le_of_ble_eq_true rfl⟩ dX10_agenda_80 (fun r27 s28 => ?_)
      refine g_icmp_le (pc := 83) (tgt := 95) hC dX10_agenda_83 (by decide) ?_ ?_
      · exact gT_sub [0, 1, 2, 3, 4, 5, 6] rfl (wX10_agenda_b95 hC hk32 ih s28 x11 x12 x13 x14 x15 x16)
      · refine g_iload (pc := 86) (q := 5) hC dX10_agenda_86 rfl ?_
        refine g_iconst (pc := 88) (v := 1) hC dX10_agenda_88 (by decide) ?_
        refine g_iload (pc := 89) (q := 6) hC dX10_agenda_89 rfl ?_
        refine g_ishl (pc := 91) hC dX10_agenda_91 ?_
        refine g_ior (pc := 92) hC dX10_agenda_92 ?_
        refine g_istore (pc := 93) (lv' := fun v36 => [(5, .int v36), (0, .ref (G.2.1 52)), (1, .int x11), (2, .int x12), (3, .int x13), (4, .int x14), (6, .int x16)]) hC dX10_agenda_93 (by decide) (fun _ => rfl) (fun v36 => ?_)
        exact gT_sub [1, 2, 3, 4, 5, 0, 6] rfl (wX10_agenda_b95 hC hk32 ih s28 x11 x12 x13 x14 v36 x16)
def mX10_agenda_b32    : Nat → gS → Int32 → Int32 → Int32 → Int32 → Option (Int32 × gS)
  | 0, _, _, _, _, _ => none
  | n + 1, σ, x5, x6, x7, x8 => if 25 ≤ x8 then (some (x7, σ)) else (if ((x6 >>> (x8 &&& 31)) &&& 1) = 0 then ((mX10_agenda_b113 (mX10_agenda_b32  n) σ x5 x6 x7 x8)) else (gLet 0 (fun v9 => gLet 0 (fun v10 => (mX10_agenda_b57 (mX10_agenda_b32  n) 1100 σ x5 x6 x7 x8 v9 v10)))))
set_option maxHeartbeats 4000000 in
set_option maxRecDepth 100000 in
theorem wX10_agenda_b32 {p : Program} {l : Launch} {e : Env} {s : State} {m : MethodId} {args : Array Value} {below : List Frame} {meth : Method} {c : Code} {G : gE} (hC : gCx p s m args meth c G RX10 cX10_agenda 7 (some .int))     (n : Nat) (σ : gS) (x5 : Int32) (x6 : Int32) (x7 : Int32) (x8 : Int32)  : gT p l e rX10_agenda s m args below meth c G 7 iI σ 32 [(0, .ref (G.2.1 52)), (1, .int x5), (2, .int x6), (3, .int x7), (4, .int x8)] [] (mX10_agenda_b32  n σ x5 x6 x7 x8) := by
  induction n generalizing σ x5 x6 x7 x8 with
  | zero => exact gT_none
  | succ n ih =>
    unfold mX10_agenda_b32
    refine g_iload (pc := 32) (q := 4) hC dX10_agenda_32 rfl ?_
    refine g_bipush (pc := 34) (v := 25) hC dX10_agenda_34 (by decide) ?_
    refine g_icmp_ge (pc := 36) (tgt := 119) hC dX10_agenda_36 (by decide) ?_ ?_
    · refine g_iload_n (pc := 119) (q := 3) hC dX10_agenda_119 rfl rfl ?_
      exact g_iret (pc := 120) hC dX10_agenda_120
    · refine g_iload_n (pc := 39) (q := 2) hC dX10_agenda_39 rfl rfl ?_
      refine g_iload (pc := 40) (q := 4) hC dX10_agenda_40 rfl ?_
      refine g_ishr (pc := 42) hC dX10_agenda_42 ?_
      refine g_iconst (pc := 43) (v := 1) hC dX10_agenda_43 (by decide) ?_
      refine g_iand (pc := 44) hC dX10_agenda_44 ?_
      refine g_if_ne (pc := 45) (tgt := 51) hC dX10_agenda_45 (by decide) ?_ ?_
      · refine g_iconst (pc := 51) (v := 0) hC dX10_agenda_51 (by decide) ?_
        refine g_istore (pc := 52) (lv' := fun v9 => [(5, .int v9), (0, .ref (G.2.1 52)), (1, .int x5), (2, .int x6), (3, .int x7), (4, .int x8)]) hC dX10_agenda_52 (by decide) (fun _ => rfl) (fun v9 => ?_)
        refine g_iconst (pc := 54) (v := 0) hC dX10_agenda_54 (by decide) ?_
        refine g_istore (pc := 55) (lv' := fun v10 => [(6, .int v10), (5, .int v9), (0, .ref (G.2.1 52)), (1, .int x5), (2, .int x6), (3, .int x7), (4, .int x8)]) hC dX10_agenda_55 (by decide) (fun _ => rfl) (fun v10 => ?_)
        exact gT_sub [2, 3, 4, 5, 6, 1, 0] rfl (wX10_agenda_b57 hC ih 1100 σ x5 x6 x7 x8 v9 v10)
      · refine g_goto (pc := 48) (tgt := 113) hC dX10_agenda_48 (by decide) ?_
        exact gT_sub [0, 1, 2, 3, 4] rfl (wX10_agenda_b113 hC ih σ x5 x6 x7 x8)
def mX10_agenda (σ : gS) (p0 : Int32) (p1 : Int32) : Option (Int32 × gS) := gBind (mX10_isDay σ p0) (fun r1 s2 => if r1 = true then (if p1 < 0 then (some ((-1), s2)) else (if (p1 &&& 1) = 1 then (some ((-1), s2)) else (if p1 < 33554432 then (gLet 0 (fun v3 => gLet 1 (fun v4 => (mX10_agenda_b32  1100 s2 p0 p1 v3 v4)))) else (some ((-1), s2))))) else (some ((-1), s2)))
set_option maxHeartbeats 4000000 in
set_option maxRecDepth 100000 in
theorem tX10_agenda (l : Launch) (G : gE) (σ : gS) (p0 : Int32) (p1 : Int32) : gM l G yX10_agenda cX10_agenda 7 (some .int) rX10_agenda iI [.ref (G.2.1 52), .int p0, .int p1] σ (mX10_agenda σ p0 p1) := by
  refine gM_of (by decide) (Nat.le_of_ble_eq_true rfl) ?_
  intro p e s m args below meth c hC
  unfold mX10_agenda
  show gT p l e rX10_agenda s m args below meth c G 7 iI σ 0 [(0, .ref (G.2.1 52)), (1, .int p0), (2, .int p1)] [] _
  refine g_iload_n (pc := 0) (q := 1) hC dX10_agenda_0 rfl rfl ?_
  refine g_callSz (pc := 1) (As := [.int p0]) (rest := []) hC lk_RX10_121 (tX10_isDay _ _ σ p0) rfl rfl (Nat.le_of_ble_eq_true rfl) ⟨rfl, rfl, Nat.le_of_ble_eq_true rfl, Nat.le_of_ble_eq_true rfl⟩ dX10_agenda_1 (fun r1 s2 => ?_)
  refine g_bif_eq (pc := 4) (tgt := 25) hC dX10_agenda_4 (by decide) ?_ ?_
  · refine g_iconst (pc := 25) (v := (-1)) hC dX10_agenda_25 (by decide) ?_
    exact g_iret (pc := 26) hC dX10_agenda_26
  · refine g_iload_n (pc := 7) (q := 2) hC dX10_agenda_7 rfl rfl ?_
    refine g_if_lt (pc := 8) (tgt := 25) hC dX10_agenda_8 (by decide) ?_ ?_
    · refine g_iconst (pc := 25) (v := (-1)) hC dX10_agenda_25 (by decide) ?_
      exact g_iret (pc := 26) hC dX10_agenda_26
    · refine g_iload_n (pc := 11) (q := 2) hC dX10_agenda_11 rfl rfl ?_
      refine g_iconst (pc := 12) (v := 1) hC dX10_agenda_12 (by decide) ?_
      refine g_iand (pc := 13) hC dX10_agenda_13 ?_
      refine g_iconst (pc := 14) (v := 1) hC dX10_agenda_14 (by decide) ?_
      refine g_icmp_eq (pc := 15) (tgt := 25) hC dX10_agenda_15 (by decide) ?_ ?_
      · refine g_iconst (pc := 25) (v := (-1)) hC dX10_agenda_25 (by decide) ?_
        exact g_iret (pc := 26) hC dX10_agenda_26
      · refine g_iload_n (pc := 18) (q := 2) hC dX10_agenda_18 rfl rfl ?_
        refine g_ldcw (pc := 19) hC dX10_agenda_19 cst_RX10_314 ?_
        refine g_icmp_lt (pc := 22) (tgt := 27) hC dX10_agenda_22 (by decide) ?_ ?_
        · refine g_iconst (pc := 27) (v := 0) hC dX10_agenda_27 (by decide) ?_
          refine g_istore_n (pc := 28) (lv' := fun v3 => [(3, .int v3), (0, .ref (G.2.1 52)), (1, .int p0), (2, .int p1)]) hC dX10_agenda_28 rfl (by decide) (fun _ => rfl) (fun v3 => ?_)
          refine g_iconst (pc := 29) (v := 1) hC dX10_agenda_29 (by decide) ?_
          refine g_istore (pc := 30) (lv' := fun v4 => [(4, .int v4), (3, .int v3), (0, .ref (G.2.1 52)), (1, .int p0), (2, .int p1)]) hC dX10_agenda_30 (by decide) (fun _ => rfl) (fun v4 => ?_)
          exact gT_sub [2, 3, 4, 1, 0] rfl (wX10_agenda_b32 hC  1100 s2 p0 p1 v3 v4)
        · refine g_iconst (pc := 25) (v := (-1)) hC dX10_agenda_25 (by decide) ?_
          exact g_iret (pc := 26) hC dX10_agenda_26
theorem dX10_sold_0 : decode cX10_sold 0 = .ok (.iconst 0, 1) := by decide +kernel
theorem dX10_sold_1 : decode cX10_sold 1 = .ok (.istore_n 3, 1) := by decide +kernel
theorem dX10_sold_2 : decode cX10_sold 2 = .ok (.iconst 0, 1) := by decide +kernel
theorem dX10_sold_3 : decode cX10_sold 3 = .ok (.istore 4, 2) := by decide +kernel
theorem dX10_sold_5 : decode cX10_sold 5 = .ok (.iload 4, 2) := by decide +kernel
theorem dX10_sold_7 : decode cX10_sold 7 = .ok (.aload_n 0, 1) := by decide +kernel
theorem dX10_sold_8 : decode cX10_sold 8 = .ok (.getfield 114, 3) := by decide +kernel
theorem dX10_sold_11 : decode cX10_sold 11 = .ok (.if_icmp .ge 51, 3) := by decide +kernel
theorem dX10_sold_14 : decode cX10_sold 14 = .ok (.aload_n 0, 1) := by decide +kernel
theorem dX10_sold_15 : decode cX10_sold 15 = .ok (.getfield 21, 3) := by decide +kernel
theorem dX10_sold_18 : decode cX10_sold 18 = .ok (.iload 4, 2) := by decide +kernel
theorem dX10_sold_20 : decode cX10_sold 20 = .ok (.iaload, 1) := by decide +kernel
theorem dX10_sold_21 : decode cX10_sold 21 = .ok (.iload_n 1, 1) := by decide +kernel
theorem dX10_sold_22 : decode cX10_sold 22 = .ok (.if_icmp .ne 34, 3) := by decide +kernel
theorem dX10_sold_25 : decode cX10_sold 25 = .ok (.aload_n 0, 1) := by decide +kernel
theorem dX10_sold_26 : decode cX10_sold 26 = .ok (.getfield 27, 3) := by decide +kernel
theorem dX10_sold_29 : decode cX10_sold 29 = .ok (.iload 4, 2) := by decide +kernel
theorem dX10_sold_31 : decode cX10_sold 31 = .ok (.iaload, 1) := by decide +kernel
theorem dX10_sold_32 : decode cX10_sold 32 = .ok (.aload_n 0, 1) := by decide +kernel
theorem dX10_sold_33 : decode cX10_sold 33 = .ok (.getfield 24, 3) := by decide +kernel
theorem dX10_sold_36 : decode cX10_sold 36 = .ok (.iload 4, 2) := by decide +kernel
theorem dX10_sold_38 : decode cX10_sold 38 = .ok (.iaload, 1) := by decide +kernel
theorem dX10_sold_39 : decode cX10_sold 39 = .ok (.idiv, 1) := by decide +kernel
theorem dX10_sold_40 : decode cX10_sold 40 = .ok (.iload_n 2, 1) := by decide +kernel
theorem dX10_sold_41 : decode cX10_sold 41 = .ok (.if_icmp .lt 15, 3) := by decide +kernel
theorem dX10_sold_44 : decode cX10_sold 44 = .ok (.iload_n 3, 1) := by decide +kernel
theorem dX10_sold_45 : decode cX10_sold 45 = .ok (.aload_n 0, 1) := by decide +kernel
theorem dX10_sold_46 : decode cX10_sold 46 = .ok (.getfield 24, 3) := by decide +kernel
theorem dX10_sold_49 : decode cX10_sold 49 = .ok (.iload 4, 2) := by decide +kernel
theorem dX10_sold_51 : decode cX10_sold 51 = .ok (.iaload, 1) := by decide +kernel
theorem dX10_sold_52 : decode cX10_sold 52 = .ok (.invokestatic 237, 3) := by decide +kernel
theorem dX10_sold_55 : decode cX10_sold 55 = .ok (.istore_n 3, 1) := by decide +kernel
theorem dX10_sold_56 : decode cX10_sold 56 = .ok (.iinc 4 1, 3) := by decide +kernel
theorem dX10_sold_59 : decode cX10_sold 59 = .ok (.goto (-54), 3) := by decide +kernel
theorem dX10_sold_62 : decode cX10_sold 62 = .ok (.iconst 0, 1) := by decide +kernel
theorem dX10_sold_63 : decode cX10_sold 63 = .ok (.aload_n 0, 1) := by decide +kernel
theorem dX10_sold_64 : decode cX10_sold 64 = .ok (.getfield 30, 3) := by decide +kernel
theorem dX10_sold_67 : decode cX10_sold 67 = .ok (.iconst 0, 1) := by decide +kernel
theorem dX10_sold_68 : decode cX10_sold 68 = .ok (.iaload, 1) := by decide +kernel
theorem dX10_sold_69 : decode cX10_sold 69 = .ok (.iload_n 3, 1) := by decide +kernel
theorem dX10_sold_70 : decode cX10_sold 70 = .ok (.isub, 1) := by decide +kernel
theorem dX10_sold_71 : decode cX10_sold 71 = .ok (.invokestatic 237, 3) := by decide +kernel
theorem dX10_sold_74 : decode cX10_sold 74 = .ok (.ireturn, 1) := by decide +kernel
abbrev rX10_sold : Room := { frames := 1, cells := 0, slots := 0, locals := 21 }
def mX10_sold_b56   (k5 : gS → Int32 → Int32 → Int32 → Int32 → Option (Int32 × gS)) (σ : gS) (x7 : Int32) (x8 : Int32) (x9 : Int32) (x10 : Int32) : Option (Int32 × gS) := gLet (x10 + 1) (fun v11 => (k5 σ x7 x8 x9 v11))
set_option maxHeartbeats 4000000 in
set_option maxRecDepth 100000 in
theorem wX10_sold_b56 {p : Program} {l : Launch} {e : Env} {s : State} {m : MethodId} {args : Array Value} {below : List Frame} {meth : Method} {c : Code} {G : gE} (hC : gCx p s m args meth c G RX10 cX10_sold 5 (some .int))    {k5 : gS → Int32 → Int32 → Int32 → Int32 → Option (Int32 × gS)} (hk5 : ∀ (σ : gS) (x3 : Int32) (x4 : Int32) (x5 : Int32) (x6 : Int32), gT p l e rX10_sold s m args below meth c G 5 iI σ 5 [(0, .ref (G.2.1 52)), (1, .int x3), (2, .int x4), (3, .int x5), (4, .int x6)] [] (k5 σ x3 x4 x5 x6)) (σ : gS) (x7 : Int32) (x8 : Int32) (x9 : Int32) (x10 : Int32)  : gT p l e rX10_sold s m args below meth c G 5 iI σ 56 [(0, .ref (G.2.1 52)), (1, .int x7), (2, .int x8), (3, .int x9), (4, .int x10)] [] (mX10_sold_b56 k5 σ x7 x8 x9 x10) := by
  unfold mX10_sold_b56
  refine g_iinc (pc := 56) (q := 4) (w := 1) (lv' := fun v11 => [(4, .int v11), (0, .ref (G.2.1 52)), (1, .int x7), (2, .int x8), (3, .int x9)]) hC dX10_sold_56 rfl (by decide) (by decide) (fun _ => rfl) (fun v11 => ?_)
  refine g_goto (pc := 59) (tgt := 5) hC dX10_sold_59 (by decide) ?_
  exact gT_sub [1, 2, 3, 4, 0] rfl (hk5 σ x7 x8 x9 v11)
def mX10_sold_b5    : Nat → gS → Int32 → Int32 → Int32 → Int32 → Option (Int32 × gS)
  | 0, _, _, _, _, _ => none
  | n + 1, σ, x3, x4, x5, x6 => if (σ.1 52 3) ≤ x6 then (if inbB 0 5 = true then (some ((gMax 0 ((σ.1 59 (Int32.toNatClampNeg 0)) - x5)), σ)) else none) else (if inbB x6 12 = true then (if (σ.1 56 (Int32.toNatClampNeg x6)) = x3 then (if inbB x6 12 = true then (if inbB x6 12 = true then (if (σ.1 57 (Int32.toNatClampNeg x6)) = 0 then none else if ((σ.1 58 (Int32.toNatClampNeg x6)) / (σ.1 57 (Int32.toNatClampNeg x6))) < x4 then ((mX10_sold_b56 (mX10_sold_b5  n) σ x3 x4 x5 x6)) else (if inbB x6 12 = true then (gLet (gMax x5 (σ.1 57 (Int32.toNatClampNeg x6))) (fun v12 => (mX10_sold_b56 (mX10_sold_b5  n) σ x3 x4 v12 x6))) else none)) else none) else none) else ((mX10_sold_b56 (mX10_sold_b5  n) σ x3 x4 x5 x6))) else none)
set_option maxHeartbeats 4000000 in
set_option maxRecDepth 100000 in
theorem wX10_sold_b5 {p : Program} {l : Launch} {e : Env} {s : State} {m : MethodId} {args : Array Value} {below : List Frame} {meth : Method} {c : Code} {G : gE} (hC : gCx p s m args meth c G RX10 cX10_sold 5 (some .int))     (n : Nat) (σ : gS) (x3 : Int32) (x4 : Int32) (x5 : Int32) (x6 : Int32)  : gT p l e rX10_sold s m args below meth c G 5 iI σ 5 [(0, .ref (G.2.1 52)), (1, .int x3), (2, .int x4), (3, .int x5), (4, .int x6)] [] (mX10_sold_b5  n σ x3 x4 x5 x6) := by
  induction n generalizing σ x3 x4 x5 x6 with
  | zero => exact gT_none
  | succ n ih =>
    unfold mX10_sold_b5
    refine g_iload (pc := 5) (q := 4) hC dX10_sold_5 rfl ?_
    refine g_aload_n (pc := 7) (q := 0) hC dX10_sold_7 rfl rfl ?_
    refine g_get (pc := 8) (v := .int (σ.1 52 3)) hC kX10 rfl 3 (by decide) fl_RX10_114 rfl dX10_sold_8 ?_
    refine g_icmp_ge (pc := 11) (tgt := 62) hC dX10_sold_11 (by decide) ?_ ?_
    · refine g_iconst (pc := 62) (v := 0) hC dX10_sold_62 (by decide) ?_
      refine g_aload_n (pc := 63) (q := 0) hC dX10_sold_63 rfl rfl ?_
      refine g_get (pc := 64) (v := .ref (G.2.1 59)) hC kX10 rfl 8 (by decide) fl_RX10_30 rfl dX10_sold_64 ?_
      refine g_iconst (pc := 67) (v := 0) hC dX10_sold_67 (by decide) ?_
      refine g_iald (pc := 68) hC 5 rfl (by decide) dX10_sold_68 ?_
      refine g_iload_n (pc := 69) (q := 3) hC dX10_sold_69 rfl rfl ?_
      refine g_isub (pc := 70) hC dX10_sold_70 ?_
      refine g_max (pc := 71) hC mth_RX10_237 ⟨Nat.le_of_ble_eq_true rfl, Nat.le_of_ble_eq_true rfl⟩ (Nat.le_of_ble_eq_true rfl) dX10_sold_71 ?_
      exact g_iret (pc := 74) hC dX10_sold_74
    · refine g_aload_n (pc := 14) (q := 0) hC dX10_sold_14 rfl rfl ?_
      refine g_get (pc := 15) (v := .ref (G.2.1 56)) hC kX10 rfl 5 (by decide) fl_RX10_21 rfl dX10_sold_15 ?_
      refine g_iload (pc := 18) (q := 4) hC dX10_sold_18 rfl ?_
      refine g_iald (pc := 20) hC 12 rfl (by decide) dX10_sold_20 ?_
      refine g_iload_n (pc := 21) (q := 1) hC dX10_sold_21 rfl rfl ?_
      refine g_icmp_ne (pc := 22) (tgt := 56) hC dX10_sold_22 (by decide) ?_ ?_
      · exact gT_sub [0, 1, 2, 3, 4] rfl (wX10_sold_b56 hC ih σ x3 x4 x5 x6)
      · refine g_aload_n (pc := 25) (q := 0) hC dX10_sold_25 rfl rfl ?_
        refine g_get (pc := 26) (v := .ref (G.2.1 58)) hC kX10 rfl 7 (by decide) fl_RX10_27 rfl dX10_sold_26 ?_
        refine g_iload (pc := 29) (q := 4) hC dX10_sold_29 rfl ?_
        refine g_iald (pc := 31) hC 12 rfl (by decide) dX10_sold_31 ?_
        refine g_aload_n (pc := 32) (q := 0) hC dX10_sold_32 rfl rfl ?_
        refine g_get (pc := 33) (v := .ref (G.2.1 57)) hC kX10 rfl 6 (by decide) fl_RX10_24 rfl dX10_sold_33 ?_
        refine g_iload (pc := 36) (q := 4) hC dX10_sold_36 rfl ?_
        refine g_iald (pc := 38) hC 12 rfl (by decide) dX10_sold_38 ?_
        refine g_idiv (pc := 39) hC dX10_sold_39 ?_
        refine g_iload_n (pc := 40) (q := 2) hC dX10_sold_40 rfl rfl ?_
        refine g_icmp_lt (pc := 41) (tgt := 56) hC dX10_sold_41 (by decide) ?_ ?_
        · exact gT_sub [0, 1, 2, 3, 4] rfl (wX10_sold_b56 hC ih σ x3 x4 x5 x6)
        · refine g_iload_n (pc := 44) (q := 3) hC dX10_sold_44 rfl rfl ?_
          refine g_aload_n (pc := 45) (q := 0) hC dX10_sold_45 rfl rfl ?_
          refine g_get (pc := 46) (v := .ref (G.2.1 57)) hC kX10 rfl 6 (by decide) fl_RX10_24 rfl dX10_sold_46 ?_
          refine g_iload (pc := 49) (q := 4) hC dX10_sold_49 rfl ?_
          refine g_iald (pc := 51) hC 12 rfl (by decide) dX10_sold_51 ?_
          refine g_max (pc := 52) hC mth_RX10_237 ⟨Nat.le_of_ble_eq_true rfl, Nat.le_of_ble_eq_true rfl⟩ (Nat.le_of_ble_eq_true rfl) dX10_sold_52 ?_
          refine g_istore_n (pc := 55) (lv' := fun v12 => [(3, .int v12), (0, .ref (G.2.1 52)), (1, .int x3), (2, .int x4), (4, .int x6)]) hC dX10_sold_55 rfl (by decide) (fun _ => rfl) (fun v12 => ?_)
          exact gT_sub [1, 2, 3, 0, 4] rfl (wX10_sold_b56 hC ih σ x3 x4 v12 x6)
def mX10_sold (σ : gS) (p0 : Int32) (p1 : Int32) : Option (Int32 × gS) := gLet 0 (fun v1 => gLet 0 (fun v2 => (mX10_sold_b5  1100 σ p0 p1 v1 v2)))
set_option maxHeartbeats 4000000 in
set_option maxRecDepth 100000 in
theorem tX10_sold (l : Launch) (G : gE) (σ : gS) (p0 : Int32) (p1 : Int32) : gM l G yX10_sold cX10_sold 5 (some .int) rX10_sold iI [.ref (G.2.1 52), .int p0, .int p1] σ (mX10_sold σ p0 p1) := by
  refine gM_of (by decide) (Nat.le_of_ble_eq_true rfl) ?_
  intro p e s m args below meth c hC
  unfold mX10_sold
  show gT p l e rX10_sold s m args below meth c G 5 iI σ 0 [(0, .ref (G.2.1 52)), (1, .int p0), (2, .int p1)] [] _
  refine g_iconst (pc := 0) (v := 0) hC dX10_sold_0 (by decide) ?_
  refine g_istore_n (pc := 1) (lv' := fun v1 => [(3, .int v1), (0, .ref (G.2.1 52)), (1, .int p0), (2, .int p1)]) hC dX10_sold_1 rfl (by decide) (fun _ => rfl) (fun v1 => ?_)
  refine g_iconst (pc := 2) (v := 0) hC dX10_sold_2 (by decide) ?_
  refine g_istore (pc := 3) (lv' := fun v2 => [(4, .int v2), (3, .int v1), (0, .ref (G.2.1 52)), (1, .int p0), (2, .int p1)]) hC dX10_sold_3 (by decide) (fun _ => rfl) (fun v2 => ?_)
  exact gT_sub [2, 3, 4, 1, 0] rfl (wX10_sold_b5 hC  1100 σ p0 p1 v1 v2)
theorem lk_RX10_315 : gLV RX10 315 RX10 yX10_sold cX10_sold 5 (some .int) 2 := ⟨(gBig_tab 1461 (by decide +kernel) (by decide +kernel)), (gBig_tab 1463 (by decide +kernel) (by decide +kernel)), (gBig_sel 83 (by decide +kernel) (by decide +kernel)), (gBig_tab 11 (by decide +kernel) (by decide +kernel)), (gBig_tab 1464 (by decide +kernel) (by decide +kernel)), rfl, by decide +kernel, by decide +kernel, by decide +kernel⟩
theorem dX10_price_0 : decode cX10_price 0 = .ok (.iload_n 1, 1) := by decide +kernel
theorem dX10_price_1 : decode cX10_price 1 = .ok (.invokestatic 121, 3) := by decide +kernel
theorem dX10_price_4 : decode cX10_price 4 = .ok (.ifCond .eq 13, 3) := by decide +kernel
theorem dX10_price_7 : decode cX10_price 7 = .ok (.iload_n 2, 1) := by decide +kernel
theorem dX10_price_8 : decode cX10_price 8 = .ok (.iconst (-1), 1) := by decide +kernel
theorem dX10_price_9 : decode cX10_price 9 = .ok (.bipush 99, 2) := by decide +kernel
theorem dX10_price_11 : decode cX10_price 11 = .ok (.invokestatic 110, 3) := by decide +kernel
theorem dX10_price_14 : decode cX10_price 14 = .ok (.ifCond .ne 5, 3) := by decide +kernel
theorem dX10_price_17 : decode cX10_price 17 = .ok (.iconst (-1), 1) := by decide +kernel
theorem dX10_price_18 : decode cX10_price 18 = .ok (.ireturn, 1) := by decide +kernel
theorem dX10_price_19 : decode cX10_price 19 = .ok (.iload_n 2, 1) := by decide +kernel
theorem dX10_price_20 : decode cX10_price 20 = .ok (.ifCond .lt 10, 3) := by decide +kernel
theorem dX10_price_23 : decode cX10_price 23 = .ok (.aload_n 0, 1) := by decide +kernel
theorem dX10_price_24 : decode cX10_price 24 = .ok (.iload_n 1, 1) := by decide +kernel
theorem dX10_price_25 : decode cX10_price 25 = .ok (.iload_n 2, 1) := by decide +kernel
theorem dX10_price_26 : decode cX10_price 26 = .ok (.invokevirtual 315, 3) := by decide +kernel
theorem dX10_price_29 : decode cX10_price 29 = .ok (.ireturn, 1) := by decide +kernel
theorem dX10_price_30 : decode cX10_price 30 = .ok (.iconst 0, 1) := by decide +kernel
theorem dX10_price_31 : decode cX10_price 31 = .ok (.istore_n 3, 1) := by decide +kernel
theorem dX10_price_32 : decode cX10_price 32 = .ok (.iconst 1, 1) := by decide +kernel
theorem dX10_price_33 : decode cX10_price 33 = .ok (.istore 4, 2) := by decide +kernel
theorem dX10_price_35 : decode cX10_price 35 = .ok (.iload 4, 2) := by decide +kernel
theorem dX10_price_37 : decode cX10_price 37 = .ok (.bipush 100, 2) := by decide +kernel
theorem dX10_price_39 : decode cX10_price 39 = .ok (.if_icmp .ge 33, 3) := by decide +kernel
theorem dX10_price_42 : decode cX10_price 42 = .ok (.iload 4, 2) := by decide +kernel
theorem dX10_price_44 : decode cX10_price 44 = .ok (.aload_n 0, 1) := by decide +kernel
theorem dX10_price_45 : decode cX10_price 45 = .ok (.iload_n 1, 1) := by decide +kernel
theorem dX10_price_46 : decode cX10_price 46 = .ok (.iload 4, 2) := by decide +kernel
theorem dX10_price_48 : decode cX10_price 48 = .ok (.invokevirtual 315, 3) := by decide +kernel
theorem dX10_price_51 : decode cX10_price 51 = .ok (.imul, 1) := by decide +kernel
theorem dX10_price_52 : decode cX10_price 52 = .ok (.iload_n 3, 1) := by decide +kernel
theorem dX10_price_53 : decode cX10_price 53 = .ok (.aload_n 0, 1) := by decide +kernel
theorem dX10_price_54 : decode cX10_price 54 = .ok (.iload_n 1, 1) := by decide +kernel
theorem dX10_price_55 : decode cX10_price 55 = .ok (.iload_n 3, 1) := by decide +kernel
theorem dX10_price_56 : decode cX10_price 56 = .ok (.invokevirtual 315, 3) := by decide +kernel
theorem dX10_price_59 : decode cX10_price 59 = .ok (.imul, 1) := by decide +kernel
theorem dX10_price_60 : decode cX10_price 60 = .ok (.if_icmp .le 6, 3) := by decide +kernel
theorem dX10_price_63 : decode cX10_price 63 = .ok (.iload 4, 2) := by decide +kernel
theorem dX10_price_65 : decode cX10_price 65 = .ok (.istore_n 3, 1) := by decide +kernel
theorem dX10_price_66 : decode cX10_price 66 = .ok (.iinc 4 1, 3) := by decide +kernel
theorem dX10_price_69 : decode cX10_price 69 = .ok (.goto (-34), 3) := by decide +kernel
theorem dX10_price_72 : decode cX10_price 72 = .ok (.iload_n 3, 1) := by decide +kernel
theorem dX10_price_73 : decode cX10_price 73 = .ok (.ireturn, 1) := by decide +kernel
abbrev rX10_price : Room := { frames := 2, cells := 0, slots := 0, locals := 45 }
def mX10_price_b66   (k35 : gS → Int32 → Int32 → Int32 → Option (Int32 × gS)) (σ : gS) (x14 : Int32) (x15 : Int32) (x16 : Int32) : Option (Int32 × gS) := gLet (x16 + 1) (fun v17 => (k35 σ x14 x15 v17))
set_option maxHeartbeats 4000000 in
set_option maxRecDepth 100000 in
theorem wX10_price_b66 {p : Program} {l : Launch} {e : Env} {s : State} {m : MethodId} {args : Array Value} {below : List Frame} {meth : Method} {c : Code} {G : gE} (hC : gCx p s m args meth c G RX10 cX10_price 5 (some .int))    {k35 : gS → Int32 → Int32 → Int32 → Option (Int32 × gS)} (hk35 : ∀ (σ : gS) (x7 : Int32) (x8 : Int32) (x9 : Int32), gT p l e rX10_price s m args below meth c G 5 iI σ 35 [(0, .ref (G.2.1 52)), (1, .int x7), (3, .int x8), (4, .int x9)] [] (k35 σ x7 x8 x9)) (σ : gS) (x14 : Int32) (x15 : Int32) (x16 : Int32)  : gT p l e rX10_price s m args below meth c G 5 iI σ 66 [(0, .ref (G.2.1 52)), (1, .int x14), (3, .int x15), (4, .int x16)] [] (mX10_price_b66 k35 σ x14 x15 x16) := by
  unfold mX10_price_b66
  refine g_iinc (pc := 66) (q := 3) (w := 1) (lv' := fun v17 => [(4, .int v17), (0, .ref (G.2.1 52)), (1, .int x14), (3, .int x15)]) hC dX10_price_66 rfl (by decide) (by decide) (fun _ => rfl) (fun v17 => ?_)
  refine g_goto (pc := 69) (tgt := 35) hC dX10_price_69 (by decide) ?_
  exact gT_sub [1, 2, 3, 0] rfl (hk35 σ x14 x15 v17)
def mX10_price_b35    : Nat → gS → Int32 → Int32 → Int32 → Option (Int32 × gS)
  | 0, _, _, _, _ => none
  | n + 1, σ, x7, x8, x9 => if 100 ≤ x9 then (some (x8, σ)) else (gBind (mX10_sold σ x7 x9) (fun r10 s11 => gBind (mX10_sold s11 x7 x8) (fun r12 s13 => if (x9 * r10) ≤ (x8 * r12) then ((mX10_price_b66 (mX10_price_b35  n) s13 x7 x8 x9)) else (gLet x9 (fun v18 => (mX10_price_b66 (mX10_price_b35  n) s13 x7 v18 x9))))))
set_option maxHeartbeats 4000000 in
set_option maxRecDepth 100000 in
theorem wX10_price_b35 {p : Program} {l : Launch} {e : Env} {s : State} {m : MethodId} {args : Array Value} {below : List Frame} {meth : Method} {c : Code} {G : gE} (hC : gCx p s m args meth c G RX10 cX10_price 5 (some .int))     (n : Nat) (σ : gS) (x7 : Int32) (x8 : Int32) (x9 : Int32)  : gT p l e rX10_price s m args below meth c G 5 iI σ 35 [(0, .ref (G.2.1 52)), (1, .int x7), (3, .int x8), (4, .int x9)] [] (mX10_price_b35  n σ x7 x8 x9) := by
  induction n generalizing σ x7 x8 x9 with
  | zero => exact gT_none
  | succ n ih =>
    unfold mX10_price_b35
    refine g_iload (pc := 35) (q := 3) hC dX10_price_35 rfl ?_
    refine g_bipush (pc := 37) (v := 100) hC dX10_price_37 (by decide) ?_
    refine g_icmp_ge (pc := 39) (tgt := 72) hC dX10_price_39 (by decide) ?_ ?_
    · refine g_iload_n (pc := 72) (q := 2) hC dX10_price_72 rfl rfl ?_
      exact g_iret (pc := 73) hC dX10_price_73
    · refine g_iload (pc := 42) (q := 3) hC dX10_price_42 rfl ?_
      refine g_aload_n (pc := 44) (q := 0) hC dX10_price_44 rfl rfl ?_
      refine g_iload_n (pc := 45) (q := 1) hC dX10_price_45 rfl rfl ?_
      refine g_iload (pc := 46) (q := 3) hC dX10_price_46 rfl ?_
      refine g_callVi (pc := 48) (As := [.int x7, .int x9]) (rest := [.int x9]) hC lk_RX10_315 kX10 rfl (tX10_sold _ _ σ x7 x9) rfl rfl (Nat.le_of_ble_eq_true rfl) ⟨rfl, rfl, Nat.le_of_ble_eq_true rfl, Nat.le_of_ble_eq_true rfl⟩ dX10_price_48 (fun r10 s11 => ?_)
      refine g_imul (pc := 51) hC dX10_price_51 ?_
      refine g_iload_n (pc := 52) (q := 2) hC dX10_price_52 rfl rfl ?_
      refine g_aload_n (pc := 53) (q := 0) hC dX10_price_53 rfl rfl ?_
      refine g_iload_n (pc := 54) (q := 1) hC dX10_price_54 rfl rfl ?_
      refine g_iload_n (pc := 55) (q := 2) hC dX10_price_55 rfl rfl ?_
      refine g_callVi (pc := 56) (As := [.int x7, .int x8]) (rest := [.int x8, .int (x9 * r10)]) hC lk_RX10_315 kX10 rfl (tX10_sold _ _ s11 x7 x8) rfl rfl (Nat.le_of_ble_eq_true rfl) ⟨rfl, rfl, Nat.le_of_ble_eq_true rfl, Nat.le_of_ble_eq_true rfl⟩ dX10_price_56 (fun r12 s13 => ?_)
      refine g_imul (pc := 59) hC dX10_price_59 ?_
      refine g_icmp_le (pc := 60) (tgt := 66) hC dX10_price_60 (by decide) ?_ ?_
      · exact gT_sub [0, 1, 2, 3] rfl (wX10_price_b66 hC ih s13 x7 x8 x9)
      · refine g_iload (pc := 63) (q := 3) hC dX10_price_63 rfl ?_
        refine g_istore_n (pc := 65) (lv' := fun v18 => [(3, .int v18), (0, .ref (G.2.1 52)), (1, .int x7), (4, .int x9)]) hC dX10_price_65 rfl (by decide) (fun _ => rfl) (fun v18 => ?_)
        exact gT_sub [1, 2, 0, 3] rfl (wX10_price_b66 hC ih s13 x7 v18 x9)
def mX10_price (σ : gS) (p0 : Int32) (p1 : Int32) : Option (Int32 × gS) := gBind (mX10_isDay σ p0) (fun r1 s2 => if r1 = true then (gBind (mX10_within s2 p1 (-1) 99) (fun r3 s4 => if r3 = true then (if p1 < 0 then (gLet 0 (fun v5 => gLet 1 (fun v6 => (mX10_price_b35  1100 s4 p0 v5 v6)))) else (gBind (mX10_sold s4 p0 p1) (fun r19 s20 => some (r19, s20)))) else (some ((-1), s4)))) else (some ((-1), s2)))
set_option maxHeartbeats 4000000 in
set_option maxRecDepth 100000 in
theorem tX10_price (l : Launch) (G : gE) (σ : gS) (p0 : Int32) (p1 : Int32) : gM l G yX10_price cX10_price 5 (some .int) rX10_price iI [.ref (G.2.1 52), .int p0, .int p1] σ (mX10_price σ p0 p1) := by
  refine gM_of (by decide) (Nat.le_of_ble_eq_true rfl) ?_
  intro p e s m args below meth c hC
  unfold mX10_price
  show gT p l e rX10_price s m args below meth c G 5 iI σ 0 [(0, .ref (G.2.1 52)), (1, .int p0), (2, .int p1)] [] _
  refine g_iload_n (pc := 0) (q := 1) hC dX10_price_0 rfl rfl ?_
  refine g_callSz (pc := 1) (As := [.int p0]) (rest := []) hC lk_RX10_121 (tX10_isDay _ _ σ p0) rfl rfl (Nat.le_of_ble_eq_true rfl) ⟨rfl, rfl, Nat.le_of_ble_eq_true rfl, Nat.le_of_ble_eq_true rfl⟩ dX10_price_1 (fun r1 s2 => ?_)
  refine g_bif_eq (pc := 4) (tgt := 17) hC dX10_price_4 (by decide) ?_ ?_
  · refine g_iconst (pc := 17) (v := (-1)) hC dX10_price_17 (by decide) ?_
    exact g_iret (pc := 18) hC dX10_price_18
  · refine g_iload_n (pc := 7) (q := 2) hC dX10_price_7 rfl rfl ?_
    refine g_iconst (pc := 8) (v := (-1)) hC dX10_price_8 (by decide) ?_
    refine g_bipush (pc := 9) (v := 99) hC dX10_price_9 (by decide) ?_
    refine g_callSz (pc := 11) (As := [.int p1, .int (-1), .int 99]) (rest := []) hC lk_RX10_110 (tX10_within _ _ s2 p1 (-1) 99) rfl rfl (Nat.le_of_ble_eq_true rfl) ⟨rfl, rfl, Nat.le_of_ble_eq_true rfl, Nat.le_of_ble_eq_true rfl⟩ dX10_price_11 (fun r3 s4 => ?_)
    refine g_bif_ne (pc := 14) (tgt := 19) hC dX10_price_14 (by decide) ?_ ?_
    · refine g_iload_n (pc := 19) (q := 2) hC dX10_price_19 rfl rfl ?_
      refine g_if_lt (pc := 20) (tgt := 30) hC dX10_price_20 (by decide) ?_ ?_
      · refine g_iconst (pc := 30) (v := 0) hC dX10_price_30 (by decide) ?_
        refine g_istore_n (pc := 31) (lv' := fun v5 => [(3, .int v5), (0, .ref (G.2.1 52)), (1, .int p0), (2, .int p1)]) hC dX10_price_31 rfl (by decide) (fun _ => rfl) (fun v5 => ?_)
        refine g_iconst (pc := 32) (v := 1) hC dX10_price_32 (by decide) ?_
        refine g_istore (pc := 33) (lv' := fun v6 => [(4, .int v6), (3, .int v5), (0, .ref (G.2.1 52)), (1, .int p0), (2, .int p1)]) hC dX10_price_33 (by decide) (fun _ => rfl) (fun v6 => ?_)
        exact gT_sub [2, 3, 1, 0] rfl (wX10_price_b35 hC  1100 s4 p0 v5 v6)
      · refine g_aload_n (pc := 23) (q := 0) hC dX10_price_23 rfl rfl ?_
        refine g_iload_n (pc := 24) (q := 1) hC dX10_price_24 rfl rfl ?_
        refine g_iload_n (pc := 25) (q := 2) hC dX10_price_25 rfl rfl ?_
        refine g_callVi (pc := 26) (As := [.int p0, .int p1]) (rest := []) hC lk_RX10_315 kX10 rfl (tX10_sold _ _ s4 p0 p1) rfl rfl (Nat.le_of_ble_eq_true rfl) ⟨rfl, rfl, Nat.le_of_ble_eq_true rfl, Nat.le_of_ble_eq_true rfl⟩ dX10_price_26 (fun r19 s20 => ?_)
        exact g_iret (pc := 29) hC dX10_price_29
    · refine g_iconst (pc := 17) (v := (-1)) hC dX10_price_17 (by decide) ?_
      exact g_iret (pc := 18) hC dX10_price_18
theorem dX10_unlike_0 : decode cX10_unlike 0 = .ok (.aload_n 0, 1) := by decide +kernel
theorem dX10_unlike_1 : decode cX10_unlike 1 = .ok (.invokevirtual 243, 3) := by decide +kernel
theorem dX10_unlike_4 : decode cX10_unlike 4 = .ok (.aload_n 0, 1) := by decide +kernel
theorem dX10_unlike_5 : decode cX10_unlike 5 = .ok (.iload_n 2, 1) := by decide +kernel
theorem dX10_unlike_6 : decode cX10_unlike 6 = .ok (.invokevirtual 274, 3) := by decide +kernel
theorem dX10_unlike_9 : decode cX10_unlike 9 = .ok (.iconst 0, 1) := by decide +kernel
theorem dX10_unlike_10 : decode cX10_unlike 10 = .ok (.istore_n 3, 1) := by decide +kernel
theorem dX10_unlike_11 : decode cX10_unlike 11 = .ok (.iload_n 3, 1) := by decide +kernel
theorem dX10_unlike_12 : decode cX10_unlike 12 = .ok (.aload_n 0, 1) := by decide +kernel
theorem dX10_unlike_13 : decode cX10_unlike 13 = .ok (.getfield 84, 3) := by decide +kernel
theorem dX10_unlike_16 : decode cX10_unlike 16 = .ok (.iload_n 1, 1) := by decide +kernel
theorem dX10_unlike_17 : decode cX10_unlike 17 = .ok (.iaload, 1) := by decide +kernel
theorem dX10_unlike_18 : decode cX10_unlike 18 = .ok (.if_icmp .ge 43, 3) := by decide +kernel
theorem dX10_unlike_21 : decode cX10_unlike 21 = .ok (.aload_n 0, 1) := by decide +kernel
theorem dX10_unlike_22 : decode cX10_unlike 22 = .ok (.invokevirtual 246, 3) := by decide +kernel
theorem dX10_unlike_25 : decode cX10_unlike 25 = .ok (.iload_n 3, 1) := by decide +kernel
theorem dX10_unlike_26 : decode cX10_unlike 26 = .ok (.iadd, 1) := by decide +kernel
theorem dX10_unlike_27 : decode cX10_unlike 27 = .ok (.istore 4, 2) := by decide +kernel
theorem dX10_unlike_29 : decode cX10_unlike 29 = .ok (.iload 4, 2) := by decide +kernel
theorem dX10_unlike_31 : decode cX10_unlike 31 = .ok (.bipush 30, 2) := by decide +kernel
theorem dX10_unlike_33 : decode cX10_unlike 33 = .ok (.if_icmp .gt 19, 3) := by decide +kernel
theorem dX10_unlike_36 : decode cX10_unlike 36 = .ok (.aload_n 0, 1) := by decide +kernel
theorem dX10_unlike_37 : decode cX10_unlike 37 = .ok (.getfield 94, 3) := by decide +kernel
theorem dX10_unlike_40 : decode cX10_unlike 40 = .ok (.iload 4, 2) := by decide +kernel
theorem dX10_unlike_42 : decode cX10_unlike 42 = .ok (.iaload, 1) := by decide +kernel
theorem dX10_unlike_43 : decode cX10_unlike 43 = .ok (.aload_n 0, 1) := by decide +kernel
theorem dX10_unlike_44 : decode cX10_unlike 44 = .ok (.iload_n 1, 1) := by decide +kernel
theorem dX10_unlike_45 : decode cX10_unlike 45 = .ok (.iload_n 3, 1) := by decide +kernel
theorem dX10_unlike_46 : decode cX10_unlike 46 = .ok (.invokevirtual 137, 3) := by decide +kernel
theorem dX10_unlike_49 : decode cX10_unlike 49 = .ok (.if_icmp .eq 6, 3) := by decide +kernel
theorem dX10_unlike_52 : decode cX10_unlike 52 = .ok (.iload 4, 2) := by decide +kernel
theorem dX10_unlike_54 : decode cX10_unlike 54 = .ok (.ireturn, 1) := by decide +kernel
theorem dX10_unlike_55 : decode cX10_unlike 55 = .ok (.iinc 3 1, 3) := by decide +kernel
theorem dX10_unlike_58 : decode cX10_unlike 58 = .ok (.goto (-47), 3) := by decide +kernel
theorem dX10_unlike_61 : decode cX10_unlike 61 = .ok (.bipush (-2), 2) := by decide +kernel
theorem dX10_unlike_63 : decode cX10_unlike 63 = .ok (.ireturn, 1) := by decide +kernel
abbrev rX10_unlike : Room := { frames := 5, cells := 0, slots := 0, locals := 117 }
def mX10_unlike_b11    : Nat → gS → Int32 → Int32 → Option (Int32 × gS)
  | 0, _, _, _ => none
  | n + 1, σ, x6, x7 => if inbB x6 6 = true then (if (σ.1 77 (Int32.toNatClampNeg x6)) ≤ x7 then (some ((-2), σ)) else (gBind (mX10_now σ ) (fun r8 s9 => gLet (r8 + x7) (fun v10 => if 30 < v10 then (some (v10, s9)) else (if inbB v10 31 = true then (gBind (mX10_toldAt s9 x6 x7) (fun r11 s12 => if (s9.1 80 (Int32.toNatClampNeg v10)) = r11 then (gLet (x7 + 1) (fun v13 => ((mX10_unlike_b11  n) s12 x6 v13))) else (some (v10, s12)))) else none))))) else none
set_option maxHeartbeats 4000000 in
set_option maxRecDepth 100000 in
theorem wX10_unlike_b11 {p : Program} {l : Launch} {e : Env} {s : State} {m : MethodId} {args : Array Value} {below : List Frame} {meth : Method} {c : Code} {G : gE} (hC : gCx p s m args meth c G RX10 cX10_unlike 5 (some .int))     (n : Nat) (σ : gS) (x6 : Int32) (x7 : Int32)  : gT p l e rX10_unlike s m args below meth c G 5 iI σ 11 [(0, .ref (G.2.1 52)), (1, .int x6), (3, .int x7)] [] (mX10_unlike_b11  n σ x6 x7) := by
  induction n generalizing σ x6 x7 with
  | zero => exact gT_none
  | succ n ih =>
    unfold mX10_unlike_b11
    refine g_iload_n (pc := 11) (q := 2) hC dX10_unlike_11 rfl rfl ?_
    refine g_aload_n (pc := 12) (q := 0) hC dX10_unlike_12 rfl rfl ?_
    refine g_get (pc := 13) (v := .ref (G.2.1 77)) hC kX10 rfl 38 (by decide) fl_RX10_84 rfl dX10_unlike_13 ?_
    refine g_iload_n (pc := 16) (q := 1) hC dX10_unlike_16 rfl rfl ?_
    refine g_iald (pc := 17) hC 6 rfl (by decide) dX10_unlike_17 ?_
    refine g_icmp_ge (pc := 18) (tgt := 61) hC dX10_unlike_18 (by decide) ?_ ?_
    · refine g_bipush (pc := 61) (v := (-2)) hC dX10_unlike_61 (by decide) ?_
      exact g_iret (pc := 63) hC dX10_unlike_63
    · refine g_aload_n (pc := 21) (q := 0) hC dX10_unlike_21 rfl rfl ?_
      refine g_callVi (pc := 22) (As := []) (rest := []) hC lk_RX10_246 kX10 rfl (tX10_now _ _ σ ) rfl rfl (Nat.le_of_ble_eq_true rfl) ⟨rfl, rfl, Nat.le_of_ble_eq_true rfl, Nat.le_of_ble_eq_true rfl⟩ dX10_unlike_22 (fun r8 s9 => ?_)
      refine g_iload_n (pc := 25) (q := 2) hC dX10_unlike_25 rfl rfl ?_
      refine g_iadd (pc := 26) hC dX10_unlike_26 ?_
      refine g_istore (pc := 27) (lv' := fun v10 => [(4, .int v10), (0, .ref (G.2.1 52)), (1, .int x6), (3, .int x7)]) hC dX10_unlike_27 (by decide) (fun _ => rfl) (fun v10 => ?_)
      refine g_iload (pc := 29) (q := 0) hC dX10_unlike_29 rfl ?_
      refine g_bipush (pc := 31) (v := 30) hC dX10_unlike_31 (by decide) ?_
      refine g_icmp_gt (pc := 33) (tgt := 52) hC dX10_unlike_33 (by decide) ?_ ?_
      · refine g_iload (pc := 52) (q := 0) hC dX10_unlike_52 rfl ?_
        exact g_iret (pc := 54) hC dX10_unlike_54
      · refine g_aload_n (pc := 36) (q := 1) hC dX10_unlike_36 rfl rfl ?_
        refine g_get (pc := 37) (v := .ref (G.2.1 80)) hC kX10 rfl 41 (by decide) fl_RX10_94 rfl dX10_unlike_37 ?_
        refine g_iload (pc := 40) (q := 0) hC dX10_unlike_40 rfl ?_
        refine g_iald (pc := 42) hC 31 rfl (by decide) dX10_unlike_42 ?_
        refine g_aload_n (pc := 43) (q := 1) hC dX10_unlike_43 rfl rfl ?_
        refine g_iload_n (pc := 44) (q := 2) hC dX10_unlike_44 rfl rfl ?_
        refine g_iload_n (pc := 45) (q := 3) hC dX10_unlike_45 rfl rfl ?_
        refine g_callVi (pc := 46) (As := [.int x6, .int x7]) (rest := [.int (s9.1 80 (Int32.toNatClampNeg v10))]) hC lk_RX10_137 kX10 rfl (tX10_toldAt _ _ s9 x6 x7) rfl rfl (Nat.le_of_ble_eq_true rfl) ⟨rfl, rfl, Nat.le_of_ble_eq_true rfl, Nat.le_of_ble_eq_true rfl⟩ dX10_unlike_46 (fun r11 s12 => ?_)
        refine g_icmp_eq (pc := 49) (tgt := 55) hC dX10_unlike_49 (by decide) ?_ ?_
        · refine g_iinc (pc := 55) (q := 3) (w := 1) (lv' := fun v13 => [(3, .int v13), (4, .int v10), (0, .ref (G.2.1 52)), (1, .int x6)]) hC dX10_unlike_55 rfl (by decide) (by decide) (fun _ => rfl) (fun v13 => ?_)
          refine g_goto (pc := 58) (tgt := 11) hC dX10_unlike_58 (by decide) ?_
          exact gT_sub [2, 3, 0] rfl (ih s12 x6 v13)
        · refine g_iload (pc := 52) (q := 0) hC dX10_unlike_52 rfl ?_
          exact g_iret (pc := 54) hC dX10_unlike_54
def mX10_unlike (σ : gS) (p0 : Int32) (p1 : Int32) : Option (Int32 × gS) := gBind (mX10_idles σ ) (fun r1 s2 => gBind (mX10_walks s2 p1) (fun r3 s4 => gLet 0 (fun v5 => (mX10_unlike_b11  1100 s4 p0 v5))))
set_option maxHeartbeats 4000000 in
set_option maxRecDepth 100000 in
theorem tX10_unlike (l : Launch) (G : gE) (σ : gS) (p0 : Int32) (p1 : Int32) : gM l G yX10_unlike cX10_unlike 5 (some .int) rX10_unlike iI [.ref (G.2.1 52), .int p0, .int p1] σ (mX10_unlike σ p0 p1) := by
  refine gM_of (by decide) (Nat.le_of_ble_eq_true rfl) ?_
  intro p e s m args below meth c hC
  unfold mX10_unlike
  show gT p l e rX10_unlike s m args below meth c G 5 iI σ 0 [(0, .ref (G.2.1 52)), (1, .int p0), (2, .int p1)] [] _
  refine g_aload_n (pc := 0) (q := 0) hC dX10_unlike_0 rfl rfl ?_
  refine g_callVv (pc := 1) (As := []) (rest := []) hC lk_RX10_243 kX10 rfl (tX10_idles _ _ σ ) rfl rfl (Nat.le_of_ble_eq_true rfl) ⟨rfl, rfl, Nat.le_of_ble_eq_true rfl, Nat.le_of_ble_eq_true rfl⟩ dX10_unlike_1 (fun r1 s2 => ?_)
  refine g_aload_n (pc := 4) (q := 0) hC dX10_unlike_4 rfl rfl ?_
  refine g_iload_n (pc := 5) (q := 2) hC dX10_unlike_5 rfl rfl ?_
  refine g_callVv (pc := 6) (As := [.int p1]) (rest := []) hC lk_RX10_274 kX10 rfl (tX10_walks _ _ s2 p1) rfl rfl (Nat.le_of_ble_eq_true rfl) ⟨rfl, rfl, Nat.le_of_ble_eq_true rfl, Nat.le_of_ble_eq_true rfl⟩ dX10_unlike_6 (fun r3 s4 => ?_)
  refine g_iconst (pc := 9) (v := 0) hC dX10_unlike_9 (by decide) ?_
  refine g_istore_n (pc := 10) (lv' := fun v5 => [(3, .int v5), (0, .ref (G.2.1 52)), (1, .int p0), (2, .int p1)]) hC dX10_unlike_10 rfl (by decide) (fun _ => rfl) (fun v5 => ?_)
  exact gT_sub [1, 2, 0] rfl (wX10_unlike_b11 hC  1100 s4 p0 v5)
theorem lk_RX10_318 : gLV RX10 318 RX10 yX10_unlike cX10_unlike 5 (some .int) 2 := ⟨(gBig_tab 1469 (by decide +kernel) (by decide +kernel)), (gBig_tab 1471 (by decide +kernel) (by decide +kernel)), (gBig_sel 84 (by decide +kernel) (by decide +kernel)), (gBig_tab 11 (by decide +kernel) (by decide +kernel)), (gBig_tab 1472 (by decide +kernel) (by decide +kernel)), rfl, by decide +kernel, by decide +kernel, by decide +kernel⟩
theorem dX10_judge_0 : decode cX10_judge 0 = .ok (.iload_n 1, 1) := by decide +kernel
theorem dX10_judge_1 : decode cX10_judge 1 = .ok (.invokestatic 132, 3) := by decide +kernel
theorem dX10_judge_4 : decode cX10_judge 4 = .ok (.ifCond .ne 5, 3) := by decide +kernel
theorem dX10_judge_7 : decode cX10_judge 7 = .ok (.iconst (-1), 1) := by decide +kernel
theorem dX10_judge_8 : decode cX10_judge 8 = .ok (.ireturn, 1) := by decide +kernel
theorem dX10_judge_9 : decode cX10_judge 9 = .ok (.aload_n 0, 1) := by decide +kernel
theorem dX10_judge_10 : decode cX10_judge 10 = .ok (.iload_n 1, 1) := by decide +kernel
theorem dX10_judge_11 : decode cX10_judge 11 = .ok (.iconst 1, 1) := by decide +kernel
theorem dX10_judge_12 : decode cX10_judge 12 = .ok (.invokevirtual 267, 3) := by decide +kernel
theorem dX10_judge_15 : decode cX10_judge 15 = .ok (.istore_n 2, 1) := by decide +kernel
theorem dX10_judge_16 : decode cX10_judge 16 = .ok (.iload_n 2, 1) := by decide +kernel
theorem dX10_judge_17 : decode cX10_judge 17 = .ok (.ifCond .ge 7, 3) := by decide +kernel
theorem dX10_judge_20 : decode cX10_judge 20 = .ok (.iload_n 2, 1) := by decide +kernel
theorem dX10_judge_21 : decode cX10_judge 21 = .ok (.goto 14, 3) := by decide +kernel
theorem dX10_judge_24 : decode cX10_judge 24 = .ok (.aload_n 0, 1) := by decide +kernel
theorem dX10_judge_25 : decode cX10_judge 25 = .ok (.iload_n 1, 1) := by decide +kernel
theorem dX10_judge_26 : decode cX10_judge 26 = .ok (.aload_n 0, 1) := by decide +kernel
theorem dX10_judge_27 : decode cX10_judge 27 = .ok (.getfield 30, 3) := by decide +kernel
theorem dX10_judge_30 : decode cX10_judge 30 = .ok (.iconst 0, 1) := by decide +kernel
theorem dX10_judge_31 : decode cX10_judge 31 = .ok (.iaload, 1) := by decide +kernel
theorem dX10_judge_32 : decode cX10_judge 32 = .ok (.invokevirtual 318, 3) := by decide +kernel
theorem dX10_judge_35 : decode cX10_judge 35 = .ok (.ireturn, 1) := by decide +kernel
abbrev rX10_judge : Room := { frames := 6, cells := 0, slots := 0, locals := 141 }
def mX10_judge (σ : gS) (p0 : Int32) : Option (Int32 × gS) := gBind (mX10_isShelf σ p0) (fun r1 s2 => if r1 = true then (gBind (mX10_noRow s2 p0 1) (fun r3 s4 => gLet r3 (fun v5 => if 0 ≤ v5 then (if inbB 0 5 = true then (gBind (mX10_unlike s4 p0 (s4.1 59 (Int32.toNatClampNeg 0))) (fun r6 s7 => some (r6, s7))) else none) else (some (v5, s4))))) else (some ((-1), s2)))
set_option maxHeartbeats 4000000 in
set_option maxRecDepth 100000 in
theorem tX10_judge (l : Launch) (G : gE) (σ : gS) (p0 : Int32) : gM l G yX10_judge cX10_judge 3 (some .int) rX10_judge iI [.ref (G.2.1 52), .int p0] σ (mX10_judge σ p0) := by
  refine gM_of (by decide) (Nat.le_of_ble_eq_true rfl) ?_
  intro p e s m args below meth c hC
  unfold mX10_judge
  show gT p l e rX10_judge s m args below meth c G 3 iI σ 0 [(0, .ref (G.2.1 52)), (1, .int p0)] [] _
  refine g_iload_n (pc := 0) (q := 1) hC dX10_judge_0 rfl rfl ?_
  refine g_callSz (pc := 1) (As := [.int p0]) (rest := []) hC lk_RX10_132 (tX10_isShelf _ _ σ p0) rfl rfl (Nat.le_of_ble_eq_true rfl) ⟨rfl, rfl, Nat.le_of_ble_eq_true rfl, Nat.le_of_ble_eq_true rfl⟩ dX10_judge_1 (fun r1 s2 => ?_)
  refine g_bif_ne (pc := 4) (tgt := 9) hC dX10_judge_4 (by decide) ?_ ?_
  · refine g_aload_n (pc := 9) (q := 0) hC dX10_judge_9 rfl rfl ?_
    refine g_iload_n (pc := 10) (q := 1) hC dX10_judge_10 rfl rfl ?_
    refine g_iconst (pc := 11) (v := 1) hC dX10_judge_11 (by decide) ?_
    refine g_callVi (pc := 12) (As := [.int p0, .int 1]) (rest := []) hC lk_RX10_267 kX10 rfl (tX10_noRow _ _ s2 p0 1) rfl rfl (Nat.le_of_ble_eq_true rfl) ⟨rfl, rfl, Nat.le_of_ble_eq_true rfl, Nat.le_of_ble_eq_true rfl⟩ dX10_judge_12 (fun r3 s4 => ?_)
    refine g_istore_n (pc := 15) (lv' := fun v5 => [(2, .int v5), (0, .ref (G.2.1 52)), (1, .int p0)]) hC dX10_judge_15 rfl (by decide) (fun _ => rfl) (fun v5 => ?_)
    refine g_iload_n (pc := 16) (q := 0) hC dX10_judge_16 rfl rfl ?_
    refine g_if_ge (pc := 17) (tgt := 24) hC dX10_judge_17 (by decide) ?_ ?_
    · refine g_aload_n (pc := 24) (q := 1) hC dX10_judge_24 rfl rfl ?_
      refine g_iload_n (pc := 25) (q := 2) hC dX10_judge_25 rfl rfl ?_
      refine g_aload_n (pc := 26) (q := 1) hC dX10_judge_26 rfl rfl ?_
      refine g_get (pc := 27) (v := .ref (G.2.1 59)) hC kX10 rfl 8 (by decide) fl_RX10_30 rfl dX10_judge_27 ?_
      refine g_iconst (pc := 30) (v := 0) hC dX10_judge_30 (by decide) ?_
      refine g_iald (pc := 31) hC 5 rfl (by decide) dX10_judge_31 ?_
      refine g_callVi (pc := 32) (As := [.int p0, .int (s4.1 59 (Int32.toNatClampNeg 0))]) (rest := []) hC lk_RX10_318 kX10 rfl (tX10_unlike _ _ s4 p0 (s4.1 59 (Int32.toNatClampNeg 0))) rfl rfl (Nat.le_of_ble_eq_true rfl) ⟨rfl, rfl, Nat.le_of_ble_eq_true rfl, Nat.le_of_ble_eq_true rfl⟩ dX10_judge_32 (fun r6 s7 => ?_)
      exact g_iret (pc := 35) hC dX10_judge_35
    · refine g_iload_n (pc := 20) (q := 0) hC dX10_judge_20 rfl rfl ?_
      refine g_goto (pc := 21) (tgt := 35) hC dX10_judge_21 (by decide) ?_
      exact g_iret (pc := 35) hC dX10_judge_35
  · refine g_iconst (pc := 7) (v := (-1)) hC dX10_judge_7 (by decide) ?_
    exact g_iret (pc := 8) hC dX10_judge_8
theorem dX10_knock_0 : decode cX10_knock 0 = .ok (.iload_n 1, 1) := by decide +kernel
theorem dX10_knock_1 : decode cX10_knock 1 = .ok (.invokestatic 132, 3) := by decide +kernel
theorem dX10_knock_4 : decode cX10_knock 4 = .ok (.ifCond .eq 12, 3) := by decide +kernel
theorem dX10_knock_7 : decode cX10_knock 7 = .ok (.iload_n 2, 1) := by decide +kernel
theorem dX10_knock_8 : decode cX10_knock 8 = .ok (.iconst 0, 1) := by decide +kernel
theorem dX10_knock_9 : decode cX10_knock 9 = .ok (.iconst 3, 1) := by decide +kernel
theorem dX10_knock_10 : decode cX10_knock 10 = .ok (.invokestatic 110, 3) := by decide +kernel
theorem dX10_knock_13 : decode cX10_knock 13 = .ok (.ifCond .ne 5, 3) := by decide +kernel
theorem dX10_knock_16 : decode cX10_knock 16 = .ok (.iconst (-1), 1) := by decide +kernel
theorem dX10_knock_17 : decode cX10_knock 17 = .ok (.ireturn, 1) := by decide +kernel
theorem dX10_knock_18 : decode cX10_knock 18 = .ok (.aload_n 0, 1) := by decide +kernel
theorem dX10_knock_19 : decode cX10_knock 19 = .ok (.iload_n 1, 1) := by decide +kernel
theorem dX10_knock_20 : decode cX10_knock 20 = .ok (.iconst 1, 1) := by decide +kernel
theorem dX10_knock_21 : decode cX10_knock 21 = .ok (.invokevirtual 267, 3) := by decide +kernel
theorem dX10_knock_24 : decode cX10_knock 24 = .ok (.istore_n 3, 1) := by decide +kernel
theorem dX10_knock_25 : decode cX10_knock 25 = .ok (.iload_n 3, 1) := by decide +kernel
theorem dX10_knock_26 : decode cX10_knock 26 = .ok (.ifCond .ge 5, 3) := by decide +kernel
theorem dX10_knock_29 : decode cX10_knock 29 = .ok (.iload_n 3, 1) := by decide +kernel
theorem dX10_knock_30 : decode cX10_knock 30 = .ok (.ireturn, 1) := by decide +kernel
theorem dX10_knock_31 : decode cX10_knock 31 = .ok (.iconst 0, 1) := by decide +kernel
theorem dX10_knock_32 : decode cX10_knock 32 = .ok (.istore 4, 2) := by decide +kernel
theorem dX10_knock_34 : decode cX10_knock 34 = .ok (.bipush (-2), 2) := by decide +kernel
theorem dX10_knock_36 : decode cX10_knock 36 = .ok (.istore 5, 2) := by decide +kernel
theorem dX10_knock_38 : decode cX10_knock 38 = .ok (.iload_n 2, 1) := by decide +kernel
theorem dX10_knock_39 : decode cX10_knock 39 = .ok (.iconst 2, 1) := by decide +kernel
theorem dX10_knock_40 : decode cX10_knock 40 = .ok (.if_icmp .ge 53, 3) := by decide +kernel
theorem dX10_knock_43 : decode cX10_knock 43 = .ok (.sipush 999, 3) := by decide +kernel
theorem dX10_knock_46 : decode cX10_knock 46 = .ok (.istore 6, 2) := by decide +kernel
theorem dX10_knock_48 : decode cX10_knock 48 = .ok (.iload 6, 2) := by decide +kernel
theorem dX10_knock_50 : decode cX10_knock 50 = .ok (.ifCond .lt 31, 3) := by decide +kernel
theorem dX10_knock_53 : decode cX10_knock 53 = .ok (.aload_n 0, 1) := by decide +kernel
theorem dX10_knock_54 : decode cX10_knock 54 = .ok (.iload_n 1, 1) := by decide +kernel
theorem dX10_knock_55 : decode cX10_knock 55 = .ok (.iload 6, 2) := by decide +kernel
theorem dX10_knock_57 : decode cX10_knock 57 = .ok (.invokevirtual 318, 3) := by decide +kernel
theorem dX10_knock_60 : decode cX10_knock 60 = .ok (.bipush (-2), 2) := by decide +kernel
theorem dX10_knock_62 : decode cX10_knock 62 = .ok (.if_icmp .eq 6, 3) := by decide +kernel
theorem dX10_knock_65 : decode cX10_knock 65 = .ok (.goto 10, 3) := by decide +kernel
theorem dX10_knock_68 : decode cX10_knock 68 = .ok (.iinc 4 1, 3) := by decide +kernel
theorem dX10_knock_71 : decode cX10_knock 71 = .ok (.iload 6, 2) := by decide +kernel
theorem dX10_knock_73 : decode cX10_knock 73 = .ok (.istore 5, 2) := by decide +kernel
theorem dX10_knock_75 : decode cX10_knock 75 = .ok (.iinc 6 (-1), 3) := by decide +kernel
theorem dX10_knock_78 : decode cX10_knock 78 = .ok (.goto (-30), 3) := by decide +kernel
theorem dX10_knock_81 : decode cX10_knock 81 = .ok (.iload_n 2, 1) := by decide +kernel
theorem dX10_knock_82 : decode cX10_knock 82 = .ok (.ifCond .ne 8, 3) := by decide +kernel
theorem dX10_knock_85 : decode cX10_knock 85 = .ok (.iload 4, 2) := by decide +kernel
theorem dX10_knock_87 : decode cX10_knock 87 = .ok (.goto 5, 3) := by decide +kernel
theorem dX10_knock_90 : decode cX10_knock 90 = .ok (.iload 5, 2) := by decide +kernel
theorem dX10_knock_92 : decode cX10_knock 92 = .ok (.ireturn, 1) := by decide +kernel
theorem dX10_knock_93 : decode cX10_knock 93 = .ok (.aload_n 0, 1) := by decide +kernel
theorem dX10_knock_94 : decode cX10_knock 94 = .ok (.getfield 30, 3) := by decide +kernel
theorem dX10_knock_97 : decode cX10_knock 97 = .ok (.iconst 2, 1) := by decide +kernel
theorem dX10_knock_98 : decode cX10_knock 98 = .ok (.iaload, 1) := by decide +kernel
theorem dX10_knock_99 : decode cX10_knock 99 = .ok (.istore 6, 2) := by decide +kernel
theorem dX10_knock_101 : decode cX10_knock 101 = .ok (.aload_n 0, 1) := by decide +kernel
theorem dX10_knock_102 : decode cX10_knock 102 = .ok (.getfield 30, 3) := by decide +kernel
theorem dX10_knock_105 : decode cX10_knock 105 = .ok (.iconst 3, 1) := by decide +kernel
theorem dX10_knock_106 : decode cX10_knock 106 = .ok (.iaload, 1) := by decide +kernel
theorem dX10_knock_107 : decode cX10_knock 107 = .ok (.istore 7, 2) := by decide +kernel
theorem dX10_knock_109 : decode cX10_knock 109 = .ok (.bipush 99, 2) := by decide +kernel
theorem dX10_knock_111 : decode cX10_knock 111 = .ok (.istore 8, 2) := by decide +kernel
theorem dX10_knock_113 : decode cX10_knock 113 = .ok (.iload 8, 2) := by decide +kernel
theorem dX10_knock_115 : decode cX10_knock 115 = .ok (.ifCond .lt 57, 3) := by decide +kernel
theorem dX10_knock_118 : decode cX10_knock 118 = .ok (.aload_n 0, 1) := by decide +kernel
theorem dX10_knock_119 : decode cX10_knock 119 = .ok (.getfield 30, 3) := by decide +kernel
theorem dX10_knock_122 : decode cX10_knock 122 = .ok (.iconst 2, 1) := by decide +kernel
theorem dX10_knock_123 : decode cX10_knock 123 = .ok (.iload 8, 2) := by decide +kernel
theorem dX10_knock_125 : decode cX10_knock 125 = .ok (.bipush 10, 2) := by decide +kernel
theorem dX10_knock_127 : decode cX10_knock 127 = .ok (.idiv, 1) := by decide +kernel
theorem dX10_knock_128 : decode cX10_knock 128 = .ok (.iastore, 1) := by decide +kernel
theorem dX10_knock_129 : decode cX10_knock 129 = .ok (.aload_n 0, 1) := by decide +kernel
theorem dX10_knock_130 : decode cX10_knock 130 = .ok (.getfield 30, 3) := by decide +kernel
theorem dX10_knock_133 : decode cX10_knock 133 = .ok (.iconst 3, 1) := by decide +kernel
theorem dX10_knock_134 : decode cX10_knock 134 = .ok (.iload 8, 2) := by decide +kernel
theorem dX10_knock_136 : decode cX10_knock 136 = .ok (.bipush 10, 2) := by decide +kernel
theorem dX10_knock_138 : decode cX10_knock 138 = .ok (.irem, 1) := by decide +kernel
theorem dX10_knock_139 : decode cX10_knock 139 = .ok (.iastore, 1) := by decide +kernel
theorem dX10_knock_140 : decode cX10_knock 140 = .ok (.aload_n 0, 1) := by decide +kernel
theorem dX10_knock_141 : decode cX10_knock 141 = .ok (.iload_n 1, 1) := by decide +kernel
theorem dX10_knock_142 : decode cX10_knock 142 = .ok (.aload_n 0, 1) := by decide +kernel
theorem dX10_knock_143 : decode cX10_knock 143 = .ok (.getfield 30, 3) := by decide +kernel
theorem dX10_knock_146 : decode cX10_knock 146 = .ok (.iconst 0, 1) := by decide +kernel
theorem dX10_knock_147 : decode cX10_knock 147 = .ok (.iaload, 1) := by decide +kernel
theorem dX10_knock_148 : decode cX10_knock 148 = .ok (.invokevirtual 318, 3) := by decide +kernel
theorem dX10_knock_151 : decode cX10_knock 151 = .ok (.bipush (-2), 2) := by decide +kernel
theorem dX10_knock_153 : decode cX10_knock 153 = .ok (.if_icmp .eq 6, 3) := by decide +kernel
theorem dX10_knock_156 : decode cX10_knock 156 = .ok (.goto 10, 3) := by decide +kernel
theorem dX10_knock_159 : decode cX10_knock 159 = .ok (.iinc 4 1, 3) := by decide +kernel
theorem dX10_knock_162 : decode cX10_knock 162 = .ok (.iload 8, 2) := by decide +kernel
theorem dX10_knock_164 : decode cX10_knock 164 = .ok (.istore 5, 2) := by decide +kernel
theorem dX10_knock_166 : decode cX10_knock 166 = .ok (.iinc 8 (-1), 3) := by decide +kernel
theorem dX10_knock_169 : decode cX10_knock 169 = .ok (.goto (-56), 3) := by decide +kernel
theorem dX10_knock_172 : decode cX10_knock 172 = .ok (.aload_n 0, 1) := by decide +kernel
theorem dX10_knock_173 : decode cX10_knock 173 = .ok (.getfield 30, 3) := by decide +kernel
theorem dX10_knock_176 : decode cX10_knock 176 = .ok (.iconst 2, 1) := by decide +kernel
theorem dX10_knock_177 : decode cX10_knock 177 = .ok (.iload 6, 2) := by decide +kernel
theorem dX10_knock_179 : decode cX10_knock 179 = .ok (.iastore, 1) := by decide +kernel
theorem dX10_knock_180 : decode cX10_knock 180 = .ok (.aload_n 0, 1) := by decide +kernel
theorem dX10_knock_181 : decode cX10_knock 181 = .ok (.getfield 30, 3) := by decide +kernel
theorem dX10_knock_184 : decode cX10_knock 184 = .ok (.iconst 3, 1) := by decide +kernel
theorem dX10_knock_185 : decode cX10_knock 185 = .ok (.iload 7, 2) := by decide +kernel
theorem dX10_knock_187 : decode cX10_knock 187 = .ok (.iastore, 1) := by decide +kernel
theorem dX10_knock_188 : decode cX10_knock 188 = .ok (.iload_n 2, 1) := by decide +kernel
theorem dX10_knock_189 : decode cX10_knock 189 = .ok (.iconst 2, 1) := by decide +kernel
theorem dX10_knock_190 : decode cX10_knock 190 = .ok (.if_icmp .ne 8, 3) := by decide +kernel
theorem dX10_knock_193 : decode cX10_knock 193 = .ok (.iload 4, 2) := by decide +kernel
theorem dX10_knock_195 : decode cX10_knock 195 = .ok (.goto 5, 3) := by decide +kernel
theorem dX10_knock_198 : decode cX10_knock 198 = .ok (.iload 5, 2) := by decide +kernel
theorem dX10_knock_200 : decode cX10_knock 200 = .ok (.ireturn, 1) := by decide +kernel
abbrev rX10_knock : Room := { frames := 6, cells := 0, slots := 0, locals := 141 }
def mX10_knock_b166   (k113 : gS → Int32 → Int32 → Int32 → Int32 → Int32 → Int32 → Int32 → Option (Int32 × gS)) (σ : gS) (x28 : Int32) (x29 : Int32) (x30 : Int32) (x31 : Int32) (x32 : Int32) (x33 : Int32) (x34 : Int32) : Option (Int32 × gS) := gLet (x34 + (-1)) (fun v35 => (k113 σ x28 x29 x30 x31 x32 x33 v35))
set_option maxHeartbeats 4000000 in
set_option maxRecDepth 100000 in
theorem wX10_knock_b166 {p : Program} {l : Launch} {e : Env} {s : State} {m : MethodId} {args : Array Value} {below : List Frame} {meth : Method} {c : Code} {G : gE} (hC : gCx p s m args meth c G RX10 cX10_knock 9 (some .int))    {k113 : gS → Int32 → Int32 → Int32 → Int32 → Int32 → Int32 → Int32 → Option (Int32 × gS)} (hk113 : ∀ (σ : gS) (x13 : Int32) (x14 : Int32) (x15 : Int32) (x16 : Int32) (x17 : Int32) (x18 : Int32) (x19 : Int32), gT p l e rX10_knock s m args below meth c G 9 iI σ 113 [(0, .ref (G.2.1 52)), (1, .int x13), (2, .int x14), (4, .int x15), (5, .int x16), (6, .int x17), (7, .int x18), (8, .int x19)] [] (k113 σ x13 x14 x15 x16 x17 x18 x19)) (σ : gS) (x28 : Int32) (x29 : Int32) (x30 : Int32) (x31 : Int32) (x32 : Int32) (x33 : Int32) (x34 : Int32)  : gT p l e rX10_knock s m args below meth c G 9 iI σ 166 [(0, .ref (G.2.1 52)), (1, .int x28), (2, .int x29), (4, .int x30), (5, .int x31), (6, .int x32), (7, .int x33), (8, .int x34)] [] (mX10_knock_b166 k113 σ x28 x29 x30 x31 x32 x33 x34) := by
  unfold mX10_knock_b166
  refine g_iinc (pc := 166) (q := 7) (w := (-1)) (lv' := fun v35 => [(8, .int v35), (0, .ref (G.2.1 52)), (1, .int x28), (2, .int x29), (4, .int x30), (5, .int x31), (6, .int x32), (7, .int x33)]) hC dX10_knock_166 rfl (by decide) (by decide) (fun _ => rfl) (fun v35 => ?_)
  refine g_goto (pc := 169) (tgt := 113) hC dX10_knock_169 (by decide) ?_
  exact gT_sub [1, 2, 3, 4, 5, 6, 7, 0] rfl (hk113 σ x28 x29 x30 x31 x32 x33 v35)
def mX10_knock_b113    : Nat → gS → Int32 → Int32 → Int32 → Int32 → Int32 → Int32 → Int32 → Option (Int32 × gS)
  | 0, _, _, _, _, _, _, _, _ => none
  | n + 1, σ, x13, x14, x15, x16, x17, x18, x19 => if x19 < 0 then (if inbB 2 5 = true then gLet (gUI σ 59 (Int32.toNatClampNeg 2) x17) (fun s20 => if inbB 3 5 = true then gLet (gUI s20 59 (Int32.toNatClampNeg 3) x18) (fun s21 => if x14 = 2 then (some (x15, s21)) else (some (x16, s21))) else none) else none) else (if inbB 2 5 = true then gLet (gUI σ 59 (Int32.toNatClampNeg 2) (x19 / 10)) (fun s22 => if inbB 3 5 = true then gLet (gUI s22 59 (Int32.toNatClampNeg 3) (gRem x19 10)) (fun s23 => if inbB 0 5 = true then (gBind (mX10_unlike s23 x13 (s23.1 59 (Int32.toNatClampNeg 0))) (fun r24 s25 => if r24 = (-2) then (gLet (x15 + 1) (fun v26 => gLet x19 (fun v27 => (mX10_knock_b166 (mX10_knock_b113  n) s25 x13 x14 v26 v27 x17 x18 x19)))) else ((mX10_knock_b166 (mX10_knock_b113  n) s25 x13 x14 x15 x16 x17 x18 x19)))) else none) else none) else none)
set_option maxHeartbeats 4000000 in
set_option maxRecDepth 100000 in
theorem wX10_knock_b113 {p : Program} {l : Launch} {e : Env} {s : State} {m : MethodId} {args : Array Value} {below : List Frame} {meth : Method} {c : Code} {G : gE} (hC : gCx p s m args meth c G RX10 cX10_knock 9 (some .int))     (n : Nat) (σ : gS) (x13 : Int32) (x14 : Int32) (x15 : Int32) (x16 : Int32) (x17 : Int32) (x18 : Int32) (x19 : Int32)  : gT p l e rX10_knock s m args below meth c G 9 iI σ 113 [(0, .ref (G.2.1 52)), (1, .int x13), (2, .int x14), (4, .int x15), (5, .int x16), (6, .int x17), (7, .int x18), (8, .int x19)] [] (mX10_knock_b113  n σ x13 x14 x15 x16 x17 x18 x19) := by
  induction n generalizing σ x13 x14 x15 x16 x17 x18 x19 with
  | zero => exact gT_none
  | succ n ih =>
    unfold mX10_knock_b113
    refine g_iload (pc := 113) (q := 7) hC dX10_knock_113 rfl ?_
    refine g_if_lt (pc := 115) (tgt := 172) hC dX10_knock_115 (by decide) ?_ ?_
    · refine g_aload_n (pc := 172) (q := 0) hC dX10_knock_172 rfl rfl ?_
      refine g_get (pc := 173) (v := .ref (G.2.1 59)) hC kX10 rfl 8 (by decide) fl_RX10_30 rfl dX10_knock_173 ?_
      refine g_iconst (pc := 176) (v := 2) hC dX10_knock_176 (by decide) ?_
      refine g_iload (pc := 177) (q := 5) hC dX10_knock_177 rfl ?_
      refine g_iast (pc := 179) hC 5 rfl (by decide) dX10_knock_179 (fun s20 => ?_)
      refine g_aload_n (pc := 180) (q := 0) hC dX10_knock_180 rfl rfl ?_
      refine g_get (pc := 181) (v := .ref (G.2.1 59)) hC kX10 rfl 8 (by decide) fl_RX10_30 rfl dX10_knock_181 ?_
      refine g_iconst (pc := 184) (v := 3) hC dX10_knock_184 (by decide) ?_
      refine g_iload (pc := 185) (q := 6) hC dX10_knock_185 rfl ?_
      refine g_iast (pc := 187) hC 5 rfl (by decide) dX10_knock_187 (fun s21 => ?_)
      refine g_iload_n (pc := 188) (q := 2) hC dX10_knock_188 rfl rfl ?_
      refine g_iconst (pc := 189) (v := 2) hC dX10_knock_189 (by decide) ?_
      refine g_icmp_ne (pc := 190) (tgt := 198) hC dX10_knock_190 (by decide) ?_ ?_
      · refine g_iload (pc := 198) (q := 4) hC dX10_knock_198 rfl ?_
        exact g_iret (pc := 200) hC dX10_knock_200
      · refine g_iload (pc := 193) (q := 3) hC dX10_knock_193 rfl ?_
        refine g_goto (pc := 195) (tgt := 200) hC dX10_knock_195 (by decide) ?_
        exact g_iret (pc := 200) hC dX10_knock_200
    · refine g_aload_n (pc := 118) (q := 0) hC dX10_knock_118 rfl rfl ?_
      refine g_get (pc := 119) (v := .ref (G.2.1 59)) hC kX10 rfl 8 (by decide) fl_RX10_30 rfl dX10_knock_119 ?_
      refine g_iconst (pc := 122) (v := 2) hC dX10_knock_122 (by decide) ?_
      refine g_iload (pc := 123) (q := 7) hC dX10_knock_123 rfl ?_
      refine g_bipush (pc := 125) (v := 10) hC dX10_knock_125 (by decide) ?_
      refine g_idivL (pc := 127) hC dX10_knock_127 (by decide) ?_
      refine g_iast (pc := 128) hC 5 rfl (by decide) dX10_knock_128 (fun s22 => ?_)
      refine g_aload_n (pc := 129) (q := 0) hC dX10_knock_129 rfl rfl ?_
      refine g_get (pc := 130) (v := .ref (G.2.1 59)) hC kX10 rfl 8 (by decide) fl_RX10_30 rfl dX10_knock_130 ?_
      refine g_iconst (pc := 133) (v := 3) hC dX10_knock_133 (by decide) ?_
      refine g_iload (pc := 134) (q := 7) hC dX10_knock_134 rfl ?_
      refine g_bipush (pc := 136) (v := 10) hC dX10_knock_136 (by decide) ?_
      refine g_iremL (pc := 138) hC dX10_knock_138 (by decide) ?_
      refine g_iast (pc := 139) hC 5 rfl (by decide) dX10_knock_139 (fun s23 => ?_)
      refine g_aload_n (pc := 140) (q := 0) hC dX10_knock_140 rfl rfl ?_
      refine g_iload_n (pc := 141) (q := 1) hC dX10_knock_141 rfl rfl ?_
      refine g_aload_n (pc := 142) (q := 0) hC dX10_knock_142 rfl rfl ?_
      refine g_get (pc := 143) (v := .ref (G.2.1 59)) hC kX10 rfl 8 (by decide) fl_RX10_30 rfl dX10_knock_143 ?_
      refine g_iconst (pc := 146) (v := 0) hC dX10_knock_146 (by decide) ?_
      refine g_iald (pc := 147) hC 5 rfl (by decide) dX10_knock_147 ?_
      refine g_callVi (pc := 148) (As := [.int x13, .int (s23.1 59 (Int32.toNatClampNeg 0))]) (rest := []) hC lk_RX10_318 kX10 rfl (tX10_unlike _ _ s23 x13 (s23.1 59 (Int32.toNatClampNeg 0))) rfl rfl (Nat.le_of_ble_eq_true rfl) ⟨rfl, rfl, Nat.le_of_ble_eq_true rfl, Nat.le_of_ble_eq_true rfl⟩ dX10_knock_148 (fun r24 s25 => ?_)
      refine g_bipush (pc := 151) (v := (-2)) hC dX10_knock_151 (by decide) ?_
      refine g_icmp_eq (pc := 153) (tgt := 159) hC dX10_knock_153 (by decide) ?_ ?_
      · refine g_iinc (pc := 159) (q := 3) (w := 1) (lv' := fun v26 => [(4, .int v26), (0, .ref (G.2.1 52)), (1, .int x13), (2, .int x14), (5, .int x16), (6, .int x17), (7, .int x18), (8, .int x19)]) hC dX10_knock_159 rfl (by decide) (by decide) (fun _ => rfl) (fun v26 => ?_)
        refine g_iload (pc := 162) (q := 7) hC dX10_knock_162 rfl ?_
        refine g_istore (pc := 164) (lv' := fun v27 => [(5, .int v27), (4, .int v26), (0, .ref (G.2.1 52)), (1, .int x13), (2, .int x14), (6, .int x17), (7, .int x18), (8, .int x19)]) hC dX10_knock_164 (by decide) (fun _ => rfl) (fun v27 => ?_)
        exact gT_sub [2, 3, 4, 1, 0, 5, 6, 7] rfl (wX10_knock_b166 hC ih s25 x13 x14 v26 v27 x17 x18 x19)
      · refine g_goto (pc := 156) (tgt := 166) hC dX10_knock_156 (by decide) ?_
        exact gT_sub [0, 1, 2, 3, 4, 5, 6, 7] rfl (wX10_knock_b166 hC ih s25 x13 x14 x15 x16 x17 x18 x19)
def mX10_knock_b75   (k48 : gS → Int32 → Int32 → Int32 → Int32 → Int32 → Option (Int32 × gS)) (σ : gS) (x46 : Int32) (x47 : Int32) (x48 : Int32) (x49 : Int32) (x50 : Int32) : Option (Int32 × gS) := gLet (x50 + (-1)) (fun v51 => (k48 σ x46 x47 x48 x49 v51))
set_option maxHeartbeats 4000000 in
set_option maxRecDepth 100000 in
theorem wX10_knock_b75 {p : Program} {l : Launch} {e : Env} {s : State} {m : MethodId} {args : Array Value} {below : List Frame} {meth : Method} {c : Code} {G : gE} (hC : gCx p s m args meth c G RX10 cX10_knock 9 (some .int))    {k48 : gS → Int32 → Int32 → Int32 → Int32 → Int32 → Option (Int32 × gS)} (hk48 : ∀ (σ : gS) (x37 : Int32) (x38 : Int32) (x39 : Int32) (x40 : Int32) (x41 : Int32), gT p l e rX10_knock s m args below meth c G 9 iI σ 48 [(0, .ref (G.2.1 52)), (1, .int x37), (2, .int x38), (4, .int x39), (5, .int x40), (6, .int x41)] [] (k48 σ x37 x38 x39 x40 x41)) (σ : gS) (x46 : Int32) (x47 : Int32) (x48 : Int32) (x49 : Int32) (x50 : Int32)  : gT p l e rX10_knock s m args below meth c G 9 iI σ 75 [(0, .ref (G.2.1 52)), (1, .int x46), (2, .int x47), (4, .int x48), (5, .int x49), (6, .int x50)] [] (mX10_knock_b75 k48 σ x46 x47 x48 x49 x50) := by
  unfold mX10_knock_b75
  refine g_iinc (pc := 75) (q := 5) (w := (-1)) (lv' := fun v51 => [(6, .int v51), (0, .ref (G.2.1 52)), (1, .int x46), (2, .int x47), (4, .int x48), (5, .int x49)]) hC dX10_knock_75 rfl (by decide) (by decide) (fun _ => rfl) (fun v51 => ?_)
  refine g_goto (pc := 78) (tgt := 48) hC dX10_knock_78 (by decide) ?_
  exact gT_sub [1, 2, 3, 4, 5, 0] rfl (hk48 σ x46 x47 x48 x49 v51)
def mX10_knock_b48    : Nat → gS → Int32 → Int32 → Int32 → Int32 → Int32 → Option (Int32 × gS)
  | 0, _, _, _, _, _, _ => none
  | n + 1, σ, x37, x38, x39, x40, x41 => if x41 < 0 then (if x38 = 0 then (some (x39, σ)) else (some (x40, σ))) else (gBind (mX10_unlike σ x37 x41) (fun r42 s43 => if r42 = (-2) then (gLet (x39 + 1) (fun v44 => gLet x41 (fun v45 => (mX10_knock_b75 (mX10_knock_b48  n) s43 x37 x38 v44 v45 x41)))) else ((mX10_knock_b75 (mX10_knock_b48  n) s43 x37 x38 x39 x40 x41))))
set_option maxHeartbeats 4000000 in
set_option maxRecDepth 100000 in
theorem wX10_knock_b48 {p : Program} {l : Launch} {e : Env} {s : State} {m : MethodId} {args : Array Value} {below : List Frame} {meth : Method} {c : Code} {G : gE} (hC : gCx p s m args meth c G RX10 cX10_knock 9 (some .int))     (n : Nat) (σ : gS) (x37 : Int32) (x38 : Int32) (x39 : Int32) (x40 : Int32) (x41 : Int32)  : gT p l e rX10_knock s m args below meth c G 9 iI σ 48 [(0, .ref (G.2.1 52)), (1, .int x37), (2, .int x38), (4, .int x39), (5, .int x40), (6, .int x41)] [] (mX10_knock_b48  n σ x37 x38 x39 x40 x41) := by
  induction n generalizing σ x37 x38 x39 x40 x41 with
  | zero => exact gT_none
  | succ n ih =>
    unfold mX10_knock_b48
    refine g_iload (pc := 48) (q := 5) hC dX10_knock_48 rfl ?_
    refine g_if_lt (pc := 50) (tgt := 81) hC dX10_knock_50 (by decide) ?_ ?_
    · refine g_iload_n (pc := 81) (q := 2) hC dX10_knock_81 rfl rfl ?_
      refine g_if_ne (pc := 82) (tgt := 90) hC dX10_knock_82 (by decide) ?_ ?_
      · refine g_iload (pc := 90) (q := 4) hC dX10_knock_90 rfl ?_
        exact g_iret (pc := 92) hC dX10_knock_92
      · refine g_iload (pc := 85) (q := 3) hC dX10_knock_85 rfl ?_
        refine g_goto (pc := 87) (tgt := 92) hC dX10_knock_87 (by decide) ?_
        exact g_iret (pc := 92) hC dX10_knock_92
    · refine g_aload_n (pc := 53) (q := 0) hC dX10_knock_53 rfl rfl ?_
      refine g_iload_n (pc := 54) (q := 1) hC dX10_knock_54 rfl rfl ?_
      refine g_iload (pc := 55) (q := 5) hC dX10_knock_55 rfl ?_
      refine g_callVi (pc := 57) (As := [.int x37, .int x41]) (rest := []) hC lk_RX10_318 kX10 rfl (tX10_unlike _ _ σ x37 x41) rfl rfl (Nat.le_of_ble_eq_true rfl) ⟨rfl, rfl, Nat.le_of_ble_eq_true rfl, Nat.le_of_ble_eq_true rfl⟩ dX10_knock_57 (fun r42 s43 => ?_)
      refine g_bipush (pc := 60) (v := (-2)) hC dX10_knock_60 (by decide) ?_
      refine g_icmp_eq (pc := 62) (tgt := 68) hC dX10_knock_62 (by decide) ?_ ?_
      · refine g_iinc (pc := 68) (q := 3) (w := 1) (lv' := fun v44 => [(4, .int v44), (0, .ref (G.2.1 52)), (1, .int x37), (2, .int x38), (5, .int x40), (6, .int x41)]) hC dX10_knock_68 rfl (by decide) (by decide) (fun _ => rfl) (fun v44 => ?_)
        refine g_iload (pc := 71) (q := 5) hC dX10_knock_71 rfl ?_
        refine g_istore (pc := 73) (lv' := fun v45 => [(5, .int v45), (4, .int v44), (0, .ref (G.2.1 52)), (1, .int x37), (2, .int x38), (6, .int x41)]) hC dX10_knock_73 (by decide) (fun _ => rfl) (fun v45 => ?_)
        exact gT_sub [2, 3, 4, 1, 0, 5] rfl (wX10_knock_b75 hC ih s43 x37 x38 v44 v45 x41)
      · refine g_goto (pc := 65) (tgt := 75) hC dX10_knock_65 (by decide) ?_
        exact gT_sub [0, 1, 2, 3, 4, 5] rfl (wX10_knock_b75 hC ih s43 x37 x38 x39 x40 x41)
def mX10_knock (σ : gS) (p0 : Int32) (p1 : Int32) : Option (Int32 × gS) := gBind (mX10_isShelf σ p0) (fun r1 s2 => if r1 = true then (gBind (mX10_within s2 p1 0 3) (fun r3 s4 => if r3 = true then (gBind (mX10_noRow s4 p0 1) (fun r5 s6 => gLet r5 (fun v7 => if 0 ≤ v7 then (gLet 0 (fun v8 => gLet (-2) (fun v9 => if 2 ≤ p1 then (if inbB 2 5 = true then (gLet (s6.1 59 (Int32.toNatClampNeg 2)) (fun v10 => if inbB 3 5 = true then (gLet (s6.1 59 (Int32.toNatClampNeg 3)) (fun v11 => gLet 99 (fun v12 => (mX10_knock_b113  1100 s6 p0 p1 v8 v9 v10 v11 v12)))) else none)) else none) else (gLet 999 (fun v36 => (mX10_knock_b48  1100 s6 p0 p1 v8 v9 v36)))))) else (some (v7, s6))))) else (some ((-1), s4)))) else (some ((-1), s2)))
set_option maxHeartbeats 4000000 in
set_option maxRecDepth 100000 in
theorem tX10_knock (l : Launch) (G : gE) (σ : gS) (p0 : Int32) (p1 : Int32) : gM l G yX10_knock cX10_knock 9 (some .int) rX10_knock iI [.ref (G.2.1 52), .int p0, .int p1] σ (mX10_knock σ p0 p1) := by
  refine gM_of (by decide) (Nat.le_of_ble_eq_true rfl) ?_
  intro p e s m args below meth c hC
  unfold mX10_knock
  show gT p l e rX10_knock s m args below meth c G 9 iI σ 0 [(0, .ref (G.2.1 52)), (1, .int p0), (2, .int p1)] [] _
  refine g_iload_n (pc := 0) (q := 1) hC dX10_knock_0 rfl rfl ?_
  refine g_callSz (pc := 1) (As := [.int p0]) (rest := []) hC lk_RX10_132 (tX10_isShelf _ _ σ p0) rfl rfl (Nat.le_of_ble_eq_true rfl) ⟨rfl, rfl, Nat.le_of_ble_eq_true rfl, Nat.le_of_ble_eq_true rfl⟩ dX10_knock_1 (fun r1 s2 => ?_)
  refine g_bif_eq (pc := 4) (tgt := 16) hC dX10_knock_4 (by decide) ?_ ?_
  · refine g_iconst (pc := 16) (v := (-1)) hC dX10_knock_16 (by decide) ?_
    exact g_iret (pc := 17) hC dX10_knock_17
  · refine g_iload_n (pc := 7) (q := 2) hC dX10_knock_7 rfl rfl ?_
    refine g_iconst (pc := 8) (v := 0) hC dX10_knock_8 (by decide) ?_
    refine g_iconst (pc := 9) (v := 3) hC dX10_knock_9 (by decide) ?_
    refine g_callSz (pc := 10) (As := [.int p1, .int 0, .int 3]) (rest := []) hC lk_RX10_110 (tX10_within _ _ s2 p1 0 3) rfl rfl (Nat.le_of_ble_eq_true rfl) ⟨rfl, rfl, Nat.le_of_ble_eq_true rfl, Nat.le_of_ble_eq_true rfl⟩ dX10_knock_10 (fun r3 s4 => ?_)
    refine g_bif_ne (pc := 13) (tgt := 18) hC dX10_knock_13 (by decide) ?_ ?_
    · refine g_aload_n (pc := 18) (q := 0) hC dX10_knock_18 rfl rfl ?_
      refine g_iload_n (pc := 19) (q := 1) hC dX10_knock_19 rfl rfl ?_
      refine g_iconst (pc := 20) (v := 1) hC dX10_knock_20 (by decide) ?_
      refine g_callVi (pc := 21) (As := [.int p0, .int 1]) (rest := []) hC lk_RX10_267 kX10 rfl (tX10_noRow _ _ s4 p0 1) rfl rfl (Nat.le_of_ble_eq_true rfl) ⟨rfl, rfl, Nat.le_of_ble_eq_true rfl, Nat.le_of_ble_eq_true rfl⟩ dX10_knock_21 (fun r5 s6 => ?_)
      refine g_istore_n (pc := 24) (lv' := fun v7 => [(3, .int v7), (0, .ref (G.2.1 52)), (1, .int p0), (2, .int p1)]) hC dX10_knock_24 rfl (by decide) (fun _ => rfl) (fun v7 => ?_)
      refine g_iload_n (pc := 25) (q := 0) hC dX10_knock_25 rfl rfl ?_
      refine g_if_ge (pc := 26) (tgt := 31) hC dX10_knock_26 (by decide) ?_ ?_
      · refine g_iconst (pc := 31) (v := 0) hC dX10_knock_31 (by decide) ?_
        refine g_istore (pc := 32) (lv' := fun v8 => [(4, .int v8), (3, .int v7), (0, .ref (G.2.1 52)), (1, .int p0), (2, .int p1)]) hC dX10_knock_32 (by decide) (fun _ => rfl) (fun v8 => ?_)
        refine g_bipush (pc := 34) (v := (-2)) hC dX10_knock_34 (by decide) ?_
        refine g_istore (pc := 36) (lv' := fun v9 => [(5, .int v9), (4, .int v8), (3, .int v7), (0, .ref (G.2.1 52)), (1, .int p0), (2, .int p1)]) hC dX10_knock_36 (by decide) (fun _ => rfl) (fun v9 => ?_)
        refine g_iload_n (pc := 38) (q := 5) hC dX10_knock_38 rfl rfl ?_
        refine g_iconst (pc := 39) (v := 2) hC dX10_knock_39 (by decide) ?_
        refine g_icmp_ge (pc := 40) (tgt := 93) hC dX10_knock_40 (by decide) ?_ ?_
        · refine g_aload_n (pc := 93) (q := 3) hC dX10_knock_93 rfl rfl ?_
          refine g_get (pc := 94) (v := .ref (G.2.1 59)) hC kX10 rfl 8 (by decide) fl_RX10_30 rfl dX10_knock_94 ?_
          refine g_iconst (pc := 97) (v := 2) hC dX10_knock_97 (by decide) ?_
          refine g_iald (pc := 98) hC 5 rfl (by decide) dX10_knock_98 ?_
          refine g_istore (pc := 99) (lv' := fun v10 => [(6, .int v10), (5, .int v9), (4, .int v8), (3, .int v7), (0, .ref (G.2.1 52)), (1, .int p0), (2, .int p1)]) hC dX10_knock_99 (by decide) (fun _ => rfl) (fun v10 => ?_)
          refine g_aload_n (pc := 101) (q := 4) hC dX10_knock_101 rfl rfl ?_
          refine g_get (pc := 102) (v := .ref (G.2.1 59)) hC kX10 rfl 8 (by decide) fl_RX10_30 rfl dX10_knock_102 ?_
          refine g_iconst (pc := 105) (v := 3) hC dX10_knock_105 (by decide) ?_
          refine g_iald (pc := 106) hC 5 rfl (by decide) dX10_knock_106 ?_
          refine g_istore (pc := 107) (lv' := fun v11 => [(7, .int v11), (6, .int v10), (5, .int v9), (4, .int v8), (3, .int v7), (0, .ref (G.2.1 52)), (1, .int p0), (2, .int p1)]) hC dX10_knock_107 (by decide) (fun _ => rfl) (fun v11 => ?_)
          refine g_bipush (pc := 109) (v := 99) hC dX10_knock_109 (by decide) ?_
          refine g_istore (pc := 111) (lv' := fun v12 => [(8, .int v12), (7, .int v11), (6, .int v10), (5, .int v9), (4, .int v8), (3, .int v7), (0, .ref (G.2.1 52)), (1, .int p0), (2, .int p1)]) hC dX10_knock_111 (by decide) (fun _ => rfl) (fun v12 => ?_)
          exact gT_sub [6, 7, 8, 4, 3, 2, 1, 0] rfl (wX10_knock_b113 hC  1100 s6 p0 p1 v8 v9 v10 v11 v12)
        · refine g_sipush (pc := 43) (v := 999) hC dX10_knock_43 (by decide) ?_
          refine g_istore (pc := 46) (lv' := fun v36 => [(6, .int v36), (5, .int v9), (4, .int v8), (3, .int v7), (0, .ref (G.2.1 52)), (1, .int p0), (2, .int p1)]) hC dX10_knock_46 (by decide) (fun _ => rfl) (fun v36 => ?_)
          exact gT_sub [4, 5, 6, 2, 1, 0] rfl (wX10_knock_b48 hC  1100 s6 p0 p1 v8 v9 v36)
      · refine g_iload_n (pc := 29) (q := 0) hC dX10_knock_29 rfl rfl ?_
        exact g_iret (pc := 30) hC dX10_knock_30
    · refine g_iconst (pc := 16) (v := (-1)) hC dX10_knock_16 (by decide) ?_
      exact g_iret (pc := 17) hC dX10_knock_17
theorem dX10_bore_0 : decode cX10_bore 0 = .ok (.iload_n 1, 1) := by decide +kernel
theorem dX10_bore_1 : decode cX10_bore 1 = .ok (.aload_n 0, 1) := by decide +kernel
theorem dX10_bore_2 : decode cX10_bore 2 = .ok (.invokevirtual 246, 3) := by decide +kernel
theorem dX10_bore_5 : decode cX10_bore 5 = .ok (.bipush 30, 2) := by decide +kernel
theorem dX10_bore_7 : decode cX10_bore 7 = .ok (.invokestatic 110, 3) := by decide +kernel
theorem dX10_bore_10 : decode cX10_bore 10 = .ok (.ifCond .eq 12, 3) := by decide +kernel
theorem dX10_bore_13 : decode cX10_bore 13 = .ok (.iload_n 2, 1) := by decide +kernel
theorem dX10_bore_14 : decode cX10_bore 14 = .ok (.iconst 0, 1) := by decide +kernel
theorem dX10_bore_15 : decode cX10_bore 15 = .ok (.iconst 1, 1) := by decide +kernel
theorem dX10_bore_16 : decode cX10_bore 16 = .ok (.invokestatic 110, 3) := by decide +kernel
theorem dX10_bore_19 : decode cX10_bore 19 = .ok (.ifCond .ne 5, 3) := by decide +kernel
theorem dX10_bore_22 : decode cX10_bore 22 = .ok (.iconst (-1), 1) := by decide +kernel
theorem dX10_bore_23 : decode cX10_bore 23 = .ok (.ireturn, 1) := by decide +kernel
theorem dX10_bore_24 : decode cX10_bore 24 = .ok (.aload_n 0, 1) := by decide +kernel
theorem dX10_bore_25 : decode cX10_bore 25 = .ok (.getfield 30, 3) := by decide +kernel
theorem dX10_bore_28 : decode cX10_bore 28 = .ok (.iconst 1, 1) := by decide +kernel
theorem dX10_bore_29 : decode cX10_bore 29 = .ok (.iaload, 1) := by decide +kernel
theorem dX10_bore_30 : decode cX10_bore 30 = .ok (.istore_n 3, 1) := by decide +kernel
theorem dX10_bore_31 : decode cX10_bore 31 = .ok (.iconst 0, 1) := by decide +kernel
theorem dX10_bore_32 : decode cX10_bore 32 = .ok (.istore 4, 2) := by decide +kernel
theorem dX10_bore_34 : decode cX10_bore 34 = .ok (.bipush (-2), 2) := by decide +kernel
theorem dX10_bore_36 : decode cX10_bore 36 = .ok (.istore 5, 2) := by decide +kernel
theorem dX10_bore_38 : decode cX10_bore 38 = .ok (.sipush 999, 3) := by decide +kernel
theorem dX10_bore_41 : decode cX10_bore 41 = .ok (.istore 6, 2) := by decide +kernel
theorem dX10_bore_43 : decode cX10_bore 43 = .ok (.iload 6, 2) := by decide +kernel
theorem dX10_bore_45 : decode cX10_bore 45 = .ok (.ifCond .le 60, 3) := by decide +kernel
theorem dX10_bore_48 : decode cX10_bore 48 = .ok (.aload_n 0, 1) := by decide +kernel
theorem dX10_bore_49 : decode cX10_bore 49 = .ok (.getfield 30, 3) := by decide +kernel
theorem dX10_bore_52 : decode cX10_bore 52 = .ok (.iconst 1, 1) := by decide +kernel
theorem dX10_bore_53 : decode cX10_bore 53 = .ok (.iload 6, 2) := by decide +kernel
theorem dX10_bore_55 : decode cX10_bore 55 = .ok (.iastore, 1) := by decide +kernel
theorem dX10_bore_56 : decode cX10_bore 56 = .ok (.aload_n 0, 1) := by decide +kernel
theorem dX10_bore_57 : decode cX10_bore 57 = .ok (.invokevirtual 243, 3) := by decide +kernel
theorem dX10_bore_60 : decode cX10_bore 60 = .ok (.aload_n 0, 1) := by decide +kernel
theorem dX10_bore_61 : decode cX10_bore 61 = .ok (.aload_n 0, 1) := by decide +kernel
theorem dX10_bore_62 : decode cX10_bore 62 = .ok (.getfield 30, 3) := by decide +kernel
theorem dX10_bore_65 : decode cX10_bore 65 = .ok (.iconst 0, 1) := by decide +kernel
theorem dX10_bore_66 : decode cX10_bore 66 = .ok (.iaload, 1) := by decide +kernel
theorem dX10_bore_67 : decode cX10_bore 67 = .ok (.invokevirtual 274, 3) := by decide +kernel
theorem dX10_bore_70 : decode cX10_bore 70 = .ok (.aload_n 0, 1) := by decide +kernel
theorem dX10_bore_71 : decode cX10_bore 71 = .ok (.getfield 249, 3) := by decide +kernel
theorem dX10_bore_74 : decode cX10_bore 74 = .ok (.iload_n 1, 1) := by decide +kernel
theorem dX10_bore_75 : decode cX10_bore 75 = .ok (.bipush 30, 2) := by decide +kernel
theorem dX10_bore_77 : decode cX10_bore 77 = .ok (.if_icmp .ne 8, 3) := by decide +kernel
theorem dX10_bore_80 : decode cX10_bore 80 = .ok (.bipush (-2), 2) := by decide +kernel
theorem dX10_bore_82 : decode cX10_bore 82 = .ok (.goto 4, 3) := by decide +kernel
theorem dX10_bore_85 : decode cX10_bore 85 = .ok (.iload_n 1, 1) := by decide +kernel
theorem dX10_bore_86 : decode cX10_bore 86 = .ok (.if_icmp .eq 6, 3) := by decide +kernel
theorem dX10_bore_89 : decode cX10_bore 89 = .ok (.goto 10, 3) := by decide +kernel
theorem dX10_bore_92 : decode cX10_bore 92 = .ok (.iinc 4 1, 3) := by decide +kernel
theorem dX10_bore_95 : decode cX10_bore 95 = .ok (.iload 6, 2) := by decide +kernel
theorem dX10_bore_97 : decode cX10_bore 97 = .ok (.istore 5, 2) := by decide +kernel
theorem dX10_bore_99 : decode cX10_bore 99 = .ok (.iinc 6 (-1), 3) := by decide +kernel
theorem dX10_bore_102 : decode cX10_bore 102 = .ok (.goto (-59), 3) := by decide +kernel
theorem dX10_bore_105 : decode cX10_bore 105 = .ok (.aload_n 0, 1) := by decide +kernel
theorem dX10_bore_106 : decode cX10_bore 106 = .ok (.getfield 30, 3) := by decide +kernel
theorem dX10_bore_109 : decode cX10_bore 109 = .ok (.iconst 1, 1) := by decide +kernel
theorem dX10_bore_110 : decode cX10_bore 110 = .ok (.iload_n 3, 1) := by decide +kernel
theorem dX10_bore_111 : decode cX10_bore 111 = .ok (.iastore, 1) := by decide +kernel
theorem dX10_bore_112 : decode cX10_bore 112 = .ok (.iload_n 2, 1) := by decide +kernel
theorem dX10_bore_113 : decode cX10_bore 113 = .ok (.ifCond .ne 8, 3) := by decide +kernel
theorem dX10_bore_116 : decode cX10_bore 116 = .ok (.iload 4, 2) := by decide +kernel
theorem dX10_bore_118 : decode cX10_bore 118 = .ok (.goto 5, 3) := by decide +kernel
theorem dX10_bore_121 : decode cX10_bore 121 = .ok (.iload 5, 2) := by decide +kernel
theorem dX10_bore_123 : decode cX10_bore 123 = .ok (.ireturn, 1) := by decide +kernel
abbrev rX10_bore : Room := { frames := 5, cells := 0, slots := 0, locals := 117 }
def mX10_bore_b99   (k43 : gS → Int32 → Int32 → Int32 → Int32 → Int32 → Int32 → Option (Int32 × gS)) (σ : gS) (x33 : Int32) (x34 : Int32) (x35 : Int32) (x36 : Int32) (x37 : Int32) (x38 : Int32) : Option (Int32 × gS) := gLet (x38 + (-1)) (fun v39 => (k43 σ x33 x34 x35 x36 x37 v39))
set_option maxHeartbeats 4000000 in
set_option maxRecDepth 100000 in
theorem wX10_bore_b99 {p : Program} {l : Launch} {e : Env} {s : State} {m : MethodId} {args : Array Value} {below : List Frame} {meth : Method} {c : Code} {G : gE} (hC : gCx p s m args meth c G RX10 cX10_bore 7 (some .int))    {k43 : gS → Int32 → Int32 → Int32 → Int32 → Int32 → Int32 → Option (Int32 × gS)} (hk43 : ∀ (σ : gS) (x11 : Int32) (x12 : Int32) (x13 : Int32) (x14 : Int32) (x15 : Int32) (x16 : Int32), gT p l e rX10_bore s m args below meth c G 7 iI σ 43 [(0, .ref (G.2.1 52)), (1, .int x11), (2, .int x12), (3, .int x13), (4, .int x14), (5, .int x15), (6, .int x16)] [] (k43 σ x11 x12 x13 x14 x15 x16)) (σ : gS) (x33 : Int32) (x34 : Int32) (x35 : Int32) (x36 : Int32) (x37 : Int32) (x38 : Int32)  : gT p l e rX10_bore s m args below meth c G 7 iI σ 99 [(0, .ref (G.2.1 52)), (1, .int x33), (2, .int x34), (3, .int x35), (4, .int x36), (5, .int x37), (6, .int x38)] [] (mX10_bore_b99 k43 σ x33 x34 x35 x36 x37 x38) := by
  unfold mX10_bore_b99
  refine g_iinc (pc := 99) (q := 6) (w := (-1)) (lv' := fun v39 => [(6, .int v39), (0, .ref (G.2.1 52)), (1, .int x33), (2, .int x34), (3, .int x35), (4, .int x36), (5, .int x37)]) hC dX10_bore_99 rfl (by decide) (by decide) (fun _ => rfl) (fun v39 => ?_)
  refine g_goto (pc := 102) (tgt := 43) hC dX10_bore_102 (by decide) ?_
  exact gT_sub [1, 2, 3, 4, 5, 6, 0] rfl (hk43 σ x33 x34 x35 x36 x37 v39)
def mX10_bore_b86   (k43 : gS → Int32 → Int32 → Int32 → Int32 → Int32 → Int32 → Option (Int32 × gS)) (σ : gS) (x23 : Int32) (x24 : Int32) (x25 : Int32) (x26 : Int32) (x27 : Int32) (x28 : Int32) (x29 : Int32) (x30 : Int32) : Option (Int32 × gS) := if x30 = x29 then (gLet (x26 + 1) (fun v31 => gLet x28 (fun v32 => (mX10_bore_b99 k43 σ x23 x24 x25 v31 v32 x28)))) else ((mX10_bore_b99 k43 σ x23 x24 x25 x26 x27 x28))
set_option maxHeartbeats 4000000 in
set_option maxRecDepth 100000 in
theorem wX10_bore_b86 {p : Program} {l : Launch} {e : Env} {s : State} {m : MethodId} {args : Array Value} {below : List Frame} {meth : Method} {c : Code} {G : gE} (hC : gCx p s m args meth c G RX10 cX10_bore 7 (some .int))    {k43 : gS → Int32 → Int32 → Int32 → Int32 → Int32 → Int32 → Option (Int32 × gS)} (hk43 : ∀ (σ : gS) (x11 : Int32) (x12 : Int32) (x13 : Int32) (x14 : Int32) (x15 : Int32) (x16 : Int32), gT p l e rX10_bore s m args below meth c G 7 iI σ 43 [(0, .ref (G.2.1 52)), (1, .int x11), (2, .int x12), (3, .int x13), (4, .int x14), (5, .int x15), (6, .int x16)] [] (k43 σ x11 x12 x13 x14 x15 x16)) (σ : gS) (x23 : Int32) (x24 : Int32) (x25 : Int32) (x26 : Int32) (x27 : Int32) (x28 : Int32) (x29 : Int32) (x30 : Int32)  : gT p l e rX10_bore s m args below meth c G 7 iI σ 86 [(0, .ref (G.2.1 52)), (1, .int x23), (2, .int x24), (3, .int x25), (4, .int x26), (5, .int x27), (6, .int x28)] [.int x29, .int x30] (mX10_bore_b86 k43 σ x23 x24 x25 x26 x27 x28 x29 x30) := by
  unfold mX10_bore_b86
  refine g_icmp_eq (pc := 86) (tgt := 92) hC dX10_bore_86 (by decide) ?_ ?_
  · refine g_iinc (pc := 92) (q := 4) (w := 1) (lv' := fun v31 => [(4, .int v31), (0, .ref (G.2.1 52)), (1, .int x23), (2, .int x24), (3, .int x25), (5, .int x27), (6, .int x28)]) hC dX10_bore_92 rfl (by decide) (by decide) (fun _ => rfl) (fun v31 => ?_)
    refine g_iload (pc := 95) (q := 6) hC dX10_bore_95 rfl ?_
    refine g_istore (pc := 97) (lv' := fun v32 => [(5, .int v32), (4, .int v31), (0, .ref (G.2.1 52)), (1, .int x23), (2, .int x24), (3, .int x25), (6, .int x28)]) hC dX10_bore_97 (by decide) (fun _ => rfl) (fun v32 => ?_)
    exact gT_sub [2, 3, 4, 5, 1, 0, 6] rfl (wX10_bore_b99 hC hk43 σ x23 x24 x25 v31 v32 x28)
  · refine g_goto (pc := 89) (tgt := 99) hC dX10_bore_89 (by decide) ?_
    exact gT_sub [0, 1, 2, 3, 4, 5, 6] rfl (wX10_bore_b99 hC hk43 σ x23 x24 x25 x26 x27 x28)
def mX10_bore_b43    : Nat → gS → Int32 → Int32 → Int32 → Int32 → Int32 → Int32 → Option (Int32 × gS)
  | 0, _, _, _, _, _, _, _ => none
  | n + 1, σ, x11, x12, x13, x14, x15, x16 => if x16 ≤ 0 then (if inbB 1 5 = true then gLet (gUI σ 59 (Int32.toNatClampNeg 1) x13) (fun s17 => if x12 = 0 then (some (x14, s17)) else (some (x15, s17))) else none) else (if inbB 1 5 = true then gLet (gUI σ 59 (Int32.toNatClampNeg 1) x16) (fun s18 => gBind (mX10_idles s18 ) (fun r19 s20 => if inbB 0 5 = true then (gBind (mX10_walks s20 (s20.1 59 (Int32.toNatClampNeg 0))) (fun r21 s22 => if x11 = 30 then ((mX10_bore_b86 (mX10_bore_b43  n) s22 x11 x12 x13 x14 x15 x16 (-2) (s22.1 52 43))) else ((mX10_bore_b86 (mX10_bore_b43  n) s22 x11 x12 x13 x14 x15 x16 x11 (s22.1 52 43))))) else none)) else none)
set_option maxHeartbeats 4000000 in
set_option maxRecDepth 100000 in
theorem wX10_bore_b43 {p : Program} {l : Launch} {e : Env} {s : State} {m : MethodId} {args : Array Value} {below : List Frame} {meth : Method} {c : Code} {G : gE} (hC : gCx p s m args meth c G RX10 cX10_bore 7 (some .int))     (n : Nat) (σ : gS) (x11 : Int32) (x12 : Int32) (x13 : Int32) (x14 : Int32) (x15 : Int32) (x16 : Int32)  : gT p l e rX10_bore s m args below meth c G 7 iI σ 43 [(0, .ref (G.2.1 52)), (1, .int x11), (2, .int x12), (3, .int x13), (4, .int x14), (5, .int x15), (6, .int x16)] [] (mX10_bore_b43  n σ x11 x12 x13 x14 x15 x16) := by
  induction n generalizing σ x11 x12 x13 x14 x15 x16 with
  | zero => exact gT_none
  | succ n ih =>
    unfold mX10_bore_b43
    refine g_iload (pc := 43) (q := 6) hC dX10_bore_43 rfl ?_
    refine g_if_le (pc := 45) (tgt := 105) hC dX10_bore_45 (by decide) ?_ ?_
    · refine g_aload_n (pc := 105) (q := 0) hC dX10_bore_105 rfl rfl ?_
      refine g_get (pc := 106) (v := .ref (G.2.1 59)) hC kX10 rfl 8 (by decide) fl_RX10_30 rfl dX10_bore_106 ?_
      refine g_iconst (pc := 109) (v := 1) hC dX10_bore_109 (by decide) ?_
      refine g_iload_n (pc := 110) (q := 3) hC dX10_bore_110 rfl rfl ?_
      refine g_iast (pc := 111) hC 5 rfl (by decide) dX10_bore_111 (fun s17 => ?_)
      refine g_iload_n (pc := 112) (q := 2) hC dX10_bore_112 rfl rfl ?_
      refine g_if_ne (pc := 113) (tgt := 121) hC dX10_bore_113 (by decide) ?_ ?_
      · refine g_iload (pc := 121) (q := 5) hC dX10_bore_121 rfl ?_
        exact g_iret (pc := 123) hC dX10_bore_123
      · refine g_iload (pc := 116) (q := 4) hC dX10_bore_116 rfl ?_
        refine g_goto (pc := 118) (tgt := 123) hC dX10_bore_118 (by decide) ?_
        exact g_iret (pc := 123) hC dX10_bore_123
    · refine g_aload_n (pc := 48) (q := 0) hC dX10_bore_48 rfl rfl ?_
      refine g_get (pc := 49) (v := .ref (G.2.1 59)) hC kX10 rfl 8 (by decide) fl_RX10_30 rfl dX10_bore_49 ?_
      refine g_iconst (pc := 52) (v := 1) hC dX10_bore_52 (by decide) ?_
      refine g_iload (pc := 53) (q := 6) hC dX10_bore_53 rfl ?_
      refine g_iast (pc := 55) hC 5 rfl (by decide) dX10_bore_55 (fun s18 => ?_)
      refine g_aload_n (pc := 56) (q := 0) hC dX10_bore_56 rfl rfl ?_
      refine g_callVv (pc := 57) (As := []) (rest := []) hC lk_RX10_243 kX10 rfl (tX10_idles _ _ s18 ) rfl rfl (Nat.le_of_ble_eq_true rfl) ⟨rfl, rfl, Nat.le_of_ble_eq_true rfl, Nat.le_of_ble_eq_true rfl⟩ dX10_bore_57 (fun r19 s20 => ?_)
      refine g_aload_n (pc := 60) (q := 0) hC dX10_bore_60 rfl rfl ?_
      refine g_aload_n (pc := 61) (q := 0) hC dX10_bore_61 rfl rfl ?_
      refine g_get (pc := 62) (v := .ref (G.2.1 59)) hC kX10 rfl 8 (by decide) fl_RX10_30 rfl dX10_bore_62 ?_
      refine g_iconst (pc := 65) (v := 0) hC dX10_bore_65 (by decide) ?_
      refine g_iald (pc := 66) hC 5 rfl (by decide) dX10_bore_66 ?_
      refine g_callVv (pc := 67) (As := [.int (s20.1 59 (Int32.toNatClampNeg 0))]) (rest := []) hC lk_RX10_274 kX10 rfl (tX10_walks _ _ s20 (s20.1 59 (Int32.toNatClampNeg 0))) rfl rfl (Nat.le_of_ble_eq_true rfl) ⟨rfl, rfl, Nat.le_of_ble_eq_true rfl, Nat.le_of_ble_eq_true rfl⟩ dX10_bore_67 (fun r21 s22 => ?_)
      refine g_aload_n (pc := 70) (q := 0) hC dX10_bore_70 rfl rfl ?_
      refine g_get (pc := 71) (v := .int (s22.1 52 43)) hC kX10 rfl 43 (by decide) fl_RX10_249 rfl dX10_bore_71 ?_
      refine g_iload_n (pc := 74) (q := 1) hC dX10_bore_74 rfl rfl ?_
      refine g_bipush (pc := 75) (v := 30) hC dX10_bore_75 (by decide) ?_
      refine g_icmp_ne (pc := 77) (tgt := 85) hC dX10_bore_77 (by decide) ?_ ?_
      · refine g_iload_n (pc := 85) (q := 1) hC dX10_bore_85 rfl rfl ?_
        exact gT_sub [0, 1, 2, 3, 4, 5, 6] rfl (wX10_bore_b86 hC ih s22 x11 x12 x13 x14 x15 x16 x11 (s22.1 52 43))
      · refine g_bipush (pc := 80) (v := (-2)) hC dX10_bore_80 (by decide) ?_
        refine g_goto (pc := 82) (tgt := 86) hC dX10_bore_82 (by decide) ?_
        exact gT_sub [0, 1, 2, 3, 4, 5, 6] rfl (wX10_bore_b86 hC ih s22 x11 x12 x13 x14 x15 x16 (-2) (s22.1 52 43))
def mX10_bore (σ : gS) (p0 : Int32) (p1 : Int32) : Option (Int32 × gS) := gBind (mX10_now σ ) (fun r1 s2 => gBind (mX10_within s2 p0 r1 30) (fun r3 s4 => if r3 = true then (gBind (mX10_within s4 p1 0 1) (fun r5 s6 => if r5 = true then (if inbB 1 5 = true then (gLet (s6.1 59 (Int32.toNatClampNeg 1)) (fun v7 => gLet 0 (fun v8 => gLet (-2) (fun v9 => gLet 999 (fun v10 => (mX10_bore_b43  1100 s6 p0 p1 v7 v8 v9 v10)))))) else none) else (some ((-1), s6)))) else (some ((-1), s4))))
set_option maxHeartbeats 4000000 in
set_option maxRecDepth 100000 in
theorem tX10_bore (l : Launch) (G : gE) (σ : gS) (p0 : Int32) (p1 : Int32) : gM l G yX10_bore cX10_bore 7 (some .int) rX10_bore iI [.ref (G.2.1 52), .int p0, .int p1] σ (mX10_bore σ p0 p1) := by
  refine gM_of (by decide) (Nat.le_of_ble_eq_true rfl) ?_
  intro p e s m args below meth c hC
  unfold mX10_bore
  show gT p l e rX10_bore s m args below meth c G 7 iI σ 0 [(0, .ref (G.2.1 52)), (1, .int p0), (2, .int p1)] [] _
  refine g_iload_n (pc := 0) (q := 1) hC dX10_bore_0 rfl rfl ?_
  refine g_aload_n (pc := 1) (q := 0) hC dX10_bore_1 rfl rfl ?_
  refine g_callVi (pc := 2) (As := []) (rest := [.int p0]) hC lk_RX10_246 kX10 rfl (tX10_now _ _ σ ) rfl rfl (Nat.le_of_ble_eq_true rfl) ⟨rfl, rfl, Nat.le_of_ble_eq_true rfl, Nat.le_of_ble_eq_true rfl⟩ dX10_bore_2 (fun r1 s2 => ?_)
  refine g_bipush (pc := 5) (v := 30) hC dX10_bore_5 (by decide) ?_
  refine g_callSz (pc := 7) (As := [.int p0, .int r1, .int 30]) (rest := []) hC lk_RX10_110 (tX10_within _ _ s2 p0 r1 30) rfl rfl (Nat.le_of_ble_eq_true rfl) ⟨rfl, rfl, Nat.le_of_ble_eq_true rfl, Nat.le_of_ble_eq_true rfl⟩ dX10_bore_7 (fun r3 s4 => ?_)
  refine g_bif_eq (pc := 10) (tgt := 22) hC dX10_bore_10 (by decide) ?_ ?_
  · refine g_iconst (pc := 22) (v := (-1)) hC dX10_bore_22 (by decide) ?_
    exact g_iret (pc := 23) hC dX10_bore_23
  · refine g_iload_n (pc := 13) (q := 2) hC dX10_bore_13 rfl rfl ?_
    refine g_iconst (pc := 14) (v := 0) hC dX10_bore_14 (by decide) ?_
    refine g_iconst (pc := 15) (v := 1) hC dX10_bore_15 (by decide) ?_
    refine g_callSz (pc := 16) (As := [.int p1, .int 0, .int 1]) (rest := []) hC lk_RX10_110 (tX10_within _ _ s4 p1 0 1) rfl rfl (Nat.le_of_ble_eq_true rfl) ⟨rfl, rfl, Nat.le_of_ble_eq_true rfl, Nat.le_of_ble_eq_true rfl⟩ dX10_bore_16 (fun r5 s6 => ?_)
    refine g_bif_ne (pc := 19) (tgt := 24) hC dX10_bore_19 (by decide) ?_ ?_
    · refine g_aload_n (pc := 24) (q := 0) hC dX10_bore_24 rfl rfl ?_
      refine g_get (pc := 25) (v := .ref (G.2.1 59)) hC kX10 rfl 8 (by decide) fl_RX10_30 rfl dX10_bore_25 ?_
      refine g_iconst (pc := 28) (v := 1) hC dX10_bore_28 (by decide) ?_
      refine g_iald (pc := 29) hC 5 rfl (by decide) dX10_bore_29 ?_
      refine g_istore_n (pc := 30) (lv' := fun v7 => [(3, .int v7), (0, .ref (G.2.1 52)), (1, .int p0), (2, .int p1)]) hC dX10_bore_30 rfl (by decide) (fun _ => rfl) (fun v7 => ?_)
      refine g_iconst (pc := 31) (v := 0) hC dX10_bore_31 (by decide) ?_
      refine g_istore (pc := 32) (lv' := fun v8 => [(4, .int v8), (3, .int v7), (0, .ref (G.2.1 52)), (1, .int p0), (2, .int p1)]) hC dX10_bore_32 (by decide) (fun _ => rfl) (fun v8 => ?_)
      refine g_bipush (pc := 34) (v := (-2)) hC dX10_bore_34 (by decide) ?_
      refine g_istore (pc := 36) (lv' := fun v9 => [(5, .int v9), (4, .int v8), (3, .int v7), (0, .ref (G.2.1 52)), (1, .int p0), (2, .int p1)]) hC dX10_bore_36 (by decide) (fun _ => rfl) (fun v9 => ?_)
      refine g_sipush (pc := 38) (v := 999) hC dX10_bore_38 (by decide) ?_
      refine g_istore (pc := 41) (lv' := fun v10 => [(6, .int v10), (5, .int v9), (4, .int v8), (3, .int v7), (0, .ref (G.2.1 52)), (1, .int p0), (2, .int p1)]) hC dX10_bore_41 (by decide) (fun _ => rfl) (fun v10 => ?_)
      exact gT_sub [4, 5, 6, 3, 2, 1, 0] rfl (wX10_bore_b43 hC  1100 s6 p0 p1 v7 v8 v9 v10)
    · refine g_iconst (pc := 22) (v := (-1)) hC dX10_bore_22 (by decide) ?_
      exact g_iret (pc := 23) hC dX10_bore_23
