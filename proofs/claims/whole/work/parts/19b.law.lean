theorem l_rem {i L : Nat} (hL : L ≤ 3072) (hi : i ≤ L + 6) (h : ¬ Int32.ofNat L - 6 < nI i) : i + 6 ≤ L := by
  have e1 : (Int32.ofNat L - 6).toInt = (L : Int) - 6 := by
    rw [Int32.toInt_sub, show (Int32.ofNat L).toInt = (L : Int) from nI_toInt (by omega), show (6 : Int32).toInt = 6 from rfl]
    exact Int.bmod_eq_of_le (by omega) (by omega)
  rw [Int32.lt_iff_toInt_lt, e1, nI_toInt (by omega)] at h
  omega
theorem l_in {i L j : Nat} {x3 v : Int32} (hL : L ≤ 3072) (hi : i + 6 ≤ L) (hj : j < 6) (hx : x3 = nI i) (hv : v = nI j) : vp_in (x3 + v) L := by
  rw [hx, hv, nI_add]
  exact vp_in_nI (by omega) (by omega)
set_option maxHeartbeats 4000000 in
set_option maxRecDepth 100000 in
theorem law_loop {p : Program} {l : Launch} {e : Env} {s : State} {m : MethodId} {below : List Frame} {meth : Method} {c : Code} {G : gE} {b L CE SL : Nat} {xs : Nat → Int32} (hL : L ≤ 3072) (hC : gLx p s m meth c G b L xs) (hce : CE ≤ 600000) (hsl : SL ≤ 7302250) {Inv : gS → Prop} (hS : SS_all Inv) :
    ∀ (n i : Nat) (x3 : Int32) (σ : gS), Inv σ → i ≤ L + 6 → L + 6 < i + 6 * n → x3 = nI i → gU p l e s m below meth c G b CE SL σ 18 [(0, .ref b), (1, .ref (G.2.1 0)), (2, .ref (G.2.1 52)), (3, .int x3)] [] := by
  obtain ⟨s0, s1, s2, s3, s4, s5, s6, s7, s8, s9, s10, s11, s12, s13, s14, s15, s16, s17, s18, s19, s20, s21, s22, s23, s24, s25, s26, s27, s28, s29, s30, s31, s32, s33, s34, s35, s36, s37, s38, s39, s40⟩ := hS
  intro n
  induction n with
  | zero =>
    intro i x3 σ _ h1 h2
    exact absurd h2 (by omega)
  | succ n ih =>
    intro i x3 σ hI hi hin ex3
    refine l_iload_n (pc := 18) (q := 3) hC dL_law_18 rfl rfl ?_
    refine l_aload_n (pc := 19) (q := 0) hC dL_law_19 rfl rfl ?_
    refine l_slen (pc := 20) hC dL_law_20 ?_
    refine l_bipush (pc := 21) (v := 6) hC dL_law_21 (by decide) ?_
    refine l_isub (pc := 23) hC dL_law_23 ?_
    refine l_gt (pc := 24) (tgt := 1483) hC dL_law_24 (by decide) (fun _ => ?_) (fun hle => ?_)
    · intro H locs ls hP hS hl
      refine lv_iconst (v := 1) hC.1 hC.2.1 dL_law_1483 (by decide) ?_
      refine va_forget (fun q hq => hS.2.2 q hq) ?_
      refine W.widen (k := 600000) (n := 7302250) hce hsl ?_
      exact lw_ret hC.1 hC.2.1 hC.2.2.2.2.2.2.2.2.2.2.2.1 hC.2.2.2.2.2.2.2.2.2.2.2.2 dL_law_1484
    · have hrem : i + 6 ≤ L := l_rem hL hi (by rw [← ex3]; exact hle)
      have h0 : vp_in x3 L := by rw [ex3]; exact vp_in_nI (by omega) (by omega)
      have h1 : vp_in (x3 + 1) L := l_in hL hrem (j := 1) (by omega) ex3 rfl
      have h2 : vp_in (x3 + 2) L := l_in hL hrem (j := 2) (by omega) ex3 rfl
      have h3 : vp_in (x3 + 3) L := l_in hL hrem (j := 3) (by omega) ex3 rfl
      have h4 : vp_in (x3 + 4) L := l_in hL hrem (j := 4) (by omega) ex3 rfl
      have h5 : vp_in (x3 + 5) L := l_in hL hrem (j := 5) (by omega) ex3 rfl
      have kk : ∀ τ : gS, Inv τ → gU p l e s m below meth c G b CE SL τ 1477 [(0, .ref b), (1, .ref (G.2.1 0)), (2, .ref (G.2.1 52)), (3, .int x3)] [] := by
        intro τ hτ H locs ls hP hS hl
        obtain ⟨y, ey⟩ : ∃ y : Int32, y = x3 + 6 := ⟨_, rfl⟩
        refine lv_iinc (v := y) (lv' := [(3, .int y), (0, .ref b), (1, .ref (G.2.1 0)), (2, .ref (G.2.1 52))]) hC.1 hC.2.1 dL_law_1477 hl (k := 3) rfl (by rw [ey]; rfl) (by decide) rfl (fun ls hl => ?_)
        refine lv_goto (tgt := 18) hC.1 hC.2.1 dL_law_1480 (by decide) ?_
        exact ih (i + 6) y τ hτ (by omega) (by omega) (by rw [ey, ex3]; exact nI_add i 6) H locs ls hP hS (lv_sub hl [1, 2, 3, 0] rfl)
      refine l_aload_n (pc := 27) (q := 0) hC dL_law_27 rfl rfl ?_
      refine l_iload_n (pc := 28) (q := 3) hC dL_law_28 rfl rfl ?_
      refine l_sld (pc := 29) hC h0 dL_law_29 ?_
      refine l_bipush (pc := 30) (v := 63) hC dL_law_30 (by decide) ?_
      refine l_iand (pc := 32) hC dL_law_32 ?_
      generalize xs x3.toNatClampNeg &&& 63 = z
      by_cases z0 : z = 0
      · exact l_tabIn (pc := 33) (tgt := 212) (off := 179) hC dL_law_33 z0 (by decide) (by decide) (by decide) (by decide) (lc_farm hC hce hsl s0 σ hI x3 h1 h2 h3 h4 h5 kk)
      by_cases z1 : z = 1
      · exact l_tabIn (pc := 33) (tgt := 235) (off := 202) hC dL_law_33 z1 (by decide) (by decide) (by decide) (by decide) (lc_want hC hce hsl s1 σ hI x3 h1 h2 h3 h4 h5 kk)
      by_cases z2 : z = 2
      · exact l_tabIn (pc := 33) (tgt := 268) (off := 235) hC dL_law_33 z2 (by decide) (by decide) (by decide) (by decide) (lc_wants hC hce hsl s2 σ hI x3 h1 h2 h3 h4 h5 kk)
      by_cases z3 : z = 3
      · exact l_tabIn (pc := 33) (tgt := 311) (off := 278) hC dL_law_33 z3 (by decide) (by decide) (by decide) (by decide) (lc_mend hC hce hsl s3 σ hI x3 h1 h2 h3 h4 h5 kk)
      by_cases z4 : z = 4
      · exact l_tabIn (pc := 33) (tgt := 354) (off := 321) hC dL_law_33 z4 (by decide) (by decide) (by decide) (by decide) (lc_of hC hce hsl s4 σ hI x3 h1 h2 h3 h4 h5 kk)
      by_cases z5 : z = 5
      · exact l_tabIn (pc := 33) (tgt := 387) (off := 354) hC dL_law_33 z5 (by decide) (by decide) (by decide) (by decide) (lc_feed hC hce hsl s5 σ hI x3 h1 h2 h3 h4 h5 kk)
      by_cases z6 : z = 6
      · exact l_tabIn (pc := 33) (tgt := 410) (off := 377) hC dL_law_33 z6 (by decide) (by decide) (by decide) (by decide) (lc_law hC hce hsl s6 σ hI x3 h1 h2 h3 h4 h5 kk)
      by_cases z7 : z = 7
      · exact l_tabIn (pc := 33) (tgt := 423) (off := 390) hC dL_law_33 z7 (by decide) (by decide) (by decide) (by decide) (lc_cold hC hce hsl s7 σ hI x3 h1 h2 h3 h4 h5 kk)
      by_cases z8 : z = 8
      · exact l_tabIn (pc := 33) (tgt := 456) (off := 423) hC dL_law_33 z8 (by decide) (by decide) (by decide) (by decide) (lc_plan hC hce hsl s8 σ hI x3 h1 h2 h3 h4 h5 kk)
      by_cases z9 : z = 9
      · exact l_tabIn (pc := 33) (tgt := 499) (off := 466) hC dL_law_33 z9 (by decide) (by decide) (by decide) (by decide) (lc_gives hC hce hsl s9 σ hI x3 h1 h2 h3 h4 h5 kk)
      by_cases z10 : z = 10
      · exact l_tabIn (pc := 33) (tgt := 532) (off := 499) hC dL_law_33 z10 (by decide) (by decide) (by decide) (by decide) (lc_idle hC hce hsl s10 σ hI x3 h1 h2 h3 h4 h5 kk)
      by_cases z11 : z = 11
      · exact l_tabIn (pc := 33) (tgt := 555) (off := 522) hC dL_law_33 z11 (by decide) (by decide) (by decide) (by decide) (lc_best hC hce hsl s11 σ hI x3 h1 h2 h3 h4 h5 kk)
      by_cases z12 : z = 12
      · exact l_tabIn (pc := 33) (tgt := 588) (off := 555) hC dL_law_33 z12 (by decide) (by decide) (by decide) (by decide) (lc_all hC hce hsl s12 σ hI x3 h1 h2 h3 h4 h5 kk)
      by_cases z13 : z = 13
      · exact l_tabIn (pc := 33) (tgt := 611) (off := 578) hC dL_law_33 z13 (by decide) (by decide) (by decide) (by decide) (lc_vote hC hce hsl s13 σ hI x3 h1 h2 h3 h4 h5 kk)
      by_cases z14 : z = 14
      · exact l_tabIn (pc := 33) (tgt := 644) (off := 611) hC dL_law_33 z14 (by decide) (by decide) (by decide) (by decide) (lc_most hC hce hsl s14 σ hI x3 h1 h2 h3 h4 h5 kk)
      by_cases z15 : z = 15
      · exact l_tabIn (pc := 33) (tgt := 667) (off := 634) hC dL_law_33 z15 (by decide) (by decide) (by decide) (by decide) (lc_power hC hce hsl s15 σ hI x3 h1 h2 h3 h4 h5 kk)
      by_cases z16 : z = 16
      · exact l_tabIn (pc := 33) (tgt := 701) (off := 668) hC dL_law_33 z16 (by decide) (by decide) (by decide) (by decide) (lc_agenda hC hce hsl s16 σ hI x3 h1 h2 h3 h4 h5 kk)
      by_cases z17 : z = 17
      · exact l_tabIn (pc := 33) (tgt := 734) (off := 701) hC dL_law_33 z17 (by decide) (by decide) (by decide) (by decide) (lc_price hC hce hsl s17 σ hI x3 h1 h2 h3 h4 h5 kk)
      by_cases z18 : z = 18
      · exact l_tabIn (pc := 33) (tgt := 767) (off := 734) hC dL_law_33 z18 (by decide) (by decide) (by decide) (by decide) (lc_judge hC hce hsl s18 σ hI x3 h1 h2 h3 h4 h5 kk)
      by_cases z19 : z = 19
      · exact l_tabIn (pc := 33) (tgt := 790) (off := 757) hC dL_law_33 z19 (by decide) (by decide) (by decide) (by decide) (lc_knock hC hce hsl s19 σ hI x3 h1 h2 h3 h4 h5 kk)
      by_cases z20 : z = 20
      · exact l_tabIn (pc := 33) (tgt := 823) (off := 790) hC dL_law_33 z20 (by decide) (by decide) (by decide) (by decide) (lc_bore hC hce hsl s20 σ hI x3 h1 h2 h3 h4 h5 kk)
      by_cases z21 : z = 21
      · exact l_tabIn (pc := 33) (tgt := 856) (off := 823) hC dL_law_33 z21 (by decide) (by decide) (by decide) (by decide) (lc_byTurns hC hce hsl s21 σ hI x3 h1 h2 h3 h4 h5 kk)
      by_cases z22 : z = 22
      · exact l_tabIn (pc := 33) (tgt := 899) (off := 866) hC dL_law_33 z22 (by decide) (by decide) (by decide) (by decide) (lc_drawn hC hce hsl s22 σ hI x3 h1 h2 h3 h4 h5 kk)
      by_cases z23 : z = 23
      · exact l_tabIn (pc := 33) (tgt := 952) (off := 919) hC dL_law_33 z23 (by decide) (by decide) (by decide) (by decide) (lc_pass hC hce hsl s23 σ hI x3 h1 h2 h3 h4 h5 kk)
      by_cases z24 : z = 24
      · exact l_tabIn (pc := 33) (tgt := 975) (off := 942) hC dL_law_33 z24 (by decide) (by decide) (by decide) (by decide) (lc_bring hC hce hsl s24 σ hI x3 h1 h2 h3 h4 h5 kk)
      by_cases z25 : z = 25
      · exact l_tabIn (pc := 33) (tgt := 998) (off := 965) hC dL_law_33 z25 (by decide) (by decide) (by decide) (by decide) (lc_boards hC hce hsl s25 σ hI x3 h1 h2 h3 h4 h5 kk)
      by_cases z26 : z = 26
      · exact l_tabIn (pc := 33) (tgt := 1011) (off := 978) hC dL_law_33 z26 (by decide) (by decide) (by decide) (by decide) (lc_led hC hce hsl s26 σ hI x3 h1 h2 h3 h4 h5 kk)
      by_cases z27 : z = 27
      · exact l_tabIn (pc := 33) (tgt := 1034) (off := 1001) hC dL_law_33 z27 (by decide) (by decide) (by decide) (by decide) (lc_image hC hce hsl s27 σ hI x3 h1 h2 h3 h4 h5 kk)
      by_cases z28 : z = 28
      · exact l_tabIn (pc := 33) (tgt := 1047) (off := 1014) hC dL_law_33 z28 (by decide) (by decide) (by decide) (by decide) (lc_back hC hce hsl s28 σ hI x3 h1 h2 h3 h4 h5 kk)
      by_cases z29 : z = 29
      · exact l_tabIn (pc := 33) (tgt := 1060) (off := 1027) hC dL_law_33 z29 (by decide) (by decide) (by decide) (by decide) (lc_undo hC hce hsl s29 σ hI x3 h1 h2 h3 h4 h5 kk)
      by_cases z30 : z = 30
      · exact l_tabIn (pc := 33) (tgt := 1073) (off := 1040) hC dL_law_33 z30 (by decide) (by decide) (by decide) (by decide) (lc_redo hC hce hsl s30 σ hI x3 h1 h2 h3 h4 h5 kk)
      by_cases z31 : z = 31
      · exact l_tabIn (pc := 33) (tgt := 1086) (off := 1053) hC dL_law_33 z31 (by decide) (by decide) (by decide) (by decide) (lc_body hC hce hsl s31 σ hI x3 h1 h2 h3 h4 h5 kk)
      by_cases z32 : z = 32
      · exact l_tabIn (pc := 33) (tgt := 1109) (off := 1076) hC dL_law_33 z32 (by decide) (by decide) (by decide) (by decide) (lc_act hC hce hsl s32 σ hI x3 h1 h2 h3 h4 h5 kk)
      by_cases z33 : z = 33
      · exact l_tabIn (pc := 33) (tgt := 1152) (off := 1119) hC dL_law_33 z33 (by decide) (by decide) (by decide) (by decide) (lc_trace hC hce hsl s33 σ hI x3 h1 h2 h3 h4 h5 kk)
      by_cases z34 : z = 34
      · exact l_tabIn (pc := 33) (tgt := 1175) (off := 1142) hC dL_law_33 z34 (by decide) (by decide) (by decide) (by decide) (lc_keep hC hce hsl s34 σ hI x3 h1 h2 h3 h4 h5 kk)
      by_cases z35 : z = 35
      · exact l_tabIn (pc := 33) (tgt := 1208) (off := 1175) hC dL_law_33 z35 (by decide) (by decide) (by decide) (by decide) (lc_row hC hce hsl s35 σ hI x3 h1 h2 h3 h4 h5 kk)
      by_cases z36 : z = 36
      · exact l_tabIn (pc := 33) (tgt := 1251) (off := 1218) hC dL_law_33 z36 (by decide) (by decide) (by decide) (by decide) (lc_put hC hce hsl s36 σ hI x3 h1 h2 h3 h4 h5 kk)
      by_cases z37 : z = 37
      · exact l_tabIn (pc := 33) (tgt := 1324) (off := 1291) hC dL_law_33 z37 (by decide) (by decide) (by decide) (by decide) (lc_element hC hce hsl s37 σ hI x3 h1 h2 h3 h4 h5 kk)
      by_cases z38 : z = 38
      · exact l_tabIn (pc := 33) (tgt := 1358) (off := 1325) hC dL_law_33 z38 (by decide) (by decide) (by decide) (by decide) (lc_shift hC hce hsl s38 σ hI x3 h1 h2 h3 h4 h5 kk)
      by_cases z39 : z = 39
      · exact l_tabIn (pc := 33) (tgt := 1421) (off := 1388) hC dL_law_33 z39 (by decide) (by decide) (by decide) (by decide) (lc_taken hC hce hsl s39 σ hI x3 h1 h2 h3 h4 h5 kk)
      by_cases z40 : z = 40
      · exact l_tabIn (pc := 33) (tgt := 1454) (off := 1421) hC dL_law_33 z40 (by decide) (by decide) (by decide) (by decide) (lc_count hC hce hsl s40 σ hI x3 h1 h2 h3 h4 h5 kk)
      exact l_tabOut (pc := 33) (tgt := 1477) hC dL_law_33 (by have q0 := gne z0 (n := 0) rfl; have q1 := gne z1 (n := 1) rfl; have q2 := gne z2 (n := 2) rfl; have q3 := gne z3 (n := 3) rfl; have q4 := gne z4 (n := 4) rfl; have q5 := gne z5 (n := 5) rfl; have q6 := gne z6 (n := 6) rfl; have q7 := gne z7 (n := 7) rfl; have q8 := gne z8 (n := 8) rfl; have q9 := gne z9 (n := 9) rfl; have q10 := gne z10 (n := 10) rfl; have q11 := gne z11 (n := 11) rfl; have q12 := gne z12 (n := 12) rfl; have q13 := gne z13 (n := 13) rfl; have q14 := gne z14 (n := 14) rfl; have q15 := gne z15 (n := 15) rfl; have q16 := gne z16 (n := 16) rfl; have q17 := gne z17 (n := 17) rfl; have q18 := gne z18 (n := 18) rfl; have q19 := gne z19 (n := 19) rfl; have q20 := gne z20 (n := 20) rfl; have q21 := gne z21 (n := 21) rfl; have q22 := gne z22 (n := 22) rfl; have q23 := gne z23 (n := 23) rfl; have q24 := gne z24 (n := 24) rfl; have q25 := gne z25 (n := 25) rfl; have q26 := gne z26 (n := 26) rfl; have q27 := gne z27 (n := 27) rfl; have q28 := gne z28 (n := 28) rfl; have q29 := gne z29 (n := 29) rfl; have q30 := gne z30 (n := 30) rfl; have q31 := gne z31 (n := 31) rfl; have q32 := gne z32 (n := 32) rfl; have q33 := gne z33 (n := 33) rfl; have q34 := gne z34 (n := 34) rfl; have q35 := gne z35 (n := 35) rfl; have q36 := gne z36 (n := 36) rfl; have q37 := gne z37 (n := 37) rfl; have q38 := gne z38 (n := 38) rfl; have q39 := gne z39 (n := 39) rfl; have q40 := gne z40 (n := 40) rfl; omega) (by decide) (kk σ hI)
