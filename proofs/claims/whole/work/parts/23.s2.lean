/-! ===== bring, boards, led, count, feed, trace, body ===== -/
theorem rg_bring {x y : Int32} (hx : rg x 0 999) (hy : rg y 1 99) : rg (gMin (x + y) 999) 0 999 := by
  obtain ⟨a, a1, a2, rfl⟩ := hx
  obtain ⟨b, b1, b2, rfl⟩ := hy
  rw [nI_add]
  unfold gMin
  by_cases h : (999 : Int32) < nI (a + b)
  · rw [if_pos h]; exact ⟨999, by omega, by omega, rfl⟩
  · rw [if_neg h]
    refine ⟨a + b, by omega, ?_, rfl⟩
    rcases Nat.lt_or_ge 999 (a + b) with q | q
    · exact absurd (nI_lt q (by omega)) h
    · exact q
theorem s_bring : S_bring Inv := by
  intro σ a hI
  have hI0 := hI
  obtain ⟨f, w, b, hV, hS, hT, hL, hB, hM, hC, hF, hH⟩ := hI
  obtain ⟨q0, q1, q2, q3, q4, q5⟩ := id hS
  by_cases hwi : wi a 1 99 = true
  · refine ⟨gMin (σ.1 8 0 + a) 999, gUI σ 8 0 (gMin (σ.1 8 0 + a) 999), gUI (gUI σ 8 0 (gMin (σ.1 8 0 + a) 999)) 59 0 (gMin (σ.1 8 0 + a) 999), ?_, ?_, ?_⟩
    · simp [mX9_bring, w9, gb_some, hwi, gLet, gUI_same]
    · have hm : gMin 999 (σ.1 8 0 + a) = gMin (σ.1 8 0 + a) 999 := gMin_comm _ _
      simp [mX10_bring, w10, gb_some, hwi, gLet, gUI_same, gUI_ne, show inbB 0 5 = true from by decide, q0, hm]
    · exact ⟨f, w, b, IV_ag hV rfl rfl rfl rfl rfl rfl rfl rfl rfl rfl rfl rfl rfl rfl rfl rfl, ⟨rfl, q1, q2, q3, q4, q5.1, q5.2.1, q5.2.2.1, rg_bring q5.2.2.2 (wi_rg (a := 1) (b := 99) (by decide) (by decide) hwi)⟩, IT_ag hT rfl rfl rfl rfl, IL_ag hL rfl rfl (fun k hk => by rcases hk with rfl | rfl <;> exact ⟨rfl, rfl, rfl⟩) rfl rfl rfl rfl rfl rfl, IB_ag hB (fun _ => rfl) (fun _ => rfl), IM_ag hM rfl rfl rfl rfl rfl, IC_ag hC rfl rfl rfl rfl rfl rfl rfl rfl rfl, IF_ag hF rfl rfl rfl rfl rfl rfl rfl rfl, IH_ag hH (fun k h1 h2 => ⟨by simp [gUI, show k ≠ 8 by omega, show k ≠ 59 by omega], rfl⟩) rfl rfl rfl⟩
  · refine ⟨-1, σ, σ, ?_, ?_, hI0⟩
    · simp [mX9_bring, w9, gb_some, hwi]
    · simp [mX10_bring, w10, gb_some, hwi]
theorem s_boards : S_boards Inv := by
  intro σ hI
  have hI0 := hI
  obtain ⟨f, w, b, hV, hS, hT, hL, hB, hM, hC, hF, hH⟩ := hI
  obtain ⟨q0, q1, q2, q3, q4, q5⟩ := id hS
  refine ⟨gMin (σ.1 8 1 + 10) 999, gUI σ 8 1 (gMin (σ.1 8 1 + 10) 999), gUI (gUI σ 8 1 (gMin (σ.1 8 1 + 10) 999)) 59 1 (gMin (σ.1 8 1 + 10) 999), ?_, ?_, ?_⟩
  · simp [mX9_boards, gLet, gUI_same]
  · have hm : gMin 999 (σ.1 8 1 + 10) = gMin (σ.1 8 1 + 10) 999 := gMin_comm _ _
    simp [mX10_boards, gLet, gUI_same, gUI_ne, show inbB 1 5 = true from by decide, show Int32.toNatClampNeg 1 = 1 from by decide, q1, hm]
  · exact ⟨f, w, b, IV_ag hV rfl rfl rfl rfl rfl rfl rfl rfl rfl rfl rfl rfl rfl rfl rfl rfl, ⟨q0, rfl, q2, q3, q4, q5⟩, IT_ag hT rfl rfl rfl rfl, IL_ag hL rfl rfl (fun k hk => by rcases hk with rfl | rfl <;> exact ⟨rfl, rfl, rfl⟩) rfl rfl rfl rfl rfl rfl, IB_ag hB (fun _ => rfl) (fun _ => rfl), IM_ag hM rfl rfl rfl rfl rfl, IC_ag hC rfl rfl rfl rfl rfl rfl rfl rfl rfl, IF_ag hF rfl rfl rfl rfl rfl rfl rfl rfl, IH_ag hH (fun k h1 h2 => ⟨by simp [gUI, show k ≠ 8 by omega, show k ≠ 59 by omega], rfl⟩) rfl rfl rfl⟩
theorem s_led : S_led Inv := by
  intro σ a hI
  have hI0 := hI
  obtain ⟨f, w, b, hV, hS, hT, hL, hB, hM, hC, hF, hH⟩ := hI
  by_cases hwi : wi a 0 4 = true
  · obtain ⟨n, -, h4, rfl⟩ := wi_rg (a := 0) (b := 4) (by decide) (by decide) hwi
    refine ⟨σ.1 28 n, σ, σ, ?_, ?_, hI0⟩
    · rcases (show n = 0 ∨ n = 1 ∨ n = 2 ∨ n = 3 ∨ n = 4 by omega) with rfl | rfl | rfl | rfl | rfl
      · exact (if_pos (by decide)).trans rfl
      · unfold mX9_led; rw [if_neg (by decide), if_pos (by decide)]
      · unfold mX9_led; rw [if_neg (by decide), if_neg (by decide), if_pos (by decide)]
      · unfold mX9_led; rw [if_neg (by decide), if_neg (by decide), if_neg (by decide), if_pos (by decide)]
      · unfold mX9_led; rw [if_neg (by decide), if_neg (by decide), if_neg (by decide), if_neg (by decide), if_pos (by decide)]
    · simp [mX10_led, w10, gb_some, hwi, inbB_nI (show n < 5 by omega) (by decide), nI_cl (show n < 2 ^ 31 by omega), hB n (by omega)]
  · have hne : ∀ n : Nat, n ≤ 4 → ¬ a = nI n := fun n hn q => hwi (rg_wi (a := 0) (b := 4) (by decide) ⟨n, by omega, hn, q⟩)
    refine ⟨-1, σ, σ, ?_, ?_, hI0⟩
    · unfold mX9_led
      rw [if_neg (show ¬ a = 0 from hne 0 (by omega)), if_neg (show ¬ a = 1 from hne 1 (by omega)), if_neg (show ¬ a = 2 from hne 2 (by omega)), if_neg (show ¬ a = 3 from hne 3 (by omega)), if_neg (show ¬ a = 4 from hne 4 (by omega))]
    · simp [mX10_led, w10, gb_some, hwi]
theorem s_count : S_count Inv := by
  intro σ a hI
  have hI0 := hI
  obtain ⟨f, w, b, hV, hS, hT, hL, hB, hM, hC, hF, hH⟩ := hI
  obtain ⟨v1, v2, v3, v4, v5, v6, -⟩ := id hV
  obtain ⟨t, t1, t2, t3, -⟩ := id hT
  obtain ⟨d, u, c1, c2, c3, c4, -⟩ := id hC
  obtain ⟨f1, f2, f3, f4, f5, r, f6, f7, f8, -⟩ := id hF
  have key : mX10_count σ a = mX9_count σ a := by
    unfold mX9_count mX10_count
    rw [v3, v4, v5, v6, t2, t3, c2, c4, f2, f3, f7, f8]
  cases hq : mX9_count σ a with
  | none =>
    exfalso
    unfold mX9_count at hq
    repeat' split at hq
    all_goals cases hq
  | some q =>
    obtain ⟨q1, q2⟩ := q
    have e : q2 = σ := by
      unfold mX9_count at hq
      repeat' split at hq
      all_goals exact (gR_inj hq).2.symm
    subst e
    exact ⟨q1, q2, q2, rfl, key.trans hq, hI0⟩
theorem s_feed : S_feed Inv := by
  intro σ a hI
  have hI0 := hI
  obtain ⟨f, w, b, hV, hS, hT, hL, hB, hM, hC, hF, hH⟩ := hI
  obtain ⟨t, t1, t2, t3, t4, t5⟩ := id hT
  by_cases hwi : wi a 0 255 = true
  · by_cases h6 : t = 120
    · subst h6
      refine ⟨-3, σ, σ, ?_, ?_, hI0⟩
      · simp only [mX9_feed, w9, gb_some, hwi, if_true, t2]
        rw [if_neg (by decide)]
      · simp only [mX10_feed, w10, gb_some, hwi, if_true, t3]
        rw [if_pos (by decide)]
    · have hlt : t < 120 := by omega
      have n6 : ¬ nI t = 120 := fun q => h6 ((nI_eq (by omega) (by decide)).mp (show nI t = nI 120 from q))
      have l6 : nI t < 120 := nI_lt (b := 120) hlt (by decide)
      have i6 : inbB (nI t) 120 = true := inbB_nI hlt (by decide)
      have c6 : Int32.toNatClampNeg (nI t) = t := nI_cl (by omega)
      refine ⟨nI t + 1, gUI (gUI σ 17 t a) 0 6 (nI t + 1), gUI (gUI (gUI (gUI σ 17 t a) 0 6 (nI t + 1)) 52 9 (nI t + 1)) 60 t a, ?_, ?_, ?_⟩
      · simp [mX9_feed, w9, gb_some, hwi, gLet, gUI_ne, gUI_same, t2, l6, i6, c6]
      · simp [mX10_feed, w10, gb_some, hwi, gLet, gUI_ne, gUI_same, t3, n6, i6, c6]
      · refine ⟨f, w, b, IV_ag hV rfl rfl rfl rfl rfl rfl rfl rfl rfl rfl rfl rfl rfl rfl rfl rfl, IS_ag hS (fun _ => rfl) (fun _ => rfl), ⟨t + 1, by omega, nI_1 t, nI_1 t, ?_, ?_⟩, IL_ag hL rfl rfl (fun k hk => by rcases hk with rfl | rfl <;> exact ⟨rfl, rfl, rfl⟩) rfl rfl rfl rfl rfl rfl, IB_ag hB (fun _ => rfl) (fun _ => rfl), IM_ag hM rfl rfl rfl rfl rfl, IC_ag hC rfl rfl rfl rfl rfl rfl rfl rfl rfl, IF_ag hF rfl rfl rfl rfl rfl rfl rfl rfl, IH_ag hH (fun k h1 h2 => ⟨by simp [gUI, show k ≠ 17 by omega, show k ≠ 0 by omega, show k ≠ 52 by omega, show k ≠ 60 by omega], rfl⟩) rfl rfl rfl⟩
        · show (fun b => if b = t then a else σ.1 60 b) = (fun b => if b = t then a else σ.1 17 b)
          rw [t4]
        · intro j hj
          show rg (if j = t then a else σ.1 17 j) 0 255
          by_cases hjt : j = t
          · rw [if_pos hjt]; exact wi_rg (a := 0) (b := 255) (by decide) (by decide) hwi
          · rw [if_neg hjt]; exact t5 j (by omega)
  · refine ⟨-1, σ, σ, ?_, ?_, hI0⟩
    · simp [mX9_feed, w9, gb_some, hwi]
    · simp [mX10_feed, w10, gb_some, hwi]
theorem s_body : S_body Inv := by
  intro σ a hI
  have hI0 := hI
  obtain ⟨f, w, b, hV, hS, hT, hL, hB, hM, hC, hF, hH⟩ := hI
  obtain ⟨f1, f2, f3, f4, f5, f6⟩ := id hF
  by_cases hwi : wi a 0 7 = true
  · by_cases h6 : b = 50
    · subst h6
      refine ⟨-3, σ, σ, ?_, ?_, hI0⟩
      · simp only [mX9_body, w9, gb_some, hwi, if_true, bind_id, mX2_addBody, f2]
        rw [if_neg (by decide)]
      · simp only [mX10_body, w10, gb_some, hwi, if_true, f3]
        rw [if_pos (by decide)]
    · have hlt : b < 50 := by omega
      have n6 : ¬ nI b = 50 := fun q => h6 ((nI_eq (by omega) (by decide)).mp (show nI b = nI 50 from q))
      have l6 : nI b < 50 := nI_lt (b := 50) hlt (by decide)
      have i6 : inbB (nI b) 50 = true := inbB_nI hlt (by decide)
      have c6 : Int32.toNatClampNeg (nI b) = b := nI_cl (by omega)
      refine ⟨nI b, gUI (gUI σ 37 b a) 36 0 (nI b + 1), gUI (gUI (gUI (gUI σ 37 b a) 36 0 (nI b + 1)) 74 b a) 52 33 (nI b + 1), ?_, ?_, ?_⟩
      · simp [mX9_body, mX2_addBody, w9, gb_some, bind_id, hwi, gLet, gUI_ne, gUI_same, f2, l6, i6, c6]
      · simp [mX10_body, w10, gb_some, hwi, gLet, gUI_ne, gUI_same, f3, n6, i6, c6]
      · refine ⟨f, w, b + 1, IV_ag hV rfl rfl rfl rfl rfl rfl rfl rfl rfl rfl rfl rfl rfl rfl rfl rfl, IS_ag hS (fun _ => rfl) (fun _ => rfl), IT_ag hT rfl rfl rfl rfl, IL_ag hL rfl rfl (fun k hk => by rcases hk with rfl | rfl <;> exact ⟨rfl, rfl, rfl⟩) rfl rfl rfl rfl rfl rfl, IB_ag hB (fun _ => rfl) (fun _ => rfl), IM_ag hM rfl rfl rfl rfl rfl, IC_ag hC rfl rfl rfl rfl rfl rfl rfl rfl rfl, ⟨by omega, nI_1 b, nI_1 b, ?_, ?_, f6⟩, IH_mono (b := b) (by omega) (IH_ag hH (fun k h1 h2 => ⟨by simp [gUI, show k ≠ 37 by omega, show k ≠ 36 by omega, show k ≠ 74 by omega, show k ≠ 52 by omega], rfl⟩) rfl rfl rfl)⟩
        · show (fun j => if j = b then a else σ.1 74 j) = (fun j => if j = b then a else σ.1 37 j)
          rw [f4]
        · intro j hj
          show rg (if j = b then a else σ.1 37 j) 0 7
          by_cases hjt : j = b
          · rw [if_pos hjt]; exact wi_rg (a := 0) (b := 7) (by decide) (by decide) hwi
          · rw [if_neg hjt]; exact f5 j (by omega)
  · refine ⟨-1, σ, σ, ?_, ?_, hI0⟩
    · simp [mX9_body, w9, gb_some, hwi]
    · simp [mX10_body, w10, gb_some, hwi]
theorem s_trace : S_trace Inv := by
  intro σ a hI
  have hI0 := hI
  obtain ⟨f, w, b, hV, hS, hT, hL, hB, hM, hC, hF, hH⟩ := hI
  obtain ⟨f1, f2, f3, f4, f5, r, f6, f7, f8, f9⟩ := id hF
  have hmin : gMin (nI r) 24 = nI (min r 24) := by
    unfold gMin
    by_cases h : 24 < r
    · rw [if_pos (show (24 : Int32) < nI r from nI_lt (a := 24) h (by omega)), show min r 24 = 24 by omega]; rfl
    · rw [if_neg (show ¬ (24 : Int32) < nI r from nI_nlt (b := r) (a := 24) (by omega) (by decide)), show min r 24 = r by omega]
  by_cases h0 : a < 0
  · refine ⟨-1, σ, σ, ?_, ?_, hI0⟩
    · simp [mX9_trace, h0]
    · have hw : wi a 0 (gMin 24 (σ.1 52 35) - 1) = false := by simp [wi, h0]
      simp [mX10_trace, w10, gb_some, hw]
  · obtain ⟨n, hn, rfl⟩ := nI_of h0
    by_cases h1 : n < min r 24
    · have k1 : ¬ nI (min r 24) ≤ nI n := nI_ge h1 (by omega)
      have k2 : wi (nI n) 0 (gMin 24 (nI r) - 1) = true := by
        rw [gMin_comm, hmin, show min r 24 = (min r 24 - 1) + 1 by omega, nI_pred]
        exact rg_wi (a := 0) (by omega) ⟨n, by omega, by omega, rfl⟩
      refine ⟨σ.1 38 n, σ, σ, ?_, ?_, hI0⟩
      · simp [mX9_trace, mX2_kept, gb_some, h0, f7, hmin, k1, inbB_nI (show n < 24 by omega) (by decide), nI_cl hn]
      · simp [mX10_trace, w10, gb_some, f8, k2, inbB_nI (show n < 24 by omega) (by decide), nI_cl hn, f9 n (by omega) (by omega)]
    · have k1 : nI (min r 24) ≤ nI n := nI_le (by omega) hn
      have k2 : wi (nI n) 0 (gMin 24 (nI r) - 1) = false := by
        rw [gMin_comm, hmin]
        by_cases hr : r = 0
        · subst hr
          unfold wi
          have : (nI (min 0 24) - 1 : Int32) < nI n := by
            rw [Int32.lt_iff_toInt_lt, nI_toInt hn]
            have : (nI (min 0 24) - 1 : Int32).toInt = -1 := by decide
            omega
          rw [show decide (nI (min 0 24) - 1 < nI n) = true from decide_eq_true this]
          simp
        · rw [show min r 24 = (min r 24 - 1) + 1 by omega, nI_pred]
          exact wi_no (a := 0) hn (Or.inr (by omega)) (by decide)
      refine ⟨-1, σ, σ, ?_, ?_, hI0⟩
      · simp [mX9_trace, mX2_kept, gb_some, h0, f7, hmin, k1]
      · simp [mX10_trace, w10, gb_some, f8, k2]
