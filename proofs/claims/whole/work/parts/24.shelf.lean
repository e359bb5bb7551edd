/-! ===== shelves: keep, row, put, element ===== -/
/-- a number below n -/
def inN (x : Int32) (n : Nat) : Bool := !decide (x < 0) && !decide (nI n ≤ x)
theorem inN_nI {i n : Nat} (h : i < n) (hn : n < 2 ^ 31) : inN (nI i) n = true := by
  unfold inN
  simp [nI_pos (show i < 2 ^ 31 by omega), nI_ge h hn]
theorem inN_of {x : Int32} {n : Nat} (hn : n < 2 ^ 31) (h : inN x n = true) : ∃ i : Nat, i < n ∧ x = nI i := by
  unfold inN at h
  simp only [Bool.and_eq_true, Bool.not_eq_true', decide_eq_false_iff_not] at h
  obtain ⟨i, hi, rfl⟩ := nI_of h.1
  refine ⟨i, ?_, rfl⟩
  rcases Nat.lt_or_ge i n with q | q
  · exact q
  · exact absurd (nI_le q hi) h.2
theorem wi_pred {x : Int32} {n : Nat} (hn : n < 2 ^ 31) : wi x 0 (nI n - 1) = inN x n := by
  unfold wi inN
  by_cases h0 : x < 0
  · simp [h0]
  · obtain ⟨i, hi, rfl⟩ := nI_of h0
    by_cases hin : i < n
    · have a1 : ¬ nI n ≤ nI i := nI_ge hin hn
      have a2 : ¬ (nI n - 1 < nI i) := by
        rw [show n = (n - 1) + 1 by omega, nI_pred]
        exact nI_nlt (by omega) (by omega)
      simp [a1, a2]
    · have a1 : nI n ≤ nI i := nI_le (by omega) hi
      have a2 : nI n - 1 < nI i := by
        rcases Nat.eq_zero_or_pos n with rfl | hp
        · rw [Int32.lt_iff_toInt_lt, nI_toInt hi]
          have : (nI 0 - 1 : Int32).toInt = -1 := by decide
          omega
        · rw [show n = (n - 1) + 1 by omega, nI_pred]
          exact nI_lt (by omega) hi
      simp [a1, a2]
theorem hasFarm_eq {σ : gS} {f : Nat} (e : σ.1 1 0 = nI f) (x : Int32) : mX8_hasFarm σ x = some (inN x f, σ) := by
  unfold mX8_hasFarm inN
  rw [e]
  by_cases h0 : x < 0
  · simp [h0]
  · by_cases h1 : nI f ≤ x
    · simp [h0, h1]
    · simp [h0, h1]
theorem hasWant_eq {σ : gS} {w : Nat} (e : σ.1 1 3 = nI w) (x : Int32) : mX8_hasWant σ x = some (inN x w, σ) := by
  unfold mX8_hasWant inN
  rw [e]
  by_cases h0 : x < 0
  · simp [h0]
  · by_cases h1 : nI w ≤ x
    · simp [h0, h1]
    · simp [h0, h1]
theorem hasBody_eq {σ : gS} {b : Nat} (e : σ.1 36 0 = nI b) (x : Int32) : mX2_hasBody σ x = some (inN x b, σ) := by
  unfold mX2_hasBody inN
  rw [e]
  by_cases h0 : x < 0
  · simp [h0]
  · by_cases h1 : nI b ≤ x
    · simp [h0, h1]
    · simp [h0, h1]
theorem isFarm_eq {σ : gS} {f : Nat} (hf : f < 2 ^ 31) (e : σ.1 52 0 = nI f) (x : Int32) : mX10_isFarm σ x = some (inN x f, σ) := by
  unfold mX10_isFarm
  rw [bind_id, e, w10, wi_pred hf]
theorem isWant_eq {σ : gS} {w : Nat} (hw : w < 2 ^ 31) (e : σ.1 52 3 = nI w) (x : Int32) : mX10_isWant σ x = some (inN x w, σ) := by
  unfold mX10_isWant
  rw [bind_id, e, w10, wi_pred hw]
theorem isDay_eq (σ : gS) (x : Int32) : mX10_isDay σ x = some (wi x 0 29, σ) := by
  unfold mX10_isDay
  rw [bind_id, w10]
theorem isShelf_eq (σ : gS) (x : Int32) : mX10_isShelf σ x = some (wi x 0 5, σ) := by
  unfold mX10_isShelf
  rw [bind_id, w10]
theorem gk_sh {j : Nat} (h : j < 6) : gk (40 + 2 * j) = 6 := by
  have h0 : ∀ j : Fin 6, gk (40 + 2 * j.val) = 6 := by decide
  exact h0 ⟨j, h⟩
theorem gk_sc {j : Nat} (h : j < 6) : gk (40 + 2 * j + 1) = 2060 := by
  have h0 : ∀ j : Fin 6, gk (40 + 2 * j.val + 1) = 2060 := by decide
  exact h0 ⟨j, h⟩
theorem shelf_cases (x : Int32) : wi x 0 5 = false ∨ ∃ j : Nat, j < 6 ∧ x = nI j ∧ wi x 0 5 = true := by
  cases h : wi x 0 5 with
  | false => exact Or.inl rfl
  | true =>
    obtain ⟨j, -, h2, h3⟩ := wi_rg (a := 0) (b := 5) (by decide) (by decide) h
    exact Or.inr ⟨j, by omega, h3, rfl⟩
theorem shelfAt_no {σ : gS} {x : Int32} (h : wi x 0 5 = false) : mX9_shelfAt σ x = some (none, σ) := by
  unfold mX9_shelfAt
  rw [w9, gb_some, h]
  rfl
theorem shelfAt_yes {σ : gS} {j : Nat} (h : j < 6) : mX9_shelfAt σ (nI j) = some (some (40 + 2 * j), σ) := by
  unfold mX9_shelfAt
  rw [w9, gb_some, if_pos (show wi (nI j) 0 5 = true from rg_wi (a := 0) (b := 5) (by decide) ⟨j, by omega, by omega, rfl⟩), if_pos (inbB_nI h (by decide)), nI_cl (by omega), if_pos (gk_sh h)]
/-- a new state that differs on shelves alone -/
theorem Inv_sh {σ τ : gS} {f w b : Nat} (hV : IV σ f w) (hS : IS σ) (hT : IT σ) (hL : IL σ) (hB : IB σ) (hM : IM σ) (hC : IC σ f w) (hF : IF σ b) (h : ∀ k, k < 40 ∨ 52 ≤ k → k ≠ 76 → k ≠ 77 → τ.1 k = σ.1 k) (hr : τ.2.2 = σ.2.2) (hH : IH τ b) : Inv τ := by
  have g : ∀ k, k < 40 → τ.1 k = σ.1 k := fun k hk => h k (Or.inl hk) (by omega) (by omega)
  have g2 : ∀ k, 52 ≤ k → k < 76 → τ.1 k = σ.1 k := fun k h1 h2 => h k (Or.inr h1) (by omega) (by omega)
  refine ⟨f, w, b, IV_ag hV (by rw [g 1 (by omega)]) (by rw [g2 52 (by omega) (by omega)]) (by rw [g 1 (by omega)]) (by rw [g2 52 (by omega) (by omega)]) (g 2 (by omega)) (g 3 (by omega)) (g 4 (by omega)) (g 5 (by omega)) (g 6 (by omega)) (g 7 (by omega)) (g2 53 (by omega) (by omega)) (g2 54 (by omega) (by omega)) (g2 55 (by omega) (by omega)) (g2 56 (by omega) (by omega)) (g2 57 (by omega) (by omega)) (g2 58 (by omega) (by omega)),
    IS_ag hS (fun _ => by rw [g 8 (by omega)]) (fun _ => by rw [g2 59 (by omega) (by omega)]), IT_ag hT (by rw [g 0 (by omega)]) (by rw [g2 52 (by omega) (by omega)]) (g 17 (by omega)) (g2 60 (by omega) (by omega)),
    IL_ag hL (by rw [hr]) (by rw [hr]) (fun k hk => ⟨by rw [g k (by omega)], g _ (by omega), g _ (by omega)⟩) (by rw [g2 52 (by omega) (by omega)]) (by rw [g2 52 (by omega) (by omega)]) (g2 61 (by omega) (by omega)) (g2 62 (by omega) (by omega)) (g2 63 (by omega) (by omega)) (g2 64 (by omega) (by omega)),
    IB_ag hB (fun _ => by rw [g 28 (by omega)]) (fun _ => by rw [g2 71 (by omega) (by omega)]), IM_ag hM (by rw [g2 52 (by omega) (by omega)]) (by rw [g 0 (by omega)]) (g2 72 (by omega) (by omega)) (g 30 (by omega)) (g 29 (by omega)),
    IC_ag hC (by rw [g 31 (by omega)]) (by rw [g 31 (by omega)]) (by rw [g2 52 (by omega) (by omega)]) (by rw [g2 52 (by omega) (by omega)]) (g2 73 (by omega) (by omega)) (g 32 (by omega)) (g 33 (by omega)) (g 34 (by omega)) (g 35 (by omega)),
    IF_ag hF (by rw [g 36 (by omega)]) (by rw [g2 52 (by omega) (by omega)]) (by rw [g 36 (by omega)]) (by rw [g2 52 (by omega) (by omega)]) (g2 74 (by omega) (by omega)) (g 37 (by omega)) (g2 75 (by omega) (by omega)) (g 38 (by omega)), hH⟩
/-- one shelf changes -/
theorem IH_upd {σ τ : gS} {b j : Nat} (hH : IH σ b) (h1 : ∀ i, i < 6 → i ≠ j → τ.1 (40 + 2 * i) = σ.1 (40 + 2 * i) ∧ τ.2.1 (41 + 2 * i) = σ.2.1 (41 + 2 * i) ∧ τ.1 76 i = σ.1 76 i ∧ τ.1 77 i = σ.1 77 i ∧ ∀ n, n < 60 → τ.2.1 78 (60 * i + n) = σ.2.1 78 (60 * i + n)) (hj : IH1 τ b j) : IH τ b := by
  intro i hi
  by_cases hij : i = j
  · rw [hij]; exact hj
  · obtain ⟨q1, q2, q3, q4, q5⟩ := h1 i hi hij
    have hx := hH i hi
    unfold IH1 at hx ⊢
    rw [q1, q2, q3, q4]
    rcases hx with hx | hx | ⟨p1, s, n, p2, p3, p4, p5, p6, p7, p8⟩
    · exact Or.inl hx
    · exact Or.inr (Or.inl hx)
    · exact Or.inr (Or.inr ⟨p1, s, n, p2, p3, p4, p5, p6, p7, fun m hm => ⟨by rw [q5 m hm]; exact (p8 m hm).1, (p8 m hm).2⟩⟩)
theorem s_keep : S_keep Inv := by
  intro σ a0 a1 hI
  have hI0 := hI
  obtain ⟨f, w, b, hV, hS, hT, hL, hB, hM, hC, hF, hH⟩ := hI
  obtain ⟨f1, f2, f3, -⟩ := id hF
  rcases shelf_cases a0 with hno | ⟨j, hj, rfl, hyes⟩
  · refine ⟨-1, σ, σ, ?_, ?_, hI0⟩
    · simp [mX9_keep, shelfAt_no hno, gb_some, gOpt]
    · simp [mX10_keep, isShelf_eq, gb_some, hno]
  · have i6 : inbB (nI j) 6 = true := inbB_nI hj (by decide)
    have c6 : Int32.toNatClampNeg (nI j) = j := nI_cl (by omega)
    have k6 := gk_sh hj
    have wb : wi a1 (-1) (nI b - 1) = (decide (a1 = -1) || inN a1 b) := by
      by_cases hm : a1 = -1
      · subst hm
        have q : ¬ (nI b - 1 < (-1 : Int32)) := by
          rw [Int32.lt_iff_toInt_lt]
          rcases Nat.eq_zero_or_pos b with rfl | hp
          · decide
          · rw [show b = (b - 1) + 1 by omega, nI_pred, nI_toInt (by omega)]
            have : (-1 : Int32).toInt = -1 := by decide
            omega
        simp [wi, q]
      · rw [← wi_pred (show b < 2 ^ 31 by omega)]
        unfold wi
        have q : decide (a1 < -1) = decide (a1 < 0) := by
          by_cases h0 : a1 < 0
          · have h1 : a1 < -1 := by
              rw [Int32.lt_iff_toInt_lt] at h0 ⊢
              have e1 : (-1 : Int32).toInt = -1 := by decide
              have e0 : (0 : Int32).toInt = 0 := by decide
              have : a1.toInt ≠ -1 := fun e => hm (Int32.toInt_inj.mp (e.trans e1.symm))
              omega
            simp [h0, h1]
          · have h1 : ¬ a1 < -1 := by
              rw [Int32.lt_iff_toInt_lt] at h0 ⊢
              have e1 : (-1 : Int32).toInt = -1 := by decide
              have e0 : (0 : Int32).toInt = 0 := by decide
              omega
            simp [h0, h1]
        simp [q, hm]
    have fin : ∀ (h a r : Int32), IH1 (gUI (gUI (gUI (gUI σ (40 + 2 * j) 0 h) (40 + 2 * j) 1 a) 76 j r) 77 j 0) b j → Inv (gUI (gUI (gUI (gUI σ (40 + 2 * j) 0 h) (40 + 2 * j) 1 a) 76 j r) 77 j 0) := by
      intro h a r hh
      refine Inv_sh hV hS hT hL hB hM hC hF (fun k hk h76 h77 => ?_) rfl (IH_upd hH (j := j) (fun i hi hij => ⟨?_, rfl, ?_, ?_, fun _ _ => rfl⟩) hh)
      · rw [gUI_ne h77, gUI_ne h76, gUI_ne (by omega), gUI_ne (by omega)]
      · rw [gUI_ne (by omega), gUI_ne (by omega), gUI_ne (by omega), gUI_ne (by omega)]
      · rw [gUI_ne (by omega), gUI_same]
        simp only [if_neg hij]
        rw [gUI_ne (by omega), gUI_ne (by omega)]
      · rw [gUI_same]
        simp only [if_neg hij]
        rw [gUI_ne (by omega), gUI_ne (by omega), gUI_ne (by omega)]
    by_cases hm : a1 = -1
    · subst hm
      refine ⟨1, gUI (gUI σ (40 + 2 * j) 0 0) (40 + 2 * j) 1 (-1), gUI (gUI (gUI (gUI σ (40 + 2 * j) 0 0) (40 + 2 * j) 1 (-1)) 76 j (-1)) 77 j 0, ?_, ?_, fin _ _ _ (Or.inl ⟨?_, ?_⟩)⟩
      · simp [mX9_keep, shelfAt_yes hj, gb_some, gOpt, k6, mX9_keep_b28, mX9_keep_b39, gLet]
      · have e : (gUI (gUI σ (40 + 2 * j) 0 0) (40 + 2 * j) 1 (-1)).1 52 33 = nI b := by rw [gUI_ne (by omega), gUI_ne (by omega)]; exact f3
        have n0 : ¬ (0 : Int32) ≤ -1 := by decide
        simp [mX10_keep, isShelf_eq, gb_some, hyes, w10, e, wb, mX10_keep_b40, gLet, i6, c6, n0]
      · rw [gUI_ne (by omega), gUI_ne (by omega), gUI_same]
        simp only [show ¬ (0 = 1) by decide, if_false]
        rw [gUI_same]
        rfl
      · rw [gUI_ne (by omega), gUI_same]
        simp
    · by_cases hn : inN a1 b = true
      · obtain ⟨n, hnb, rfl⟩ := inN_of (by omega) hn
        refine ⟨1, gUI (gUI σ (40 + 2 * j) 0 1) (40 + 2 * j) 1 (nI n), gUI (gUI (gUI (gUI σ (40 + 2 * j) 0 1) (40 + 2 * j) 1 (nI n)) 76 j (10 + nI n)) 77 j 0, ?_, ?_, fin _ _ _ (Or.inr (Or.inl ⟨?_, n, hnb, ?_, ?_⟩))⟩
        · simp [mX9_keep, shelfAt_yes hj, gb_some, gOpt, k6, hm, hasBody_eq f2, hn, mX9_keep_b28, mX9_keep_b39, gLet]
        · have e : (gUI (gUI σ (40 + 2 * j) 0 1) (40 + 2 * j) 1 (nI n)).1 52 33 = nI b := by rw [gUI_ne (by omega), gUI_ne (by omega)]; exact f3
          have n0 : (0 : Int32) ≤ nI n := nI_pos' (by omega)
          simp [mX10_keep, isShelf_eq, gb_some, hyes, w10, e, wb, hn, mX10_keep_b40, gLet, i6, c6, n0]
        · rw [gUI_ne (by omega), gUI_ne (by omega), gUI_same]
          simp only [show ¬ (0 = 1) by decide, if_false]
          rw [gUI_same]
          rfl
        · rw [gUI_ne (by omega), gUI_ne (by omega), gUI_same]
          simp
        · rw [gUI_ne (by omega), gUI_same]
          simp only [if_true]
          exact nI_add 10 n
      · refine ⟨-1, σ, σ, ?_, ?_, hI0⟩
        · simp [mX9_keep, shelfAt_yes hj, gb_some, gOpt, k6, hm, hasBody_eq f2, hn]
        · simp [mX10_keep, isShelf_eq, gb_some, hyes, w10, f3, wb, hm, hn]
