/-! ===== row, put, element ===== -/
def gFillJ (σ : gS) (k : Nat) (v : Int64) (m : Nat) : gS := gUB σ k (fun i => if i < m then v else σ.2.1 k i)
theorem fillJ_loop {q : Nat} {v : Int64} : ∀ (k i : Nat) (σ : gS) (n : Nat), i + k = 60 → k < n → ∃ τ : gS, mJ7_fill_d0a16_b6 q n σ v (nI i) 60 = some ((), τ) ∧ τ.1 = σ.1 ∧ τ.2.2 = σ.2.2 ∧ (∀ a, a ≠ q → τ.2.1 a = σ.2.1 a) ∧ ∀ j, τ.2.1 q j = if i ≤ j ∧ j < 60 then v else σ.2.1 q j := by
  intro k
  induction k with
  | zero =>
    intro i σ n hi hn
    obtain ⟨n, rfl⟩ : ∃ m, n = m + 1 := ⟨n - 1, by omega⟩
    refine ⟨σ, ?_, rfl, rfl, fun _ _ => rfl, fun j => by rw [if_neg (by omega)]⟩
    unfold mJ7_fill_d0a16_b6
    rw [if_pos (show (60 : Int32) ≤ nI i from nI_le (a := 60) (by omega) (by omega))]
  | succ k ih =>
    intro i σ n hi hn
    obtain ⟨n, rfl⟩ : ∃ m, n = m + 1 := ⟨n - 1, by omega⟩
    obtain ⟨τ, h1, h2, h3, h4, h5⟩ := ih (i + 1) (gUJ σ q i v) n (by omega) (by omega)
    refine ⟨τ, ?_, h2, h3, fun a ha => by rw [h4 a ha]; simp [gUJ, ha], fun j => ?_⟩
    · unfold mJ7_fill_d0a16_b6
      rw [if_neg (show ¬ (60 : Int32) ≤ nI i from nI_ge (b := 60) (by omega) (by decide)), if_pos (inbB_nI (by omega) (by decide)), nI_cl (by omega), gl_eq, gl_eq, nI_1]
      exact h1
    · rw [h5 j]
      simp only [gUJ, if_true]
      by_cases hj : j = i
      · subst hj
        rw [if_neg (by omega), if_pos rfl, if_pos (by omega)]
      · by_cases hc : i + 1 ≤ j ∧ j < 60
        · rw [if_pos hc, if_pos (by omega)]
        · rw [if_neg hc, if_neg hj, if_neg (by omega)]
theorem rowM_loop {p : Nat} (hp : p < 6) : ∀ (k i : Nat) (σ : gS) (n : Nat), i + k = 60 → k < n → ∃ τ : gS, mX10_row_b48 n σ (nI p) (nI i) = some (1, τ) ∧ τ.1 = σ.1 ∧ τ.2.2 = σ.2.2 ∧ (∀ a, a ≠ 78 → τ.2.1 a = σ.2.1 a) ∧ ∀ j, τ.2.1 78 j = if 60 * p + i ≤ j ∧ j < 60 * p + 60 then 0 else σ.2.1 78 j := by
  intro k
  induction k with
  | zero =>
    intro i σ n hi hn
    obtain ⟨n, rfl⟩ : ∃ m, n = m + 1 := ⟨n - 1, by omega⟩
    refine ⟨σ, ?_, rfl, rfl, fun _ _ => rfl, fun j => by rw [if_neg (by omega)]⟩
    unfold mX10_row_b48
    rw [if_pos (show (60 : Int32) ≤ nI i from nI_le (a := 60) (by omega) (by omega))]
  | succ k ih =>
    intro i σ n hi hn
    obtain ⟨n, rfl⟩ : ∃ m, n = m + 1 := ⟨n - 1, by omega⟩
    have e : (60 * nI p + nI i : Int32) = nI (60 * p + i) := by
      rw [← nI_add]
      congr 1
      exact (Int32.ofNat_mul 60 p).symm
    obtain ⟨τ, h1, h2, h3, h4, h5⟩ := ih (i + 1) (gUJ σ 78 (60 * p + i) 0) n (by omega) (by omega)
    refine ⟨τ, ?_, h2, h3, fun a ha => by rw [h4 a ha]; simp [gUJ, ha], fun j => ?_⟩
    · unfold mX10_row_b48
      rw [if_neg (show ¬ (60 : Int32) ≤ nI i from nI_ge (b := 60) (by omega) (by decide)), e, if_pos (inbB_nI (by omega) (by decide)), nI_cl (by omega), gl_eq, gl_eq, nI_1]
      exact h1
    · rw [h5 j]
      simp only [gUJ, if_true]
      by_cases hj : j = 60 * p + i
      · subst hj
        rw [if_neg (by omega), if_pos rfl, if_pos (by omega)]
      · by_cases hc : 60 * p + (i + 1) ≤ j ∧ j < 60 * p + 60
        · rw [if_pos hc, if_pos (by omega)]
        · rw [if_neg hc, if_neg hj, if_neg (by omega)]
theorem rg_le60 {x : Int32} (h1 : x ≤ 60) (h2 : 0 ≤ x) : ∃ n : Nat, n ≤ 60 ∧ x = nI n := by
  rw [Int32.le_iff_toInt_le] at h1 h2
  have e6 : (60 : Int32).toInt = 60 := by decide
  have e0 : (0 : Int32).toInt = 0 := by decide
  refine ⟨x.toInt.toNat, by omega, ?_⟩
  apply Int32.toInt_inj.mp
  rw [nI_toInt (by omega)]
  omega
theorem s_row : S_row Inv := by
  intro σ a0 a1 a2 hI
  have hI0 := hI
  obtain ⟨f, w, b, hV, hS, hT, hL, hB, hM, hC, hF, hH⟩ := hI
  rcases shelf_cases a0 with hno | ⟨j, hj, rfl, hyes⟩
  · refine ⟨-1, σ, σ, ?_, ?_, hI0⟩
    · simp [mX9_row, shelfAt_no hno, gb_some, gOpt]
    · simp [mX10_row, isShelf_eq, gb_some, hno]
  · have i6 : inbB (nI j) 6 = true := inbB_nI hj (by decide)
    have c6 : Int32.toNatClampNeg (nI j) = j := nI_cl (by omega)
    have k6 := gk_sh hj
    have kc := gk_sc hj
    by_cases hs : wi a1 0 4 = true
    · by_cases h60 : a2 ≤ 60
      · by_cases h0 : 0 ≤ a2
        · obtain ⟨n, hn, rfl⟩ := rg_le60 h60 h0
          obtain ⟨s, -, hs4, rfl⟩ := wi_rg (a := 0) (b := 4) (by decide) (by decide) hs
          obtain ⟨σ4, e4⟩ : ∃ t, t = gUI (gUI (gUI (gUI σ (40 + 2 * j) 0 2) (40 + 2 * j) 1 (-1)) (40 + 2 * j) 2 (nI s)) (40 + 2 * j) 3 (nI n) := ⟨_, rfl⟩
          obtain ⟨σ1, p1, p2, p3, p4, p5⟩ := fillJ_loop (q := 40 + 2 * j + 1) (v := 0) 60 0 σ4 1100 (by omega) (by omega)
          obtain ⟨σ2, q1, q2, q3, q4, q5⟩ := rowM_loop hj 60 0 (gUI (gUI σ1 76 j (nI s)) 77 j (nI n)) 1100 (by omega) (by omega)
          refine ⟨1, σ1, σ2, ?_, ?_, ?_⟩
          · have hb : mX6_becomeRow σ (40 + 2 * j) (nI s) (nI n) = some ((), σ1) := by
              unfold mX6_becomeRow
              rw [if_pos k6, gl_eq, gl_eq, gl_eq, gl_eq, ← e4]
              unfold mJ7_fill_d0a16
              rw [if_pos kc, gl_eq, gl_eq, show (0 : Int32) = nI 0 from rfl, p1]
              rfl
            simp [mX9_row, shelfAt_yes hj, gb_some, gOpt, k6, w9, hs, h60, h0, hb]
          · have hq : mX10_row_b48 1100 (gUI (gUI σ1 76 j (nI s)) 77 j (nI n)) (nI j) 0 = some (1, σ2) := q1
            simp [mX10_row, isShelf_eq, gb_some, hyes, w10, hs, h60, h0, i6, c6, gLet, hq]
          · have r1 : ∀ k, k ≠ 76 → k ≠ 77 → σ2.1 k = σ4.1 k := fun k h1 h2 => by rw [q2, gUI_ne h2, gUI_ne h1, p2]
            have r4 : ∀ k, k ≠ 40 + 2 * j → σ4.1 k = σ.1 k := fun k h1 => by rw [e4, gUI_ne h1, gUI_ne h1, gUI_ne h1, gUI_ne h1]
            have r5 : ∀ k, k ≠ 78 → k ≠ 40 + 2 * j + 1 → σ2.2.1 k = σ.2.1 k := fun k h1 h2 => by rw [q4 k h1]; show σ1.2.1 k = _; rw [p4 k h2, e4]; rfl
            have r4s : σ4.1 (40 + 2 * j) 0 = 2 ∧ σ4.1 (40 + 2 * j) 2 = nI s ∧ σ4.1 (40 + 2 * j) 3 = nI n := by
              rw [e4]
              refine ⟨?_, ?_, ?_⟩ <;> simp [gUI_same]
            refine Inv_sh hV hS hT hL hB hM hC hF (fun k hk h76 h77 => ?_) ?_ (IH_upd hH (j := j) (fun i hi hij => ⟨?_, ?_, ?_, ?_, fun m hm => ?_⟩) (Or.inr (Or.inr ⟨?_, s, n, hs4, hn, ?_, ?_, ?_, ?_, fun i hi => ?_⟩)))
            · rw [r1 k h76 h77, r4 k (by omega)]
            · rw [q3]; show σ1.2.2 = _; rw [p3, e4]; rfl
            · rw [r1 _ (by omega) (by omega), r4 _ (by omega)]
            · exact r5 _ (by omega) (by omega)
            · rw [q2, gUI_ne (by omega), gUI_same]
              simp only [if_neg hij]
              rw [p2, r4 _ (by omega)]
            · rw [q2, gUI_same]
              simp only [if_neg hij]
              rw [gUI_ne (by omega), p2, r4 _ (by omega)]
            · rw [q5, if_neg (by omega)]
              show σ1.2.1 78 _ = _
              rw [p4 78 (by omega), e4]
              rfl
            · rw [r1 _ (by omega) (by omega)]; exact r4s.1
            · rw [r1 _ (by omega) (by omega)]; exact r4s.2.1
            · rw [r1 _ (by omega) (by omega)]; exact r4s.2.2
            · rw [q2, gUI_ne (by omega), gUI_same]; simp
            · rw [q2, gUI_same]; simp
            · have z1 : σ2.2.1 (41 + 2 * j) i = 0 := by
                rw [q4 _ (by omega)]
                show σ1.2.1 (41 + 2 * j) i = 0
                rw [show 41 + 2 * j = 40 + 2 * j + 1 by omega, p5, if_pos (by omega)]
              rw [z1, q5, if_pos (by omega)]
              exact ⟨rfl, fun _ => by decide⟩
        · refine ⟨-14, σ, σ, ?_, ?_, hI0⟩
          · simp [mX9_row, shelfAt_yes hj, gb_some, gOpt, k6, w9, hs, h60, h0]
          · simp [mX10_row, isShelf_eq, gb_some, hyes, w10, hs, h60, h0]
      · refine ⟨-1, σ, σ, ?_, ?_, hI0⟩
        · simp [mX9_row, shelfAt_yes hj, gb_some, gOpt, k6, w9, hs, h60]
        · simp [mX10_row, isShelf_eq, gb_some, hyes, w10, hs, h60]
    · refine ⟨-1, σ, σ, ?_, ?_, hI0⟩
      · simp [mX9_row, shelfAt_yes hj, gb_some, gOpt, k6, w9, hs]
      · simp [mX10_row, isShelf_eq, gb_some, hyes, w10, hs]
