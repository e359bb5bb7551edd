/-! ===== taken ===== -/
theorem kindOf_eq {σ : gS} {b n : Nat} (hb : b ≤ 50) (e : σ.1 36 0 = nI b) (hn : n < b) : mX2_kindOf σ (nI n) = some (σ.1 37 n, σ) := by
  unfold mX2_kindOf
  rw [hasBody_eq e, gb_some, inN_nI hn (by omega), if_pos rfl, if_pos (inbB_nI (by omega) (by decide)), nI_cl (by omega)]
theorem under_step {σ : gS} {m q i : Nat} {k : Int32} (hq : q ≤ 7) (hi : i < 8) : mX2_isUnder_b9 (m + 1) σ k (nI q) (nI i) = if nI q = k then some (true, σ) else mX2_isUnder_b9 m σ k (gTb 2 q) (nI (i + 1)) := by
  conv => lhs; unfold mX2_isUnder_b9
  rw [if_neg (show ¬ (8 : Int32) ≤ nI i from nI_ge (b := 8) hi (by decide)), if_neg (nI_pos (show q < 2 ^ 31 by omega)), if_pos (inbB_nI (show q < 8 by omega) (by decide)), nI_cl (show q < 2 ^ 31 by omega), gl_eq, gl_eq, nI_1]
theorem under_end {σ : gS} {m i : Nat} {k : Int32} (hi : i < 8) : mX2_isUnder_b9 (m + 1) σ k (-1) (nI i) = some (false, σ) := by
  conv => lhs; unfold mX2_isUnder_b9
  rw [if_neg (show ¬ (8 : Int32) ≤ nI i from nI_ge (b := 8) hi (by decide)), if_pos (by decide)]
theorem above_eq (σ : gS) {q : Nat} (h : q ≤ 7) (h0 : q ≠ 0) : mX10_above σ (nI q) = some (gTb 2 q, σ) := by
  rcases (show q = 1 ∨ q = 2 ∨ q = 3 ∨ q = 4 ∨ q = 5 ∨ q = 6 ∨ q = 7 by omega) with rfl | rfl | rfl | rfl | rfl | rfl | rfl <;> rfl
theorem taken_step {σ : gS} {m q : Nat} {k is : Int32} (hq : q ≤ 7) (h0 : q ≠ 0) : mX10_taken_b61 (m + 1) σ k is (nI q) = if nI q = k then some (is, σ) else mX10_taken_b61 m σ k is (gTb 2 q) := by
  conv => lhs; unfold mX10_taken_b61
  by_cases h : nI q = k
  · rw [if_pos h, if_pos h]
    unfold mX10_taken_b82
    rw [if_pos h]
  · rw [if_neg h, if_neg h, if_neg (nI_nle (show 0 < q by omega) (by omega)), above_eq σ hq h0, gb_some, gl_eq]
theorem taken_end {σ : gS} {m : Nat} {k is : Int32} : mX10_taken_b61 (m + 1) σ k is (nI 0) = if nI 0 = k then some (is, σ) else some (-12, σ) := by
  conv => lhs; unfold mX10_taken_b61
  unfold mX10_taken_b82
  by_cases h : nI 0 = k
  · rw [if_pos h, if_pos h]
  · rw [if_neg h, if_neg h, if_pos (show nI 0 ≤ (0 : Int32) by decide)]
/-- both walks up the KINDS find the same -/
theorem kinds_0 {σ : gS} {m i : Nat} {k : Int32} (hi : i < 7) : mX2_isUnder_b9 (m + 2) σ k (nI 0) (nI i) = some (decide (nI 0 = k), σ) := by
  rw [under_step (by omega) (by omega), show gTb 2 0 = -1 from rfl, under_end (by omega)]
  by_cases h : nI 0 = k
  · rw [if_pos h, decide_eq_true h]
  · rw [if_neg h, decide_eq_false h]
theorem kinds_step {σ : gS} {m n q i : Nat} {k is : Int32} {u : Nat} (hq : q ≤ 7) (h0 : q ≠ 0) (hi : i < 7) (hu : gTb 2 q = nI u) (h : ∃ bb : Bool, mX2_isUnder_b9 m σ k (nI u) (nI (i + 1)) = some (bb, σ) ∧ mX10_taken_b61 n σ k is (nI u) = if bb = true then some (is, σ) else some (-12, σ)) : ∃ bb : Bool, mX2_isUnder_b9 (m + 1) σ k (nI q) (nI i) = some (bb, σ) ∧ mX10_taken_b61 (n + 1) σ k is (nI q) = if bb = true then some (is, σ) else some (-12, σ) := by
  obtain ⟨bb, h1, h2⟩ := h
  rw [under_step hq (by omega), taken_step hq h0, hu]
  by_cases hk : nI q = k
  · exact ⟨true, by rw [if_pos hk], by rw [if_pos hk, if_pos rfl]⟩
  · exact ⟨bb, by rw [if_neg hk]; exact h1, by rw [if_neg hk]; exact h2⟩
theorem kinds_z {σ : gS} {m n i : Nat} {k is : Int32} (hi : i < 7) : ∃ bb : Bool, mX2_isUnder_b9 (m + 2) σ k (nI 0) (nI i) = some (bb, σ) ∧ mX10_taken_b61 (n + 1) σ k is (nI 0) = if bb = true then some (is, σ) else some (-12, σ) := by
  refine ⟨decide (nI 0 = k), kinds_0 hi, ?_⟩
  rw [taken_end]
  by_cases h : nI 0 = k
  · rw [if_pos h, if_pos (decide_eq_true h)]
  · rw [if_neg h, decide_eq_false h, if_neg (by decide)]
theorem kinds_eq {σ : gS} {m n q : Nat} {k is : Int32} (hq : q ≤ 7) : ∃ bb : Bool, mX2_isUnder_b9 (m + 9) σ k (nI q) (nI 0) = some (bb, σ) ∧ mX10_taken_b61 (n + 9) σ k is (nI q) = if bb = true then some (is, σ) else some (-12, σ) := by
  rcases (show q = 0 ∨ q = 1 ∨ q = 2 ∨ q = 3 ∨ q = 4 ∨ q = 5 ∨ q = 6 ∨ q = 7 by omega) with rfl | rfl | rfl | rfl | rfl | rfl | rfl | rfl
  · exact kinds_z (m := m + 7) (n := n + 8) (by omega)
  · exact kinds_step (m := m + 8) (n := n + 8) (u := 0) (by omega) (by omega) (by omega) rfl (kinds_z (m := m + 6) (n := n + 7) (by omega))
  · exact kinds_step (m := m + 8) (n := n + 8) (u := 0) (by omega) (by omega) (by omega) rfl (kinds_z (m := m + 6) (n := n + 7) (by omega))
  · exact kinds_step (m := m + 8) (n := n + 8) (u := 2) (by omega) (by omega) (by omega) rfl (kinds_step (m := m + 7) (n := n + 7) (u := 0) (by omega) (by omega) (by omega) rfl (kinds_z (m := m + 5) (n := n + 6) (by omega)))
  · exact kinds_step (m := m + 8) (n := n + 8) (u := 1) (by omega) (by omega) (by omega) rfl (kinds_step (m := m + 7) (n := n + 7) (u := 0) (by omega) (by omega) (by omega) rfl (kinds_z (m := m + 5) (n := n + 6) (by omega)))
  · exact kinds_step (m := m + 8) (n := n + 8) (u := 3) (by omega) (by omega) (by omega) rfl (kinds_step (m := m + 7) (n := n + 7) (u := 2) (by omega) (by omega) (by omega) rfl (kinds_step (m := m + 6) (n := n + 6) (u := 0) (by omega) (by omega) (by omega) rfl (kinds_z (m := m + 4) (n := n + 5) (by omega))))
  · exact kinds_step (m := m + 8) (n := n + 8) (u := 0) (by omega) (by omega) (by omega) rfl (kinds_z (m := m + 6) (n := n + 7) (by omega))
  · exact kinds_step (m := m + 8) (n := n + 8) (u := 4) (by omega) (by omega) (by omega) rfl (kinds_step (m := m + 7) (n := n + 7) (u := 1) (by omega) (by omega) (by omega) rfl (kinds_step (m := m + 6) (n := n + 6) (u := 0) (by omega) (by omega) (by omega) rfl (kinds_z (m := m + 4) (n := n + 5) (by omega))))
theorem s_taken : S_taken Inv := by
  intro σ a0 k hI
  have hI0 := hI
  obtain ⟨f, w, b, hV, hS, hT, hL, hB, hM, hC, hF, hH⟩ := hI
  obtain ⟨f1, f2, f3, f4, f5, -⟩ := id hF
  rcases shelf_cases a0 with hno | ⟨j, hj, rfl, hyes⟩
  · refine ⟨-1, σ, σ, ?_, ?_, hI0⟩
    · unfold mX9_taken
      rw [shelfAt_no hno, gb_some]
      rfl
    · unfold mX10_taken
      rw [isShelf_eq, gb_some, hno, if_neg (by decide)]
  · have i6 : inbB (nI j) 6 = true := inbB_nI hj (by decide)
    have c6 : Int32.toNatClampNeg (nI j) = j := nI_cl (by omega)
    have k6 := gk_sh hj
    have op : ∀ x : Option (Int32 × gS), (gOpt (some (40 + 2 * j)) (some (-1, σ)) (fun k3 => if gk k3 = 6 then gBind (mX9_within σ k 0 7) (fun r4 s5 => if r4 = true then (if (s5.1 k3 0) = 0 then (some ((-11), s5)) else (if (s5.1 k3 0) = 1 then (gBind (mX2_isUnder s5 (s5.1 k3 1) k) (fun r6 s7 => if r6 = true then (gBind (mX2_kindOf s7 (s7.1 k3 1)) (fun r8 s9 => some (r8, s9))) else (some ((-12), s7)))) else (some ((-12), s5)))) else (some ((-1), s5))) else none)) = x → mX9_taken σ (nI j) k = x := fun x h => by
      unfold mX9_taken
      rw [shelfAt_yes hj, gb_some]
      exact h
    cases hw : wi k 0 7 with
    | false =>
      refine ⟨-1, σ, σ, op _ ?_, ?_, hI0⟩
      · show (if gk (40 + 2 * j) = 6 then _ else _) = _
        rw [if_pos k6, w9, gb_some, hw, if_neg (by decide)]
      · unfold mX10_taken
        rw [isShelf_eq, gb_some, hyes, if_pos rfl, w10, gb_some, hw, if_neg (by decide)]
    | true =>
      rcases hH j hj with ⟨h1, h2⟩ | ⟨h1, n, h2, h3, h4⟩ | ⟨h1, s, n, h2, h3, h4, h5, h6, h7, h8⟩
      · refine ⟨-11, σ, σ, op _ ?_, ?_, hI0⟩
        · show (if gk (40 + 2 * j) = 6 then _ else _) = _
          rw [if_pos k6, w9, gb_some, hw, if_pos rfl, if_pos h1]
        · unfold mX10_taken
          rw [isShelf_eq, gb_some, hyes, if_pos rfl, w10, gb_some, hw, if_pos rfl, if_pos i6, c6, if_pos h2]
      · obtain ⟨q, -, hq, eq⟩ := f5 n h2
        have e10 : (nI (10 + n) - 10 : Int32) = nI n := by
          rw [show 10 + n = n + 10 by omega, ← nI_add]
          exact Int32.add_sub_cancel _ _
        obtain ⟨bb, u1, u2⟩ := kinds_eq (σ := σ) (m := 1091) (n := 1091) (k := k) (is := nI q) hq
        have hu : mX2_isUnder σ (nI n) k = some (bb, σ) := by
          unfold mX2_isUnder
          rw [kindOf_eq f1 f2 h2, gb_some, gl_eq, gl_eq, eq]
          exact u1
        have ht : mX10_taken σ (nI j) k = if bb = true then some (nI q, σ) else some (-12, σ) := by
          unfold mX10_taken
          rw [isShelf_eq, gb_some, hyes, if_pos rfl, w10, gb_some, hw, if_pos rfl, if_pos i6, c6, h4, if_neg (nI_n1 (by omega)), isRow_eq hj, gb_some, h4, show wi (nI (10 + n)) 0 4 = false from wi_no (a := 0) (b := 4) (by omega) (Or.inr (by omega)) (by decide), if_neg (by decide), e10, if_pos i6, if_pos (inbB_nI (by omega) (by decide)), nI_cl (by omega), gl_eq, gl_eq, f4, eq]
          exact u2
        cases bb with
        | true =>
          refine ⟨nI q, σ, σ, op _ ?_, ht, hI0⟩
          show (if gk (40 + 2 * j) = 6 then _ else _) = _
          rw [if_pos k6, w9, gb_some, hw, if_pos rfl, if_neg (by rw [h1]; decide), if_pos h1, h3, hu, gb_some, if_pos rfl, bind_id, h3, kindOf_eq f1 f2 h2, eq]
        | false =>
          refine ⟨-12, σ, σ, op _ ?_, ht, hI0⟩
          show (if gk (40 + 2 * j) = 6 then _ else _) = _
          rw [if_pos k6, w9, gb_some, hw, if_pos rfl, if_neg (by rw [h1]; decide), if_pos h1, h3, hu, gb_some, if_neg (by decide)]
      · refine ⟨-12, σ, σ, op _ ?_, ?_, hI0⟩
        · show (if gk (40 + 2 * j) = 6 then _ else _) = _
          rw [if_pos k6, w9, gb_some, hw, if_pos rfl, if_neg (by rw [h1]; decide), if_neg (by rw [h1]; decide)]
        · have hr : wi (σ.1 76 j) 0 4 = true := by rw [h6]; exact rg_wi (a := 0) (b := 4) (by decide) ⟨s, by omega, h2, rfl⟩
          unfold mX10_taken
          rw [isShelf_eq, gb_some, hyes, if_pos rfl, w10, gb_some, hw, if_pos rfl, if_pos i6, c6, if_neg (by rw [h6]; exact nI_n1 (by omega)), isRow_eq hj, gb_some, hr, if_pos rfl]
