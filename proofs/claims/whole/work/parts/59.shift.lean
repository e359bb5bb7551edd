/-! ===== shift ===== -/
theorem gUJ_at {σ : gS} {k j b : Nat} {v : Int64} : (gUJ σ k j v).2.1 k b = if b = j then v else σ.2.1 k b := by simp [gUJ]
theorem gUJ_ne {σ : gS} {k j a : Nat} {v : Int64} (h : a ≠ k) : (gUJ σ k j v).2.1 a = σ.2.1 a := by simp [gUJ, h]
theorem idx {s i c : Nat} : ((60 * nI s + nI i) + nI c : Int32) = nI (60 * s + i + c) := by rw [e60, nI_add]
theorem fwd_loop {s i o j n : Nat} (hs : s < 6) (ho : o < 6) (hi : i + n ≤ 60) (hj : j + n ≤ 60) (hnc : ∀ r r' : Nat, r' < r → r < n → 60 * s + i + r ≠ 60 * o + j + r') : ∀ (k c : Nat) (σ : gS) (m : Nat), c + k = n → k < m →
    ∃ τ : gS, mX10_shift_b188 m σ (nI s) (nI i) (nI o) (nI j) (nI n) (nI c) = some (nI n, τ) ∧ τ.1 = σ.1 ∧ τ.2.2 = σ.2.2 ∧ (∀ a, a ≠ 78 → τ.2.1 a = σ.2.1 a) ∧ ∀ x, τ.2.1 78 x = if 60 * o + j + c ≤ x ∧ x < 60 * o + j + n then σ.2.1 78 (60 * s + i + (x - (60 * o + j))) else σ.2.1 78 x := by
  intro k
  induction k with
  | zero =>
    intro c σ m hc hm
    obtain ⟨m, rfl⟩ : ∃ q, m = q + 1 := ⟨m - 1, by omega⟩
    refine ⟨σ, ?_, rfl, rfl, fun _ _ => rfl, fun x => by rw [if_neg (by omega)]⟩
    conv => lhs; unfold mX10_shift_b188
    rw [if_pos (nI_le (show n ≤ c by omega) (by omega))]
  | succ k ih =>
    intro c σ m hc hm
    obtain ⟨m, rfl⟩ : ∃ q, m = q + 1 := ⟨m - 1, by omega⟩
    obtain ⟨τ, h1, h2, h3, h4, h5⟩ := ih (c + 1) (gUJ σ 78 (60 * o + j + c) (σ.2.1 78 (60 * s + i + c))) m (by omega) (by omega)
    refine ⟨τ, ?_, h2, h3, fun a ha => by rw [h4 a ha, gUJ_ne ha], fun x => ?_⟩
    · conv => lhs; unfold mX10_shift_b188
      rw [if_neg (nI_ge (show c < n by omega) (by omega)), idx, if_pos (inbB_nI (show 60 * s + i + c < 360 by omega) (by decide)), idx, if_pos (inbB_nI (show 60 * o + j + c < 360 by omega) (by decide)), nI_cl (by omega), nI_cl (by omega), gl_eq, gl_eq, nI_1]
      exact h1
    · rw [h5]
      by_cases hx : 60 * o + j + (c + 1) ≤ x ∧ x < 60 * o + j + n
      · rw [if_pos hx, if_pos (by omega), gUJ_at, if_neg]
        exact hnc (x - (60 * o + j)) c (by omega) (by omega)
      · rw [if_neg hx, gUJ_at]
        by_cases hxc : x = 60 * o + j + c
        · rw [if_pos hxc, if_pos (by omega), hxc, show 60 * o + j + c - (60 * o + j) = c by omega]
        · rw [if_neg hxc, if_neg (by omega)]
theorem bwd_loop {s i o j n : Nat} (hs : s < 6) (ho : o < 6) (hi : i + n ≤ 60) (hj : j + n ≤ 60) (hle : 60 * s + i ≤ 60 * o + j) : ∀ (c : Nat) (σ : gS) (m : Nat), c ≤ n → c < m →
    ∃ τ : gS, mX10_shift_b142 m σ (nI s) (nI i) (nI o) (nI j) (nI n) (nI c - 1) = some (nI n, τ) ∧ τ.1 = σ.1 ∧ τ.2.2 = σ.2.2 ∧ (∀ a, a ≠ 78 → τ.2.1 a = σ.2.1 a) ∧ ∀ x, τ.2.1 78 x = if 60 * o + j ≤ x ∧ x < 60 * o + j + c then σ.2.1 78 (60 * s + i + (x - (60 * o + j))) else σ.2.1 78 x := by
  intro c
  induction c with
  | zero =>
    intro σ m hc hm
    obtain ⟨m, rfl⟩ : ∃ q, m = q + 1 := ⟨m - 1, by omega⟩
    refine ⟨σ, ?_, rfl, rfl, fun _ _ => rfl, fun x => by rw [if_neg (by omega)]⟩
    conv => lhs; unfold mX10_shift_b142
    rw [if_pos (by decide)]
  | succ c ih =>
    intro σ m hc hm
    obtain ⟨m, rfl⟩ : ∃ q, m = q + 1 := ⟨m - 1, by omega⟩
    obtain ⟨τ, h1, h2, h3, h4, h5⟩ := ih (gUJ σ 78 (60 * o + j + c) (σ.2.1 78 (60 * s + i + c))) m (by omega) (by omega)
    refine ⟨τ, ?_, h2, h3, fun a ha => by rw [h4 a ha, gUJ_ne ha], fun x => ?_⟩
    · conv => lhs; unfold mX10_shift_b142
      rw [nI_pred, if_neg (nI_pos (by omega)), idx, if_pos (inbB_nI (show 60 * s + i + c < 360 by omega) (by decide)), idx, if_pos (inbB_nI (show 60 * o + j + c < 360 by omega) (by decide)), nI_cl (by omega), nI_cl (by omega), gl_eq, gl_eq, show (nI c + -1 : Int32) = nI c - 1 from (Int32.sub_eq_add_neg _ _).symm]
      exact h1
    · rw [h5]
      by_cases hx : 60 * o + j ≤ x ∧ x < 60 * o + j + c
      · rw [if_pos hx, if_pos (by omega), gUJ_at, if_neg (by omega)]
      · rw [if_neg hx, gUJ_at]
        by_cases hxc : x = 60 * o + j + c
        · rw [if_pos hxc, if_pos (by omega), hxc, show 60 * o + j + c - (60 * o + j) = c by omega]
        · rw [if_neg hxc, if_neg (by omega)]
theorem hp_no {p q : Int32} {n : Nat} (h : hpB p q n = false) (h1 : ¬ p < 0) (h2 : ¬ q < 0) : ¬ p.toInt + q.toInt ≤ (n : Int) := by
  intro c
  unfold hpB at h
  rw [lt0] at h1 h2
  rw [decide_eq_true (show 0 ≤ p.toInt by omega), decide_eq_true (show 0 ≤ q.toInt by omega), decide_eq_true c] at h
  cases h
theorem hp_of {p q : Int32} {n : Nat} (hn : n ≤ 60) (h : hpB p q n = true) : ∃ a c : Nat, p = nI a ∧ q = nI c ∧ a + c ≤ n := by
  unfold hpB at h
  simp only [Bool.and_eq_true, decide_eq_true_eq] at h
  obtain ⟨⟨h1, h2⟩, h3⟩ := h
  refine ⟨p.toInt.toNat, q.toInt.toNat, ?_, ?_, by omega⟩
  · apply Int32.toInt_inj.mp
    rw [nI_toInt (by omega)]; omega
  · apply Int32.toInt_inj.mp
    rw [nI_toInt (by omega)]; omega
theorem sumL (p q : Int32) : (p.toInt64 + q.toInt64).toInt = p.toInt + q.toInt := by
  have a1 := Int32.toInt_lt p
  have a2 := Int32.le_toInt p
  have b1 := Int32.toInt_lt q
  have b2 := Int32.le_toInt q
  rw [Int64.toInt_add, Int32.toInt_toInt64, Int32.toInt_toInt64]
  exact Int.bmod_eq_of_le (by omega) (by omega)
theorem s_shift : S_shift Inv := by
  intro σ p0 p1 p2 p3 p4 hI
  have hI0 := hI
  obtain ⟨f, w, b, hV, hS, hT, hL, hB, hM, hC, hF, hH⟩ := hI
  have b50 := hF.1
  rcases shelf_cases p0 with hno | ⟨s, hs, rfl, hyes⟩
  · refine ⟨-1, σ, σ, ?_, ?_, hI0⟩
    · unfold mX9_shift
      rw [shelfAt_no hno, gb_some]
      show gBind (mX9_shelfAt σ p2) (fun r4 s5 => gOpt r4 (some (-1, s5)) (fun k6 => if gk k6 = 6 then some (-1, s5) else none)) = _
      rcases shelf_cases p2 with hno2 | ⟨o, ho, rfl, hyes2⟩
      · rw [shelfAt_no hno2, gb_some]
        rfl
      · rw [shelfAt_yes ho, gb_some]
        show (if gk (40 + 2 * o) = 6 then _ else _) = _
        rw [if_pos (gk_sh ho)]
    · unfold mX10_shift
      rw [isShelf_eq, gb_some, hno, if_neg (by decide)]
  · rcases shelf_cases p2 with hno2 | ⟨o, ho, rfl, hyes2⟩
    · refine ⟨-1, σ, σ, ?_, ?_, hI0⟩
      · unfold mX9_shift
        rw [shelfAt_yes hs, gb_some]
        show (if gk (40 + 2 * s) = 6 then _ else _) = _
        rw [if_pos (gk_sh hs), shelfAt_no hno2, gb_some]
        rfl
      · unfold mX10_shift
        rw [isShelf_eq, gb_some, hyes, if_pos rfl, isShelf_eq, gb_some, hno2, if_neg (by decide)]
    · have is6 : inbB (nI s) 6 = true := inbB_nI hs (by decide)
      have cs : Int32.toNatClampNeg (nI s) = s := nI_cl (by omega)
      have io6 : inbB (nI o) 6 = true := inbB_nI ho (by decide)
      have co : Int32.toNatClampNeg (nI o) = o := nI_cl (by omega)
      have ks6 := gk_sh hs
      have ko6 := gk_sh ho
      have op9 : ∀ x, (if (σ.1 (40 + 2 * s) 0) = 0 then (some ((-11), σ)) else (if (σ.1 (40 + 2 * o) 0) = 0 then (some ((-11), σ)) else (if (σ.1 (40 + 2 * s) 0) = 2 then (gBind (mX6_isRowOf σ (40 + 2 * o) (σ.1 (40 + 2 * s) 2)) (fun r10 s11 => if r10 = true then (gBind (mX6_hasPlaces s11 (40 + 2 * s) p1 p4) (fun r12 s13 => if r12 = true then (gBind (mX6_hasPlaces s13 (40 + 2 * o) p3 p4) (fun r14 s15 => if r14 = true then (if gCpB p1 p3 p4 60 60 = true then gLet (gUB s15 ((40 + 2 * o) + 1) (va_cpy (s15.2.1 ((40 + 2 * s) + 1)) (s15.2.1 ((40 + 2 * o) + 1)) (Int32.toNatClampNeg p1) (Int32.toNatClampNeg p3) (Int32.toNatClampNeg p4))) (fun s16 => some (p4, s16)) else none) else (some ((-13), s15)))) else (some ((-13), s13)))) else (some ((-12), s11)))) else (some ((-12), σ))))) = x → mX9_shift σ (nI s) p1 (nI o) p3 p4 = x := fun x hx => by
        unfold mX9_shift
        rw [shelfAt_yes hs, gb_some]
        show (if gk (40 + 2 * s) = 6 then _ else _) = _
        rw [if_pos ks6, shelfAt_yes ho, gb_some]
        show (if gk (40 + 2 * o) = 6 then _ else _) = _
        rw [if_pos ko6]
        exact hx
      have op10 : ∀ (τ : gS) x, τ.1 = σ.1 → (if σ.1 76 s = -1 then some ((-11 : Int32), τ) else if σ.1 76 o = -1 then some (-11, τ) else if wi (σ.1 76 s) 0 4 = true then (if wi (σ.1 76 o) 0 4 = true then (if σ.1 76 s = σ.1 76 o then (if p4 < 0 then some (-13, τ) else if p1 < 0 then some (-13, τ) else if p3 < 0 then some (-13, τ) else if 0 < lg_cmp (p1.toInt64 + p4.toInt64) (σ.1 77 s).toInt64 then some (-13, τ) else if lg_cmp (p3.toInt64 + p4.toInt64) (σ.1 77 o).toInt64 ≤ 0 then (if nI s = nI o then (if p3 ≤ p1 then mX10_shift_b185 τ (nI s) p1 (nI o) p3 p4 else mX10_shift_b142 1100 τ (nI s) p1 (nI o) p3 p4 (p4 - 1)) else mX10_shift_b185 τ (nI s) p1 (nI o) p3 p4) else some (-13, τ)) else some (-12, τ)) else some (-12, τ)) else some (-12, τ)) = x → mX10_shift τ (nI s) p1 (nI o) p3 p4 = x := fun τ x ht hx => by
        unfold mX10_shift
        rw [isShelf_eq, gb_some, hyes, if_pos rfl, isShelf_eq, gb_some, hyes2, if_pos rfl, if_pos is6, if_pos io6, cs, co, isRow_eq hs, gb_some, isRow_eq ho, gb_some, if_pos is6, if_pos io6, if_pos is6, if_pos io6, ht]
        simp only [gLet]
        exact hx
      -- what a shelf holds, in the reference's words
      have nothing : ∀ j, j < 6 → IH1 σ b j → (σ.1 (40 + 2 * j) 0 = 0 ↔ σ.1 76 j = -1) := fun j hj h => by
        rcases h with ⟨h1, h2⟩ | ⟨h1, n, h2, h3, h4⟩ | ⟨h1, s, n, h2, h3, h4, h5, h6, h7, h8⟩
        · exact ⟨fun _ => h2, fun _ => h1⟩
        · rw [h1, h4]; exact ⟨fun q => absurd q (by decide), fun q => absurd q (nI_n1 (by omega))⟩
        · rw [h1, h6]; exact ⟨fun q => absurd q (by decide), fun q => absurd q (nI_n1 (by omega))⟩
      have Ns := nothing s hs (hH s hs)
      have No := nothing o ho (hH o ho)
      by_cases hz : σ.1 (40 + 2 * s) 0 = 0
      · exact ⟨-11, σ, σ, op9 _ (if_pos hz), op10 σ _ rfl (if_pos (Ns.mp hz)), hI0⟩
      · by_cases hz2 : σ.1 (40 + 2 * o) 0 = 0
        · refine ⟨-11, σ, σ, op9 _ (by rw [if_neg hz, if_pos hz2]), op10 σ _ rfl (by rw [if_neg (fun q => hz (Ns.mpr q)), if_pos (No.mp hz2)]), hI0⟩
        · have m1 : ¬ σ.1 76 s = -1 := fun q => hz (Ns.mpr q)
          have m2 : ¬ σ.1 76 o = -1 := fun q => hz2 (No.mpr q)
          rcases hH s hs with ⟨h1, -⟩ | ⟨h1, n, h2, h3, h4⟩ | ⟨h1, sr, n, h2, h3, h4, h5, h6, h7, h8⟩
          · exact absurd h1 hz
          · have wf : wi (σ.1 76 s) 0 4 = false := by rw [h4]; exact wi_no (a := 0) (b := 4) (by omega) (Or.inr (by omega)) (by decide)
            refine ⟨-12, σ, σ, op9 _ ?_, op10 σ _ rfl ?_, hI0⟩
            · rw [if_neg hz, if_neg hz2, if_neg (by rw [h1]; decide)]
            · rw [if_neg m1, if_neg m2, wf, if_neg (by decide)]
          · have wt : wi (σ.1 76 s) 0 4 = true := by rw [h6]; exact rg_wi (a := 0) (b := 4) (by decide) ⟨sr, by omega, h2, rfl⟩
            rcases hH o ho with ⟨g1, -⟩ | ⟨g1, n2, g2, g3, g4⟩ | ⟨g1, sr2, n2, g2, g3, g4, g5, g6, g7, g8⟩
            · exact absurd g1 hz2
            · have wf : wi (σ.1 76 o) 0 4 = false := by rw [g4]; exact wi_no (a := 0) (b := 4) (by omega) (Or.inr (by omega)) (by decide)
              refine ⟨-12, σ, σ, op9 _ ?_, op10 σ _ rfl ?_, hI0⟩
              · unfold mX6_isRowOf
                rw [if_neg hz, if_neg hz2, if_pos h1, if_pos ko6, if_neg (by rw [g1]; decide), gb_some, if_neg (by decide)]
              · rw [if_neg m1, if_neg m2, wt, if_pos rfl, wf, if_neg (by decide)]
            · have wt2 : wi (σ.1 76 o) 0 4 = true := by rw [g6]; exact rg_wi (a := 0) (b := 4) (by decide) ⟨sr2, by omega, g2, rfl⟩
              by_cases hsr : sr2 = sr
              · subst hsr
                have e76 : σ.1 76 s = σ.1 76 o := h6.trans g6.symm
                have opA : ∀ x, (if hpB p1 p4 n = true then (if hpB p3 p4 n2 = true then (if gCpB p1 p3 p4 60 60 = true then some (p4, gUB σ ((40 + 2 * o) + 1) (va_cpy (σ.2.1 ((40 + 2 * s) + 1)) (σ.2.1 ((40 + 2 * o) + 1)) (Int32.toNatClampNeg p1) (Int32.toNatClampNeg p3) (Int32.toNatClampNeg p4))) else none) else some (-13, σ)) else some (-13, σ)) = x → mX9_shift σ (nI s) p1 (nI o) p3 p4 = x := fun x hx => by
                  refine op9 _ ?_
                  unfold mX6_isRowOf
                  rw [if_neg hz, if_neg hz2, if_pos h1, if_pos ko6, if_pos g1, if_pos (g4.trans h4.symm), gb_some, if_pos rfl, hasPlaces_eq ks6 h5 h3, gb_some, hasPlaces_eq ko6 g5 g3, gb_some]
                  exact hx
                have opB : ∀ (τ : gS) x, τ.1 = σ.1 → (if p4 < 0 then some (-13, τ) else if p1 < 0 then some (-13, τ) else if p3 < 0 then some (-13, τ) else if 0 < lg_cmp (p1.toInt64 + p4.toInt64) (σ.1 77 s).toInt64 then some (-13, τ) else if lg_cmp (p3.toInt64 + p4.toInt64) (σ.1 77 o).toInt64 ≤ 0 then (if nI s = nI o then (if p3 ≤ p1 then mX10_shift_b185 τ (nI s) p1 (nI o) p3 p4 else mX10_shift_b142 1100 τ (nI s) p1 (nI o) p3 p4 (p4 - 1)) else mX10_shift_b185 τ (nI s) p1 (nI o) p3 p4) else some (-13, τ)) = x → mX10_shift τ (nI s) p1 (nI o) p3 p4 = x := fun τ x ht hx => by
                  refine op10 τ _ ht ?_
                  rw [if_neg m1, if_neg m2, wt, if_pos rfl, wt2, if_pos rfl, if_pos e76]
                  exact hx
                have l1 : (σ.1 77 s).toInt64.toInt = (n : Int) := by rw [h7, Int32.toInt_toInt64, nI_toInt (by omega)]
                have l2 : (σ.1 77 o).toInt64.toInt = (n2 : Int) := by rw [g7, Int32.toInt_toInt64, nI_toInt (by omega)]
                cases hp1 : hpB p1 p4 n with
                | false =>
                  refine ⟨-13, σ, σ, opA _ (by rw [hp1, if_neg (by decide)]), opB σ _ rfl ?_, hI0⟩
                  by_cases q4 : p4 < 0
                  · rw [if_pos q4]
                  · rw [if_neg q4]
                    by_cases q1 : p1 < 0
                    · rw [if_pos q1]
                    · rw [if_neg q1]
                      by_cases q3 : p3 < 0
                      · rw [if_pos q3]
                      · rw [if_neg q3, if_pos]
                        rw [lg_cmp_gt, Int64.lt_iff_toInt_lt, l1, sumL]
                        have := hp_no hp1 q1 q4
                        omega
                | true =>
                  obtain ⟨i, c, rfl, rfl, hic⟩ := hp_of h3 hp1
                  have z4 : ¬ nI c < 0 := nI_pos (by omega)
                  have z1 : ¬ nI i < 0 := nI_pos (by omega)
                  have zc : ¬ 0 < lg_cmp ((nI i).toInt64 + (nI c).toInt64) (σ.1 77 s).toInt64 := fun q => by
                    rw [lg_cmp_gt, Int64.lt_iff_toInt_lt, l1, sumL, nI_toInt (by omega), nI_toInt (by omega)] at q
                    omega
                  cases hp2 : hpB p3 (nI c) n2 with
                  | false =>
                    refine ⟨-13, σ, σ, opA _ (by rw [hp1, if_pos rfl, hp2, if_neg (by decide)]), opB σ _ rfl ?_, hI0⟩
                    rw [if_neg z4, if_neg z1]
                    by_cases q3 : p3 < 0
                    · rw [if_pos q3]
                    · rw [if_neg q3, if_neg zc, if_neg]
                      rw [lg_cmp_le, Int64.le_iff_toInt_le, l2, sumL]
                      have := hp_no hp2 q3 z4
                      omega
                  | true =>
                    obtain ⟨j, c', rfl, ec, hjc⟩ := hp_of g3 hp2
                    have ecc : c = c' := (nI_eq (by omega) (by omega)).mp ec
                    subst ecc
                    have z3 : ¬ nI j < 0 := nI_pos (by omega)
                    have zd : lg_cmp ((nI j).toInt64 + (nI c).toInt64) (σ.1 77 o).toInt64 ≤ 0 := by
                      rw [lg_cmp_le, Int64.le_iff_toInt_le, l2, sumL, nI_toInt (by omega), nI_toInt (by omega)]
                      omega
                    have gcp : gCpB (nI i) (nI j) (nI c) 60 60 = true := by
                      unfold gCpB
                      rw [nI_toInt (by omega), nI_toInt (by omega), nI_toInt (by omega)]
                      simp
                      omega
                    obtain ⟨τ, hτ⟩ : ∃ τ, τ = gUB σ ((40 + 2 * o) + 1) (va_cpy (σ.2.1 ((40 + 2 * s) + 1)) (σ.2.1 ((40 + 2 * o) + 1)) i j c) := ⟨_, rfl⟩
                    have r9 : mX9_shift σ (nI s) (nI i) (nI o) (nI j) (nI c) = some (nI c, τ) := by
                      refine opA _ ?_
                      rw [hp1, if_pos rfl, hp2, if_pos rfl, if_pos gcp, nI_cl (show i < 2 ^ 31 by omega), nI_cl (show j < 2 ^ 31 by omega), nI_cl (show c < 2 ^ 31 by omega), hτ]
                    have t1 : τ.1 = σ.1 := by rw [hτ]; rfl
                    have t3 : τ.2.2 = σ.2.2 := by rw [hτ]; rfl
                    have t2 : ∀ a, a ≠ 40 + 2 * o + 1 → τ.2.1 a = σ.2.1 a := fun a ha => by
                      rw [hτ]
                      show (if a = 40 + 2 * o + 1 then _ else σ.2.1 a) = _
                      rw [if_neg ha]
                    have t2o : ∀ x, τ.2.1 (40 + 2 * o + 1) x = if j ≤ x ∧ x < j + c then σ.2.1 (40 + 2 * s + 1) (i + (x - j)) else σ.2.1 (40 + 2 * o + 1) x := fun x => by
                      rw [hτ]
                      show (if 40 + 2 * o + 1 = 40 + 2 * o + 1 then va_cpy (σ.2.1 ((40 + 2 * s) + 1)) (σ.2.1 ((40 + 2 * o) + 1)) i j c else _) x = _
                      rw [if_pos rfl]
                      rfl
                    have both : ∃ υ : gS, mX10_shift τ (nI s) (nI i) (nI o) (nI j) (nI c) = some (nI c, υ) ∧ υ.1 = τ.1 ∧ υ.2.2 = τ.2.2 ∧ (∀ a, a ≠ 78 → υ.2.1 a = τ.2.1 a) ∧ ∀ x, υ.2.1 78 x = if 60 * o + j ≤ x ∧ x < 60 * o + j + c then τ.2.1 78 (60 * s + i + (x - (60 * o + j))) else τ.2.1 78 x := by
                      by_cases hso : s = o
                      · subst hso
                        by_cases hji : j ≤ i
                        · obtain ⟨υ, y1, y2, y3, y4, y5⟩ := fwd_loop (s := s) (i := i) (o := s) (j := j) (n := c) hs hs (by omega) (by omega) (fun r r' q1 q2 => by omega) c 0 τ 1100 (by omega) (by omega)
                          refine ⟨υ, opB τ _ t1 ?_, y2, y3, y4, fun x => by rw [y5, Nat.add_zero]⟩
                          rw [if_neg z4, if_neg z1, if_neg z3, if_neg zc, if_pos zd, if_pos rfl, if_pos (nI_le hji (by omega))]
                          unfold mX10_shift_b185
                          rw [gl_eq]
                          exact y1
                        · obtain ⟨υ, y1, y2, y3, y4, y5⟩ := bwd_loop (s := s) (i := i) (o := s) (j := j) (n := c) hs hs (by omega) (by omega) (by omega) c τ 1100 (Nat.le_refl c) (by omega)
                          refine ⟨υ, opB τ _ t1 ?_, y2, y3, y4, y5⟩
                          rw [if_neg z4, if_neg z1, if_neg z3, if_neg zc, if_pos zd, if_pos rfl, if_neg (nI_ge (show i < j by omega) (by omega))]
                          exact y1
                      · obtain ⟨υ, y1, y2, y3, y4, y5⟩ := fwd_loop (s := s) (i := i) (o := o) (j := j) (n := c) hs ho (by omega) (by omega) (fun r r' q1 q2 => by omega) c 0 τ 1100 (by omega) (by omega)
                        refine ⟨υ, opB τ _ t1 ?_, y2, y3, y4, fun x => by rw [y5, Nat.add_zero]⟩
                        rw [if_neg z4, if_neg z1, if_neg z3, if_neg zc, if_pos zd, if_neg (fun q => hso ((nI_eq (by omega) (by omega)).mp q))]
                        unfold mX10_shift_b185
                        rw [gl_eq]
                        exact y1
                    obtain ⟨υ, r10, y2, y3, y4, y5⟩ := both
                    have u1 : υ.1 = σ.1 := y2.trans t1
                    refine ⟨nI c, τ, υ, r9, r10, Inv_sh hV hS hT hL hB hM hC hF (fun k _ _ _ => by rw [u1]) (y3.trans t3) (IH_upd hH (j := o) (fun k hk hko => ⟨by rw [u1], ?_, by rw [u1], by rw [u1], fun x hx => ?_⟩) ?_)⟩
                    · rw [y4 _ (by omega), t2 _ (by omega)]
                    · rw [y5, if_neg (by omega), t2 78 (by omega)]
                    · have A : ∀ x, x < 60 → υ.2.1 78 (60 * o + x) = (if j ≤ x ∧ x < j + c then σ.2.1 78 (60 * s + (i + (x - j))) else σ.2.1 78 (60 * o + x)) := fun x hx => by
                        rw [y5, t2 78 (by omega)]
                        by_cases hh : j ≤ x ∧ x < j + c
                        · rw [if_pos (by omega), if_pos hh, show 60 * s + i + (60 * o + x - (60 * o + j)) = 60 * s + (i + (x - j)) by omega]
                        · rw [if_neg (by omega), if_neg hh]
                      have B : ∀ x, υ.2.1 (41 + 2 * o) x = (if j ≤ x ∧ x < j + c then σ.2.1 (41 + 2 * s) (i + (x - j)) else σ.2.1 (41 + 2 * o) x) := fun x => by
                        rw [y4 _ (by omega), show 41 + 2 * o = 40 + 2 * o + 1 by omega, t2o, show 41 + 2 * s = 40 + 2 * s + 1 by omega]
                      refine Or.inr (Or.inr ⟨by rw [u1]; exact g1, sr2, n2, g2, g3, by rw [u1]; exact g4, by rw [u1]; exact g5, by rw [u1]; exact g6, by rw [u1]; exact g7, fun x hx => ?_⟩)
                      rw [A x hx, B x]
                      by_cases hh : j ≤ x ∧ x < j + c
                      · rw [if_pos hh, if_pos hh]
                        exact h8 (i + (x - j)) (by omega)
                      · rw [if_neg hh, if_neg hh]
                        exact g8 x hx
              · refine ⟨-12, σ, σ, op9 _ ?_, op10 σ _ rfl ?_, hI0⟩
                · unfold mX6_isRowOf
                  rw [if_neg hz, if_neg hz2, if_pos h1, if_pos ko6, if_pos g1, if_neg (by rw [g4, h4]; exact fun q => hsr ((nI_eq (by omega) (by omega)).mp q)), gb_some, if_neg (by decide)]
                · rw [if_neg m1, if_neg m2, wt, if_pos rfl, wt2, if_pos rfl, if_neg (by rw [h6, g6]; exact fun q => hsr ((nI_eq (by omega) (by omega)).mp q).symm)]
