/-! ===== put, element, taken ===== -/
/-- q places from p on lie within n -/
def hpB (p q : Int32) (n : Nat) : Bool := decide (0 ≤ p.toInt) && decide (0 ≤ q.toInt) && decide (p.toInt + q.toInt ≤ (n : Int))
theorem lt0 {x : Int32} : x < 0 ↔ x.toInt < 0 := by rw [Int32.lt_iff_toInt_lt]; rfl
theorem hasPlaces_eq {σ : gS} {k n : Nat} (hk : gk k = 6) (e : σ.1 k 3 = nI n) (hn : n ≤ 60) (p q : Int32) : mX6_hasPlaces σ k p q = some (hpB p q n, σ) := by
  unfold mX6_hasPlaces
  rw [if_pos hk, e]
  by_cases h1 : p < 0
  · rw [if_pos h1]
    have : ¬ 0 ≤ p.toInt := by rw [lt0] at h1; omega
    simp [hpB, this]
  · rw [if_neg h1]
    have g1 : 0 ≤ p.toInt := by rw [lt0] at h1; omega
    by_cases h2 : q < 0
    · rw [if_pos h2]
      have : ¬ 0 ≤ q.toInt := by rw [lt0] at h2; omega
      simp [hpB, this]
    · rw [if_neg h2]
      have g2 : 0 ≤ q.toInt := by rw [lt0] at h2; omega
      by_cases h3 : nI n < q
      · rw [if_pos h3]
        rw [Int32.lt_iff_toInt_lt, nI_toInt (by omega)] at h3
        have : ¬ p.toInt + q.toInt ≤ (n : Int) := by omega
        simp [hpB, this]
      · rw [if_neg h3]
        rw [Int32.lt_iff_toInt_lt, nI_toInt (by omega)] at h3
        have e2 : (nI n - q).toInt = (n : Int) - q.toInt := by
          rw [Int32.toInt_sub, nI_toInt (by omega)]
          exact Int.bmod_eq_of_le (by omega) (by omega)
        by_cases h4 : nI n - q < p
        · rw [if_pos h4]
          rw [Int32.lt_iff_toInt_lt, e2] at h4
          have : ¬ p.toInt + q.toInt ≤ (n : Int) := by omega
          simp [hpB, this]
        · rw [if_neg h4]
          rw [Int32.lt_iff_toInt_lt, e2] at h4
          have : p.toInt + q.toInt ≤ (n : Int) := by omega
          simp [hpB, this, g1, g2]
theorem hpB_1 {p : Int32} {n : Nat} (hn : n ≤ 60) : hpB p 1 n = inN p n := by
  have e1 : (1 : Int32).toInt = 1 := by decide
  unfold hpB inN
  rw [e1]
  by_cases h1 : p < 0
  · have : ¬ 0 ≤ p.toInt := by rw [lt0] at h1; omega
    simp [h1, this]
  · have g1 : 0 ≤ p.toInt := by rw [lt0] at h1; omega
    by_cases h2 : nI n ≤ p
    · have g2 : ¬ p.toInt + 1 ≤ (n : Int) := by rw [Int32.le_iff_toInt_le, nI_toInt (by omega)] at h2; omega
      simp [h1, h2, g1, g2]
    · have g2 : p.toInt + 1 ≤ (n : Int) := by rw [Int32.le_iff_toInt_le, nI_toInt (by omega)] at h2; omega
      simp [h1, h2, g1, g2]
theorem nI_n1 {n : Nat} (h : n < 2 ^ 31) : ¬ nI n = -1 := by
  intro q
  have := congrArg Int32.toInt q
  rw [nI_toInt h] at this
  have e1 : (-1 : Int32).toInt = -1 := by decide
  omega
theorem isRow_eq {σ : gS} {j : Nat} (hj : j < 6) : mX10_isRow σ (nI j) = some (wi (σ.1 76 j) 0 4, σ) := by
  unfold mX10_isRow
  rw [if_pos (inbB_nI hj (by decide)), bind_id, nI_cl (by omega), w10]
theorem kept_eq (σ : gS) (s : Int32) (v : Int64) : mX10_kept σ s v = mX9_lowestBits σ s v := rfl
/-- what put() keeps of a long -/
def gBits (s : Int32) (v : Int64) : Int64 := if s = 0 then Int32.toInt64 (Int8.toInt32 (Int32.toInt8 (Int64.toInt32 v))) else if s = 1 then Int32.toInt64 (Int16.toInt32 (Int32.toInt16 (Int64.toInt32 v))) else if s = 2 then Int32.toInt64 (Int64.toInt32 v) else if s = 3 then v else if lg_cmp v 0 = 0 then 0 else 1
theorem bits_eq (σ : gS) (s : Int32) (v : Int64) : mX9_lowestBits σ s v = some (gBits s v, σ) := by
  unfold mX9_lowestBits gBits
  repeat' split
  all_goals rfl
theorem i64_rt (x : Int32) : x.toInt64.toInt32.toInt64 = x.toInt64 := by simp
theorem gBits_rt {s : Nat} (hs : s ≤ 2) (v : Int64) : (gBits (nI s) v).toInt32.toInt64 = gBits (nI s) v := by
  rcases (show s = 0 ∨ s = 1 ∨ s = 2 by omega) with rfl | rfl | rfl
  · unfold gBits; rw [if_pos (by decide)]; exact i64_rt _
  · unfold gBits; rw [if_neg (by decide), if_pos (by decide)]; exact i64_rt _
  · unfold gBits; rw [if_neg (by decide), if_neg (by decide), if_pos (by decide)]; exact i64_rt _
theorem e60 (p i : Nat) : (60 * nI p + nI i : Int32) = nI (60 * p + i) := by
  rw [← nI_add]
  congr 1
  exact (Int32.ofNat_mul 60 p).symm
theorem refusePlace_eq {σ : gS} {b j : Nat} (hb : b ≤ 50) (hj : j < 6) (h : IH1 σ b j) (i : Int32) : ∃ r : Int32, mX9_refusePlace σ (nI j) i = some (r, σ) ∧
    ((r = -11 ∧ σ.1 76 j = -1) ∨ (r = -12 ∧ ¬ σ.1 76 j = -1 ∧ wi (σ.1 76 j) 0 4 = false) ∨ (∃ s n : Nat, s ≤ 4 ∧ n ≤ 60 ∧ σ.1 (40 + 2 * j) 0 = 2 ∧ σ.1 (40 + 2 * j) 2 = nI s ∧ σ.1 (40 + 2 * j) 3 = nI n ∧ ¬ σ.1 76 j = -1 ∧ wi (σ.1 76 j) 0 4 = true ∧ σ.1 76 j = nI s ∧ σ.1 77 j = nI n ∧ r = if inN i n = true then 1 else -13)) := by
  have k6 := gk_sh hj
  rcases h with ⟨h1, h2⟩ | ⟨h1, n, h2, h3, h4⟩ | ⟨h1, s, n, h2, h3, h4, h5, h6, h7, h8⟩
  · refine ⟨-11, ?_, Or.inl ⟨rfl, h2⟩⟩
    simp [mX9_refusePlace, shelfAt_yes hj, gb_some, gOpt, k6, h1]
  · have hn : 10 + n < 2 ^ 31 := by omega
    refine ⟨-12, ?_, Or.inr (Or.inl ⟨rfl, by rw [h4]; exact nI_n1 hn, by rw [h4]; exact wi_no (a := 0) (b := 4) hn (Or.inr (by omega)) (by decide)⟩)⟩
    simp [mX9_refusePlace, shelfAt_yes hj, gb_some, gOpt, k6, h1]
  · refine ⟨if inN i n = true then 1 else -13, ?_, Or.inr (Or.inr ⟨s, n, h2, h3, h1, h4, h5, by rw [h6]; exact nI_n1 (by omega), by rw [h6]; exact rg_wi (a := 0) (b := 4) (by decide) ⟨s, by omega, h2, rfl⟩, h6, h7, rfl⟩)⟩
    unfold mX9_refusePlace
    rw [shelfAt_yes hj, gb_some]
    show (if gk (40 + 2 * j) = 6 then _ else _) = _
    rw [if_pos k6, h1, if_neg (by decide), if_pos rfl, hasPlaces_eq k6 h5 h3, gb_some, hpB_1 h3]
    cases inN i n <;> rfl
theorem s_element : S_element Inv := by
  intro σ a0 a1 hI
  have hI0 := hI
  obtain ⟨f, w, b, hV, hS, hT, hL, hB, hM, hC, hF, hH⟩ := hI
  rcases shelf_cases a0 with hno | ⟨j, hj, rfl, hyes⟩
  · refine ⟨-9223372036854775808, σ, σ, ?_, ?_, hI0⟩
    · have hr : mX9_refusePlace σ a0 a1 = some (-1, σ) := by simp [mX9_refusePlace, shelfAt_no hno, gb_some, gOpt]
      unfold mX9_element
      rw [hr, gb_some, if_neg (by decide)]
    · simp [mX10_element, isShelf_eq, gb_some, hno]
  · have i6 : inbB (nI j) 6 = true := inbB_nI hj (by decide)
    have c6 : Int32.toNatClampNeg (nI j) = j := nI_cl (by omega)
    have k6 := gk_sh hj
    obtain ⟨r, hr, hc⟩ := refusePlace_eq hF.1 hj (hH j hj) a1
    rcases hc with ⟨rfl, h1⟩ | ⟨rfl, h1, h2⟩ | ⟨s, n, h1, h2, h3, h4, h5, h6, h7, h8, h9, rfl⟩
    · refine ⟨-9223372036854775808, σ, σ, ?_, ?_, hI0⟩
      · unfold mX9_element
        rw [hr, gb_some, if_neg (by decide)]
      · have hw : wi (-1) 0 4 = false := by decide
        simp [mX10_element, isShelf_eq, gb_some, hyes, isRow_eq hj, h1, hw]
    · refine ⟨-9223372036854775808, σ, σ, ?_, ?_, hI0⟩
      · unfold mX9_element
        rw [hr, gb_some, if_neg (by decide)]
      · simp [mX10_element, isShelf_eq, gb_some, hyes, isRow_eq hj, h2]
    · cases hin : inN a1 n with
      | false =>
        refine ⟨-9223372036854775808, σ, σ, ?_, ?_, hI0⟩
        · unfold mX9_element
          rw [hr, gb_some, hin, if_neg (show ¬ ((if false = true then (1 : Int32) else -13) = 1) by decide)]
        · simp [mX10_element, isShelf_eq, gb_some, hyes, isRow_eq hj, h7, i6, c6, w10, h9, wi_pred (show n < 2 ^ 31 by omega), hin]
      | true =>
        obtain ⟨i, hi, rfl⟩ := inN_of (by omega) hin
        have hrow := hH j hj
        have e1 : σ.2.1 78 (60 * j + i) = σ.2.1 (41 + 2 * j) i := by
          rcases hrow with ⟨q1, -⟩ | ⟨q1, -⟩ | ⟨q1, s2, n2, q2, q3, q4, q5, q6, q7, q8⟩
          · rw [h3] at q1; exact absurd q1 (by decide)
          · rw [h3] at q1; exact absurd q1 (by decide)
          · exact (q8 i (by omega)).1
        refine ⟨σ.2.1 (41 + 2 * j) i, σ, σ, ?_, ?_, hI0⟩
        · unfold mX9_element
          rw [hr, gb_some, hin, if_pos (show ((if true = true then (1 : Int32) else -13) = 1) by decide), if_pos i6, c6, if_pos k6, if_pos (inbB_nI (by omega) (by decide)), nI_cl (by omega), show 40 + 2 * j + 1 = 41 + 2 * j by omega]
        · simp [mX10_element, isShelf_eq, gb_some, hyes, isRow_eq hj, h7, i6, c6, w10, h9, wi_pred (show n < 2 ^ 31 by omega), hin, e60, inbB_nI (show 60 * j + i < 360 by omega) (by decide), nI_cl (show 60 * j + i < 2 ^ 31 by omega), e1]
theorem s_put : S_put Inv := by
  intro σ a0 a1 a2 hI
  have hI0 := hI
  obtain ⟨f, w, b, hV, hS, hT, hL, hB, hM, hC, hF, hH⟩ := hI
  rcases shelf_cases a0 with hno | ⟨j, hj, rfl, hyes⟩
  · refine ⟨-1, σ, σ, ?_, ?_, hI0⟩
    · have hr : mX9_refusePlace σ a0 a1 = some (-1, σ) := by simp [mX9_refusePlace, shelfAt_no hno, gb_some, gOpt]
      unfold mX9_put
      rw [hr, gb_some, gl_eq, if_neg (by decide)]
    · simp [mX10_put, isShelf_eq, gb_some, hno]
  · have i6 : inbB (nI j) 6 = true := inbB_nI hj (by decide)
    have c6 : Int32.toNatClampNeg (nI j) = j := nI_cl (by omega)
    have k6 := gk_sh hj
    obtain ⟨r, hr, hc⟩ := refusePlace_eq hF.1 hj (hH j hj) a1
    rcases hc with ⟨rfl, h1⟩ | ⟨rfl, h1, h2⟩ | ⟨s, n, h1, h2, h3, h4, h5, h6, h7, h8, h9, rfl⟩
    · refine ⟨-11, σ, σ, ?_, ?_, hI0⟩
      · unfold mX9_put
        rw [hr, gb_some, gl_eq, if_neg (by decide)]
      · simp [mX10_put, isShelf_eq, gb_some, hyes, i6, c6, h1]
    · refine ⟨-12, σ, σ, ?_, ?_, hI0⟩
      · unfold mX9_put
        rw [hr, gb_some, gl_eq, if_neg (by decide)]
      · simp [mX10_put, isShelf_eq, gb_some, hyes, i6, c6, h1, isRow_eq hj, h2]
    · cases hin : inN a1 n with
      | false =>
        refine ⟨-13, σ, σ, ?_, ?_, hI0⟩
        · unfold mX9_put
          rw [hr, gb_some, gl_eq, hin, if_neg (show ¬ ((if false = true then (1 : Int32) else -13) = 1) by decide)]
          rfl
        · simp [mX10_put, isShelf_eq, gb_some, hyes, i6, c6, h6, isRow_eq hj, h7, w10, h9, wi_pred (show n < 2 ^ 31 by omega), hin]
      | true =>
        obtain ⟨i, hi, rfl⟩ := inN_of (by omega) hin
        have hrow := hH j hj
        refine ⟨1, gUJ σ (41 + 2 * j) i (gBits (nI s) a2), gUJ (gUJ σ (41 + 2 * j) i (gBits (nI s) a2)) 78 (60 * j + i) (gBits (nI s) a2), ?_, ?_, ?_⟩
        · unfold mX9_put
          rw [hr, gb_some, gl_eq, hin, if_pos (show ((if true = true then (1 : Int32) else -13) = 1) by decide), if_pos i6, c6, if_pos k6]
          simp [i6, k6, h4, bits_eq, gb_some, inbB_nI (show i < 60 by omega) (by decide), nI_cl (show i < 2 ^ 31 by omega), gLet, show 40 + 2 * j + 1 = 41 + 2 * j by omega]
        · have u1 : ∀ (x : Nat) (v : Int64) (a : Nat), (gUJ σ (41 + 2 * j) x v).1 a = σ.1 a := fun _ _ _ => rfl
          have g1 : ¬ nI s = -1 := nI_n1 (by omega)
          have g2 : wi (nI s) 0 4 = true := by rw [← h8]; exact h7
          simp [mX10_put, isShelf_eq, gb_some, hyes, i6, c6, u1, g1, g2, isRow_eq hj, w10, h9, wi_pred (show n < 2 ^ 31 by omega), hin, kept_eq, bits_eq, h8, e60, inbB_nI (show 60 * j + i < 360 by omega) (by decide), nI_cl (show 60 * j + i < 2 ^ 31 by omega), gLet]
        · refine Inv_sh hV hS hT hL hB hM hC hF (fun k _ _ _ => rfl) rfl (IH_upd hH (j := j) (fun i' hi' hij => ⟨rfl, ?_, rfl, rfl, fun m hm => ?_⟩) ?_)
          · show (if 41 + 2 * i' = 78 then _ else (if 41 + 2 * i' = 41 + 2 * j then _ else σ.2.1 (41 + 2 * i'))) = _
            rw [if_neg (by omega), if_neg (by omega)]
          · show (if 60 * i' + m = 60 * j + i then gBits (nI s) a2 else (if 78 = 41 + 2 * j then (fun b => if b = i then gBits (nI s) a2 else σ.2.1 (41 + 2 * j) b) else σ.2.1 78) (60 * i' + m)) = _
            rw [if_neg (by omega), if_neg (by omega)]
          · rcases hrow with ⟨q1, -⟩ | ⟨q1, -⟩ | ⟨q1, s2, n2, q2, q3, q4, q5, q6, q7, q8⟩
            · rw [h3] at q1; exact absurd q1 (by decide)
            · rw [h3] at q1; exact absurd q1 (by decide)
            · refine Or.inr (Or.inr ⟨q1, s2, n2, q2, q3, q4, q5, q6, q7, fun m hm => ?_⟩)
              have es : nI s = nI s2 := h8.symm.trans q6
              have z1 : (gUJ (gUJ σ (41 + 2 * j) i (gBits (nI s) a2)) 78 (60 * j + i) (gBits (nI s) a2)).2.1 (41 + 2 * j) m = if m = i then gBits (nI s) a2 else σ.2.1 (41 + 2 * j) m := by
                show (if 41 + 2 * j = 78 then _ else (if 41 + 2 * j = 41 + 2 * j then (fun b => if b = i then gBits (nI s) a2 else σ.2.1 (41 + 2 * j) b) else _)) m = _
                rw [if_neg (by omega), if_pos rfl]
              have z2 : (gUJ (gUJ σ (41 + 2 * j) i (gBits (nI s) a2)) 78 (60 * j + i) (gBits (nI s) a2)).2.1 78 (60 * j + m) = if m = i then gBits (nI s) a2 else σ.2.1 78 (60 * j + m) := by
                show (if 60 * j + m = 60 * j + i then gBits (nI s) a2 else (if 78 = 41 + 2 * j then _ else σ.2.1 78) (60 * j + m)) = _
                rw [if_neg (show ¬ 78 = 41 + 2 * j by omega)]
                by_cases hm2 : m = i
                · rw [if_pos (by omega), if_pos hm2]
                · rw [if_neg (by omega), if_neg hm2]
              rw [z1, z2]
              by_cases hm2 : m = i
              · rw [if_pos hm2, if_pos hm2]
                exact ⟨rfl, fun h => by rw [es]; exact gBits_rt h a2⟩
              · rw [if_neg hm2, if_neg hm2]
                exact q8 m hm
