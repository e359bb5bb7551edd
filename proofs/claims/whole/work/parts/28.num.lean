/-! ===== numbers that mend() tells: of, undo, redo ===== -/
def isOfB (f w : Nat) (n q : Int32) : Bool := if wi q 0 1 = true then inN n f else if wi q 2 4 = true then inN n w else if wi q 5 9 = true then decide (n = 0) else false
theorem isOf_eq {σ : gS} {f w : Nat} (hf : f ≤ 6) (hw : w ≤ 12) (e1 : σ.1 52 0 = nI f) (e2 : σ.1 52 3 = nI w) (n q : Int32) : mX10_isOf σ n q = some (isOfB f w n q, σ) := by
  unfold mX10_isOf isOfB
  rw [w10, gb_some]
  by_cases h1 : wi q 0 1 = true
  · rw [if_pos h1, if_pos h1, bind_id, isFarm_eq (by omega) e1]
  · rw [if_neg h1, if_neg h1, w10, gb_some]
    by_cases h2 : wi q 2 4 = true
    · rw [if_pos h2, if_pos h2, bind_id, isWant_eq (by omega) e2]
    · rw [if_neg h2, if_neg h2, w10, gb_some]
      by_cases h3 : wi q 5 9 = true
      · rw [if_pos h3, if_pos h3]
        by_cases h4 : n = 0
        · simp [h4]
        · simp [h4]
      · rw [if_neg h3, if_neg h3]
theorem wi_01 {q : Int32} : wi q 0 1 = (decide (q = 0) || decide (q = 1)) := by
  cases h : wi q 0 1 with
  | true =>
    obtain ⟨i, -, h2, rfl⟩ := wi_rg (a := 0) (b := 1) (by decide) (by decide) h
    rcases (show i = 0 ∨ i = 1 by omega) with rfl | rfl <;> decide
  | false =>
    have a0 : ¬ q = 0 := fun e => by rw [e] at h; revert h; decide
    have a1 : ¬ q = 1 := fun e => by rw [e] at h; revert h; decide
    simp [a0, a1]
theorem isNumber_eq {σ : gS} {f w : Nat} (e1 : σ.1 1 0 = nI f) (e2 : σ.1 1 3 = nI w) (n q : Int32) : mX9_isNumber σ n q = some (if q = 10 then inN n w else isOfB f w n q, σ) := by
  unfold mX9_isNumber isOfB mX9_isNumber_b9 mX9_isNumber_b33
  rw [wi_01, bind_id, hasFarm_eq e1, w9, gb_some, bind_id, hasWant_eq e2, w9, gb_some]
  by_cases h0 : q = 0
  · subst h0; simp
  · by_cases h1 : q = 1
    · subst h1; simp
    · by_cases h2 : wi q 2 4 = true
      · have h10 : ¬ q = 10 := fun e => by rw [e] at h2; revert h2; decide
        simp [h0, h1, h2, h10]
      · by_cases h10 : q = 10
        · subst h10; simp [h2]
        · by_cases h3 : wi q 5 9 = true
          · by_cases h4 : n = 0
            · simp [h0, h1, h2, h10, h3, h4]
            · simp [h0, h1, h2, h10, h3, h4]
          · simp [h0, h1, h2, h10, h3]
theorem isOf_ok {f w : Nat} {n q : Int32} (hf : f ≤ 6) (hw : w ≤ 12) (h : isOfB f w n q = true) : okN f w n q := by
  unfold isOfB at h
  have key : ∀ (x : Int32) (m : Nat), m ≤ 12 → inN x m = true → rg x 0 (m - 1) ∧ 0 < m := fun x m hm hx => by
    obtain ⟨i, hi, rfl⟩ := inN_of (by omega) hx
    exact ⟨⟨i, by omega, by omega, rfl⟩, by omega⟩
  by_cases h1 : wi q 0 1 = true
  · rw [if_pos h1] at h
    obtain ⟨a, b⟩ := key n f (by omega) h
    obtain ⟨i, -, h2, rfl⟩ := wi_rg (a := 0) (b := 1) (by decide) (by decide) h1
    rcases (show i = 0 ∨ i = 1 by omega) with rfl | rfl
    · exact Or.inl ⟨rfl, a, b⟩
    · exact Or.inr (Or.inl ⟨rfl, a, b⟩)
  · rw [if_neg h1] at h
    by_cases h2 : wi q 2 4 = true
    · rw [if_pos h2] at h
      obtain ⟨a, b⟩ := key n w hw h
      obtain ⟨i, g1, g2, rfl⟩ := wi_rg (a := 2) (b := 4) (by decide) (by decide) h2
      rcases (show i = 2 ∨ i = 3 ∨ i = 4 by omega) with rfl | rfl | rfl
      · exact Or.inr (Or.inr (Or.inl ⟨rfl, a, b⟩))
      · exact Or.inr (Or.inr (Or.inr (Or.inl ⟨rfl, a, b⟩)))
      · exact Or.inr (Or.inr (Or.inr (Or.inr (Or.inl ⟨rfl, a, b⟩))))
    · rw [if_neg h2] at h
      by_cases h3 : wi q 5 9 = true
      · rw [if_pos h3] at h
        obtain ⟨i, g1, g2, rfl⟩ := wi_rg (a := 5) (b := 9) (by decide) (by decide) h3
        refine Or.inr (Or.inr (Or.inr (Or.inr (Or.inr ⟨?_, of_decide_eq_true h⟩))))
        rcases (show i = 5 ∨ i = 6 ∨ i = 7 ∨ i = 8 ∨ i = 9 by omega) with rfl | rfl | rfl | rfl | rfl
        · exact Or.inl rfl
        · exact Or.inr (Or.inl rfl)
        · exact Or.inr (Or.inr (Or.inl rfl))
        · exact Or.inr (Or.inr (Or.inr (Or.inl rfl)))
        · exact Or.inr (Or.inr (Or.inr (Or.inr rfl)))
      · rw [if_neg h3] at h; cases h
/-- the cells of a number: the class's, the reference's, the place in both -/
def PrC (kc km j : Nat) (q : Int32) (f w : Nat) : Prop := (kc = 2 ∧ km = 53 ∧ q = 0 ∧ j < f) ∨ (kc = 3 ∧ km = 54 ∧ q = 1 ∧ j < f) ∨ (kc = 5 ∧ km = 56 ∧ q = 2 ∧ j < w) ∨ (kc = 6 ∧ km = 57 ∧ q = 3 ∧ j < w) ∨ (kc = 7 ∧ km = 58 ∧ q = 4 ∧ j < w) ∨ (kc = 8 ∧ km = 59 ∧ j < 5 ∧ q = nI (5 + j))
theorem okN_cells {f w : Nat} {n q : Int32} (hf : f ≤ 6) (hw : w ≤ 12) (h : okN f w n q) : ∃ kc km j : Nat, PrC kc km j q f w ∧ (∀ σ, mX9_valueOf σ n q = some (σ.1 kc j, σ)) ∧ (∀ σ v, mX9_setValue σ n q v = some ((), gUI σ kc j v)) ∧ (∀ σ, mX10_get σ n q = some (σ.1 km j, σ)) ∧ ∀ σ v, mX10_becomes σ n q v = some ((), gUI σ km j v) := by
  rcases h with ⟨rfl, ⟨i, -, hi, rfl⟩, h0⟩ | ⟨rfl, ⟨i, -, hi, rfl⟩, h0⟩ | ⟨rfl, ⟨i, -, hi, rfl⟩, h0⟩ | ⟨rfl, ⟨i, -, hi, rfl⟩, h0⟩ | ⟨rfl, ⟨i, -, hi, rfl⟩, h0⟩ | ⟨hq, rfl⟩
  · have i6 : inbB (nI i) 6 = true := inbB_nI (by omega) (by decide)
    have c6 : Int32.toNatClampNeg (nI i) = i := nI_cl (by omega)
    exact ⟨2, 53, i, Or.inl ⟨rfl, rfl, rfl, by omega⟩, fun σ => by simp [mX9_valueOf, i6, c6], fun σ v => by simp [mX9_setValue, i6, c6, gLet], fun σ => by simp [mX10_get, i6, c6], fun σ v => by simp [mX10_becomes, i6, c6, gLet]⟩
  · have i6 : inbB (nI i) 6 = true := inbB_nI (by omega) (by decide)
    have c6 : Int32.toNatClampNeg (nI i) = i := nI_cl (by omega)
    exact ⟨3, 54, i, Or.inr (Or.inl ⟨rfl, rfl, rfl, by omega⟩), fun σ => by simp [mX9_valueOf, i6, c6], fun σ v => by simp [mX9_setValue, i6, c6, gLet], fun σ => by simp [mX10_get, i6, c6], fun σ v => by simp [mX10_becomes, i6, c6, gLet]⟩
  · have i6 : inbB (nI i) 12 = true := inbB_nI (by omega) (by decide)
    have c6 : Int32.toNatClampNeg (nI i) = i := nI_cl (by omega)
    exact ⟨5, 56, i, Or.inr (Or.inr (Or.inl ⟨rfl, rfl, rfl, by omega⟩)), fun σ => by simp [mX9_valueOf, i6, c6], fun σ v => by simp [mX9_setValue, i6, c6, gLet], fun σ => by simp [mX10_get, i6, c6], fun σ v => by simp [mX10_becomes, i6, c6, gLet]⟩
  · have i6 : inbB (nI i) 12 = true := inbB_nI (by omega) (by decide)
    have c6 : Int32.toNatClampNeg (nI i) = i := nI_cl (by omega)
    exact ⟨6, 57, i, Or.inr (Or.inr (Or.inr (Or.inl ⟨rfl, rfl, rfl, by omega⟩))), fun σ => by simp [mX9_valueOf, i6, c6], fun σ v => by simp [mX9_setValue, i6, c6, gLet], fun σ => by simp [mX10_get, i6, c6], fun σ v => by simp [mX10_becomes, i6, c6, gLet]⟩
  · have i6 : inbB (nI i) 12 = true := inbB_nI (by omega) (by decide)
    have c6 : Int32.toNatClampNeg (nI i) = i := nI_cl (by omega)
    exact ⟨7, 58, i, Or.inr (Or.inr (Or.inr (Or.inr (Or.inl ⟨rfl, rfl, rfl, by omega⟩)))), fun σ => by simp [mX9_valueOf, i6, c6], fun σ v => by simp [mX9_setValue, i6, c6, gLet], fun σ => by simp [mX10_get, i6, c6], fun σ v => by simp [mX10_becomes, i6, c6, gLet]⟩
  · rcases hq with rfl | rfl | rfl | rfl | rfl
    · exact ⟨8, 59, 0, Or.inr (Or.inr (Or.inr (Or.inr (Or.inr ⟨rfl, rfl, by omega, rfl⟩)))), fun σ => by simp [mX9_valueOf], fun σ v => by simp [mX9_setValue, gLet], fun σ => by simp [mX10_get, show inbB 0 5 = true from by decide], fun σ v => by simp [mX10_becomes, show inbB 0 5 = true from by decide, gLet]⟩
    · exact ⟨8, 59, 1, Or.inr (Or.inr (Or.inr (Or.inr (Or.inr ⟨rfl, rfl, by omega, rfl⟩)))), fun σ => by simp [mX9_valueOf], fun σ v => by simp [mX9_setValue, gLet], fun σ => by simp [mX10_get, show inbB 1 5 = true from by decide, show Int32.toNatClampNeg 1 = 1 from by decide], fun σ v => by simp [mX10_becomes, show inbB 1 5 = true from by decide, show Int32.toNatClampNeg 1 = 1 from by decide, gLet]⟩
    · exact ⟨8, 59, 2, Or.inr (Or.inr (Or.inr (Or.inr (Or.inr ⟨rfl, rfl, by omega, rfl⟩)))), fun σ => by simp [mX9_valueOf], fun σ v => by simp [mX9_setValue, gLet], fun σ => by simp [mX10_get, show inbB 2 5 = true from by decide, show Int32.toNatClampNeg 2 = 2 from by decide], fun σ v => by simp [mX10_becomes, show inbB 2 5 = true from by decide, show Int32.toNatClampNeg 2 = 2 from by decide, gLet]⟩
    · exact ⟨8, 59, 3, Or.inr (Or.inr (Or.inr (Or.inr (Or.inr ⟨rfl, rfl, by omega, rfl⟩)))), fun σ => by simp [mX9_valueOf], fun σ v => by simp [mX9_setValue, gLet], fun σ => by simp [mX10_get, show inbB 3 5 = true from by decide, show Int32.toNatClampNeg 3 = 3 from by decide], fun σ v => by simp [mX10_becomes, show inbB 3 5 = true from by decide, show Int32.toNatClampNeg 3 = 3 from by decide, gLet]⟩
    · exact ⟨8, 59, 4, Or.inr (Or.inr (Or.inr (Or.inr (Or.inr ⟨rfl, rfl, by omega, rfl⟩)))), fun σ => by simp [mX9_valueOf], fun σ v => by simp [mX9_setValue, gLet], fun σ => by simp [mX10_get, show inbB 4 5 = true from by decide, show Int32.toNatClampNeg 4 = 4 from by decide], fun σ v => by simp [mX10_becomes, show inbB 4 5 = true from by decide, show Int32.toNatClampNeg 4 = 4 from by decide, gLet]⟩
/-- both sides of a number are alike -/
theorem PrC_eq {σ : gS} {kc km j : Nat} {q : Int32} {f w : Nat} (hV : IV σ f w) (hS : IS σ) (h : PrC kc km j q f w) : σ.1 km j = σ.1 kc j := by
  obtain ⟨hf, hw, e1, e2, e3, e4, e5, e6, e7, e8, e9, e10, e12, e11⟩ := hV
  obtain ⟨q0, q1, q2, q3, q4, -⟩ := hS
  rcases h with ⟨rfl, rfl, -⟩ | ⟨rfl, rfl, -⟩ | ⟨rfl, rfl, -⟩ | ⟨rfl, rfl, -⟩ | ⟨rfl, rfl, -⟩ | ⟨rfl, rfl, hj, -⟩
  · rw [e5]
  · rw [e6]
  · rw [e8]
  · rw [e9]
  · rw [e10]
  · rcases (show j = 0 ∨ j = 1 ∨ j = 2 ∨ j = 3 ∨ j = 4 by omega) with rfl | rfl | rfl | rfl | rfl <;> assumption
theorem s_of : S_of Inv := by
  intro σ n q hI
  have hI0 := hI
  obtain ⟨f, w, b, hV, hS, hT, hL, hB, hM, hC, hF, hH⟩ := hI
  obtain ⟨hf, hw, e1, e2, e3, e4, e5, e6, e7, e8, e9, e10, e12, e11⟩ := id hV
  by_cases h10 : q = 10
  · subst h10
    cases hin : inN n w with
    | false =>
      refine ⟨-1, σ, σ, ?_, ?_, hI0⟩
      · simp [mX9_of, isNumber_eq e1 e3, gb_some, hin]
      · simp [mX10_of, isWant_eq (show w < 2 ^ 31 by omega) e4, gb_some, hin]
    | true =>
      obtain ⟨i, hi, rfl⟩ := inN_of (by omega) hin
      have i6 : inbB (nI i) 12 = true := inbB_nI (by omega) (by decide)
      have c6 : Int32.toNatClampNeg (nI i) = i := nI_cl (by omega)
      refine ⟨σ.1 4 i, σ, σ, ?_, ?_, hI0⟩
      · simp [mX9_of, isNumber_eq e1 e3, gb_some, hin, bind_id, mX9_valueOf, i6, c6]
      · simp [mX10_of, isWant_eq (show w < 2 ^ 31 by omega) e4, gb_some, hin, i6, c6, e7]
  · cases ho : isOfB f w n q with
    | false =>
      refine ⟨-1, σ, σ, ?_, ?_, hI0⟩
      · simp [mX9_of, isNumber_eq e1 e3, gb_some, h10, ho]
      · simp [mX10_of, h10, isOf_eq hf hw e2 e4, gb_some, ho]
    | true =>
      obtain ⟨kc, km, j, p1, p2, p3, p4, p5⟩ := okN_cells hf hw (isOf_ok hf hw ho)
      refine ⟨σ.1 kc j, σ, σ, ?_, ?_, hI0⟩
      · simp [mX9_of, isNumber_eq e1 e3, gb_some, h10, ho, bind_id, p2]
      · simp [mX10_of, h10, isOf_eq hf hw e2 e4, gb_some, ho, bind_id, p4, PrC_eq hV hS p1]
