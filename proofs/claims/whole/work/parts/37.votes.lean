/-! ===== votes ===== -/
theorem wi_hi {m b : Nat} (hm : m < 2 ^ 31) : wi (nI m) 0 (nI b) = !decide (nI b < nI m) := by
  unfold wi
  rw [decide_eq_false (nI_pos hm)]
  rfl
theorem rem_n {n d : Nat} (hn : n < 2 ^ 31) (h0 : 0 < d) (hd : d < 2 ^ 31) : gRem (nI n) (nI d) = nI (n % d) := pk_rem hn h0 hd
/-- what a farm has, by the class's rows -/
def shS (σ : gS) (w : Nat) (d l : Int32) (fi : Nat) : Int32 := shV w (σ.1 4) (σ.1 5) (σ.1 6) (σ.1 7) (σ.1 2) fi d l
def fYes (S : Nat → Int32) (j : Nat) (a : Int32) : Int32 := if S j ≤ 0 then a else ob a j
theorem sayYes_loop {σ : gS} {f w : Nat} (hV : IV σ f w) (d l : Int32) : ∀ (k i : Nat) (a : Int32) (n : Nat), i + k = f → k < n → mX8_sayYes_b5 n σ d l a (nI i) = some (lp (fYes (shS σ w d l)) k i a, σ) := by
  have e0 : σ.1 1 0 = nI f := hV.2.2.1
  have e : σ.1 1 3 = nI w := hV.2.2.2.2.1
  have hf : f ≤ 6 := hV.1
  have hw : w ≤ 12 := hV.2.1
  intro k
  induction k with
  | zero =>
    intro i a n hi hn
    obtain ⟨n, rfl⟩ : ∃ m, n = m + 1 := ⟨n - 1, by omega⟩
    conv => lhs; unfold mX8_sayYes_b5
    rw [e0, if_pos (nI_le (show f ≤ i by omega) (by omega))]
    rfl
  | succ k ih =>
    intro i a n hi hn
    obtain ⟨n, rfl⟩ : ∃ m, n = m + 1 := ⟨n - 1, by omega⟩
    conv => lhs; unfold mX8_sayYes_b5
    rw [e0, if_neg (nI_ge (show i < f by omega) (by omega)), share_eq hw e (by omega), gb_some, lp_succ]
    show (if shS σ w d l i ≤ 0 then _ else _) = _
    unfold mX8_sayYes_b32
    by_cases h : shS σ w d l i ≤ 0
    · have hs : fYes (shS σ w d l) i a = a := if_pos h
      rw [hs, if_pos h, gl_eq, nI_1, ih (i + 1) _ n (by omega) (by omega)]
    · have hs : fYes (shS σ w d l) i a = ob a i := if_neg h
      rw [hs, if_neg h, gl_eq, gl_eq, nI_1, ih (i + 1) _ n (by omega) (by omega)]
      rfl
theorem sayYes_eq {σ : gS} {f w : Nat} (hV : IV σ f w) (d l : Int32) : mX8_sayYes σ d l = some (lp (fYes (shS σ w d l)) f 0 0, σ) := by
  unfold mX8_sayYes
  rw [gl_eq, gl_eq]
  exact sayYes_loop hV d l f 0 0 1100 (by omega) (by have := hV.1; omega)
theorem yesOf_loop {σ : gS} {f w : Nat} (hV : IV σ f w) (d l : Int32) : ∀ (k i : Nat) (a : Int32) (n : Nat), i + k = f → k < n → mX10_yesOf_b5 n σ d l a (nI i) = some (lp (fYes (shS σ w d l)) k i a, σ) := by
  have e0 : σ.1 52 0 = nI f := hV.2.2.2.1
  have hf : f ≤ 6 := hV.1
  intro k
  induction k with
  | zero =>
    intro i a n hi hn
    obtain ⟨n, rfl⟩ : ∃ m, n = m + 1 := ⟨n - 1, by omega⟩
    conv => lhs; unfold mX10_yesOf_b5
    rw [e0, if_pos (nI_le (show f ≤ i by omega) (by omega))]
    rfl
  | succ k ih =>
    intro i a n hi hn
    obtain ⟨n, rfl⟩ : ∃ m, n = m + 1 := ⟨n - 1, by omega⟩
    conv => lhs; unfold mX10_yesOf_b5
    rw [e0, if_neg (nI_ge (show i < f by omega) (by omega)), has_eq hV (by omega), gb_some, lp_succ]
    show (if shS σ w d l i ≤ 0 then _ else _) = _
    unfold mX10_yesOf_b32
    by_cases h : shS σ w d l i ≤ 0
    · have hs : fYes (shS σ w d l) i a = a := if_pos h
      rw [hs, if_pos h, gl_eq, nI_1, ih (i + 1) _ n (by omega) (by omega)]
    · have hs : fYes (shS σ w d l) i a = ob a i := if_neg h
      rw [hs, if_neg h, gl_eq, gl_eq, nI_1, ih (i + 1) _ n (by omega) (by omega)]
      rfl
theorem yesOf_eq {σ : gS} {f w : Nat} (hV : IV σ f w) (d l : Int32) : mX10_yesOf σ d l = some (lp (fYes (shS σ w d l)) f 0 0, σ) := by
  unfold mX10_yesOf
  rw [gl_eq, gl_eq]
  exact yesOf_loop hV d l f 0 0 1100 (by omega) (by have := hV.1; omega)
/-- whether so many voices carry -/
def crB (f : Nat) (vo : Nat → Int32) (x : Int32) : Bool := !decide (2 * lp (fVo vo x) f 0 0 ≤ lp (fVo vo (-1)) f 0 0)
theorem cr9 {σ : gS} {f w : Nat} (hV : IV σ f w) (x : Int32) : mX8_carries σ x = some (crB f (σ.1 3) x, σ) := carries9_eq hV.1 hV.2.2.1 x
theorem cr10 {σ : gS} {f w : Nat} (hV : IV σ f w) (x : Int32) : mX10_carries σ x = some (crB f (σ.1 3) x, σ) := by
  rw [carries10_eq hV.1 hV.2.2.2.1, hV.2.2.2.2.2.2.2.1]
  rfl
def fSw (f : Nat) (vo : Nat → Int32) (x : Int32) (j : Nat) (a : Int32) : Int32 := if b2i (crB f vo (x ^^^ (1 <<< (nI j &&& 31)))) = b2i (crB f vo x) then a else ob a j
theorem swing_loop {σ : gS} {f w : Nat} (hV : IV σ f w) (x : Int32) : ∀ (k i : Nat) (a : Int32) (n : Nat), i + k = f → k < n → mX8_swing_b4 n σ x a (nI i) = some (lp (fSw f (σ.1 3) x) k i a, σ) := by
  have e0 : σ.1 1 0 = nI f := hV.2.2.1
  have hf : f ≤ 6 := hV.1
  intro k
  induction k with
  | zero =>
    intro i a n hi hn
    obtain ⟨n, rfl⟩ : ∃ m, n = m + 1 := ⟨n - 1, by omega⟩
    conv => lhs; unfold mX8_swing_b4
    rw [e0, if_pos (nI_le (show f ≤ i by omega) (by omega))]
    rfl
  | succ k ih =>
    intro i a n hi hn
    obtain ⟨n, rfl⟩ : ∃ m, n = m + 1 := ⟨n - 1, by omega⟩
    conv => lhs; unfold mX8_swing_b4
    rw [e0, if_neg (nI_ge (show i < f by omega) (by omega)), cr9 hV, gb_some, cr9 hV, gb_some, lp_succ]
    unfold mX8_swing_b35
    by_cases h : b2i (crB f (σ.1 3) (x ^^^ (1 <<< (nI i &&& 31)))) = b2i (crB f (σ.1 3) x)
    · have hs : fSw f (σ.1 3) x i a = a := if_pos h
      rw [hs, if_pos h, gl_eq, nI_1, ih (i + 1) _ n (by omega) (by omega)]
    · have hs : fSw f (σ.1 3) x i a = ob a i := if_neg h
      rw [hs, if_neg h, gl_eq, gl_eq, nI_1, ih (i + 1) _ n (by omega) (by omega)]
      rfl
theorem swing10_loop {σ : gS} {f w : Nat} (hV : IV σ f w) (x : Int32) : ∀ (k i : Nat) (a : Int32) (n : Nat), i + k = f → k < n → mX10_vote_b62 n σ x a (nI i) = some (lp (fSw f (σ.1 3) x) k i a, σ) := by
  have e0 : σ.1 52 0 = nI f := hV.2.2.2.1
  have hf : f ≤ 6 := hV.1
  intro k
  induction k with
  | zero =>
    intro i a n hi hn
    obtain ⟨n, rfl⟩ : ∃ m, n = m + 1 := ⟨n - 1, by omega⟩
    conv => lhs; unfold mX10_vote_b62
    rw [e0, if_pos (nI_le (show f ≤ i by omega) (by omega))]
    rfl
  | succ k ih =>
    intro i a n hi hn
    obtain ⟨n, rfl⟩ : ∃ m, n = m + 1 := ⟨n - 1, by omega⟩
    conv => lhs; unfold mX10_vote_b62
    rw [e0, if_neg (nI_ge (show i < f by omega) (by omega)), cr10 hV, gb_some, cr10 hV, gb_some, lp_succ]
    unfold mX10_vote_b98
    by_cases h : b2i (crB f (σ.1 3) (x ^^^ (1 <<< (nI i &&& 31)))) = b2i (crB f (σ.1 3) x)
    · have hs : fSw f (σ.1 3) x i a = a := if_pos h
      rw [hs, if_pos h, gl_eq, nI_1, ih (i + 1) _ n (by omega) (by omega)]
    · have hs : fSw f (σ.1 3) x i a = ob a i := if_neg h
      rw [hs, if_neg h, gl_eq, gl_eq, nI_1, ih (i + 1) _ n (by omega) (by omega)]
      rfl
theorem s_vote : S_vote Inv := by
  intro σ p0 p1 hI
  have hI0 := hI
  obtain ⟨f, w, b, hV, hS, hT, hL, hB, hM, hC, hF, hH⟩ := hI
  have bad9 : (p0 < 0 ∨ 29 < p0 / 100 ∨ 24 < gRem p0 100) → mX9_vote σ p0 p1 = some (-1, σ) := fun h => by
    unfold mX9_vote
    rcases h with h | h | h
    · rw [if_pos h]
    · by_cases h1 : p0 < 0
      · rw [if_pos h1]
      · rw [if_neg h1, if_pos h]
    · by_cases h1 : p0 < 0
      · rw [if_pos h1]
      · rw [if_neg h1]
        by_cases h2 : 29 < p0 / 100
        · rw [if_pos h2]
        · rw [if_neg h2, if_pos h]
  by_cases h0 : p0 < 0
  · refine ⟨-1, σ, σ, bad9 (Or.inl h0), ?_, hI0⟩
    unfold mX10_vote mX10_isHours
    rw [if_pos h0, gb_some, if_neg (by decide)]
  · obtain ⟨m, hm, rfl⟩ := nI_of h0
    have ed : nI m / 100 = nI (m / 100) := pk_div (d := 100) hm (by decide) (by decide)
    have er : gRem (nI m) 100 = nI (m % 100) := rem_n (d := 100) hm (by decide) (by decide)
    by_cases h29 : 29 < m / 100
    · have hx : (29 : Int32) < nI (m / 100) := nI_lt (a := 29) h29 (by omega)
      refine ⟨-1, σ, σ, bad9 (Or.inr (Or.inl (by rw [ed]; exact hx))), ?_, hI0⟩
      unfold mX10_vote mX10_isHours
      rw [if_neg h0, isDay_eq, gb_some, ed, show wi (nI (m / 100)) 0 29 = false from wi_no (a := 0) (b := 29) (by omega) (Or.inr h29) (by decide), if_neg (by decide), gb_some, if_neg (by decide)]
    · have hx : ¬ (29 : Int32) < nI (m / 100) := nI_nlt (a := 29) (by omega) (by omega)
      have hdw : wi (nI (m / 100)) 0 29 = true := rg_wi (a := 0) (b := 29) (by decide) ⟨m / 100, by omega, by omega, rfl⟩
      by_cases h24 : 24 < m % 100
      · have hy : (24 : Int32) < nI (m % 100) := nI_lt (a := 24) h24 (by omega)
        have hy2 : (25 : Int32) ≤ nI (m % 100) := nI_le (a := 25) (by omega) (by omega)
        refine ⟨-1, σ, σ, bad9 (Or.inr (Or.inr (by rw [er]; exact hy))), ?_, hI0⟩
        unfold mX10_vote mX10_isHours
        rw [if_neg h0, isDay_eq, gb_some, ed, hdw, if_pos rfl, er, if_pos hy2, gb_some, if_neg (by decide)]
      · have hy : ¬ (24 : Int32) < nI (m % 100) := nI_nlt (a := 24) (by omega) (by omega)
        have hy2 : ¬ (25 : Int32) ≤ nI (m % 100) := nI_ge (b := 25) (by omega) (by omega)
        cases hw : wi p1 0 2 with
        | false =>
          refine ⟨-1, σ, σ, ?_, ?_, hI0⟩
          · unfold mX9_vote
            rw [if_neg h0, ed, if_neg hx, er, if_neg hy, w9, gb_some, hw, if_neg (by decide)]
          · unfold mX10_vote mX10_isHours
            rw [if_neg h0, isDay_eq, gb_some, ed, hdw, if_pos rfl, er, if_neg hy2, gb_some, if_pos rfl, w10, gb_some, hw, if_neg (by decide)]
        | true =>
          obtain ⟨Y, hY⟩ : ∃ Y, Y = lp (fYes (shS σ w (nI (m / 100)) (nI (m % 100)))) f 0 0 := ⟨_, rfl⟩
          have A9 : ∀ x, (if p1 = 0 then (some (Y, σ)) else (if p1 = 2 then (gBind (mX8_swing σ Y) (fun r8 s9 => some (r8, s9))) else (gBind (mX8_carries σ Y) (fun r6 s7 => if r6 = true then (some (1, s7)) else (some (0, s7)))))) = x → mX9_vote σ (nI m) p1 = x := fun x hx9 => by
            unfold mX9_vote
            rw [if_neg h0, ed, if_neg hx, er, if_neg hy, w9, gb_some, hw, if_pos rfl, sayYes_eq hV, gb_some, gl_eq, ← hY]
            exact hx9
          have A10 : ∀ x, (if p1 = 0 then (some (Y, σ)) else (if p1 = 1 then (gBind (mX10_carries σ Y) (fun r22 s23 => if r22 = true then (some (1, s23)) else (some (0, s23)))) else (gLet 0 (fun v8 => gLet 0 (fun v9 => (mX10_vote_b62  1100 σ Y v8 v9)))))) = x → mX10_vote σ (nI m) p1 = x := fun x hx9 => by
            unfold mX10_vote mX10_isHours
            rw [if_neg h0, isDay_eq, gb_some, ed, hdw, if_pos rfl, er, if_neg hy2, gb_some, if_pos rfl, w10, gb_some, hw, if_pos rfl, yesOf_eq hV, gb_some, gl_eq, ← hY]
            exact hx9
          obtain ⟨q, -, hq, rfl⟩ := wi_rg (a := 0) (b := 2) (by decide) (by decide) hw
          rcases (show q = 0 ∨ q = 1 ∨ q = 2 by omega) with rfl | rfl | rfl
          · exact ⟨Y, σ, σ, A9 _ (if_pos rfl), A10 _ (if_pos rfl), hI0⟩
          · refine ⟨if crB f (σ.1 3) Y = true then 1 else 0, σ, σ, A9 _ ?_, A10 _ ?_, hI0⟩
            · rw [if_neg (by decide), if_neg (by decide), cr9 hV, gb_some]
              cases crB f (σ.1 3) Y <;> rfl
            · rw [if_neg (by decide), if_pos (by decide), cr10 hV, gb_some]
              cases crB f (σ.1 3) Y <;> rfl
          · refine ⟨lp (fSw f (σ.1 3) Y) f 0 0, σ, σ, A9 _ ?_, A10 _ ?_, hI0⟩
            · rw [if_neg (by decide), if_pos (by decide), bind_id]
              unfold mX8_swing
              rw [gl_eq, gl_eq]
              exact swing_loop hV Y f 0 0 1100 (by omega) (by have := hV.1; omega)
            · rw [if_neg (by decide), if_neg (by decide), gl_eq, gl_eq]
              exact swing10_loop hV Y f 0 0 1100 (by omega) (by have := hV.1; omega)
theorem most_loop {σ : gS} {f w : Nat} (hV : IV σ f w) (d : Int32) : ∀ (k n : Nat), k + 1 < n → k < 100 → ∃ r : Int32, mX9_most_b15 n σ d (nI k) = some (r, σ) ∧ mX10_most_b12 n σ d (nI k) = some (r, σ) := by
  intro k
  induction k with
  | zero =>
    intro n hn _
    obtain ⟨n, rfl⟩ : ∃ m, n = m + 1 + 1 := ⟨n - 2, by omega⟩
    cases hc : crB f (σ.1 3) (lp (fYes (shS σ w d (nI 0))) f 0 0) with
    | true =>
      refine ⟨nI 0, ?_, ?_⟩
      · conv => lhs; unfold mX9_most_b15
        rw [if_neg (by decide), sayYes_eq hV, gb_some, cr9 hV, gb_some, hc, if_pos rfl]
      · conv => lhs; unfold mX10_most_b12
        rw [if_neg (by decide), yesOf_eq hV, gb_some, cr10 hV, gb_some, hc, if_pos rfl]
    | false =>
      refine ⟨-2, ?_, ?_⟩
      · conv => lhs; unfold mX9_most_b15
        rw [if_neg (by decide), sayYes_eq hV, gb_some, cr9 hV, gb_some, hc, if_neg (by decide), gl_eq]
        conv => lhs; unfold mX9_most_b15
        rw [if_pos (by decide)]
      · conv => lhs; unfold mX10_most_b12
        rw [if_neg (by decide), yesOf_eq hV, gb_some, cr10 hV, gb_some, hc, if_neg (by decide), gl_eq]
        conv => lhs; unfold mX10_most_b12
        rw [if_pos (by decide)]
  | succ k ih =>
    intro n hn hk
    obtain ⟨n, rfl⟩ : ∃ m, n = m + 1 := ⟨n - 1, by omega⟩
    cases hc : crB f (σ.1 3) (lp (fYes (shS σ w d (nI (k + 1)))) f 0 0) with
    | true =>
      refine ⟨nI (k + 1), ?_, ?_⟩
      · conv => lhs; unfold mX9_most_b15
        rw [if_neg (nI_pos (by omega)), sayYes_eq hV, gb_some, cr9 hV, gb_some, hc, if_pos rfl]
      · conv => lhs; unfold mX10_most_b12
        rw [if_neg (nI_pos (by omega)), yesOf_eq hV, gb_some, cr10 hV, gb_some, hc, if_pos rfl]
    | false =>
      obtain ⟨r, h1, h2⟩ := ih n (by omega) (by omega)
      refine ⟨r, ?_, ?_⟩
      · conv => lhs; unfold mX9_most_b15
        rw [if_neg (nI_pos (by omega)), sayYes_eq hV, gb_some, cr9 hV, gb_some, hc, if_neg (by decide), gl_eq, pk_m1]
        exact h1
      · conv => lhs; unfold mX10_most_b12
        rw [if_neg (nI_pos (by omega)), yesOf_eq hV, gb_some, cr10 hV, gb_some, hc, if_neg (by decide), gl_eq, pk_m1]
        exact h2
theorem s_most : S_most Inv := by
  intro σ p0 hI
  have hI0 := hI
  obtain ⟨f, w, b, hV, hS, hT, hL, hB, hM, hC, hF, hH⟩ := hI
  cases hw : wi p0 0 29 with
  | false =>
    refine ⟨-1, σ, σ, ?_, ?_, hI0⟩
    · unfold mX9_most
      rw [w9, gb_some, hw, if_neg (by decide)]
    · unfold mX10_most
      rw [isDay_eq, gb_some, hw, if_neg (by decide)]
  | true =>
    obtain ⟨r, h1, h2⟩ := most_loop hV p0 24 1100 (by omega) (by omega)
    refine ⟨r, σ, σ, ?_, ?_, hI0⟩
    · unfold mX9_most
      rw [w9, gb_some, hw, if_pos rfl, gl_eq]
      exact h1
    · unfold mX10_most
      rw [isDay_eq, gb_some, hw, if_pos rfl, gl_eq]
      exact h2
