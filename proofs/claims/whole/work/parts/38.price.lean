/-! ===== price ===== -/
def fWo (dy hr gn : Nat → Int32) (d p : Int32) (j : Nat) (a : Int32) : Int32 := if dy j = d then (if gn j / hr j < p then a else gMax a (hr j)) else a
theorem worth_loop {σ : gS} {f w : Nat} (hV : IV σ f w) (d p : Int32) : ∀ (k i : Nat) (a : Int32) (n : Nat), i + k = w → k < n → mX8_greatestWorth_b5 n σ d p a (nI i) = some (lp (fWo (σ.1 5) (σ.1 6) (σ.1 7) d p) k i a, σ) := by
  have e : σ.1 1 3 = nI w := hV.2.2.2.2.1
  have hw : w ≤ 12 := hV.2.1
  have hh : ∀ j, j < w → rg (σ.1 6 j) 1 24 := fun j hj => (hV.2.2.2.2.2.2.2.2.2.2.2.2.2 j hj).2
  intro k
  induction k with
  | zero =>
    intro i a n hi hn
    obtain ⟨n, rfl⟩ : ∃ m, n = m + 1 := ⟨n - 1, by omega⟩
    conv => lhs; unfold mX8_greatestWorth_b5
    rw [e, if_pos (nI_le (show w ≤ i by omega) (by omega))]
    rfl
  | succ k ih =>
    intro i a n hi hn
    obtain ⟨n, rfl⟩ : ∃ m, n = m + 1 := ⟨n - 1, by omega⟩
    have ib : inbB (nI i) 12 = true := inbB_nI (by omega) (by decide)
    have ci : Int32.toNatClampNeg (nI i) = i := nI_cl (by omega)
    obtain ⟨h, g1, g2, g3⟩ := hh i (by omega)
    have z1 : ¬ σ.1 6 i ≤ 0 := by rw [g3]; exact nI_nle (by omega) (by omega)
    have z2 : ¬ σ.1 6 i = 0 := by rw [g3]; exact nI_ne0 (by omega) (by omega)
    conv => lhs; unfold mX8_greatestWorth_b5
    rw [e, if_neg (nI_ge (show i < w by omega) (by omega)), if_pos ib, ci, lp_succ]
    unfold mX8_greatestWorth_b66
    by_cases h1 : σ.1 5 i = d
    · rw [if_pos h1, if_pos ib, if_neg z1, if_pos ib, if_pos ib, if_neg z2]
      by_cases h2 : σ.1 7 i / σ.1 6 i < p
      · have hs : fWo (σ.1 5) (σ.1 6) (σ.1 7) d p i a = a := by unfold fWo; rw [if_pos h1, if_pos h2]
        rw [hs, if_pos h2, gl_eq, nI_1, ih (i + 1) _ n (by omega) (by omega)]
      · have hs : fWo (σ.1 5) (σ.1 6) (σ.1 7) d p i a = gMax a (σ.1 6 i) := by unfold fWo; rw [if_pos h1, if_neg h2]
        rw [hs, if_neg h2, if_pos ib, gl_eq, gl_eq, nI_1, ih (i + 1) _ n (by omega) (by omega)]
    · have hs : fWo (σ.1 5) (σ.1 6) (σ.1 7) d p i a = a := by unfold fWo; rw [if_neg h1]
      rw [hs, if_neg h1, gl_eq, nI_1, ih (i + 1) _ n (by omega) (by omega)]
/-- hours sold for p -/
def sdV (σ : gS) (w : Nat) (d p : Int32) : Int32 := gMax 0 (σ.1 8 0 - lp (fWo (σ.1 5) (σ.1 6) (σ.1 7) d p) w 0 0)
theorem sold9 {σ : gS} {f w : Nat} (hV : IV σ f w) (d p : Int32) : mX9_sold σ d p = some (sdV σ w d p, σ) := by
  unfold mX9_sold mX8_greatestWorth
  rw [gl_eq, gl_eq, show mX8_greatestWorth_b5 1100 σ d p 0 0 = _ from worth_loop hV d p w 0 0 1100 (by omega) (by have := hV.2.1; omega), gb_some]
  rfl
theorem sold10_loop {σ : gS} {f w : Nat} (hV : IV σ f w) (hS : IS σ) (d p : Int32) : ∀ (k i : Nat) (a : Int32) (n : Nat), i + k = w → k < n → mX10_sold_b5 n σ d p a (nI i) = some (gMax 0 (σ.1 8 0 - lp (fWo (σ.1 5) (σ.1 6) (σ.1 7) d p) k i a), σ) := by
  obtain ⟨hf, hw, e1, e2, e3, e4, e5, e6, e7, e8, e9, e10, e12, e11⟩ := id hV
  have hh : ∀ j, j < w → rg (σ.1 6 j) 1 24 := fun j hj => (e11 j hj).2
  intro k
  induction k with
  | zero =>
    intro i a n hi hn
    obtain ⟨n, rfl⟩ : ∃ m, n = m + 1 := ⟨n - 1, by omega⟩
    conv => lhs; unfold mX10_sold_b5
    rw [e4, if_pos (nI_le (show w ≤ i by omega) (by omega)), if_pos (by decide), show Int32.toNatClampNeg 0 = 0 from by decide, hS.1]
    rfl
  | succ k ih =>
    intro i a n hi hn
    obtain ⟨n, rfl⟩ : ∃ m, n = m + 1 := ⟨n - 1, by omega⟩
    have ib : inbB (nI i) 12 = true := inbB_nI (by omega) (by decide)
    have ci : Int32.toNatClampNeg (nI i) = i := nI_cl (by omega)
    obtain ⟨h, g1, g2, g3⟩ := hh i (by omega)
    have z2 : ¬ σ.1 6 i = 0 := by rw [g3]; exact nI_ne0 (by omega) (by omega)
    conv => lhs; unfold mX10_sold_b5
    rw [e4, if_neg (nI_ge (show i < w by omega) (by omega)), if_pos ib, ci, lp_succ, e8, e9, e10]
    unfold mX10_sold_b56
    by_cases h1 : σ.1 5 i = d
    · rw [if_pos h1, if_pos ib, if_pos ib, if_neg z2]
      by_cases h2 : σ.1 7 i / σ.1 6 i < p
      · have hs : fWo (σ.1 5) (σ.1 6) (σ.1 7) d p i a = a := by unfold fWo; rw [if_pos h1, if_pos h2]
        rw [hs, if_pos h2, gl_eq, nI_1, ih (i + 1) _ n (by omega) (by omega)]
      · have hs : fWo (σ.1 5) (σ.1 6) (σ.1 7) d p i a = gMax a (σ.1 6 i) := by unfold fWo; rw [if_pos h1, if_neg h2]
        rw [hs, if_neg h2, if_pos ib, gl_eq, gl_eq, nI_1, ih (i + 1) _ n (by omega) (by omega)]
    · have hs : fWo (σ.1 5) (σ.1 6) (σ.1 7) d p i a = a := by unfold fWo; rw [if_neg h1]
      rw [hs, if_neg h1, gl_eq, nI_1, ih (i + 1) _ n (by omega) (by omega)]
theorem sold10 {σ : gS} {f w : Nat} (hV : IV σ f w) (hS : IS σ) (d p : Int32) : mX10_sold σ d p = some (sdV σ w d p, σ) := by
  unfold mX10_sold
  rw [gl_eq, gl_eq]
  exact (sold10_loop hV hS d p w 0 0 1100 (by omega) (by have := hV.2.1; omega)).trans rfl
theorem price_loop {σ : gS} {f w : Nat} (hV : IV σ f w) (hS : IS σ) (d : Int32) : ∀ (k i : Nat) (bp : Int32) (n : Nat), i + k = 100 → k < n → ∃ r : Int32, mX9_bestPrice_b7 n σ d bp (bp * sdV σ w d bp) (nI i) = some (r, σ) ∧ mX10_price_b35 n σ d bp (nI i) = some (r, σ) := by
  intro k
  induction k with
  | zero =>
    intro i bp n hi hn
    obtain ⟨n, rfl⟩ : ∃ m, n = m + 1 := ⟨n - 1, by omega⟩
    refine ⟨bp, ?_, ?_⟩
    · conv => lhs; unfold mX9_bestPrice_b7
      rw [if_pos (show (99 : Int32) < nI (i) from nI_lt (a := 99) (show 99 < i by omega) (by omega))]
    · conv => lhs; unfold mX10_price_b35
      rw [if_pos (show (100 : Int32) ≤ nI (i) from nI_le (a := 100) (show 100 ≤ i by omega) (by omega))]
  | succ k ih =>
    intro i bp n hi hn
    obtain ⟨n, rfl⟩ : ∃ m, n = m + 1 := ⟨n - 1, by omega⟩
    have a1 : ¬ (99 : Int32) < nI i := nI_nlt (a := 99) (by omega) (by omega)
    have a2 : ¬ (100 : Int32) ≤ nI i := nI_ge (b := 100) (by omega) (by omega)
    by_cases h : nI i * sdV σ w d (nI i) ≤ bp * sdV σ w d bp
    · obtain ⟨r, r1, r2⟩ := ih (i + 1) bp n (by omega) (by omega)
      refine ⟨r, ?_, ?_⟩
      · conv => lhs; unfold mX9_bestPrice_b7
        rw [if_neg a1, sold9 hV, gb_some, gl_eq, if_pos h]
        unfold mX9_bestPrice_b38
        rw [gl_eq, nI_1]
        exact r1
      · conv => lhs; unfold mX10_price_b35
        rw [if_neg a2, sold10 hV hS, gb_some, sold10 hV hS, gb_some, if_pos h]
        unfold mX10_price_b66
        rw [gl_eq, nI_1]
        exact r2
    · obtain ⟨r, r1, r2⟩ := ih (i + 1) (nI i) n (by omega) (by omega)
      refine ⟨r, ?_, ?_⟩
      · conv => lhs; unfold mX9_bestPrice_b7
        rw [if_neg a1, sold9 hV, gb_some, gl_eq, if_neg h, gl_eq, gl_eq]
        unfold mX9_bestPrice_b38
        rw [gl_eq, nI_1]
        exact r1
      · conv => lhs; unfold mX10_price_b35
        rw [if_neg a2, sold10 hV hS, gb_some, sold10 hV hS, gb_some, if_neg h, gl_eq]
        unfold mX10_price_b66
        rw [gl_eq, nI_1]
        exact r2
theorem s_price : S_price Inv := by
  intro σ p0 p1 hI
  have hI0 := hI
  obtain ⟨f, w, b, hV, hS, hT, hL, hB, hM, hC, hF, hH⟩ := hI
  cases hw : wi p0 0 29 with
  | false =>
    refine ⟨-1, σ, σ, ?_, ?_, hI0⟩
    · unfold mX9_price
      rw [w9, gb_some, hw, if_neg (by decide)]
    · unfold mX10_price
      rw [isDay_eq, gb_some, hw, if_neg (by decide)]
  | true =>
    cases hp : wi p1 (-1) 99 with
    | false =>
      refine ⟨-1, σ, σ, ?_, ?_, hI0⟩
      · unfold mX9_price
        rw [w9, gb_some, hw, if_pos rfl, w9, gb_some, hp, if_neg (by decide)]
      · unfold mX10_price
        rw [isDay_eq, gb_some, hw, if_pos rfl, w10, gb_some, hp, if_neg (by decide)]
    | true =>
      by_cases hm : p1 = -1
      · subst hm
        obtain ⟨r, r1, r2⟩ := price_loop hV hS p0 99 1 0 1100 (by omega) (by omega)
        rw [Int32.zero_mul] at r1
        refine ⟨r, σ, σ, ?_, ?_, hI0⟩
        · unfold mX9_price
          rw [w9, gb_some, hw, if_pos rfl, w9, gb_some, hp, if_pos rfl, if_pos rfl, bind_id]
          unfold mX9_bestPrice
          rw [gl_eq, gl_eq, gl_eq]
          exact r1
        · unfold mX10_price
          rw [isDay_eq, gb_some, hw, if_pos rfl, w10, gb_some, hp, if_pos rfl, if_pos (by decide), gl_eq, gl_eq]
          exact r2
      · have hn : ¬ p1 < 0 := by
          intro q
          unfold wi at hp
          simp only [Bool.and_eq_true, Bool.not_eq_true', decide_eq_false_iff_not] at hp
          have h1 := hp.1
          rw [Int32.lt_iff_toInt_lt] at h1 q
          apply hm
          apply Int32.toInt_inj.mp
          have e1 : (-1 : Int32).toInt = -1 := by decide
          have e0 : (0 : Int32).toInt = 0 := by decide
          omega
        refine ⟨sdV σ w p0 p1, σ, σ, ?_, ?_, hI0⟩
        · unfold mX9_price
          rw [w9, gb_some, hw, if_pos rfl, w9, gb_some, hp, if_pos rfl, if_neg hm, bind_id, sold9 hV]
        · unfold mX10_price
          rw [isDay_eq, gb_some, hw, if_pos rfl, w10, gb_some, hp, if_pos rfl, if_neg hn, bind_id, sold10 hV hS]
