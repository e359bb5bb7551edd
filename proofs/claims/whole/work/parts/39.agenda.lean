/-! ===== agenda ===== -/
def fPr (S1 S2 : Nat → Int32) (j : Nat) (a : Int32) : Int32 := if S1 j ≤ S2 j then a else ob a j
theorem prefer_loop {σ : gS} {f w : Nat} (hV : IV σ f w) (d l st : Int32) : ∀ (k i : Nat) (a : Int32) (n : Nat), i + k = f → k < n → mX8_prefer_b6 n σ d l st a (nI i) = some (lp (fPr (shS σ w d l) (shS σ w d st)) k i a, σ) := by
  have e0 : σ.1 1 0 = nI f := hV.2.2.1
  have e : σ.1 1 3 = nI w := hV.2.2.2.2.1
  have hf : f ≤ 6 := hV.1
  have hw : w ≤ 12 := hV.2.1
  intro k
  induction k with
  | zero =>
    intro i a n hi hn
    obtain ⟨n, rfl⟩ : ∃ m, n = m + 1 := ⟨n - 1, by omega⟩
    conv => lhs; unfold mX8_prefer_b6
    rw [e0, if_pos (nI_le (show f ≤ i by omega) (by omega))]
    rfl
  | succ k ih =>
    intro i a n hi hn
    obtain ⟨n, rfl⟩ : ∃ m, n = m + 1 := ⟨n - 1, by omega⟩
    conv => lhs; unfold mX8_prefer_b6
    rw [e0, if_neg (nI_ge (show i < f by omega) (by omega)), share_eq hw e (by omega), gb_some, share_eq hw e (by omega), gb_some, lp_succ]
    show (if shS σ w d l i ≤ shS σ w d st i then _ else _) = _
    unfold mX8_prefer_b43
    by_cases h : shS σ w d l i ≤ shS σ w d st i
    · have hs : fPr (shS σ w d l) (shS σ w d st) i a = a := if_pos h
      rw [hs, if_pos h, gl_eq, nI_1, ih (i + 1) _ n (by omega) (by omega)]
    · have hs : fPr (shS σ w d l) (shS σ w d st) i a = ob a i := if_neg h
      rw [hs, if_neg h, gl_eq, gl_eq, nI_1, ih (i + 1) _ n (by omega) (by omega)]
      rfl
theorem prefer_eq {σ : gS} {f w : Nat} (hV : IV σ f w) (d l st : Int32) : mX8_prefer σ d l st = some (lp (fPr (shS σ w d l) (shS σ w d st)) f 0 0, σ) := by
  unfold mX8_prefer
  rw [gl_eq, gl_eq]
  exact prefer_loop hV d l st f 0 0 1100 (by omega) (by have := hV.1; omega)
theorem more_loop {σ : gS} {f w : Nat} (hV : IV σ f w) (K : gS → Int32 → Int32 → Int32 → Int32 → Option (Int32 × gS)) (d s l st : Int32) : ∀ (k i : Nat) (a : Int32) (n : Nat), i + k = f → k < n → mX10_agenda_b57 K n σ d s st l a (nI i) = mX10_agenda_b113 K σ d s (if crB f (σ.1 3) (lp (fPr (shS σ w d l) (shS σ w d st)) k i a) = true then l else st) l := by
  have e0 : σ.1 52 0 = nI f := hV.2.2.2.1
  have hf : f ≤ 6 := hV.1
  intro k
  induction k with
  | zero =>
    intro i a n hi hn
    obtain ⟨n, rfl⟩ : ∃ m, n = m + 1 := ⟨n - 1, by omega⟩
    conv => lhs; unfold mX10_agenda_b57
    rw [e0, if_pos (nI_le (show f ≤ i by omega) (by omega)), cr10 hV, gb_some, lp_zero]
    cases crB f (σ.1 3) a
    · rw [if_neg (by decide), if_neg (by decide)]
    · rw [if_pos rfl, if_pos rfl, gl_eq]
  | succ k ih =>
    intro i a n hi hn
    obtain ⟨n, rfl⟩ : ∃ m, n = m + 1 := ⟨n - 1, by omega⟩
    conv => lhs; unfold mX10_agenda_b57
    rw [e0, if_neg (nI_ge (show i < f by omega) (by omega)), has_eq hV (by omega), gb_some, has_eq hV (by omega), gb_some, lp_succ]
    show (if shS σ w d l i ≤ shS σ w d st i then _ else _) = _
    unfold mX10_agenda_b95
    by_cases h : shS σ w d l i ≤ shS σ w d st i
    · have hs : fPr (shS σ w d l) (shS σ w d st) i a = a := if_pos h
      rw [hs, if_pos h, gl_eq, nI_1, ih (i + 1) _ n (by omega) (by omega)]
    · have hs : fPr (shS σ w d l) (shS σ w d st) i a = ob a i := if_neg h
      rw [hs, if_neg h, gl_eq, gl_eq, nI_1]
      exact ih (i + 1) _ n (by omega) (by omega)
theorem ag_loop {σ : gS} {f w : Nat} (hV : IV σ f w) (d s : Int32) : ∀ (k i : Nat) (st : Int32) (n : Nat), i + k = 25 → k < n → ∃ r : Int32, mX9_agenda_b24 n σ d s st (nI i) = some (r, σ) ∧ mX10_agenda_b32 n σ d s st (nI i) = some (r, σ) := by
  intro k
  induction k with
  | zero =>
    intro i st n hi hn
    obtain ⟨n, rfl⟩ : ∃ m, n = m + 1 := ⟨n - 1, by omega⟩
    refine ⟨st, ?_, ?_⟩
    · conv => lhs; unfold mX9_agenda_b24
      rw [if_pos (show (24 : Int32) < nI (i) from nI_lt (a := 24) (show 24 < i by omega) (by omega))]
    · conv => lhs; unfold mX10_agenda_b32
      rw [if_pos (show (25 : Int32) ≤ nI (i) from nI_le (a := 25) (show 25 ≤ i by omega) (by omega))]
  | succ k ih =>
    intro i st n hi hn
    obtain ⟨n, rfl⟩ : ∃ m, n = m + 1 := ⟨n - 1, by omega⟩
    have a1 : ¬ (24 : Int32) < nI i := nI_nlt (a := 24) (by omega) (by omega)
    have a2 : ¬ (25 : Int32) ≤ nI i := nI_ge (b := 25) (by omega) (by omega)
    have hb := and1 (s >>> (nI i &&& 31))
    cases hx : xb (s >>> (nI i &&& 31)) 0 with
    | false =>
      rw [hx, if_neg (by decide)] at hb
      obtain ⟨r, r1, r2⟩ := ih (i + 1) st n (by omega) (by omega)
      refine ⟨r, ?_, ?_⟩
      · conv => lhs; unfold mX9_agenda_b24
        rw [if_neg a1, hb, if_neg (by decide)]
        unfold mX9_agenda_b65
        rw [gl_eq, nI_1]
        exact r1
      · conv => lhs; unfold mX10_agenda_b32
        rw [if_neg a2, hb, if_pos rfl]
        unfold mX10_agenda_b113
        rw [gl_eq, nI_1]
        exact r2
    | true =>
      rw [hx, if_pos rfl] at hb
      obtain ⟨r, r1, r2⟩ := ih (i + 1) (if crB f (σ.1 3) (lp (fPr (shS σ w d (nI i)) (shS σ w d st)) f 0 0) = true then nI i else st) n (by omega) (by omega)
      refine ⟨r, ?_, ?_⟩
      · conv => lhs; unfold mX9_agenda_b24
        rw [if_neg a1, hb, if_pos rfl, prefer_eq hV, gb_some, cr9 hV, gb_some]
        unfold mX9_agenda_b65
        cases hc : crB f (σ.1 3) (lp (fPr (shS σ w d (nI i)) (shS σ w d st)) f 0 0)
        · rw [hc, if_neg (by decide)] at r1
          rw [if_neg (by decide), gl_eq, nI_1]
          exact r1
        · rw [hc, if_pos rfl] at r1
          rw [if_pos rfl, gl_eq, gl_eq, nI_1]
          exact r1
      · conv => lhs; unfold mX10_agenda_b32
        rw [if_neg a2, hb, if_neg (by decide), gl_eq, gl_eq]
        refine (more_loop hV _ d s (nI i) st f 0 0 1100 (by omega) (by have := hV.1; omega)).trans ?_
        unfold mX10_agenda_b113
        rw [gl_eq, nI_1]
        exact r2
theorem xb_mask : ∀ i, i < 32 → xb (-33554431) i = decide (i = 0 ∨ 25 ≤ i) := by decide +kernel
theorem mask_iff {x : Int32} : x &&& (-33554431) = 0 ↔ ¬ x < 0 ∧ ¬ (x &&& 1 = 1) ∧ x < 33554432 := by
  constructor
  · intro h
    have hb : ∀ i, i < 32 → (i = 0 ∨ 25 ≤ i) → xb x i = false := fun i hi ho => by
      have q : xb (x &&& (-33554431)) i = false := by rw [h, xb_0]
      rw [xb_and, xb_mask i hi, decide_eq_true ho, Bool.and_true] at q
      exact q
    have hn : x.toBitVec.toNat < 2 ^ 25 := by
      apply Nat.lt_pow_two_of_testBit
      intro i hi
      rcases Nat.lt_or_ge i 32 with q | q
      · exact hb i q (Or.inr hi)
      · exact Nat.testBit_lt_two_pow (Nat.lt_of_lt_of_le x.toBitVec.isLt (Nat.pow_le_pow_right (by decide) q))
    have ex : x = nI x.toBitVec.toNat := by
      apply Int32.toBitVec_inj.1
      show x.toBitVec = BitVec.ofNat 32 x.toBitVec.toNat
      rw [BitVec.ofNat_toNat]
      exact (BitVec.setWidth_eq x.toBitVec).symm
    refine ⟨?_, ?_, ?_⟩
    · rw [ex]; exact nI_pos (by omega)
    · rw [and1, hb 0 (by decide) (Or.inl rfl), if_neg (by decide)]; decide
    · rw [ex]; exact nI_lt (b := 33554432) (by omega) (by decide)
  · rintro ⟨h1, h2, h3⟩
    obtain ⟨m, hm, rfl⟩ := nI_of h1
    have hm2 : m < 33554432 := (nI_ltI (b := 33554432) hm (by decide)).mp h3
    apply xb_ext
    intro i hi
    rw [xb_and, xb_mask i hi, xb_0]
    by_cases ho : i = 0 ∨ 25 ≤ i
    · rw [decide_eq_true ho, Bool.and_true]
      rcases ho with rfl | ho
      · cases hx : xb (nI m) 0
        · rfl
        · exfalso
          apply h2
          rw [and1, hx, if_pos rfl]
      · show (BitVec.ofNat 32 m).getLsbD i = false
        rw [BitVec.getLsbD_ofNat, Nat.testBit_lt_two_pow (Nat.lt_of_lt_of_le (show m < 2 ^ 25 by omega) (Nat.pow_le_pow_right (by decide) ho))]
        simp
    · rw [decide_eq_false ho, Bool.and_false]
theorem s_agenda : S_agenda Inv := by
  intro σ p0 p1 hI
  have hI0 := hI
  obtain ⟨f, w, b, hV, hS, hT, hL, hB, hM, hC, hF, hH⟩ := hI
  cases hw : wi p0 0 29 with
  | false =>
    refine ⟨-1, σ, σ, ?_, ?_, hI0⟩
    · unfold mX9_agenda
      rw [w9, gb_some, hw, if_neg (by decide)]
    · unfold mX10_agenda
      rw [isDay_eq, gb_some, hw, if_neg (by decide)]
  | true =>
    by_cases hm : p1 &&& (-33554431) = 0
    · obtain ⟨h1, h2, h3⟩ := mask_iff.mp hm
      obtain ⟨r, r1, r2⟩ := ag_loop hV p0 p1 24 1 0 1100 (by omega) (by omega)
      refine ⟨r, σ, σ, ?_, ?_, hI0⟩
      · unfold mX9_agenda
        rw [w9, gb_some, hw, if_pos rfl, if_pos hm, gl_eq, gl_eq]
        exact r1
      · unfold mX10_agenda
        rw [isDay_eq, gb_some, hw, if_pos rfl, if_neg h1, if_neg h2, if_pos h3, gl_eq, gl_eq]
        exact r2
    · refine ⟨-1, σ, σ, ?_, ?_, hI0⟩
      · unfold mX9_agenda
        rw [w9, gb_some, hw, if_pos rfl, if_neg hm]
      · unfold mX10_agenda
        rw [isDay_eq, gb_some, hw, if_pos rfl]
        by_cases h1 : p1 < 0
        · rw [if_pos h1]
        · rw [if_neg h1]
          by_cases h2 : p1 &&& 1 = 1
          · rw [if_pos h2]
          · rw [if_neg h2, if_neg (fun h3 => hm (mask_iff.mpr ⟨h1, h2, h3⟩))]
