/-! ===== harm and share, in the class ===== -/
/-- a want of farm f is met -/
def own1 (fo dy hr : Nat → Int32) (f d l : Int32) (j : Nat) : Bool := decide (fo j = f) && mt dy hr d l j
def fAny (fo dy hr : Nat → Int32) (f d l : Int32) (j : Nat) (a : Bool) : Bool := a || own1 fo dy hr f d l j
theorem any_true {fo dy hr : Nat → Int32} {f d l : Int32} : ∀ k i : Nat, lp (fAny fo dy hr f d l) k i true = true := by
  intro k
  induction k with
  | zero => intro i; rfl
  | succ k ih => intro i; rw [lp_succ]; exact ih (i + 1)
theorem harm_loop {σ : gS} {w : Nat} (hw : w ≤ 12) (e : σ.1 1 3 = nI w) {fi : Nat} (hfi : fi < 6) (d l : Int32) : ∀ (k i n : Nat), i + k = w → k < n → mX8_harm_b3 n σ (nI fi) d l (nI i) = some (if lp (fAny (σ.1 4) (σ.1 5) (σ.1 6) (nI fi) d l) k i false = true then 0 else σ.1 2 fi * l, σ) := by
  intro k
  induction k with
  | zero =>
    intro i  n hi hn
    obtain ⟨n, rfl⟩ : ∃ m, n = m + 1 := ⟨n - 1, by omega⟩
    conv => lhs; unfold mX8_harm_b3
    rw [e, if_pos (nI_le (show w ≤ i by omega) (by omega))]
    rw [if_pos (inbB_nI hfi (by decide)), nI_cl (show fi < 2 ^ 31 by omega), lp_zero, if_neg (by decide)]
  | succ k ih =>
    intro i  n hi hn
    obtain ⟨n, rfl⟩ : ∃ m, n = m + 1 := ⟨n - 1, by omega⟩
    have ib : inbB (nI i) 12 = true := inbB_nI (by omega) (by decide)
    have ci : Int32.toNatClampNeg (nI i) = i := nI_cl (by omega)
    conv => lhs; unfold mX8_harm_b3
    rw [e, if_neg (nI_ge (show i < w by omega) (by omega))]
    rw [if_pos ib, ci, lp_succ]
    unfold mX8_harm_b36
    by_cases h1 : σ.1 4 i = nI fi
    · rw [if_pos h1, isMet_eq (by omega), gb_some]
      cases hm : mt (σ.1 5) (σ.1 6) d l i
      · have hs : fAny (σ.1 4) (σ.1 5) (σ.1 6) (nI fi) d l i false = false := by unfold fAny own1; rw [hm, decide_eq_true h1]; rfl
        rw [hs, if_neg (by decide), gl_eq, nI_1, ih (i + 1) n (by omega) (by omega)]
      · have hs : fAny (σ.1 4) (σ.1 5) (σ.1 6) (nI fi) d l i false = true := by unfold fAny own1; rw [hm, decide_eq_true h1]; rfl
        rw [hs, if_pos rfl, any_true, if_pos rfl]
    · have hs : fAny (σ.1 4) (σ.1 5) (σ.1 6) (nI fi) d l i false = false := by unfold fAny own1; rw [decide_eq_false h1]; rfl
      rw [hs, if_neg h1, gl_eq, nI_1, ih (i + 1) n (by omega) (by omega)]
/-- HARM of a farm, by the rows -/
def hmV (w : Nat) (fo dy hr be : Nat → Int32) (fi : Nat) (d l : Int32) : Int32 := if lp (fAny fo dy hr (nI fi) d l) w 0 false = true then 0 else be fi * l
theorem harm_eq {σ : gS} {w : Nat} (hw : w ≤ 12) (e : σ.1 1 3 = nI w) {fi : Nat} (hfi : fi < 6) (d l : Int32) : mX8_harm σ (nI fi) d l = some (hmV w (σ.1 4) (σ.1 5) (σ.1 6) (σ.1 2) fi d l, σ) := by
  unfold mX8_harm
  rw [gl_eq]
  exact harm_loop hw e hfi d l w 0 1100 (by omega) (by omega)
def fHarm (w : Nat) (fo dy hr be : Nat → Int32) (d l : Int32) (j : Nat) (a : Int32) : Int32 := a + hmV w fo dy hr be j d l
theorem harmAll_loop {σ : gS} {f w : Nat} (hf : f ≤ 6) (hw : w ≤ 12) (e0 : σ.1 1 0 = nI f) (e : σ.1 1 3 = nI w) (d l : Int32) : ∀ (k i : Nat) (a : Int32) (n : Nat), i + k = f → k < n → mX8_harmOfAll_b5 n σ d l a (nI i) = some (lp (fHarm w (σ.1 4) (σ.1 5) (σ.1 6) (σ.1 2) d l) k i a, σ) := by
  intro k
  induction k with
  | zero =>
    intro i a n hi hn
    obtain ⟨n, rfl⟩ : ∃ m, n = m + 1 := ⟨n - 1, by omega⟩
    conv => lhs; unfold mX8_harmOfAll_b5
    rw [e0, if_pos (nI_le (show f ≤ i by omega) (by omega))]
    rfl
  | succ k ih =>
    intro i a n hi hn
    obtain ⟨n, rfl⟩ : ∃ m, n = m + 1 := ⟨n - 1, by omega⟩
    have ib : inbB (nI i) 6 = true := inbB_nI (by omega) (by decide)
    have ci : Int32.toNatClampNeg (nI i) = i := nI_cl (by omega)
    conv => lhs; unfold mX8_harmOfAll_b5
    rw [e0, if_neg (nI_ge (show i < f by omega) (by omega))]
    rw [harm_eq hw e (by omega), gb_some, gl_eq, gl_eq, nI_1, ih (i + 1) _ n (by omega) (by omega), lp_succ]
    rfl
theorem harmAll_eq {σ : gS} {f w : Nat} (hf : f ≤ 6) (hw : w ≤ 12) (e0 : σ.1 1 0 = nI f) (e : σ.1 1 3 = nI w) (d l : Int32) : mX8_harmOfAll σ d l = some (lp (fHarm w (σ.1 4) (σ.1 5) (σ.1 6) (σ.1 2) d l) f 0 0, σ) := by
  unfold mX8_harmOfAll
  rw [gl_eq, gl_eq]
  exact harmAll_loop hf hw e0 e d l f 0 0 1100 (by omega) (by omega)
def fShare (fo dy hr gn : Nat → Int32) (f d l : Int32) (j : Nat) (a : Int32) : Int32 := if own1 fo dy hr f d l j = true then a + gn j else a
theorem share_loop {σ : gS} {w : Nat} (hw : w ≤ 12) (e : σ.1 1 3 = nI w) (f d l : Int32) : ∀ (k i : Nat) (a : Int32) (n : Nat), i + k = w → k < n → mX8_share_b13 n σ f d l a (nI i) = some (lp (fShare (σ.1 4) (σ.1 5) (σ.1 6) (σ.1 7) f d l) k i a, σ) := by
  intro k
  induction k with
  | zero =>
    intro i a n hi hn
    obtain ⟨n, rfl⟩ : ∃ m, n = m + 1 := ⟨n - 1, by omega⟩
    conv => lhs; unfold mX8_share_b13
    rw [e, if_pos (nI_le (show w ≤ i by omega) (by omega))]
    rfl
  | succ k ih =>
    intro i a n hi hn
    obtain ⟨n, rfl⟩ : ∃ m, n = m + 1 := ⟨n - 1, by omega⟩
    have ib : inbB (nI i) 12 = true := inbB_nI (by omega) (by decide)
    have ci : Int32.toNatClampNeg (nI i) = i := nI_cl (by omega)
    conv => lhs; unfold mX8_share_b13
    rw [e, if_neg (nI_ge (show i < w by omega) (by omega))]
    rw [if_pos ib, ci, lp_succ]
    unfold mX8_share_b56
    by_cases h1 : σ.1 4 i = f
    · rw [if_pos h1, isMet_eq (by omega), gb_some]
      cases hm : mt (σ.1 5) (σ.1 6) d l i
      · have hs : fShare (σ.1 4) (σ.1 5) (σ.1 6) (σ.1 7) f d l i a = a := by unfold fShare own1; rw [hm, decide_eq_true h1]; rfl
        rw [hs, if_neg (by decide), gl_eq, nI_1, ih (i + 1) a n (by omega) (by omega)]
      · have hs : fShare (σ.1 4) (σ.1 5) (σ.1 6) (σ.1 7) f d l i a = a + σ.1 7 i := by unfold fShare own1; rw [hm, decide_eq_true h1]; rfl
        rw [hs, if_pos rfl, if_pos ib, gl_eq, gl_eq, nI_1, ih (i + 1) _ n (by omega) (by omega)]
    · have hs : fShare (σ.1 4) (σ.1 5) (σ.1 6) (σ.1 7) f d l i a = a := by unfold fShare own1; rw [decide_eq_false h1]; rfl
      rw [hs, if_neg h1, gl_eq, nI_1, ih (i + 1) a n (by omega) (by omega)]
/-- what a farm has of it, by the rows -/
def shV (w : Nat) (fo dy hr gn be : Nat → Int32) (fi : Nat) (d l : Int32) : Int32 := lp (fShare fo dy hr gn (nI fi) d l) w 0 (-(hmV w fo dy hr be fi d l))
theorem share_eq {σ : gS} {w : Nat} (hw : w ≤ 12) (e : σ.1 1 3 = nI w) {fi : Nat} (hfi : fi < 6) (d l : Int32) : mX8_share σ (nI fi) d l = some (shV w (σ.1 4) (σ.1 5) (σ.1 6) (σ.1 7) (σ.1 2) fi d l, σ) := by
  unfold mX8_share
  rw [harm_eq hw e hfi, gb_some, gl_eq, gl_eq]
  exact share_loop hw e (nI fi) d l w 0 _ 1100 (by omega) (by omega)
