/-! ===== the village's loops, as folds ===== -/
theorem lp_zero {β : Type} {f : Nat → β → β} {i : Nat} {a : β} : lp f 0 i a = a := rfl
theorem lp_succ {β : Type} {f : Nat → β → β} {k i : Nat} {a : β} : lp f (k + 1) i a = lp f k (i + 1) (f i a) := rfl
/-- want j is met by l hours on day d (rows of days and hours) -/
def mt (dy hr : Nat → Int32) (d l : Int32) (j : Nat) : Bool := decide (dy j = d) && !decide (l < hr j)
/-- bit j of x; x with bit j -/
def bt (x : Int32) (j : Nat) : Bool := decide ((x >>> (nI j &&& 31)) &&& 1 = 1)
def ob (x : Int32) (j : Nat) : Int32 := x ||| (1 <<< (nI j &&& 31))
theorem isMet_eq {σ : gS} {i : Nat} (hi : i < 12) (d l : Int32) : mX8_isMet σ (nI i) d l = some (mt (σ.1 5) (σ.1 6) d l i, σ) := by
  have ib : inbB (nI i) 12 = true := inbB_nI hi (by decide)
  have ci : Int32.toNatClampNeg (nI i) = i := nI_cl (by omega)
  unfold mX8_isMet mt
  rw [if_pos ib, ci]
  by_cases h1 : σ.1 5 i = d
  · rw [if_pos h1]
    by_cases h2 : l < σ.1 6 i
    · simp [h1, h2, ib]
    · simp [h1, h2, ib]
  · simp [h1]
def fGain (dy hr gn : Nat → Int32) (d l : Int32) (j : Nat) (a : Int32) : Int32 := if mt dy hr d l j = true then a + gn j else a
theorem gain_loop {σ : gS} {w : Nat} (hw : w ≤ 12) (e : σ.1 1 3 = nI w) (d l : Int32) : ∀ (k i : Nat) (a : Int32) (n : Nat), i + k = w → k < n → mX8_gain_b5 n σ d l a (nI i) = some (lp (fGain (σ.1 5) (σ.1 6) (σ.1 7) d l) k i a, σ) := by
  intro k
  induction k with
  | zero =>
    intro i a n hi hn
    obtain ⟨n, rfl⟩ : ∃ m, n = m + 1 := ⟨n - 1, by omega⟩
    conv => lhs; unfold mX8_gain_b5
    rw [e, if_pos (nI_le (show w ≤ i by omega) (by omega))]
    rfl
  | succ k ih =>
    intro i a n hi hn
    obtain ⟨n, rfl⟩ : ∃ m, n = m + 1 := ⟨n - 1, by omega⟩
    have ib : inbB (nI i) 12 = true := inbB_nI (by omega) (by decide)
    have ci : Int32.toNatClampNeg (nI i) = i := nI_cl (by omega)
    conv => lhs; unfold mX8_gain_b5
    rw [e, if_neg (nI_ge (show i < w by omega) (by omega))]
    rw [isMet_eq (by omega), gb_some]
    show _ = some (lp _ k (i + 1) (fGain (σ.1 5) (σ.1 6) (σ.1 7) d l i a), σ)
    unfold mX8_gain_b35 fGain
    cases mt (σ.1 5) (σ.1 6) d l i
    · rw [if_neg (by decide), gl_eq, nI_1, ih (i + 1) a n (by omega) (by omega)]
      rfl
    · rw [if_pos rfl, if_pos ib, ci, gl_eq, gl_eq, nI_1, ih (i + 1) _ n (by omega) (by omega)]
      rfl
theorem gain_eq {σ : gS} {w : Nat} (hw : w ≤ 12) (e : σ.1 1 3 = nI w) (d l : Int32) : mX8_gain σ d l = some (lp (fGain (σ.1 5) (σ.1 6) (σ.1 7) d l) w 0 0, σ) := by
  unfold mX8_gain
  rw [gl_eq, gl_eq]
  exact gain_loop hw e d l w 0 0 1100 (by omega) (by omega)
def fMet (dy hr : Nat → Int32) (d l : Int32) (j : Nat) (a : Int32) : Int32 := if mt dy hr d l j = true then ob a j else a
theorem met_loop {σ : gS} {w : Nat} (hw : w ≤ 12) (e : σ.1 1 3 = nI w) (d l : Int32) : ∀ (k i : Nat) (a : Int32) (n : Nat), i + k = w → k < n → mX8_met_b5 n σ d l a (nI i) = some (lp (fMet (σ.1 5) (σ.1 6) d l) k i a, σ) := by
  intro k
  induction k with
  | zero =>
    intro i a n hi hn
    obtain ⟨n, rfl⟩ : ∃ m, n = m + 1 := ⟨n - 1, by omega⟩
    conv => lhs; unfold mX8_met_b5
    rw [e, if_pos (nI_le (show w ≤ i by omega) (by omega))]
    rfl
  | succ k ih =>
    intro i a n hi hn
    obtain ⟨n, rfl⟩ : ∃ m, n = m + 1 := ⟨n - 1, by omega⟩
    have ib : inbB (nI i) 12 = true := inbB_nI (by omega) (by decide)
    have ci : Int32.toNatClampNeg (nI i) = i := nI_cl (by omega)
    conv => lhs; unfold mX8_met_b5
    rw [e, if_neg (nI_ge (show i < w by omega) (by omega))]
    rw [isMet_eq (by omega), gb_some]
    show _ = some (lp _ k (i + 1) (fMet (σ.1 5) (σ.1 6) d l i a), σ)
    unfold mX8_met_b32 fMet
    cases mt (σ.1 5) (σ.1 6) d l i
    · rw [if_neg (by decide), gl_eq, nI_1, ih (i + 1) a n (by omega) (by omega)]
      rfl
    · rw [if_pos rfl, gl_eq, gl_eq, nI_1, ih (i + 1) _ n (by omega) (by omega)]
      rfl
theorem met_eq {σ : gS} {w : Nat} (hw : w ≤ 12) (e : σ.1 1 3 = nI w) (d l : Int32) : mX8_met σ d l = some (lp (fMet (σ.1 5) (σ.1 6) d l) w 0 0, σ) := by
  unfold mX8_met
  rw [gl_eq, gl_eq]
  exact met_loop hw e d l w 0 0 1100 (by omega) (by omega)
theorem metOn_loop {σ : gS} {w : Nat} (hw : w ≤ 12) (e : σ.1 52 3 = nI w) (d l : Int32) : ∀ (k i : Nat) (a : Int32) (n : Nat), i + k = w → k < n → mX10_metOn_b5 n σ d l a (nI i) = some (lp (fMet (σ.1 56) (σ.1 57) d l) k i a, σ) := by
  intro k
  induction k with
  | zero =>
    intro i a n hi hn
    obtain ⟨n, rfl⟩ : ∃ m, n = m + 1 := ⟨n - 1, by omega⟩
    conv => lhs; unfold mX10_metOn_b5
    rw [e, if_pos (nI_le (show w ≤ i by omega) (by omega))]
    rfl
  | succ k ih =>
    intro i a n hi hn
    obtain ⟨n, rfl⟩ : ∃ m, n = m + 1 := ⟨n - 1, by omega⟩
    have ib : inbB (nI i) 12 = true := inbB_nI (by omega) (by decide)
    have ci : Int32.toNatClampNeg (nI i) = i := nI_cl (by omega)
    conv => lhs; unfold mX10_metOn_b5
    rw [e, if_neg (nI_ge (show i < w by omega) (by omega))]
    rw [if_pos ib, ci]
    show _ = some (lp _ k (i + 1) (fMet (σ.1 56) (σ.1 57) d l i a), σ)
    unfold mX10_metOn_b43
    by_cases h1 : σ.1 56 i = d
    · rw [if_pos h1]
      by_cases h2 : l < σ.1 57 i
      · have hs : fMet (σ.1 56) (σ.1 57) d l i a = a := by simp [fMet, mt, h2]
        rw [hs, if_pos ib, if_pos h2, gl_eq, nI_1, ih (i + 1) a n (by omega) (by omega)]
      · have hs : fMet (σ.1 56) (σ.1 57) d l i a = ob a i := by unfold fMet mt; rw [decide_eq_true h1, decide_eq_false h2]; rfl
        rw [hs, if_pos ib, if_neg h2, gl_eq, gl_eq, nI_1, ih (i + 1) _ n (by omega) (by omega)]
        rfl
    · have hs : fMet (σ.1 56) (σ.1 57) d l i a = a := by unfold fMet mt; rw [decide_eq_false h1]; rfl
      rw [hs, if_neg h1, gl_eq, nI_1, ih (i + 1) a n (by omega) (by omega)]
theorem metOn_eq {σ : gS} {w : Nat} (hw : w ≤ 12) (e : σ.1 52 3 = nI w) (d l : Int32) : mX10_metOn σ d l = some (lp (fMet (σ.1 56) (σ.1 57) d l) w 0 0, σ) := by
  unfold mX10_metOn
  rw [gl_eq, gl_eq]
  exact metOn_loop hw e d l w 0 0 1100 (by omega) (by omega)
def fGainB (gn : Nat → Int32) (x : Int32) (j : Nat) (a : Int32) : Int32 := if bt x j = true then a + gn j else a
theorem gainOf_loop {σ : gS} {w : Nat} (hw : w ≤ 12) (e : σ.1 52 3 = nI w) (x : Int32) : ∀ (k i : Nat) (a : Int32) (n : Nat), i + k = w → k < n → mX10_gainOf_b4 n σ x a (nI i) = some (lp (fGainB (σ.1 58) x) k i a, σ) := by
  intro k
  induction k with
  | zero =>
    intro i a n hi hn
    obtain ⟨n, rfl⟩ : ∃ m, n = m + 1 := ⟨n - 1, by omega⟩
    conv => lhs; unfold mX10_gainOf_b4
    rw [e, if_pos (nI_le (show w ≤ i by omega) (by omega))]
    rfl
  | succ k ih =>
    intro i a n hi hn
    obtain ⟨n, rfl⟩ : ∃ m, n = m + 1 := ⟨n - 1, by omega⟩
    have ib : inbB (nI i) 12 = true := inbB_nI (by omega) (by decide)
    have ci : Int32.toNatClampNeg (nI i) = i := nI_cl (by omega)
    conv => lhs; unfold mX10_gainOf_b4
    rw [e, if_neg (nI_ge (show i < w by omega) (by omega))]
    show _ = some (lp _ k (i + 1) (fGainB (σ.1 58) x i a), σ)
    unfold mX10_gainOf_b30
    by_cases h1 : (x >>> (nI i &&& 31)) &&& 1 = 1
    · have hs : fGainB (σ.1 58) x i a = a + σ.1 58 i := by unfold fGainB bt; rw [decide_eq_true h1]; rfl
      rw [hs, if_pos h1, if_pos ib, ci, gl_eq, gl_eq, nI_1, ih (i + 1) _ n (by omega) (by omega)]
    · have hs : fGainB (σ.1 58) x i a = a := by unfold fGainB bt; rw [decide_eq_false h1]; rfl
      rw [hs, if_neg h1, gl_eq, nI_1, ih (i + 1) a n (by omega) (by omega)]
theorem gainOf_eq {σ : gS} {w : Nat} (hw : w ≤ 12) (e : σ.1 52 3 = nI w) (x : Int32) : mX10_gainOf σ x = some (lp (fGainB (σ.1 58) x) w 0 0, σ) := by
  unfold mX10_gainOf
  rw [gl_eq, gl_eq]
  exact gainOf_loop hw e x w 0 0 1100 (by omega) (by omega)
def fVo (vo : Nat → Int32) (x : Int32) (j : Nat) (a : Int32) : Int32 := if bt x j = true then a + vo j else a
theorem voices_loop {σ : gS} {f : Nat} (hf : f ≤ 6) (e : σ.1 1 0 = nI f) (x : Int32) : ∀ (k i : Nat) (a : Int32) (n : Nat), i + k = f → k < n → mX8_voicesOf_b4 n σ x a (nI i) = some (lp (fVo (σ.1 3) x) k i a, σ) := by
  intro k
  induction k with
  | zero =>
    intro i a n hi hn
    obtain ⟨n, rfl⟩ : ∃ m, n = m + 1 := ⟨n - 1, by omega⟩
    conv => lhs; unfold mX8_voicesOf_b4
    rw [e, if_pos (nI_le (show f ≤ i by omega) (by omega))]
    rfl
  | succ k ih =>
    intro i a n hi hn
    obtain ⟨n, rfl⟩ : ∃ m, n = m + 1 := ⟨n - 1, by omega⟩
    have ib : inbB (nI i) 6 = true := inbB_nI (by omega) (by decide)
    have ci : Int32.toNatClampNeg (nI i) = i := nI_cl (by omega)
    conv => lhs; unfold mX8_voicesOf_b4
    rw [e, if_neg (nI_ge (show i < f by omega) (by omega))]
    show _ = some (lp _ k (i + 1) (fVo (σ.1 3) x i a), σ)
    unfold mX8_voicesOf_b30
    by_cases h1 : (x >>> (nI i &&& 31)) &&& 1 = 1
    · have hs : fVo (σ.1 3) x i a = a + σ.1 3 i := by unfold fVo bt; rw [decide_eq_true h1]; rfl
      rw [hs, if_pos h1, if_pos ib, ci, gl_eq, gl_eq, nI_1, ih (i + 1) _ n (by omega) (by omega)]
    · have hs : fVo (σ.1 3) x i a = a := by unfold fVo bt; rw [decide_eq_false h1]; rfl
      rw [hs, if_neg h1, gl_eq, nI_1, ih (i + 1) a n (by omega) (by omega)]
theorem voices_eq {σ : gS} {f : Nat} (hf : f ≤ 6) (e : σ.1 1 0 = nI f) (x : Int32) : mX8_voicesOf σ x = some (lp (fVo (σ.1 3) x) f 0 0, σ) := by
  unfold mX8_voicesOf
  rw [gl_eq, gl_eq]
  exact voices_loop hf e x f 0 0 1100 (by omega) (by omega)
theorem carries9_eq {σ : gS} {f : Nat} (hf : f ≤ 6) (e : σ.1 1 0 = nI f) (x : Int32) : mX8_carries σ x = some (!decide (2 * lp (fVo (σ.1 3) x) f 0 0 ≤ lp (fVo (σ.1 3) (-1)) f 0 0), σ) := by
  unfold mX8_carries
  rw [voices_eq hf e, gb_some, voices_eq hf e, gb_some]
  by_cases h : 2 * lp (fVo (σ.1 3) x) f 0 0 ≤ lp (fVo (σ.1 3) (-1)) f 0 0
  · rw [if_pos h, decide_eq_true h]; rfl
  · rw [if_neg h, decide_eq_false h]; rfl
theorem bt_all {j : Nat} (h : j < 6) : bt (-1) j = true := by
  rcases (show j = 0 ∨ j = 1 ∨ j = 2 ∨ j = 3 ∨ j = 4 ∨ j = 5 by omega) with rfl | rfl | rfl | rfl | rfl | rfl <;> decide
theorem carries10_loop {σ : gS} {f : Nat} (hf : f ≤ 6) (e : σ.1 52 0 = nI f) (x : Int32) : ∀ (k i : Nat) (a b : Int32) (n : Nat), i + k = f → k < n → mX10_carries_b7 n σ x a b (nI i) = some (!decide (2 * lp (fVo (σ.1 54) x) k i a ≤ lp (fVo (σ.1 54) (-1)) k i b), σ) := by
  intro k
  induction k with
  | zero =>
    intro i a b n hi hn
    obtain ⟨n, rfl⟩ : ∃ m, n = m + 1 := ⟨n - 1, by omega⟩
    conv => lhs; unfold mX10_carries_b7
    rw [e, if_pos (nI_le (show f ≤ i by omega) (by omega))]
    rw [lp_zero, lp_zero]
    by_cases h : 2 * a ≤ b
    · rw [if_pos h, decide_eq_true h]; rfl
    · rw [if_neg h, decide_eq_false h]; rfl
  | succ k ih =>
    intro i a b n hi hn
    obtain ⟨n, rfl⟩ : ∃ m, n = m + 1 := ⟨n - 1, by omega⟩
    have ib : inbB (nI i) 6 = true := inbB_nI (by omega) (by decide)
    have ci : Int32.toNatClampNeg (nI i) = i := nI_cl (by omega)
    conv => lhs; unfold mX10_carries_b7
    rw [e, if_neg (nI_ge (show i < f by omega) (by omega))]
    rw [lp_succ, lp_succ]
    have hb : fVo (σ.1 54) (-1) i b = b + σ.1 54 i := by unfold fVo; rw [if_pos (bt_all (by omega))]
    rw [hb, if_pos ib, ci, gl_eq]
    unfold mX10_carries_b46
    by_cases h1 : (x >>> (nI i &&& 31)) &&& 1 = 1
    · have hs : fVo (σ.1 54) x i a = a + σ.1 54 i := by unfold fVo bt; rw [decide_eq_true h1]; rfl
      rw [hs, if_pos h1, if_pos ib, gl_eq, gl_eq, nI_1, ih (i + 1) _ _ n (by omega) (by omega)]
    · have hs : fVo (σ.1 54) x i a = a := by unfold fVo bt; rw [decide_eq_false h1]; rfl
      rw [hs, if_neg h1, gl_eq, nI_1, ih (i + 1) a _ n (by omega) (by omega)]
theorem carries10_eq {σ : gS} {f : Nat} (hf : f ≤ 6) (e : σ.1 52 0 = nI f) (x : Int32) : mX10_carries σ x = some (!decide (2 * lp (fVo (σ.1 54) x) f 0 0 ≤ lp (fVo (σ.1 54) (-1)) f 0 0), σ) := by
  unfold mX10_carries
  rw [gl_eq, gl_eq, gl_eq]
  exact carries10_loop hf e x f 0 0 0 1100 (by omega) (by omega)
