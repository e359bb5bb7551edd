/-! ===== bits (the kit's rows, other names), and the reference's harm ===== -/
def xb (x : Int32) (i : Nat) : Bool := x.toBitVec.getLsbD i
theorem xb_ext {x y : Int32} (h : ∀ i, i < 32 → xb x i = xb y i) : x = y := Int32.toBitVec_inj.mp (BitVec.eq_of_getLsbD_eq (fun i hi => h i hi))
theorem xb_or (x y : Int32) (i : Nat) : xb (x ||| y) i = (xb x i || xb y i) := by unfold xb; rw [Int32.toBitVec_or, BitVec.getLsbD_or]
theorem xb_and (x y : Int32) (i : Nat) : xb (x &&& y) i = (xb x i && xb y i) := by unfold xb; rw [Int32.toBitVec_and, BitVec.getLsbD_and]
theorem xb_0 (i : Nat) : xb 0 i = false := BitVec.getLsbD_zero
theorem xb_1 : ∀ i, i < 32 → xb 1 i = decide (i = 0) := by decide +kernel
theorem xs_l : ∀ n, n < 32 → ((nI n &&& 31).toBitVec.smod 32).toNat = n := by decide +kernel
theorem xb_shl (n : Nat) (hn : n < 32) (x : Int32) {i : Nat} (hi : i < 32) : xb (x <<< (nI n &&& 31)) i = (decide (n ≤ i) && xb x (i - n)) := by
  unfold xb
  rw [Int32.toBitVec_shiftLeft]
  show (x.toBitVec <<< ((nI n &&& 31).toBitVec.smod 32).toNat).getLsbD i = _
  rw [xs_l n hn, BitVec.getLsbD_shiftLeft]
  rcases Nat.lt_or_ge i n with h | h
  · simp [h, Nat.not_le.mpr h]
  · simp [hi, h, Nat.not_lt.mpr h]
theorem xb_sshr (n : Nat) (hn : n < 32) (x : Int32) {i : Nat} (hi : i < 32) : xb (x >>> (nI n &&& 31)) i = if n + i < 32 then xb x (n + i) else xb x 31 := by
  unfold xb
  rw [Int32.toBitVec_shiftRight]
  show (x.toBitVec.sshiftRight ((nI n &&& 31).toBitVec.smod 32).toNat).getLsbD i = _
  rw [xs_l n hn, BitVec.getLsbD_sshiftRight, BitVec.msb_eq_getLsbD_last]
  simp [hi]
theorem and1 (x : Int32) : x &&& 1 = if xb x 0 = true then 1 else 0 := by
  apply xb_ext
  intro i hi
  rw [xb_and, xb_1 i hi]
  by_cases h : i = 0
  · subst h
    cases hx : xb x 0
    · simp [xb_0]
    · simp [xb_1 0 (by decide)]
  · cases hx : xb x 0
    · simp [h, xb_0]
    · simp [h, xb_1 i hi]
theorem bt_xb {x : Int32} {j : Nat} (hj : j < 31) : bt x j = xb x j := by
  have h := xb_sshr j (by omega) x (i := 0) (by decide)
  rw [if_pos (by omega), Nat.add_zero] at h
  unfold bt
  rw [and1, h]
  cases xb x j <;> decide
theorem ob_xb {x : Int32} {i j : Nat} (hi : i < 31) (hj : j < 32) : xb (ob x i) j = (xb x j || decide (i = j)) := by
  unfold ob
  rw [xb_or, xb_shl i (by omega) 1 hj]
  by_cases h : i ≤ j
  · rw [decide_eq_true h, Bool.true_and, xb_1 _ (by omega)]
    by_cases e : i = j
    · subst e; simp
    · simp [e, show ¬ j - i = 0 by omega]
  · simp [h, show ¬ i = j by omega]
/-- bits set where p holds -/
def fSet (p : Nat → Bool) (j : Nat) (a : Int32) : Int32 := if p j = true then ob a j else a
theorem fSet_bt {p : Nat → Bool} : ∀ (k i : Nat) (a : Int32) (j : Nat), i + k ≤ 30 → j < 31 → bt (lp (fSet p) k i a) j = (bt a j || (decide (i ≤ j ∧ j < i + k) && p j)) := by
  intro k
  induction k with
  | zero =>
    intro i a j h1 h2
    rw [lp_zero, decide_eq_false (by omega)]
    simp
  | succ k ih =>
    intro i a j h1 h2
    rw [lp_succ, ih (i + 1) _ j (by omega) h2]
    unfold fSet
    cases hp : p i
    · rw [if_neg (by decide)]
      by_cases hij : i = j
      · subst hij; rw [hp]; simp
      · congr 2
        exact decide_eq_decide.mpr (by omega)
    · rw [if_pos rfl, bt_xb h2, ob_xb (by omega) (by omega), bt_xb h2]
      by_cases hij : i = j
      · subst hij; simp [hp]
      · rw [decide_eq_false hij, Bool.or_false]
        congr 2
        exact decide_eq_decide.mpr (by omega)
theorem fSet_0 {p : Nat → Bool} {w j : Nat} (hw : w ≤ 30) (hj : j < w) : bt (lp (fSet p) w 0 0) j = p j := by
  rw [fSet_bt w 0 0 j (by omega) (by omega), bt_xb (by omega), xb_0, decide_eq_true (by omega)]
  simp
theorem fSet_none {p : Nat → Bool} : ∀ (k i : Nat) (a : Int32), (∀ j, i ≤ j → j < i + k → p j = false) → lp (fSet p) k i a = a := by
  intro k
  induction k with
  | zero => intro i a _; rfl
  | succ k ih =>
    intro i a h
    rw [lp_succ, ih (i + 1) _ (fun j h1 h2 => h j (by omega) (by omega))]
    unfold fSet
    rw [if_neg (by rw [h i (by omega) (by omega)]; decide)]
theorem fSet_z {p : Nat → Bool} {w : Nat} (hw : w ≤ 30) : lp (fSet p) w 0 0 = 0 ↔ ∀ j, j < w → p j = false := by
  constructor
  · intro h j hj
    rw [← fSet_0 (p := p) hw hj, h, bt_xb (by omega), xb_0]
  · intro h
    exact fSet_none w 0 0 (fun j _ h2 => h j (by omega))
theorem any_iff {fo dy hr : Nat → Int32} {f d l : Int32} : ∀ (k i : Nat), lp (fAny fo dy hr f d l) k i false = false ↔ ∀ j, i ≤ j → j < i + k → own1 fo dy hr f d l j = false := by
  intro k
  induction k with
  | zero => intro i; exact ⟨fun _ j _ _ => absurd ‹j < i + 0› (by omega), fun _ => rfl⟩
  | succ k ih =>
    intro i
    rw [lp_succ]
    cases h : own1 fo dy hr f d l i
    · have e : fAny fo dy hr f d l i false = false := by unfold fAny; rw [h]; rfl
      rw [e, ih (i + 1)]
      constructor
      · intro q j h1 h2
        by_cases hj : j = i
        · rw [hj, h]
        · exact q j (by omega) (by omega)
      · intro q j h1 h2
        exact q j (by omega) (by omega)
    · have e : fAny fo dy hr f d l i false = true := by unfold fAny; rw [h]; rfl
      rw [e, any_true]
      constructor
      · intro q; cases q
      · intro q
        rw [q i (by omega) (by omega)] at h
        cases h
theorem fMet_set (dy hr : Nat → Int32) (d l : Int32) : fMet dy hr d l = fSet (mt dy hr d l) := rfl
/-- what a farm's own wants met are, as bits -/
def pOwn (fo : Nat → Int32) (f x : Int32) (j : Nat) : Bool := bt x j && decide (fo j = f)
theorem own_loop {σ : gS} {w : Nat} (hw : w ≤ 12) (e : σ.1 52 3 = nI w) (f x : Int32) : ∀ (k i : Nat) (a : Int32) (n : Nat), i + k = w → k < n → mX10_ownOf_b5 n σ f x a (nI i) = some (lp (fSet (pOwn (σ.1 55) f x)) k i a, σ) := by
  intro k
  induction k with
  | zero =>
    intro i a n hi hn
    obtain ⟨n, rfl⟩ : ∃ m, n = m + 1 := ⟨n - 1, by omega⟩
    conv => lhs; unfold mX10_ownOf_b5
    rw [e, if_pos (nI_le (show w ≤ i by omega) (by omega))]
    rfl
  | succ k ih =>
    intro i a n hi hn
    obtain ⟨n, rfl⟩ : ∃ m, n = m + 1 := ⟨n - 1, by omega⟩
    have ib : inbB (nI i) 12 = true := inbB_nI (by omega) (by decide)
    have ci : Int32.toNatClampNeg (nI i) = i := nI_cl (by omega)
    conv => lhs; unfold mX10_ownOf_b5
    rw [e, if_neg (nI_ge (show i < w by omega) (by omega)), lp_succ]
    unfold mX10_ownOf_b42
    by_cases h1 : (x >>> (nI i &&& 31)) &&& 1 = 1
    · rw [if_pos h1, if_pos ib, ci]
      by_cases h2 : σ.1 55 i = f
      · have hs : fSet (pOwn (σ.1 55) f x) i a = ob a i := by unfold fSet pOwn bt; rw [decide_eq_true h1, decide_eq_true h2]; rfl
        rw [hs, if_pos h2, gl_eq, gl_eq, nI_1, ih (i + 1) _ n (by omega) (by omega)]
        rfl
      · have hs : fSet (pOwn (σ.1 55) f x) i a = a := by unfold fSet pOwn bt; rw [decide_eq_true h1, decide_eq_false h2]; rfl
        rw [hs, if_neg h2, gl_eq, nI_1, ih (i + 1) _ n (by omega) (by omega)]
    · have hs : fSet (pOwn (σ.1 55) f x) i a = a := by unfold fSet pOwn bt; rw [decide_eq_false h1]; rfl
      rw [hs, if_neg h1, gl_eq, nI_1, ih (i + 1) _ n (by omega) (by omega)]
theorem own_eq {σ : gS} {w : Nat} (hw : w ≤ 12) (e : σ.1 52 3 = nI w) (f x : Int32) : mX10_ownOf σ f x = some (lp (fSet (pOwn (σ.1 55) f x)) w 0 0, σ) := by
  unfold mX10_ownOf
  rw [gl_eq, gl_eq]
  exact own_loop hw e f x w 0 0 1100 (by omega) (by omega)
/-- a farm's own wants met -/
def ownM (w : Nat) (fo dy hr : Nat → Int32) (f d l : Int32) : Int32 := lp (fSet (pOwn fo f (lp (fMet dy hr d l) w 0 0))) w 0 0
theorem ownM_bt {w : Nat} {fo dy hr : Nat → Int32} {f d l : Int32} (hw : w ≤ 12) {j : Nat} (hj : j < w) : pOwn fo f (lp (fMet dy hr d l) w 0 0) j = own1 fo dy hr f d l j := by
  unfold pOwn own1
  rw [fMet_set, fSet_0 (by omega) hj, Bool.and_comm]
theorem harmOn_eq {σ : gS} {f w fi : Nat} (hV : IV σ f w) (hfi : fi < 6) (d l : Int32) : mX10_harmOn σ (nI fi) d l = some (hmV w (σ.1 4) (σ.1 5) (σ.1 6) (σ.1 2) fi d l, σ) := by
  obtain ⟨hf, hw, e1, e2, e3, e4, e5, e6, e7, e8, e9, e10, -⟩ := hV
  have z : ownM w (σ.1 4) (σ.1 5) (σ.1 6) (nI fi) d l = 0 ↔ lp (fAny (σ.1 4) (σ.1 5) (σ.1 6) (nI fi) d l) w 0 false = false := by
    unfold ownM
    rw [fSet_z (by omega), any_iff]
    constructor
    · intro h j _ hj
      rw [← ownM_bt hw (by omega)]
      exact h j (by omega)
    · intro h j hj
      rw [ownM_bt hw hj]
      exact h j (by omega) (by omega)
  unfold mX10_harmOn
  rw [metOn_eq hw e4, gb_some, own_eq hw e4, gb_some, e7, e8, e9, e5]
  show (if ownM w (σ.1 4) (σ.1 5) (σ.1 6) (nI fi) d l = 0 then _ else _) = _
  unfold hmV
  by_cases h : ownM w (σ.1 4) (σ.1 5) (σ.1 6) (nI fi) d l = 0
  · rw [if_pos h, if_pos (inbB_nI hfi (by decide)), nI_cl (by omega), z.mp h, if_neg (by decide)]
  · have h2 : lp (fAny (σ.1 4) (σ.1 5) (σ.1 6) (nI fi) d l) w 0 false = true := by
      cases q : lp (fAny (σ.1 4) (σ.1 5) (σ.1 6) (nI fi) d l) w 0 false
      · exact absurd (z.mpr q) h
      · rfl
    rw [if_neg h, h2, if_pos rfl]
theorem allHarm_loop {σ : gS} {f w : Nat} (hV : IV σ f w) (d l : Int32) : ∀ (k i : Nat) (a : Int32) (n : Nat), i + k = f → k < n → mX10_allHarm_b5 n σ d l a (nI i) = some (lp (fHarm w (σ.1 4) (σ.1 5) (σ.1 6) (σ.1 2) d l) k i a, σ) := by
  have e2 : σ.1 52 0 = nI f := hV.2.2.2.1
  have hf : f ≤ 6 := hV.1
  intro k
  induction k with
  | zero =>
    intro i a n hi hn
    obtain ⟨n, rfl⟩ : ∃ m, n = m + 1 := ⟨n - 1, by omega⟩
    conv => lhs; unfold mX10_allHarm_b5
    rw [e2, if_pos (nI_le (show f ≤ i by omega) (by omega))]
    rfl
  | succ k ih =>
    intro i a n hi hn
    obtain ⟨n, rfl⟩ : ∃ m, n = m + 1 := ⟨n - 1, by omega⟩
    conv => lhs; unfold mX10_allHarm_b5
    rw [e2, if_neg (nI_ge (show i < f by omega) (by omega))]
    rw [harmOn_eq hV (by omega), gb_some, gl_eq, gl_eq, nI_1, ih (i + 1) _ n (by omega) (by omega), lp_succ]
    rfl
theorem allHarm_eq {σ : gS} {f w : Nat} (hV : IV σ f w) (d l : Int32) : mX10_allHarm σ d l = some (lp (fHarm w (σ.1 4) (σ.1 5) (σ.1 6) (σ.1 2) d l) f 0 0, σ) := by
  unfold mX10_allHarm
  rw [gl_eq, gl_eq]
  exact allHarm_loop hV d l f 0 0 1100 (by omega) (by have := hV.1; omega)
theorem i_rc (a b c : Int32) : a + b + c = a + c + b := by rw [Int32.add_assoc, Int32.add_comm b, ← Int32.add_assoc]
theorem lp_shift {p : Nat → Bool} {g : Nat → Int32} : ∀ (k i : Nat) (a c : Int32), lp (fun j a => if p j = true then a + g j else a) k i (a + c) = lp (fun j a => if p j = true then a + g j else a) k i a + c := by
  intro k
  induction k with
  | zero => intro i a c; rfl
  | succ k ih =>
    intro i a c
    rw [lp_succ, lp_succ]
    cases h : p i
    · rw [if_neg (by decide), if_neg (by decide)]; exact ih _ _ _
    · rw [if_pos rfl, if_pos rfl, ← ih, i_rc]
theorem gainOwn {w : Nat} {fo dy hr gn : Nat → Int32} {f d l : Int32} (hw : w ≤ 12) : lp (fGainB gn (ownM w fo dy hr f d l)) w 0 0 = lp (fShare fo dy hr gn f d l) w 0 0 := by
  apply lp_congr
  intro j a _ hj
  unfold fGainB fShare ownM
  rw [fSet_0 (by omega) (by omega), ownM_bt hw (by omega)]
theorem has_eq {σ : gS} {f w fi : Nat} (hV : IV σ f w) (hfi : fi < 6) (d l : Int32) : mX10_has σ (nI fi) d l = some (shV w (σ.1 4) (σ.1 5) (σ.1 6) (σ.1 7) (σ.1 2) fi d l, σ) := by
  obtain ⟨hf, hw, e1, e2, e3, e4, e5, e6, e7, e8, e9, e10, -⟩ := id hV
  unfold mX10_has
  rw [metOn_eq hw e4, gb_some, own_eq hw e4, gb_some, gainOf_eq hw e4, gb_some, harmOn_eq hV hfi, gb_some, e7, e8, e9, e10]
  show some (lp (fGainB (σ.1 7) (ownM w (σ.1 4) (σ.1 5) (σ.1 6) (nI fi) d l)) w 0 0 - hmV w (σ.1 4) (σ.1 5) (σ.1 6) (σ.1 2) fi d l, σ) = _
  rw [gainOwn hw]
  unfold shV
  congr 2
  have h := lp_shift (p := own1 (σ.1 4) (σ.1 5) (σ.1 6) (nI fi) d l) (g := σ.1 7) w 0 0 (-(hmV w (σ.1 4) (σ.1 5) (σ.1 6) (σ.1 2) fi d l))
  rw [Int32.zero_add] at h
  rw [Int32.sub_eq_add_neg]
  exact h.symm
