/-! ===== all ===== -/
def fGr (dy hr : Nat → Int32) (d : Int32) (j : Nat) (a : Int32) : Int32 := if dy j = d then gMax a (hr j) else a
theorem greatest_loop {σ : gS} {w : Nat} (hw : w ≤ 12) (e : σ.1 1 3 = nI w) (d : Int32) : ∀ (k i : Nat) (a : Int32) (n : Nat), i + k = w → k < n → mX8_greatest_b4 n σ d a (nI i) = some (lp (fGr (σ.1 5) (σ.1 6) d) k i a, σ) := by
  intro k
  induction k with
  | zero =>
    intro i a n hi hn
    obtain ⟨n, rfl⟩ : ∃ m, n = m + 1 := ⟨n - 1, by omega⟩
    conv => lhs; unfold mX8_greatest_b4
    rw [e, if_pos (nI_le (show w ≤ i by omega) (by omega))]
    rfl
  | succ k ih =>
    intro i a n hi hn
    obtain ⟨n, rfl⟩ : ∃ m, n = m + 1 := ⟨n - 1, by omega⟩
    have ib : inbB (nI i) 12 = true := inbB_nI (by omega) (by decide)
    have ci : Int32.toNatClampNeg (nI i) = i := nI_cl (by omega)
    conv => lhs; unfold mX8_greatest_b4
    rw [e, if_neg (nI_ge (show i < w by omega) (by omega)), if_pos ib, ci, lp_succ]
    unfold mX8_greatest_b33
    by_cases h1 : σ.1 5 i = d
    · have hs : fGr (σ.1 5) (σ.1 6) d i a = gMax a (σ.1 6 i) := if_pos h1
      rw [hs, if_pos h1, if_pos ib, gl_eq, gl_eq, nI_1, ih (i + 1) _ n (by omega) (by omega)]
    · have hs : fGr (σ.1 5) (σ.1 6) d i a = a := if_neg h1
      rw [hs, if_neg h1, gl_eq, nI_1, ih (i + 1) _ n (by omega) (by omega)]
/-- the greatest WANT of a day -/
def GR (σ : gS) (w d : Nat) : Int32 := lp (fGr (σ.1 5) (σ.1 6) (nI d)) w 0 0
theorem askGr_loop {w : Nat} (hw : w ≤ 12) : ∀ (k i : Nat) (σ : gS) (n : Nat), σ.1 1 3 = nI w → i + k = 30 → k < n → ∃ τ : gS, mX7_askGreatest_b2 n σ (nI i) = some ((), τ) ∧ (∀ a, a ≠ 11 → τ.1 a = σ.1 a) ∧ τ.2 = σ.2 ∧ ∀ j, τ.1 11 j = if i ≤ j ∧ j < 30 then GR σ w j else σ.1 11 j := by
  intro k
  induction k with
  | zero =>
    intro i σ n e hi hn
    obtain ⟨n, rfl⟩ : ∃ m, n = m + 1 := ⟨n - 1, by omega⟩
    refine ⟨σ, ?_, fun _ _ => rfl, rfl, fun j => by rw [if_neg (by omega)]⟩
    conv => lhs; unfold mX7_askGreatest_b2
    rw [if_pos (show (29 : Int32) < nI i from nI_lt (a := 29) (by omega) (by omega))]
  | succ k ih =>
    intro i σ n e hi hn
    obtain ⟨n, rfl⟩ : ∃ m, n = m + 1 := ⟨n - 1, by omega⟩
    obtain ⟨τ, h1, h2, h3, h4⟩ := ih (i + 1) (gUI σ 11 i (GR σ w i)) n (by rw [gUI_ne (by decide)]; exact e) (by omega) (by omega)
    have ge : mX8_greatest σ (nI i) = some (GR σ w i, σ) := by
      unfold mX8_greatest
      rw [gl_eq, gl_eq]
      exact greatest_loop hw e (nI i) w 0 0 1100 (by omega) (by omega)
    refine ⟨τ, ?_, fun a ha => by rw [h2 a ha, gUI_ne ha], h3, fun j => ?_⟩
    · conv => lhs; unfold mX7_askGreatest_b2
      rw [if_neg (show ¬ (29 : Int32) < nI i from nI_nlt (a := 29) (by omega) (by omega)), ge, gb_some, if_pos (inbB_nI (show i < 30 by omega) (by decide)), nI_cl (by omega), gl_eq, gl_eq, nI_1]
      exact h1
    · rw [h4, gUI_at]
      have eG : GR (gUI σ 11 i (GR σ w i)) w j = GR σ w j := by
        unfold GR
        rw [gUI_ne (show 5 ≠ 11 by decide), gUI_ne (show 6 ≠ 11 by decide)]
      rw [eG]
      by_cases hj : j = i
      · subst hj; rw [if_neg (by omega), if_pos rfl, if_pos (by omega)]
      · rw [if_neg hj]
        by_cases h : i ≤ j ∧ j < 30
        · rw [if_pos h, if_pos (by omega)]
        · rw [if_neg h, if_neg (by omega)]
theorem askGr_eq {σ : gS} {f w : Nat} (hV : IV σ f w) : ∃ τ : gS, mX7_askGreatest σ = some ((), τ) ∧ ks σ τ ∧ (∀ a, a ≠ 11 → τ.1 a = σ.1 a) ∧ ∀ j, j < 30 → τ.1 11 j = GR σ w j := by
  obtain ⟨τ, h1, h2, h3, h4⟩ := askGr_loop hV.2.1 30 0 σ 1100 hV.2.2.2.2.1 (by omega) (by omega)
  refine ⟨τ, ?_, ks_11 h2 h3, h2, fun j hj => by rw [h4, if_pos (by omega)]⟩
  unfold mX7_askGreatest
  rw [gl_eq]
  exact h1
theorem plansAll_loop {f w : Nat} : ∀ (k i : Nat) (σ : gS) (n : Nat), IV σ f w → i + k = w → k < n → ∃ τ : gS, mX10_plansAll_b6 n σ (nI i) = some ((), τ) ∧ (∀ a, a ≠ 79 → τ.1 a = σ.1 a) ∧ τ.2 = σ.2 ∧ ∀ d, d < 30 → τ.1 79 d = lp (fGr (σ.1 5) (σ.1 6) (nI d)) k i (σ.1 79 d) := by
  intro k
  induction k with
  | zero =>
    intro i σ n hV hi hn
    obtain ⟨n, rfl⟩ : ∃ m, n = m + 1 := ⟨n - 1, by omega⟩
    have hw := hV.2.1
    refine ⟨σ, ?_, fun _ _ => rfl, rfl, fun d hd => rfl⟩
    conv => lhs; unfold mX10_plansAll_b6
    rw [hV.2.2.2.2.2.1, if_pos (nI_le (show w ≤ i by omega) (by omega))]
  | succ k ih =>
    intro i σ n hV hi hn
    obtain ⟨n, rfl⟩ : ∃ m, n = m + 1 := ⟨n - 1, by omega⟩
    obtain ⟨hf, hw, e1, e2, e3, e4, e5, e6, e7, e8, e9, e10, e12, e11⟩ := id hV
    obtain ⟨e, -, he, ee⟩ := (e11 i (by omega)).1
    have ib : inbB (nI i) 12 = true := inbB_nI (by omega) (by decide)
    have ci : Int32.toNatClampNeg (nI i) = i := nI_cl (by omega)
    have ib2 : inbB (nI e) 30 = true := inbB_nI (by omega) (by decide)
    have ce : Int32.toNatClampNeg (nI e) = e := nI_cl (by omega)
    have k1 : km σ (gUI σ 79 e (gMax (σ.1 79 e) (σ.1 6 i))) := km_UI (Or.inl rfl)
    obtain ⟨τ, h1, h2, h3, h4⟩ := ih (i + 1) (gUI σ 79 e (gMax (σ.1 79 e) (σ.1 6 i))) n (IV_ks hV (ks_km k1)) (by omega) (by omega)
    refine ⟨τ, ?_, fun a ha => by rw [h2 a ha, gUI_ne ha], h3, fun d hd => ?_⟩
    · conv => lhs; unfold mX10_plansAll_b6
      rw [e4, if_neg (nI_ge (show i < w by omega) (by omega)), if_pos ib, if_pos ib, ci, e8, e9, ee, if_pos ib2, if_pos ib, if_pos ib2, ce, gl_eq, gl_eq, nI_1]
      exact h1
    · rw [h4 d hd, gUI_ne (show 5 ≠ 79 by decide), gUI_ne (show 6 ≠ 79 by decide), lp_succ, gUI_at]
      congr 1
      unfold fGr
      rw [ee]
      by_cases hde : d = e
      · subst hde
        rw [if_pos rfl, if_pos rfl]
      · rw [if_neg hde, if_neg (fun q => hde ((nI_eq (by omega) (by omega)).mp q).symm)]
theorem plansAll_eq {σ : gS} {f w : Nat} (hV : IV σ f w) : ∃ τ : gS, mX10_plansAll σ = some ((), τ) ∧ km σ τ ∧ ∀ j, j < 30 → τ.1 79 j = GR σ w j := by
  obtain ⟨s, u1, u2, u3, u4⟩ := idles_eq σ
  have k1 : km σ s := km_79 u2 u3
  obtain ⟨τ, h1, h2, h3, h4⟩ := plansAll_loop w 0 s 1100 (IV_ks hV (ks_km k1)) (by omega) (by have := hV.2.1; omega)
  refine ⟨τ, ?_, km_tr k1 (km_79 h2 h3), fun j hj => ?_⟩
  · unfold mX10_plansAll
    rw [u1, gb_some, gl_eq]
    exact h1
  · rw [h4 j hj, u4 j hj, u2 5 (by decide), u2 6 (by decide)]
    rfl
/-- the first want that is not met; k are left -/
def fu (dy hr P : Nat → Int32) (t : Nat) : Nat → Nat → Int32
  | 0, _ => -2
  | k + 1, i => if dy i < nI t then fu dy hr P t k (i + 1) else if hr i ≤ P (Int32.toNatClampNeg (dy i)) then fu dy hr P t k (i + 1) else nI i
theorem unmet9_loop {σ : gS} {f w t : Nat} {P : Nat → Int32} (hV : IV σ f w) (et : σ.1 8 4 = nI t) (ht : t ≤ 29) (hP : ∀ j, t ≤ j → j < 30 → σ.1 13 j = P j) : ∀ (k i n : Nat), i + k = w → k < n → mX9_firstUnmet_b17 n σ (nI i) = some (fu (σ.1 5) (σ.1 6) P t k i, σ) := by
  obtain ⟨hf, hw, e1, e2, e3, e4, e5, e6, e7, e8, e9, e10, e12, e11⟩ := id hV
  intro k
  induction k with
  | zero =>
    intro i n hi hn
    obtain ⟨n, rfl⟩ : ∃ m, n = m + 1 := ⟨n - 1, by omega⟩
    conv => lhs; unfold mX9_firstUnmet_b17
    rw [e3, if_pos (nI_le (show w ≤ i by omega) (by omega))]
    rfl
  | succ k ih =>
    intro i n hi hn
    obtain ⟨n, rfl⟩ : ∃ m, n = m + 1 := ⟨n - 1, by omega⟩
    obtain ⟨e, -, he, ee⟩ := (e11 i (by omega)).1
    have ib : inbB (nI i) 12 = true := inbB_nI (by omega) (by decide)
    have ci : Int32.toNatClampNeg (nI i) = i := nI_cl (by omega)
    have ce : Int32.toNatClampNeg (nI e) = e := nI_cl (by omega)
    conv => lhs; unfold mX9_firstUnmet_b17
    rw [e3, if_neg (nI_ge (show i < w by omega) (by omega)), if_pos ib, ci, gl_eq, et]
    unfold mX9_firstUnmet_b72 fu
    by_cases h1 : σ.1 5 i < nI t
    · rw [if_pos h1, if_pos h1, gl_eq, nI_1, ih (i + 1) n (by omega) (by omega)]
    · have hte : t ≤ e := by
        rw [ee] at h1
        rcases Nat.lt_or_ge e t with q | q
        · exact absurd (nI_lt q (by omega)) h1
        · exact q
      rw [if_neg h1, if_neg h1, if_pos ib, ee, if_pos (inbB_nI (show e < 30 by omega) (by decide)), ce, hP e hte (by omega)]
      by_cases h2 : σ.1 6 i ≤ P e
      · rw [if_pos h2, if_pos h2, gl_eq, nI_1, ih (i + 1) n (by omega) (by omega)]
      · rw [if_neg h2, if_neg h2]
theorem unmet10_loop {σ : gS} {f w t : Nat} {P : Nat → Int32} (hV : IV σ f w) (et : σ.1 59 4 = nI t) (ht : t ≤ 29) (hP : ∀ j, t ≤ j → j < 30 → σ.1 81 j = P j) : ∀ (k i n : Nat), i + k = w → k < n → mX10_firstUnmet_b2 n σ (nI i) = some (fu (σ.1 5) (σ.1 6) P t k i, σ) := by
  obtain ⟨hf, hw, e1, e2, e3, e4, e5, e6, e7, e8, e9, e10, e12, e11⟩ := id hV
  intro k
  induction k with
  | zero =>
    intro i n hi hn
    obtain ⟨n, rfl⟩ : ∃ m, n = m + 1 := ⟨n - 1, by omega⟩
    conv => lhs; unfold mX10_firstUnmet_b2
    rw [e4, if_pos (nI_le (show w ≤ i by omega) (by omega))]
    rfl
  | succ k ih =>
    intro i n hi hn
    obtain ⟨n, rfl⟩ : ∃ m, n = m + 1 := ⟨n - 1, by omega⟩
    obtain ⟨e, -, he, ee⟩ := (e11 i (by omega)).1
    have ib : inbB (nI i) 12 = true := inbB_nI (by omega) (by decide)
    have ci : Int32.toNatClampNeg (nI i) = i := nI_cl (by omega)
    have ce : Int32.toNatClampNeg (nI e) = e := nI_cl (by omega)
    conv => lhs; unfold mX10_firstUnmet_b2
    rw [e4, if_neg (nI_ge (show i < w by omega) (by omega)), if_pos ib, ci, now_eq, gb_some, et, e8, e9]
    unfold mX10_firstUnmet_b45 fu
    by_cases h1 : σ.1 5 i < nI t
    · rw [if_pos h1, if_pos h1, gl_eq, nI_1, ih (i + 1) n (by omega) (by omega)]
    · have hte : t ≤ e := by
        rw [ee] at h1
        rcases Nat.lt_or_ge e t with q | q
        · exact absurd (nI_lt q (by omega)) h1
        · exact q
      rw [if_neg h1, if_neg h1, if_pos ib, ee, if_pos (inbB_nI (show e < 30 by omega) (by decide)), if_pos ib, ce, hP e hte (by omega)]
      by_cases h2 : σ.1 6 i ≤ P e
      · rw [if_pos h2, if_pos h2, gl_eq, nI_1, ih (i + 1) n (by omega) (by omega)]
      · rw [if_neg h2, if_neg h2]
theorem fu_iff {dy hr P : Nat → Int32} {t : Nat} : ∀ k i, i + k ≤ 100 → (fu dy hr P t k i = -2 ↔ ∀ j, i ≤ j → j < i + k → ¬ dy j < nI t → hr j ≤ P (Int32.toNatClampNeg (dy j))) := by
  intro k
  induction k with
  | zero => intro i _; exact ⟨fun _ j h1 h2 => absurd h2 (by omega), fun _ => rfl⟩
  | succ k ih =>
    intro i hi
    show (if dy i < nI t then fu dy hr P t k (i + 1) else if hr i ≤ P (Int32.toNatClampNeg (dy i)) then fu dy hr P t k (i + 1) else nI i) = -2 ↔ _
    have rest : (∀ j, i + 1 ≤ j → j < i + 1 + k → ¬ dy j < nI t → hr j ≤ P (Int32.toNatClampNeg (dy j))) → (¬ dy i < nI t → hr i ≤ P (Int32.toNatClampNeg (dy i))) → ∀ j, i ≤ j → j < i + (k + 1) → ¬ dy j < nI t → hr j ≤ P (Int32.toNatClampNeg (dy j)) := fun h h0 j h1 h2 h3 => by
      by_cases hj : j = i
      · rw [hj] at h3 ⊢; exact h0 h3
      · exact h j (by omega) (by omega) h3
    by_cases h1 : dy i < nI t
    · rw [if_pos h1, ih (i + 1) (by omega)]
      exact ⟨fun h => rest h (fun q => absurd h1 q), fun h j x y => h j (by omega) (by omega)⟩
    · rw [if_neg h1]
      by_cases h2 : hr i ≤ P (Int32.toNatClampNeg (dy i))
      · rw [if_pos h2, ih (i + 1) (by omega)]
        exact ⟨fun h => rest h (fun _ => h2), fun h j x y => h j (by omega) (by omega)⟩
      · rw [if_neg h2]
        exact ⟨fun q => absurd q (nI_m2 (by omega)), fun h => absurd (h i (Nat.le_refl i) (by omega) h1) h2⟩
theorem gv_iff {b : Int32} {N : Nat → Int32 → Int32 → Int32} {A : Nat → Int32} {t : Nat} {c0 : Int32} : ∀ k i, t + i + k ≤ 100 → (lp (fGv b N A t c0) k i (-2) = -2 ↔ ∀ j, i ≤ j → j < i + k → wkC b N A t c0 j ≤ b) := by
  intro k
  induction k with
  | zero => intro i _; exact ⟨fun _ j h1 h2 => absurd h2 (by omega), fun _ => rfl⟩
  | succ k ih =>
    intro i hi
    rw [lp_succ]
    by_cases h : wkC b N A t c0 i ≤ b
    · have e : fGv b N A t c0 i (-2) = -2 := if_neg (fun q => q.2 h)
      rw [e, ih (i + 1) (by omega)]
      constructor
      · intro q j h1 h2
        by_cases hj : j = i
        · rw [hj]; exact h
        · exact q j (by omega) (by omega)
      · intro q j h1 h2
        exact q j (by omega) (by omega)
    · have e : fGv b N A t c0 i (-2) = nI (t + i) := if_pos ⟨rfl, h⟩
      rw [e, gvF_keep (nI_m2 (by omega))]
      exact ⟨fun q => absurd q (nI_m2 (by omega)), fun q => absurd (q i (Nat.le_refl i) (by omega)) h⟩
theorem max_le {a h x : Int32} : gMax a h ≤ x ↔ a ≤ x ∧ h ≤ x := by
  unfold gMax
  simp only [Int32.le_iff_toInt_le, Int32.lt_iff_toInt_lt]
  by_cases q : a.toInt < h.toInt
  · rw [if_pos q]; omega
  · rw [if_neg q]; omega
theorem le_min {a c h : Int32} : h ≤ gMin a c ↔ h ≤ a ∧ h ≤ c := by
  unfold gMin
  simp only [Int32.le_iff_toInt_le, Int32.lt_iff_toInt_lt]
  by_cases q : c.toInt < a.toInt
  · rw [if_pos q]; omega
  · rw [if_neg q]; omega
theorem gr_le {dy hr : Nat → Int32} {d x : Int32} : ∀ k i a, lp (fGr dy hr d) k i a ≤ x ↔ a ≤ x ∧ ∀ j, i ≤ j → j < i + k → dy j = d → hr j ≤ x := by
  intro k
  induction k with
  | zero => intro i a; exact ⟨fun h => ⟨h, fun j h1 h2 => absurd h2 (by omega)⟩, fun h => h.1⟩
  | succ k ih =>
    intro i a
    rw [lp_succ, ih (i + 1)]
    unfold fGr
    by_cases h : dy i = d
    · rw [if_pos h, max_le]
      constructor
      · rintro ⟨⟨p1, p2⟩, p3⟩
        refine ⟨p1, fun j h1 h2 h3 => ?_⟩
        by_cases hj : j = i
        · rw [hj]; exact p2
        · exact p3 j (by omega) (by omega) h3
      · rintro ⟨p1, p2⟩
        exact ⟨⟨p1, p2 i (Nat.le_refl i) (by omega) h⟩, fun j h1 h2 h3 => p2 j (by omega) (by omega) h3⟩
    · rw [if_neg h]
      constructor
      · rintro ⟨p1, p3⟩
        refine ⟨p1, fun j h1 h2 h3 => ?_⟩
        by_cases hj : j = i
        · rw [hj] at h3; exact absurd h3 h
        · exact p3 j (by omega) (by omega) h3
      · rintro ⟨p1, p2⟩
        exact ⟨p1, fun j h1 h2 h3 => p2 j (by omega) (by omega) h3⟩
