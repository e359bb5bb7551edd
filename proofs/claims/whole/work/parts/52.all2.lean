/-! ===== all: LEASTCOLD ===== -/
def mab (b : Int32) (N : Nat → Int32 → Int32 → Int32) (A : Nat → Int32) (t : Nat) (c0 : Int32) : Nat → Nat → Bool
  | 0, _ => true
  | k + 1, i => if wkC b N A t c0 i ≤ b then (if A (t + i) ≤ wkC b N A t c0 i then mab b N A t c0 k (i + 1) else false) else false
theorem mab_iff {b : Int32} {N : Nat → Int32 → Int32 → Int32} {A : Nat → Int32} {t : Nat} {c0 : Int32} : ∀ k i, mab b N A t c0 k i = true ↔ ∀ j, i ≤ j → j < i + k → wkC b N A t c0 j ≤ b ∧ A (t + j) ≤ wkC b N A t c0 j := by
  intro k
  induction k with
  | zero => intro i; exact ⟨fun _ j h1 h2 => absurd h2 (by omega), fun _ => rfl⟩
  | succ k ih =>
    intro i
    show (if wkC b N A t c0 i ≤ b then (if A (t + i) ≤ wkC b N A t c0 i then mab b N A t c0 k (i + 1) else false) else false) = true ↔ _
    by_cases h1 : wkC b N A t c0 i ≤ b
    · rw [if_pos h1]
      by_cases h2 : A (t + i) ≤ wkC b N A t c0 i
      · rw [if_pos h2, ih (i + 1)]
        constructor
        · intro q j x y
          by_cases hj : j = i
          · rw [hj]; exact ⟨h1, h2⟩
          · exact q j (by omega) (by omega)
        · intro q j x y
          exact q j (by omega) (by omega)
      · rw [if_neg h2]
        exact ⟨fun q => (by cases q), fun q => absurd (q i (Nat.le_refl i) (by omega)).2 h2⟩
    · rw [if_neg h1]
      exact ⟨fun q => (by cases q), fun q => absurd (q i (Nat.le_refl i) (by omega)).1 h1⟩
theorem min_l {a c : Int32} (h : a ≤ c) : gMin a c = a := by
  unfold gMin
  rw [if_neg]
  rw [Int32.lt_iff_toInt_lt]
  rw [Int32.le_iff_toInt_le] at h
  omega
theorem nneg {x : Int32} (h : ¬ x < 0) : 0 ≤ x := by
  rw [Int32.lt_iff_toInt_lt] at h
  rw [Int32.le_iff_toInt_le]
  omega
theorem i_le (x : Int32) : x ≤ x := by rw [Int32.le_iff_toInt_le]; omega
theorem meets_loop {f w K t : Nat} {F : gLw} {A S : Nat → Int32} {c0 : Int32} (hS2 : rg (S 2) 0 9) (hS3 : rg (S 3) 0 9) : ∀ (k i : Nat) (σ : gS) (n : Nat), Cx σ f w K F → σ.1 8 = S → (∀ j, j < 30 → σ.1 11 j = A j) → t + i + k = 30 → k < n →
    ∃ τ : gS, mX9_meetsAllFrom_b10 n σ (wkC (S 1) (nxS F S) A t c0 i) (nI (t + i)) = some (mab (S 1) (nxS F S) A t c0 k i, τ) ∧ ks σ τ ∧ ∀ a, a < 18 → τ.1 a = σ.1 a := by
  intro k
  induction k with
  | zero =>
    intro i σ n hX h8 hA hi hn
    obtain ⟨n, rfl⟩ : ∃ m, n = m + 1 := ⟨n - 1, by omega⟩
    refine ⟨σ, ?_, ks_rf σ, fun _ _ => rfl⟩
    conv => lhs; unfold mX9_meetsAllFrom_b10
    rw [if_pos (show (29 : Int32) < nI (t + i) from nI_lt (a := 29) (by omega) (by omega))]
    rfl
  | succ k ih =>
    intro i σ n hX h8 hA hi hn
    obtain ⟨n, rfl⟩ : ∃ m, n = m + 1 := ⟨n - 1, by omega⟩
    have n29 : ¬ (29 : Int32) < nI (t + i) := nI_nlt (a := 29) (by omega) (by omega)
    have i30 := inbB_nI (show t + i < 30 by omega) (show 30 ≤ 1000 by decide)
    obtain ⟨c, hc⟩ : ∃ c, c = wkC (S 1) (nxS F S) A t c0 i := ⟨_, rfl⟩
    have hm : mab (S 1) (nxS F S) A t c0 (k + 1) i = (if c ≤ S 1 then (if A (t + i) ≤ c then mab (S 1) (nxS F S) A t c0 k (i + 1) else false) else false) := by rw [hc]; rfl
    by_cases hb : c ≤ S 1
    · by_cases hl : A (t + i) ≤ c
      · obtain ⟨u, r1, r2, r3⟩ := nightC hX (q := 8) (Or.inl rfl) (by rw [h8]; exact hS2) (by rw [h8]; exact hS3) (nI (t + i)) (c - A (t + i)) (A (t + i))
        rw [h8] at r1
        obtain ⟨τ, q1, q2, q3⟩ := ih (i + 1) u n (Cx_ks hX r2) ((r3 8 (by decide)).trans h8) (fun j hj => by rw [r3 11 (by decide)]; exact hA j hj) (by omega) (by omega)
        have hw1 : wkC (S 1) (nxS F S) A t c0 (i + 1) = nx F (S 2) (S 3) (S 1) (nI (t + i)) (c - A (t + i)) (A (t + i)) := by
          show nxS F S (t + i) (dw (S 1) (wkC (S 1) (nxS F S) A t c0 i) - gMin (A (t + i)) (dw (S 1) (wkC (S 1) (nxS F S) A t c0 i))) (gMin (A (t + i)) (dw (S 1) (wkC (S 1) (nxS F S) A t c0 i))) = _
          rw [← hc, show dw (S 1) c = c from if_pos hb, min_l hl]
          rfl
        rw [hw1] at q1
        refine ⟨τ, ?_, ks_tr r2 q2, fun a ha => (q3 a ha).trans (r3 a ha)⟩
        rw [← hc, hm, if_pos hb, if_pos hl]
        conv => lhs; unfold mX9_meetsAllFrom_b10
        rw [if_neg n29, if_pos i30, nI_cl (by omega), hA (t + i) (by omega), gl_eq, gives_eq rfl, gb_some, gv_day (show t + i ≤ 29 by omega), h8, decide_eq_true hb, Bool.not_true, if_neg (by decide), if_pos hl, hX.2.2.2.1]
        show (if gk K = 3 then _ else _) = _
        rw [if_pos (by rcases hX.2.2.1 with rfl | rfl <;> rfl), r1, gb_some, gl_eq, gl_eq, nI_1]
        exact q1
      · refine ⟨σ, ?_, ks_rf σ, fun _ _ => rfl⟩
        rw [← hc, hm, if_pos hb, if_neg hl]
        conv => lhs; unfold mX9_meetsAllFrom_b10
        rw [if_neg n29, if_pos i30, nI_cl (by omega), hA (t + i) (by omega), gl_eq, gives_eq rfl, gb_some, gv_day (show t + i ≤ 29 by omega), h8, decide_eq_true hb, Bool.not_true, if_neg (by decide), if_neg hl]
    · refine ⟨σ, ?_, ks_rf σ, fun _ _ => rfl⟩
      rw [← hc, hm, if_neg hb]
      conv => lhs; unfold mX9_meetsAllFrom_b10
      rw [if_neg n29, if_pos i30, nI_cl (by omega), hA (t + i) (by omega), gl_eq, gives_eq rfl, gb_some, gv_day (show t + i ≤ 29 by omega), h8, decide_eq_false hb, Bool.not_false, if_pos rfl]
def gaB (F : gLw) (S A : Nat → Int32) (t c : Nat) : Bool := mab (S 1) (nxS F S) A t (nI c) (30 - t) 0
theorem least9_loop {f w K t : Nat} {F : gLw} {A S : Nat → Int32} (ht : t ≤ 29) (hS2 : rg (S 2) 0 9) (hS3 : rg (S 3) 0 9) (hS4 : S 4 = nI t) : ∀ (k i : Nat) (σ : gS) (n : Nat), Cx σ f w K F → σ.1 8 = S → (∀ j, j < 30 → σ.1 11 j = A j) → i + k = 1000 → k < n →
    ∃ τ : gS, mX9_leastCold_b2 n σ (nI i) = some (lsf (gaB F S A t) k i, τ) ∧ ks σ τ := by
  intro k
  induction k with
  | zero =>
    intro i σ n hX h8 hA hi hn
    obtain ⟨n, rfl⟩ : ∃ m, n = m + 1 := ⟨n - 1, by omega⟩
    obtain rfl : i = 1000 := by omega
    refine ⟨σ, ?_, ks_rf σ⟩
    conv => lhs; unfold mX9_leastCold_b2
    rw [if_pos (by decide)]
    rfl
  | succ k ih =>
    intro i σ n hX h8 hA hi hn
    obtain ⟨n, rfl⟩ : ∃ m, n = m + 1 := ⟨n - 1, by omega⟩
    obtain ⟨u, r1, r2, r3⟩ := meets_loop (t := t) (F := F) (A := A) (S := S) (c0 := nI i) hS2 hS3 (30 - t) 0 σ 1100 hX h8 hA (by omega) (by omega)
    have r1' : mX9_meetsAllFrom σ (nI i) = some (gaB F S A t i, u) := by
      unfold mX9_meetsAllFrom
      rw [gl_eq, gl_eq, h8, hS4]
      exact r1
    have n999 : ¬ (999 : Int32) < nI i := nI_nlt (a := 999) (by omega) (by omega)
    cases hg : gaB F S A t i with
    | true =>
      refine ⟨u, ?_, r2⟩
      conv => lhs; unfold mX9_leastCold_b2
      rw [if_neg n999, r1', gb_some, hg, if_pos rfl]
      show _ = some (if gaB F S A t i = true then nI i else _, u)
      rw [hg, if_pos rfl]
    | false =>
      obtain ⟨τ, q1, q2⟩ := ih (i + 1) u n (Cx_ks hX r2) ((r3 8 (by decide)).trans h8) (fun j hj => by rw [r3 11 (by decide)]; exact hA j hj) (by omega) (by omega)
      refine ⟨τ, ?_, ks_tr r2 q2⟩
      conv => lhs; unfold mX9_leastCold_b2
      rw [if_neg n999, r1', gb_some, hg, if_neg (by decide), gl_eq, nI_1, q1]
      show _ = some (if gaB F S A t i = true then nI i else lsf (gaB F S A t) k (i + 1), τ)
      rw [hg, if_neg (show ¬ false = true by decide)]
theorem mab_ref {σ : gS} {f w t : Nat} {F : gLw} {A S : Nat → Int32} {c0 : Int32} (hV : IV σ f w) (ht : t ≤ 29) (hA : ∀ j, j < 30 → A j = GR σ w j) (h0 : ¬ c0 < 0) : mab (S 1) (nxS F S) A t c0 (30 - t) 0 = true ↔ (fu (σ.1 5) (σ.1 6) (OB (S 1) (nxS F S) A t c0) t w 0 = -2 ∧ lp (fGv (S 1) (nxS F S) A t c0) (30 - t) 0 (-2) = -2) := by
  obtain ⟨hf, hw, e1, e2, e3, e4, e5, e6, e7, e8, e9, e10, e12, e11⟩ := id hV
  rw [mab_iff, fu_iff w 0 (by omega), gv_iff (30 - t) 0 (by omega)]
  constructor
  · intro h
    refine ⟨fun j _ hj hd => ?_, fun j x y => (h j x y).1⟩
    obtain ⟨e, -, he, ee⟩ := (e11 j (by omega)).1
    rw [ee] at hd ⊢
    have hte : t ≤ e := by
      rcases Nat.lt_or_ge e t with q | q
      · exact absurd (nI_lt q (by omega)) hd
      · exact q
    rw [nI_cl (by omega)]
    unfold OB
    obtain ⟨p1, p2⟩ := h (e - t) (by omega) (by omega)
    rw [show t + (e - t) = e by omega] at p2
    rw [show dw (S 1) (wkC (S 1) (nxS F S) A t c0 (e - t)) = wkC (S 1) (nxS F S) A t c0 (e - t) from if_pos p1, le_min]
    have p3 := p2
    rw [hA e (by omega)] at p3
    refine ⟨?_, ((gr_le w 0 0).mp p3).2 j (by omega) (by omega) ee⟩
    rw [hA e (by omega)]
    exact ((gr_le w 0 0).mp (i_le _)).2 j (by omega) (by omega) ee
  · rintro ⟨h1, h2⟩ j x y
    have p1 := h2 j x y
    refine ⟨p1, ?_⟩
    rw [hA (t + j) (by omega)]
    refine (gr_le w 0 0).mpr ⟨nneg (wk_pos h0 j), fun i _ hi hd => ?_⟩
    have q := h1 i (by omega) (by omega) (by rw [hd]; exact nI_nlt (by omega) (by omega))
    rw [hd, nI_cl (by omega)] at q
    unfold OB at q
    rw [show t + j - t = j by omega, show dw (S 1) (wkC (S 1) (nxS F S) A t c0 j) = wkC (S 1) (nxS F S) A t c0 j from if_pos p1, le_min] at q
    exact q.2
theorem least10_loop {f w t : Nat} {F : gLw} {A S : Nat → Int32} (ht : t ≤ 29) (hS2 : rg (S 2) 0 9) (hS3 : rg (S 3) 0 9) (hS4 : S 4 = nI t) : ∀ (k i : Nat) (σ : gS) (n : Nat), Mx σ F → IV σ f w → σ.1 59 = S → (∀ j, j < 30 → σ.1 79 j = A j) → (∀ j, j < 30 → A j = GR σ w j) → i + k = 1000 → k < n →
    ∃ τ : gS, mX10_all_b36 n σ (nI i) = some (lsf (gaB F S A t) k i, τ) ∧ km σ τ := by
  intro k
  induction k with
  | zero =>
    intro i σ n hM hV h5 hA hG hi hn
    obtain ⟨n, rfl⟩ : ∃ m, n = m + 1 := ⟨n - 1, by omega⟩
    obtain rfl : i = 1000 := by omega
    refine ⟨σ, ?_, km_rf σ⟩
    conv => lhs; unfold mX10_all_b36
    rw [if_pos (by decide)]
    rfl
  | succ k ih =>
    intro i σ n hM hV h5 hA hG hi hn
    obtain ⟨n, rfl⟩ : ∃ m, n = m + 1 := ⟨n - 1, by omega⟩
    obtain ⟨u, r1, r2, r3, r4, r5, r6⟩ := walk10_eq hM (by rw [h5]; exact hS2) (by rw [h5]; exact hS3) (by rw [h5]; exact hS4) ht hA (nI i)
    rw [h5] at r5 r6
    have u59 : u.1 59 = S := (r2.1 59 (by decide) (by decide) (by decide) (by decide) (by decide) (by decide)).trans h5
    have hVu := IV_ks hV (ks_km r2)
    have row : ∀ a, 2 ≤ a → a ≤ 7 → u.1 a = σ.1 a := fun a x y => r2.1 a (by omega) (by omega) (by omega) (by omega) (by omega) (by omega)
    have uf : mX10_firstUnmet u = some (fu (σ.1 5) (σ.1 6) (OB (S 1) (nxS F S) A t (nI i)) t w 0, u) := by
      unfold mX10_firstUnmet
      rw [gl_eq]
      have q := unmet10_loop hVu (show u.1 59 4 = nI t by rw [u59]; exact hS4) ht r5 w 0 1100 (by omega) (by have := hV.2.1; omega)
      rw [row 5 (by omega) (by omega), row 6 (by omega) (by omega)] at q
      exact q
    have n1000 : ¬ (1000 : Int32) ≤ nI i := nI_ge (b := 1000) (by omega) (by omega)
    have hmr := mab_ref (F := F) (A := A) (S := S) (c0 := nI i) hV ht hG (nI_pos (by omega))
    have nxt : gaB F S A t i = false → ∃ τ : gS, mX10_all_b68 (mX10_all_b36 n) u (nI i) = some (lsf (gaB F S A t) (k + 1) i, τ) ∧ km σ τ := fun hg => by
      obtain ⟨τ, q1, q2⟩ := ih (i + 1) u n (Mx_km hM r2) hVu u59 (fun j hj => by rw [r3]; exact hA j hj) (fun j hj => by
        rw [hG j hj]
        unfold GR
        rw [row 5 (by omega) (by omega), row 6 (by omega) (by omega)]) (by omega) (by omega)
      refine ⟨τ, ?_, km_tr r2 q2⟩
      unfold mX10_all_b68
      rw [gl_eq, nI_1, q1]
      show _ = some (if gaB F S A t i = true then nI i else lsf (gaB F S A t) k (i + 1), τ)
      rw [hg, if_neg (show ¬ false = true by decide)]
    by_cases h1 : fu (σ.1 5) (σ.1 6) (OB (S 1) (nxS F S) A t (nI i)) t w 0 = -2
    · by_cases h2 : lp (fGv (S 1) (nxS F S) A t (nI i)) (30 - t) 0 (-2) = -2
      · have hg : gaB F S A t i = true := hmr.mpr ⟨h1, h2⟩
        refine ⟨u, ?_, r2⟩
        conv => lhs; unfold mX10_all_b36
        rw [if_neg n1000, r1, gb_some, uf, gb_some, if_pos h1, r6, if_pos h2]
        show _ = some (if gaB F S A t i = true then nI i else _, u)
        rw [hg, if_pos rfl]
      · have hg : gaB F S A t i = false := by
          cases q : gaB F S A t i
          · rfl
          · exact absurd (hmr.mp q).2 h2
        obtain ⟨τ, q1, q2⟩ := nxt hg
        refine ⟨τ, ?_, q2⟩
        conv => lhs; unfold mX10_all_b36
        rw [if_neg n1000, r1, gb_some, uf, gb_some, if_pos h1, r6, if_neg h2]
        exact q1
    · have hg : gaB F S A t i = false := by
        cases q : gaB F S A t i
        · rfl
        · exact absurd (hmr.mp q).1 h1
      obtain ⟨τ, q1, q2⟩ := nxt hg
      refine ⟨τ, ?_, q2⟩
      conv => lhs; unfold mX10_all_b36
      rw [if_neg n1000, r1, gb_some, uf, gb_some, if_neg h1]
      exact q1
theorem s_all : S_all Inv := by
  intro σ p0 hI
  obtain ⟨f, w, K, F, hX⟩ := Cx_Inv hI
  obtain ⟨hV, hS, hK, kk, -⟩ := id hX
  obtain ⟨z0, z1, z2, z3, z4, z5, z6, z7, z8⟩ := id hS
  obtain ⟨t, -, ht, et⟩ := id z5
  have gK : gk K = 3 := by rcases hK with rfl | rfl <;> rfl
  have hw := hV.2.1
  cases hwi : wi p0 0 1 with
  | false =>
    refine ⟨-1, σ, σ, ?_, ?_, hI⟩
    · unfold mX9_all
      rw [w9, gb_some, hwi, if_neg (by decide)]
    · unfold mX10_all
      rw [w10, gb_some, hwi, if_neg (by decide)]
  | true =>
    obtain ⟨s, q1, q2, q3, q4⟩ := askGr_eq hV
    have s8 : s.1 8 = σ.1 8 := q3 8 (by decide)
    by_cases h0 : p0 = 0
    · obtain ⟨τ, r1, r2, r3, r4, r5, r6⟩ := walk9_eq (A := GR σ w) (Cx_ks hX q2) (by rw [s8]; exact et) ht q4
      rw [s8] at r5
      have kτ := ks_tr q2 r2
      have hVτ := IV_ks hV kτ
      obtain ⟨u, u1, u2, u3⟩ := plansAll_eq hVτ
      have kσu := ks_tr kτ (ks_km u2)
      have e59 : u.1 59 = σ.1 59 := kσu.1 59 (by unfold kp; omega)
      have rτ : ∀ a, 2 ≤ a → a ≤ 7 → τ.1 a = σ.1 a := fun a x y => kτ.1 a (by unfold kp; omega)
      have eG : GR τ w = GR σ w := by
        funext d
        unfold GR
        rw [rτ 5 (by omega) (by omega), rτ 6 (by omega) (by omega)]
      rw [eG] at u3
      obtain ⟨υ, v1, v2, v3, v4, v5, v6⟩ := refWalk hS (Mx_ks hX kσu) e59 et ht u3
      have kυ := ks_tr kσu (ks_km v2)
      have hVυ := IV_ks hV kυ
      have rυ : ∀ a, 2 ≤ a → a ≤ 7 → υ.1 a = σ.1 a := fun a x y => kυ.1 a (by unfold kp; omega)
      refine ⟨fu (σ.1 5) (σ.1 6) (PO σ F (GR σ w) t) t w 0, τ, υ, ?_, ?_, Inv_ks hI kυ⟩
      · unfold mX9_all
        rw [w9, gb_some, hwi, if_pos rfl, q1, gb_some, if_pos h0, bind_id]
        unfold mX9_firstUnmet
        rw [q2.2.2.2.2, kk]
        show (if gk K = 3 then _ else _) = _
        rw [if_pos gK, r1, gb_some, gl_eq]
        have l := unmet9_loop (P := PO σ F (GR σ w) t) hVτ (show τ.1 8 4 = nI t by rw [kτ.1 8 (by unfold kp; omega)]; exact et) ht r5 w 0 1100 (by omega) (by omega)
        rw [rτ 5 (by omega) (by omega), rτ 6 (by omega) (by omega)] at l
        exact l
      · unfold mX10_all
        rw [w10, gb_some, hwi, if_pos rfl, u1, gb_some, if_pos h0, if_pos (by decide), show Int32.toNatClampNeg 0 = 0 from by decide, v1, gb_some, bind_id]
        unfold mX10_firstUnmet
        rw [gl_eq]
        have l := unmet10_loop (P := PO σ F (GR σ w) t) hVυ (show υ.1 59 4 = nI t by rw [kυ.1 59 (by unfold kp; omega), z4]; exact et) ht v5 w 0 1100 (by omega) (by omega)
        rw [rυ 5 (by omega) (by omega), rυ 6 (by omega) (by omega)] at l
        exact l
    · obtain ⟨τ, r1, r2⟩ := least9_loop (A := GR σ w) (S := σ.1 8) ht z6 z7 et 1000 0 s 1100 (Cx_ks hX q2) s8 q4 (by omega) (by omega)
      have kτ := ks_tr q2 r2
      have hVτ := IV_ks hV kτ
      obtain ⟨u, u1, u2, u3⟩ := plansAll_eq hVτ
      have kσu := ks_tr kτ (ks_km u2)
      have e59 : u.1 59 = σ.1 59 := kσu.1 59 (by unfold kp; omega)
      have rτ : ∀ a, 2 ≤ a → a ≤ 7 → τ.1 a = σ.1 a := fun a x y => kτ.1 a (by unfold kp; omega)
      have ru : ∀ a, 2 ≤ a → a ≤ 7 → u.1 a = σ.1 a := fun a x y => kσu.1 a (by unfold kp; omega)
      have eG : GR τ w = GR σ w := by
        funext d
        unfold GR
        rw [rτ 5 (by omega) (by omega), rτ 6 (by omega) (by omega)]
      have eG2 : GR u w = GR σ w := by
        funext d
        unfold GR
        rw [ru 5 (by omega) (by omega), ru 6 (by omega) (by omega)]
      rw [eG] at u3
      obtain ⟨υ, v1, v2⟩ := least10_loop (A := GR σ w) (S := σ.1 59) (F := F) ht (by rw [z2]; exact z6) (by rw [z3]; exact z7) (by rw [z4]; exact et) 1000 0 u 1100 (Mx_ks hX kσu) (IV_ks hV kσu) e59 u3 (fun j _ => by rw [eG2]) (by omega) (by omega)
      have eL : gaB F (σ.1 59) (GR σ w) t = gaB F (σ.1 8) (GR σ w) t := by
        funext c
        unfold gaB
        rw [show nxS F (σ.1 59) = nxS F (σ.1 8) from nxS_eq z1 z2 z3, z1]
      rw [eL] at v1
      refine ⟨lsf (gaB F (σ.1 8) (GR σ w) t) 1000 0, τ, υ, ?_, ?_, Inv_ks hI (ks_tr kσu (ks_km v2))⟩
      · unfold mX9_all
        rw [w9, gb_some, hwi, if_pos rfl, q1, gb_some, if_neg h0, bind_id]
        unfold mX9_leastCold
        rw [gl_eq]
        exact r1
      · unfold mX10_all
        rw [w10, gb_some, hwi, if_pos rfl, u1, gb_some, if_neg h0, gl_eq]
        exact v1
