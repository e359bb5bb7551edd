/-! ===== byTurns ===== -/
/-- what the first one has more, from turn i on, m turns being left; `D` of a turn in which l is let out -/
def tv (sh : Nat → Int32 → Int32) (b : Int32) (N : Nat → Int32 → Int32 → Int32) (h : Int32) (t : Nat) : Nat → Nat → Int32 → Int32
  | 0, _, _ => 0
  | m + 1, i, c => if 30 ≤ t + i then 0 else
      if i % 2 = 0 then gMax (sh (t + i) (gMin 0 (dw b c)) + tv sh b N h t m (i + 1) (N (t + i) (dw b c - gMin 0 (dw b c)) (gMin 0 (dw b c)))) (sh (t + i) (gMin h (dw b c)) + tv sh b N h t m (i + 1) (N (t + i) (dw b c - gMin h (dw b c)) (gMin h (dw b c))))
      else gMin (sh (t + i) (gMin 0 (dw b c)) + tv sh b N h t m (i + 1) (N (t + i) (dw b c - gMin 0 (dw b c)) (gMin 0 (dw b c)))) (sh (t + i) (gMin h (dw b c)) + tv sh b N h t m (i + 1) (N (t + i) (dw b c - gMin h (dw b c)) (gMin h (dw b c))))
def dv (sh : Nat → Int32 → Int32) (b : Int32) (N : Nat → Int32 → Int32 → Int32) (h : Int32) (t m i : Nat) (c l : Int32) : Int32 := sh (t + i) (gMin l (dw b c)) + tv sh b N h t m (i + 1) (N (t + i) (dw b c - gMin l (dw b c)) (gMin l (dw b c)))
theorem tv_s {sh : Nat → Int32 → Int32} {b : Int32} {N : Nat → Int32 → Int32 → Int32} {h : Int32} {t m i : Nat} {c : Int32} (h30 : ¬ 30 ≤ t + i) : tv sh b N h t (m + 1) i c = if i % 2 = 0 then gMax (dv sh b N h t m i c 0) (dv sh b N h t m i c h) else gMin (dv sh b N h t m i c 0) (dv sh b N h t m i c h) := by
  show (if 30 ≤ t + i then _ else _) = _
  rw [if_neg h30]
  rfl
/-- the lead of farm a over farm b -/
def leadS (σ : gS) (w a b d : Nat) (l : Int32) : Int32 := shS σ w (nI d) l a - shS σ w (nI d) l b
theorem shS_rows {σ τ : gS} {w : Nat} {d l : Int32} {fi : Nat} (h : ∀ a, 2 ≤ a → a ≤ 7 → τ.1 a = σ.1 a) : shS τ w d l fi = shS σ w d l fi := by
  unfold shS
  rw [h 4 (by omega) (by omega), h 5 (by omega) (by omega), h 6 (by omega) (by omega), h 7 (by omega) (by omega), h 2 (by omega) (by omega)]
theorem turns10 {f w a b n t : Nat} {F : gLw} {W : Nat → Int32} {σ0 : gS} {h : Int32} (ha : a < 6) (hb : b < 6) (hn : n ≤ 9) (ht : t ≤ 29) (hS2 : rg (W 2) 0 9) (hS3 : rg (W 3) 0 9) (hS4 : W 4 = nI t) : ∀ (m : Nat),
    (∀ (i d : Nat) (σ : gS) (c : Int32), Mx σ F → IV σ f w → σ.1 59 = W → (∀ a, 2 ≤ a → a ≤ 7 → σ.1 a = σ0.1 a) → i + m = n → 2 * m < d → ∃ τ : gS, (mgturns d).1 σ (nI i) (nI n) (nI a) (nI b) h c = some (tv (leadS σ0 w a b) (W 1) (nxS F W) h t m i c, τ) ∧ km σ τ) ∧
    (∀ (i d : Nat) (σ : gS) (c l : Int32), Mx σ F → IV σ f w → σ.1 59 = W → (∀ a, 2 ≤ a → a ≤ 7 → σ.1 a = σ0.1 a) → i + m + 1 = n → 2 * m + 1 < d → ∃ τ : gS, (mgturns d).2 σ (nI i) (nI n) (nI a) (nI b) h c l = some (dv (leadS σ0 w a b) (W 1) (nxS F W) h t m i c l, τ) ∧ km σ τ) := by
  intro m
  induction m with
  | zero =>
    have A : ∀ (i d : Nat) (σ : gS) (c : Int32), Mx σ F → IV σ f w → σ.1 59 = W → (∀ a, 2 ≤ a → a ≤ 7 → σ.1 a = σ0.1 a) → i + 0 = n → 2 * 0 < d → ∃ τ : gS, (mgturns d).1 σ (nI i) (nI n) (nI a) (nI b) h c = some (tv (leadS σ0 w a b) (W 1) (nxS F W) h t 0 i c, τ) ∧ km σ τ := fun i d σ c _ _ _ _ hi hd => by
      obtain ⟨d, rfl⟩ : ∃ m, d = m + 1 := ⟨d - 1, by omega⟩
      refine ⟨σ, ?_, km_rf σ⟩
      show mrX10_turnFrom (mgturns d) σ (nI i) (nI n) (nI a) (nI b) h c = _
      unfold mrX10_turnFrom
      rw [now_eq, gb_some, gl_eq, if_pos (by rw [show i = n by omega])]
      rfl
    refine ⟨A, fun i d σ c l hM hV h5 hR hi hd => ?_⟩
    obtain ⟨d, rfl⟩ : ∃ m, d = m + 1 := ⟨d - 1, by omega⟩
    obtain ⟨out, hout⟩ : ∃ out, out = gMin l (dw (W 1) c) := ⟨_, rfl⟩
    obtain ⟨u, r1, r2, r3⟩ := nightX hM (by rw [h5]; exact hS2) (by rw [h5]; exact hS3) (dw (W 1) c - out) out (nI (t + i))
    rw [h5] at r1
    obtain ⟨τ, q1, q2⟩ := A (i + 1) d u (nx F (W 2) (W 3) (W 1) (nI (t + i)) (dw (W 1) c - out) out) (Mx_km hM r2) (IV_ks hV (ks_km r2)) (by rw [r3 59 (by decide) (by decide)]; exact h5) (fun a x y => by rw [r3 a (by omega) (by omega)]; exact hR a x y) (by omega) (by omega)
    refine ⟨τ, ?_, km_tr r2 q2⟩
    have tail : mX10_doing_b25 (mgturns d) σ (nI i) (nI n) (nI a) (nI b) h l (nI (t + i)) (dw (W 1) c) = some (dv (leadS σ0 w a b) (W 1) (nxS F W) h t 0 i c l, τ) := by
      unfold mX10_doing_b25
      rw [gl_eq, gMin_comm, ← hout, gl_eq, has_eq hV ha, gb_some, has_eq hV hb, gb_some, r1, gb_some, nI_1, q1, gb_some]
      unfold dv
      rw [← hout]
      show some (shS σ w (nI (t + i)) out a - shS σ w (nI (t + i)) out b + _, τ) = _
      rw [shS_rows hR, shS_rows hR]
      rfl
    show mrX10_doing (mgturns d) σ (nI i) (nI n) (nI a) (nI b) h c l = _
    unfold mrX10_doing
    rw [now_eq, gb_some, h5, hS4, nI_add, gl_eq, if_pos (by decide), show Int32.toNatClampNeg 1 = 1 from by decide]
    by_cases hbb : c ≤ W 1
    · rw [if_pos hbb]
      rw [show dw (W 1) c = c from if_pos hbb] at tail
      exact tail
    · rw [if_neg hbb]
      rw [show dw (W 1) c = 0 from if_neg hbb] at tail
      exact tail
  | succ m ih =>
    obtain ⟨ih1, ih2⟩ := ih
    have A : ∀ (i d : Nat) (σ : gS) (c : Int32), Mx σ F → IV σ f w → σ.1 59 = W → (∀ a, 2 ≤ a → a ≤ 7 → σ.1 a = σ0.1 a) → i + (m + 1) = n → 2 * (m + 1) < d → ∃ τ : gS, (mgturns d).1 σ (nI i) (nI n) (nI a) (nI b) h c = some (tv (leadS σ0 w a b) (W 1) (nxS F W) h t (m + 1) i c, τ) ∧ km σ τ := fun i d σ c hM hV h5 hR hi hd => by
      obtain ⟨d, rfl⟩ : ∃ m, d = m + 1 := ⟨d - 1, by omega⟩
      have nin : ¬ nI i = nI n := fun q => by have := (nI_eq (by omega) (by omega)).mp q; omega
      by_cases h30 : 30 ≤ t + i
      · refine ⟨σ, ?_, km_rf σ⟩
        show mrX10_turnFrom (mgturns d) σ (nI i) (nI n) (nI a) (nI b) h c = some ((if 30 ≤ t + i then 0 else _), σ)
        unfold mrX10_turnFrom
        rw [now_eq, gb_some, h5, hS4, nI_add, gl_eq, if_neg nin, if_neg (show ¬ nI (t + i) < 30 from nI_nlt (b := 30) h30 (by omega)), if_pos h30]
      · obtain ⟨u, r1, r2⟩ := ih2 i d σ c 0 hM hV h5 hR (by omega) (by omega)
        have row : ∀ a, 2 ≤ a → a ≤ 7 → u.1 a = σ0.1 a := fun a x y => by rw [r2.1 a (by omega) (by omega) (by omega) (by omega) (by omega) (by omega)]; exact hR a x y
        obtain ⟨τ, q1, q2⟩ := ih2 i d u c h (Mx_km hM r2) (IV_ks hV (ks_km r2)) ((r2.1 59 (by decide) (by decide) (by decide) (by decide) (by decide) (by decide)).trans h5) row (by omega) (by omega)
        refine ⟨τ, ?_, km_tr r2 q2⟩
        rw [tv_s h30]
        show mrX10_turnFrom (mgturns d) σ (nI i) (nI n) (nI a) (nI b) h c = _
        unfold mrX10_turnFrom
        rw [now_eq, gb_some, h5, hS4, nI_add, gl_eq, if_neg nin, if_pos (show nI (t + i) < 30 from nI_lt (b := 30) (by omega) (by decide)), r1, gb_some, gl_eq, q1, gb_some, gl_eq, show gRem (nI i) 2 = nI (i % 2) from rem_n (d := 2) (by omega) (by decide) (by decide)]
        by_cases he : i % 2 = 0
        · rw [he, if_pos nI_0, if_pos rfl]
        · rw [if_neg (nI_ne0 (by omega) (by omega)), if_neg he]
    refine ⟨A, fun i d σ c l hM hV h5 hR hi hd => ?_⟩
    obtain ⟨d, rfl⟩ : ∃ m, d = m + 1 := ⟨d - 1, by omega⟩
    obtain ⟨out, hout⟩ : ∃ out, out = gMin l (dw (W 1) c) := ⟨_, rfl⟩
    obtain ⟨u, r1, r2, r3⟩ := nightX hM (by rw [h5]; exact hS2) (by rw [h5]; exact hS3) (dw (W 1) c - out) out (nI (t + i))
    rw [h5] at r1
    obtain ⟨τ, q1, q2⟩ := A (i + 1) d u (nx F (W 2) (W 3) (W 1) (nI (t + i)) (dw (W 1) c - out) out) (Mx_km hM r2) (IV_ks hV (ks_km r2)) (by rw [r3 59 (by decide) (by decide)]; exact h5) (fun a x y => by rw [r3 a (by omega) (by omega)]; exact hR a x y) (by omega) (by omega)
    refine ⟨τ, ?_, km_tr r2 q2⟩
    have tail : mX10_doing_b25 (mgturns d) σ (nI i) (nI n) (nI a) (nI b) h l (nI (t + i)) (dw (W 1) c) = some (dv (leadS σ0 w a b) (W 1) (nxS F W) h t (m + 1) i c l, τ) := by
      unfold mX10_doing_b25
      rw [gl_eq, gMin_comm, ← hout, gl_eq, has_eq hV ha, gb_some, has_eq hV hb, gb_some, r1, gb_some, nI_1, q1, gb_some]
      unfold dv
      rw [← hout]
      show some (shS σ w (nI (t + i)) out a - shS σ w (nI (t + i)) out b + _, τ) = _
      rw [shS_rows hR, shS_rows hR]
      rfl
    show mrX10_doing (mgturns d) σ (nI i) (nI n) (nI a) (nI b) h c l = _
    unfold mrX10_doing
    rw [now_eq, gb_some, h5, hS4, nI_add, gl_eq, if_pos (by decide), show Int32.toNatClampNeg 1 = 1 from by decide]
    by_cases hbb : c ≤ W 1
    · rw [if_pos hbb]
      rw [show dw (W 1) c = c from if_pos hbb] at tail
      exact tail
    · rw [if_neg hbb]
      rw [show dw (W 1) c = 0 from if_neg hbb] at tail
      exact tail
theorem turns9 {f w K a b n t : Nat} {F : gLw} {S : Nat → Int32} {σ0 : gS} {h : Int32} (ha : a < 6) (hb : b < 6) (hn : n ≤ 9) (ht : t ≤ 29) (hS2 : rg (S 2) 0 9) (hS3 : rg (S 3) 0 9) (hS4 : S 4 = nI t) : ∀ (m i d : Nat) (σ : gS) (c there l : Int32), Cx σ f w K F → σ.1 8 = S → (∀ a, 2 ≤ a → a ≤ 7 → σ.1 a = σ0.1 a) → σ.1 14 5 = nI a → σ.1 14 6 = nI b → σ.1 14 7 = h → σ.1 14 8 = nI n → i + m + 1 = n → m < d → t + i ≤ 29 → there = dw (S 1) c →
    ∃ τ : gS, mgafterTurn d σ (nI i) there l = some (dv (leadS σ0 w a b) (S 1) (nxS F S) h t m i c l, τ) ∧ ks σ τ ∧ ∀ a, a < 18 → τ.1 a = σ.1 a := by
  intro m
  induction m with
  | zero =>
    intro i d σ c there l hX h8 hR g5 g6 g7 g8 hi hd h29 hth
    obtain ⟨d, rfl⟩ : ∃ m, d = m + 1 := ⟨d - 1, by omega⟩
    have hV := hX.1
    refine ⟨σ, ?_, ks_rf σ, fun _ _ => rfl⟩
    show mrX9_afterTurn (mgafterTurn d) σ (nI i) there l = _
    unfold mrX9_afterTurn
    rw [h8, hS4, nI_add, gl_eq, gl_eq, g5, share_eq hV.2.1 hV.2.2.2.2.1 ha, gb_some, g6, share_eq hV.2.1 hV.2.2.2.2.1 hb, gb_some, gl_eq, gl_eq, gl_eq, g8, nI_1, if_pos (nI_le (show n ≤ i + 1 by omega) (by omega)), hth]
    unfold dv
    show some (shS σ w (nI (t + i)) (gMin l (dw (S 1) c)) a - shS σ w (nI (t + i)) (gMin l (dw (S 1) c)) b, σ) = some (leadS σ0 w a b (t + i) (gMin l (dw (S 1) c)) + 0, σ)
    rw [Int32.add_zero, shS_rows hR, shS_rows hR]
    rfl
  | succ m ih =>
    intro i d σ c there l hX h8 hR g5 g6 g7 g8 hi hd h29 hth
    obtain ⟨d, rfl⟩ : ∃ m, d = m + 1 := ⟨d - 1, by omega⟩
    have hV := hX.1
    have hs := fun (x : Int32) => shS_rows (w := w) (d := nI (t + i)) (l := x) (fi := a) hR
    have hs2 := fun (x : Int32) => shS_rows (w := w) (d := nI (t + i)) (l := x) (fi := b) hR
    by_cases h30 : 30 ≤ t + (i + 1)
    · refine ⟨σ, ?_, ks_rf σ, fun _ _ => rfl⟩
      show mrX9_afterTurn (mgafterTurn d) σ (nI i) there l = _
      unfold mrX9_afterTurn
      rw [h8, hS4, nI_add, gl_eq, gl_eq, g5, share_eq hV.2.1 hV.2.2.2.2.1 ha, gb_some, g6, share_eq hV.2.1 hV.2.2.2.2.1 hb, gb_some, gl_eq, gl_eq, gl_eq, g8, nI_1, nI_1, if_neg (nI_ge (show i + 1 < n by omega) (by omega)), if_neg (show ¬ nI (t + i + 1) ≤ 29 from nI_ge (a := 29) (by omega) (by omega)), hth]
      unfold dv
      have z : tv (leadS σ0 w a b) (S 1) (nxS F S) h t (m + 1) (i + 1) (nxS F S (t + i) (dw (S 1) c - gMin l (dw (S 1) c)) (gMin l (dw (S 1) c))) = 0 := if_pos h30
      rw [z, Int32.add_zero]
      show some (shS σ w (nI (t + i)) (gMin l (dw (S 1) c)) a - shS σ w (nI (t + i)) (gMin l (dw (S 1) c)) b, σ) = _
      rw [hs, hs2]
      rfl
    · obtain ⟨out, hout⟩ : ∃ out, out = gMin l (dw (S 1) c) := ⟨_, rfl⟩
      obtain ⟨u, r1, r2, r3⟩ := nightC hX (q := 8) (Or.inl rfl) (by rw [h8]; exact hS2) (by rw [h8]; exact hS3) (nI (t + i)) (dw (S 1) c - out) out
      rw [h8] at r1
      obtain ⟨c2, hc2⟩ : ∃ c2, c2 = nx F (S 2) (S 3) (S 1) (nI (t + i)) (dw (S 1) c - out) out := ⟨_, rfl⟩
      rw [← hc2] at r1
      have u8 : u.1 8 = S := (r3 8 (by decide)).trans h8
      have uR : ∀ a, 2 ≤ a → a ≤ 7 → u.1 a = σ0.1 a := fun a x y => by rw [r3 a (by omega)]; exact hR a x y
      have u14 : u.1 14 = σ.1 14 := r3 14 (by decide)
      obtain ⟨v, s1, s2, s3⟩ := ih (i + 1) d u c2 (dw (S 1) c2) 0 (Cx_ks hX r2) u8 uR (by rw [u14]; exact g5) (by rw [u14]; exact g6) (by rw [u14]; exact g7) (by rw [u14]; exact g8) (by omega) (by omega) (by omega) rfl
      have v14 : v.1 14 = σ.1 14 := (s3 14 (by decide)).trans u14
      obtain ⟨τ, p1, p2, p3⟩ := ih (i + 1) d v c2 (dw (S 1) c2) h (Cx_ks (Cx_ks hX r2) s2) ((s3 8 (by decide)).trans u8) (fun a x y => by rw [s3 a (by omega)]; exact uR a x y) (by rw [v14]; exact g5) (by rw [v14]; exact g6) (by rw [v14]; exact g7) (by rw [v14]; exact g8) (by omega) (by omega) (by omega) rfl
      refine ⟨τ, ?_, ks_tr r2 (ks_tr s2 p2), fun a x => by rw [p3 a x, s3 a x, r3 a x]⟩
      show mrX9_afterTurn (mgafterTurn d) σ (nI i) there l = _
      unfold mrX9_afterTurn
      rw [h8, hS4, nI_add, gl_eq, hth, ← hout, gl_eq, g5, share_eq hV.2.1 hV.2.2.2.2.1 ha, gb_some, g6, share_eq hV.2.1 hV.2.2.2.2.1 hb, gb_some, gl_eq, gl_eq, gl_eq, g8, nI_1, nI_1, if_neg (nI_ge (show i + 1 < n by omega) (by omega)), if_pos (show nI (t + i + 1) ≤ 29 from nI_le (b := 29) (by omega) (by decide)), hX.2.2.2.1]
      show (if gk K = 3 then _ else _) = _
      rw [if_pos (by rcases hX.2.2.1 with rfl | rfl <;> rfl), r1, gb_some, dawn_day rfl (show t + i + 1 ≤ 29 by omega), gb_some, gl_eq, u8, s1, gb_some, gl_eq, v14, g7, p1, gb_some, gl_eq, show gRem (nI (i + 1)) 2 = nI ((i + 1) % 2) from rem_n (d := 2) (by omega) (by decide) (by decide)]
      unfold dv
      rw [← hout, show nxS F S (t + i) (dw (S 1) c - out) out = c2 from hc2.symm, tv_s h30]
      have el : shV w (σ.1 4) (σ.1 5) (σ.1 6) (σ.1 7) (σ.1 2) a (nI (t + i)) out - shV w (σ.1 4) (σ.1 5) (σ.1 6) (σ.1 7) (σ.1 2) b (nI (t + i)) out = leadS σ0 w a b (t + i) out := by
        show shS σ w (nI (t + i)) out a - shS σ w (nI (t + i)) out b = _
        rw [hs, hs2]
        rfl
      rw [el]
      unfold mX9_afterTurn_b160
      by_cases he : (i + 1) % 2 = 0
      · rw [he, if_pos nI_0, if_pos rfl, gl_eq, if_neg (by decide)]
        rfl
      · rw [if_neg (nI_ne0 (by omega) (by omega)), if_neg he, gl_eq, if_pos rfl]
        rfl
/-- what byTurns() asks of its words -/
def btG (f : Nat) (p0 p1 p2 : Int32) : Prop := ¬ p0 < 0 ∧ ¬ p1 < 0 ∧ wi p2 0 1 = true ∧ inN (p0 / 10) f = true ∧ inN (gRem p0 10) f = true ∧ ¬ p0 / 10 = gRem p0 10 ∧ wi (p1 / 10) 1 24 = true ∧ wi (gRem p1 10) 1 5 = true
theorem bt9_no {σ : gS} {f w : Nat} (hV : IV σ f w) {p0 p1 p2 : Int32} (h : ¬ btG f p0 p1 p2) : mX9_byTurns σ p0 p1 p2 = some (-2000000000, σ) := by
  unfold mX9_byTurns
  by_cases h1 : p0 < 0
  · rw [if_pos h1]
  · rw [if_neg h1]
    by_cases h2 : p1 < 0
    · rw [if_pos h2]
    · rw [if_neg h2, w9, gb_some]
      cases h3 : wi p2 0 1
      · rw [if_neg (by decide)]
      · rw [if_pos rfl, gl_eq, gl_eq, gl_eq, gl_eq, hasFarm_eq hV.2.2.1, gb_some]
        cases h4 : inN (p0 / 10) f
        · rw [if_neg (by decide)]
        · rw [if_pos rfl, hasFarm_eq hV.2.2.1, gb_some]
          cases h5 : inN (gRem p0 10) f
          · rw [if_neg (by decide)]
          · rw [if_pos rfl]
            by_cases h6 : p0 / 10 = gRem p0 10
            · rw [if_pos h6]
            · rw [if_neg h6, w9, gb_some]
              cases h7 : wi (p1 / 10) 1 24
              · rw [if_neg (by decide)]
              · rw [if_pos rfl, w9, gb_some]
                cases h8 : wi (gRem p1 10) 1 5
                · rw [if_neg (by decide)]
                · exact absurd ⟨h1, h2, h3, h4, h5, h6, h7, h8⟩ h
theorem bt10_no {σ : gS} {f w : Nat} (hV : IV σ f w) {p0 p1 p2 : Int32} (h : ¬ btG f p0 p1 p2) : mX10_byTurns σ p0 p1 p2 = some (-2000000000, σ) := by
  have hf := hV.1
  unfold mX10_byTurns
  by_cases h1 : p0 < 0
  · rw [if_pos h1]
  · rw [if_neg h1, isFarm_eq (by omega) hV.2.2.2.1, gb_some]
    cases h4 : inN (p0 / 10) f
    · rw [if_neg (by decide)]
    · rw [if_pos rfl, isFarm_eq (by omega) hV.2.2.2.1, gb_some]
      cases h5 : inN (gRem p0 10) f
      · rw [if_neg (by decide)]
      · rw [if_pos rfl]
        by_cases h6 : p0 / 10 = gRem p0 10
        · rw [if_pos h6]
        · rw [if_neg h6]
          by_cases h2 : p1 < 0
          · rw [if_pos h2]
          · rw [if_neg h2, w10, gb_some]
            cases h7 : wi (p1 / 10) 1 24
            · rw [if_neg (by decide)]
            · rw [if_pos rfl, w10, gb_some]
              cases h8 : wi (gRem p1 10) 1 5
              · rw [if_neg (by decide)]
              · rw [if_pos rfl, w10, gb_some]
                cases h3 : wi p2 0 1
                · rw [if_neg (by decide)]
                · exact absurd ⟨h1, h2, h3, h4, h5, h6, h7, h8⟩ h
theorem s_byTurns : S_byTurns Inv := by
  intro σ p0 p1 p2 hI
  obtain ⟨f, w, K, F, hX⟩ := Cx_Inv hI
  obtain ⟨hV, hS, hK, kk, -⟩ := id hX
  obtain ⟨z0, z1, z2, z3, z4, z5, z6, z7, z8⟩ := id hS
  obtain ⟨t, -, ht, et⟩ := id z5
  have hf := hV.1
  by_cases hG : btG f p0 p1 p2
  · obtain ⟨h1, h2, h3, h4, h5, h6, h7, h8⟩ := id hG
    obtain ⟨a, ha, ea⟩ := inN_of (by omega) h4
    obtain ⟨b, hb, eb⟩ := inN_of (by omega) h5
    obtain ⟨n, hn1, hn2, en⟩ := wi_rg (a := 1) (b := 5) (by decide) (by decide) h8
    obtain ⟨h, eh⟩ : ∃ h, h = p1 / 10 := ⟨_, rfl⟩
    obtain ⟨m, rfl⟩ : ∃ m, n = m + 1 := ⟨n - 1, by omega⟩
    have k14 : ¬ kp 14 := by unfold kp; omega
    obtain ⟨s, hs⟩ : ∃ s, s = gUI (gUI (gUI (gUI σ 14 5 (p0 / 10)) 14 6 (gRem p0 10)) 14 7 (p1 / 10)) 14 8 (gRem p1 10) := ⟨_, rfl⟩
    have kk14 : ∀ (x : gS) (jj : Nat) (v : Int32), ks x (gUI x 14 jj v) := fun x jj v => ks_UI k14 (by decide) (by decide) (by decide)
    have e1 : ks σ s := by rw [hs]; exact ks_tr (kk14 _ _ _) (ks_tr (kk14 _ _ _) (ks_tr (kk14 _ _ _) (kk14 _ _ _)))
    have g : ∀ a, a ≠ 14 → s.1 a = σ.1 a := fun a x => by rw [hs, gUI_ne x, gUI_ne x, gUI_ne x, gUI_ne x]
    have b5 : s.1 14 5 = nI a := by rw [hs, ← ea]; simp [gUI_at]
    have b6 : s.1 14 6 = nI b := by rw [hs, ← eb]; simp [gUI_at]
    have b7 : s.1 14 7 = h := by rw [hs, eh]; simp [gUI_at]
    have b8 : s.1 14 8 = nI (m + 1) := by rw [hs, ← en]; simp [gUI_at]
    have s8 : s.1 8 = σ.1 8 := g 8 (by decide)
    have Xs := Cx_ks hX e1
    obtain ⟨u, r1, r2, r3⟩ := turns9 (σ0 := σ) (S := σ.1 8) (h := h) (n := m + 1) (t := t) (show a < 6 by omega) (show b < 6 by omega) (by omega) ht z6 z7 et m 0 8 s (σ.1 8 0) (dw (σ.1 8 1) (σ.1 8 0)) 0 Xs s8 (fun a x y => g a (by omega)) b5 b6 b7 b8 (by omega) (by omega) (by omega) rfl
    have u14 : u.1 14 = s.1 14 := r3 14 (by decide)
    obtain ⟨τ, q1, q2, q3⟩ := turns9 (σ0 := σ) (S := σ.1 8) (h := h) (n := m + 1) (t := t) (show a < 6 by omega) (show b < 6 by omega) (by omega) ht z6 z7 et m 0 8 u (σ.1 8 0) (dw (σ.1 8 1) (σ.1 8 0)) h (Cx_ks Xs r2) ((r3 8 (by decide)).trans s8) (fun a x y => by rw [r3 a (by omega)]; exact g a (by omega)) (by rw [u14]; exact b5) (by rw [u14]; exact b6) (by rw [u14]; exact b7) (by rw [u14]; exact b8) (by omega) (by omega) (by omega) rfl
    have kτ := ks_tr e1 (ks_tr r2 q2)
    have t59 : τ.1 59 = σ.1 59 := kτ.1 59 (by unfold kp; omega)
    have hVτ := IV_ks hV kτ
    have hMτ := Mx_ks hX kτ
    have Rτ : ∀ a, 2 ≤ a → a ≤ 7 → τ.1 a = σ.1 a := fun a x y => kτ.1 a (by unfold kp; omega)
    have T10 := fun (mm : Nat) => turns10 (F := F) (f := f) (w := w) (σ0 := σ) (W := σ.1 59) (h := h) (n := m + 1) (t := t) (show a < 6 by omega) (show b < 6 by omega) (by omega) ht (by rw [z2]; exact z6) (by rw [z3]; exact z7) (by rw [z4]; exact et) mm
    have eN : nxS F (σ.1 59) = nxS F (σ.1 8) := nxS_eq z1 z2 z3
    have A9 : ∀ x, (if p2 = 0 then (some ((gMax (dv (leadS σ w a b) (σ.1 8 1) (nxS F (σ.1 8)) h t m 0 (σ.1 8 0) 0) (dv (leadS σ w a b) (σ.1 8 1) (nxS F (σ.1 8)) h t m 0 (σ.1 8 0) h)), τ)) else (if (dv (leadS σ w a b) (σ.1 8 1) (nxS F (σ.1 8)) h t m 0 (σ.1 8 0) h) ≤ (dv (leadS σ w a b) (σ.1 8 1) (nxS F (σ.1 8)) h t m 0 (σ.1 8 0) 0) then (some (0, τ)) else (some (1, τ)))) = x → mX9_byTurns σ p0 p1 p2 = x := fun x hx => by
      unfold mX9_byTurns mX4_beginTurns mX9_afterTurn
      rw [if_neg h1, if_neg h2, w9, gb_some, h3, if_pos rfl, gl_eq, gl_eq, gl_eq, gl_eq, hasFarm_eq hV.2.2.1, gb_some, h4, if_pos rfl, hasFarm_eq hV.2.2.1, gb_some, h5, if_pos rfl, if_neg h6, w9, gb_some, h7, if_pos rfl, w9, gb_some, h8, if_pos rfl, gl_eq, gl_eq, gl_eq, gl_eq, ← hs, gb_some, s8, et, dawn_day rfl ht, gb_some, gl_eq, s8, show (0 : Int32) = nI 0 from rfl]
      rw [show (nI 0 : Int32) = 0 from rfl] at *
      rw [show mgafterTurn 8 s 0 (dw (σ.1 8 1) (σ.1 8 0)) 0 = _ from r1, gb_some, gl_eq, ← eh, show mgafterTurn 8 u 0 (dw (σ.1 8 1) (σ.1 8 0)) h = _ from q1, gb_some, gl_eq]
      exact hx
    have A10 : ∀ x, (if p2 = 0 then (gBind (mX10_turnFrom τ 0 (nI (m + 1)) (nI a) (nI b) h (τ.1 59 0)) (fun r19 s20 => some (r19, s20))) else (gBind (mX10_doing τ 0 (nI (m + 1)) (nI a) (nI b) h (τ.1 59 0) h) (fun r15 s16 => gBind (mX10_doing s16 0 (nI (m + 1)) (nI a) (nI b) h (s16.1 59 0) 0) (fun r17 s18 => if r15 ≤ r17 then (some (0, s18)) else (some (1, s18)))))) = x → mX10_byTurns τ p0 p1 p2 = x := fun x hx => by
      have i0 : inbB 0 5 = true := by decide
      unfold mX10_byTurns
      rw [if_neg h1, isFarm_eq (by omega) hVτ.2.2.2.1, gb_some, h4, if_pos rfl, isFarm_eq (by omega) hVτ.2.2.2.1, gb_some, h5, if_pos rfl, if_neg h6, if_neg h2, w10, gb_some, h7, if_pos rfl, w10, gb_some, h8, if_pos rfl, w10, gb_some, h3, if_pos rfl, gl_eq, gl_eq, gl_eq, gl_eq, if_pos i0, if_pos i0, show Int32.toNatClampNeg 0 = 0 from by decide, ← eh, ea, eb, en]
      simp only [if_pos i0]
      exact hx
    by_cases hp : p2 = 0
    · obtain ⟨υ, v1, v2⟩ := (T10 (m + 1)).1 0 16 τ (σ.1 59 0) hMτ hVτ t59 Rτ (by omega) (by omega)
      rw [tv_s (show ¬ 30 ≤ t + 0 by omega), if_pos rfl, eN, z0, z1] at v1
      refine ⟨_, τ, υ, A9 _ (if_pos hp), A10 _ ?_, Inv_ks hI (ks_tr kτ (ks_km v2))⟩
      rw [if_pos hp, bind_id, t59, z0]
      exact v1
    · obtain ⟨u2, v1, v2⟩ := (T10 m).2 0 16 τ (σ.1 59 0) h hMτ hVτ t59 Rτ (by omega) (by omega)
      have u59 : u2.1 59 = σ.1 59 := (v2.1 59 (by decide) (by decide) (by decide) (by decide) (by decide) (by decide)).trans t59
      obtain ⟨υ, y1, y2⟩ := (T10 m).2 0 16 u2 (σ.1 59 0) 0 (Mx_km hMτ v2) (IV_ks hVτ (ks_km v2)) u59 (fun a x y => by rw [v2.1 a (by omega) (by omega) (by omega) (by omega) (by omega) (by omega)]; exact Rτ a x y) (by omega) (by omega)
      rw [eN, z0, z1] at v1 y1
      have op10 : ∀ x, (if (dv (leadS σ w a b) (σ.1 8 1) (nxS F (σ.1 8)) h t m 0 (σ.1 8 0) h) ≤ (dv (leadS σ w a b) (σ.1 8 1) (nxS F (σ.1 8)) h t m 0 (σ.1 8 0) 0) then (some ((0 : Int32), υ)) else (some (1, υ))) = x → mX10_byTurns τ p0 p1 p2 = x := fun x hx => by
        refine A10 _ ?_
        rw [if_neg hp, t59, z0]
        unfold mX10_doing
        rw [show (mgturns 16).2 τ 0 (nI (m + 1)) (nI a) (nI b) h (σ.1 8 0) h = _ from v1, gb_some, u59, z0, show (mgturns 16).2 u2 0 (nI (m + 1)) (nI a) (nI b) h (σ.1 8 0) 0 = _ from y1, gb_some]
        exact hx
      by_cases hle : (dv (leadS σ w a b) (σ.1 8 1) (nxS F (σ.1 8)) h t m 0 (σ.1 8 0) h) ≤ (dv (leadS σ w a b) (σ.1 8 1) (nxS F (σ.1 8)) h t m 0 (σ.1 8 0) 0)
      · exact ⟨0, τ, υ, A9 _ (by rw [if_neg hp, if_pos hle]), op10 _ (if_pos hle), Inv_ks hI (ks_tr kτ (ks_tr (ks_km v2) (ks_km y2)))⟩
      · exact ⟨1, τ, υ, A9 _ (by rw [if_neg hp, if_neg hle]), op10 _ (if_neg hle), Inv_ks hI (ks_tr kτ (ks_tr (ks_km v2) (ks_km y2)))⟩
  · exact ⟨-2000000000, σ, σ, bt9_no hV hG, bt10_no hV hG, hI⟩
