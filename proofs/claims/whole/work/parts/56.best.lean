/-! ===== best ===== -/
def wx (dy hr : Nat → Int32) (d l : Int32) : Nat → Nat → Bool
  | 0, _ => false
  | k + 1, i => if dy i = d then (if hr i = l then true else wx dy hr d l k (i + 1)) else wx dy hr d l k (i + 1)
theorem wx9_loop {σ : gS} {w : Nat} (hw : w ≤ 12) (e : σ.1 1 3 = nI w) (d l : Int32) : ∀ (k i n : Nat), i + k = w → k < n → mX8_wantsExactly_b2 n σ d l (nI i) = some (wx (σ.1 5) (σ.1 6) d l k i, σ) := by
  intro k
  induction k with
  | zero =>
    intro i n hi hn
    obtain ⟨n, rfl⟩ : ∃ m, n = m + 1 := ⟨n - 1, by omega⟩
    conv => lhs; unfold mX8_wantsExactly_b2
    rw [e, if_pos (nI_le (show w ≤ i by omega) (by omega))]
    rfl
  | succ k ih =>
    intro i n hi hn
    obtain ⟨n, rfl⟩ : ∃ m, n = m + 1 := ⟨n - 1, by omega⟩
    have ib : inbB (nI i) 12 = true := inbB_nI (by omega) (by decide)
    have ci : Int32.toNatClampNeg (nI i) = i := nI_cl (by omega)
    conv => lhs; unfold mX8_wantsExactly_b2
    rw [e, if_neg (nI_ge (show i < w by omega) (by omega)), if_pos ib, ci]
    unfold mX8_wantsExactly_b32 wx
    by_cases h1 : σ.1 5 i = d
    · rw [if_pos h1, if_pos h1, if_pos ib]
      by_cases h2 : σ.1 6 i = l
      · rw [if_pos h2, if_pos h2]
      · rw [if_neg h2, if_neg h2, gl_eq, nI_1, ih (i + 1) n (by omega) (by omega)]
    · rw [if_neg h1, if_neg h1, gl_eq, nI_1, ih (i + 1) n (by omega) (by omega)]
theorem wx10_loop {σ : gS} {f w : Nat} (hV : IV σ f w) (d l : Int32) : ∀ (k i n : Nat), i + k = w → k < n → mX10_isWanted_b2 n σ d l (nI i) = some (wx (σ.1 5) (σ.1 6) d l k i, σ) := by
  obtain ⟨hf, hw, e1, e2, e3, e4, e5, e6, e7, e8, e9, e10, -⟩ := id hV
  intro k
  induction k with
  | zero =>
    intro i n hi hn
    obtain ⟨n, rfl⟩ : ∃ m, n = m + 1 := ⟨n - 1, by omega⟩
    conv => lhs; unfold mX10_isWanted_b2
    rw [e4, if_pos (nI_le (show w ≤ i by omega) (by omega))]
    rfl
  | succ k ih =>
    intro i n hi hn
    obtain ⟨n, rfl⟩ : ∃ m, n = m + 1 := ⟨n - 1, by omega⟩
    have ib : inbB (nI i) 12 = true := inbB_nI (by omega) (by decide)
    have ci : Int32.toNatClampNeg (nI i) = i := nI_cl (by omega)
    conv => lhs; unfold mX10_isWanted_b2
    rw [e4, if_neg (nI_ge (show i < w by omega) (by omega)), if_pos ib, ci, e8, e9]
    unfold mX10_isWanted_b32 wx
    by_cases h1 : σ.1 5 i = d
    · rw [if_pos h1, if_pos h1, if_pos ib]
      by_cases h2 : σ.1 6 i = l
      · rw [if_pos h2, if_pos h2]
      · rw [if_neg h2, if_neg h2, gl_eq, nI_1, ih (i + 1) n (by omega) (by omega)]
    · rw [if_neg h1, if_neg h1, gl_eq, nI_1, ih (i + 1) n (by omega) (by omega)]
/-- both searches, by what they hold -/
def BS (f w K : Nat) (F : gLw) (S : Nat → Int32) (tt i : Nat) (σ υ : gS) : Prop := Cx σ f w K F ∧ Cx υ f w K F ∧ σ.1 8 = S ∧ υ.1 8 = S ∧ σ.1 14 0 = nI tt ∧ σ.1 14 4 = υ.1 52 45 ∧ (¬ σ.1 14 4 = 0 → σ.1 14 1 = υ.1 52 44 ∧ ∀ k, k < tt → σ.1 16 k = υ.1 83 k) ∧ (∀ k, k < i → σ.1 15 k = υ.1 82 k) ∧ ∀ a, 2 ≤ a → a ≤ 7 → υ.1 a = σ.1 a
def Gd (f w K : Nat) (F : gLw) (S : Nat → Int32) (tt i : Nat) (σ υ : gS) (X Y : Option (Unit × gS)) : Prop := ∃ σ' υ' : gS, X = some ((), σ') ∧ Y = some ((), υ') ∧ ks σ σ' ∧ ks υ υ' ∧ BS f w K F S tt i σ' υ' ∧ ¬ σ'.1 14 4 = 0
theorem BS_le {f w K : Nat} {F : gLw} {S : Nat → Int32} {tt i j : Nat} {σ υ : gS} (h : BS f w K F S tt i σ υ) (hj : j ≤ i) : BS f w K F S tt j σ υ := by
  obtain ⟨h1, h2, h3, h4, h5, h6, h7, h8, h9⟩ := h
  exact ⟨h1, h2, h3, h4, h5, h6, h7, fun k hk => h8 k (by omega), h9⟩
theorem ks_UA {σ : gS} {k : Nat} {g : Nat → Int32} (hk : ¬ kp k) (h18 : k ≠ 18) (h23 : k ≠ 23) (h52 : k ≠ 52) : ks σ (gUA σ k g) := by
  have ne : ∀ a, a ≠ k → (gUA σ k g).1 a = σ.1 a := fun a h => by simp [gUA, h]
  exact ⟨fun a ha => ne a (fun q => hk (q ▸ ha)), by rw [ne 18 (fun q => h18 q.symm)], by rw [ne 23 (fun q => h23 q.symm)], fun i _ => by rw [ne 52 (fun q => h52 q.symm)], rfl⟩
theorem n14 : ¬ kp 14 := by unfold kp; omega
theorem n15 : ¬ kp 15 := by unfold kp; omega
theorem n16 : ¬ kp 16 := by unfold kp; omega
theorem n82 : ¬ kp 82 := by unfold kp; omega
theorem n83 : ¬ kp 83 := by unfold kp; omega
theorem cp_loop {rec : (gS → Int32 → Int32 → Int32 → Int32 → Option (Unit × gS))} : ∀ (k i : Nat) (σ : gS) (n : Nat), i + k = 4 → k < n → ∃ τ : gS, mX10_tries_b36 rec n σ (nI i) = some ((), τ) ∧ (∀ a, a ≠ 83 → τ.1 a = σ.1 a) ∧ τ.2 = σ.2 ∧ ∀ j, τ.1 83 j = if i ≤ j ∧ j < 4 then σ.1 82 j else σ.1 83 j := by
  intro k
  induction k with
  | zero =>
    intro i σ n hi hn
    obtain ⟨n, rfl⟩ : ∃ m, n = m + 1 := ⟨n - 1, by omega⟩
    refine ⟨σ, ?_, fun _ _ => rfl, rfl, fun j => by rw [if_neg (by omega)]⟩
    conv => lhs; unfold mX10_tries_b36
    rw [if_pos (show (4 : Int32) ≤ nI i from nI_le (a := 4) (by omega) (by omega))]
  | succ k ih =>
    intro i σ n hi hn
    obtain ⟨n, rfl⟩ : ∃ m, n = m + 1 := ⟨n - 1, by omega⟩
    have ib : inbB (nI i) 4 = true := inbB_nI (by omega) (by decide)
    obtain ⟨τ, h1, h2, h3, h4⟩ := ih (i + 1) (gUI σ 83 i (σ.1 82 i)) n (by omega) (by omega)
    refine ⟨τ, ?_, fun a ha => by rw [h2 a ha, gUI_ne ha], h3, fun j => ?_⟩
    · conv => lhs; unfold mX10_tries_b36
      rw [if_neg (show ¬ (4 : Int32) ≤ nI i from nI_ge (b := 4) (by omega) (by omega)), if_pos ib, if_pos ib, nI_cl (by omega), gl_eq, gl_eq, nI_1]
      exact h1
    · rw [h4, gUI_at, gUI_ne (show 82 ≠ 83 by decide)]
      by_cases hj : j = i
      · subst hj; rw [if_neg (by omega), if_pos rfl, if_pos (by omega)]
      · rw [if_neg hj]
        by_cases h : i ≤ j ∧ j < 4
        · rw [if_pos h, if_pos (by omega)]
        · rw [if_neg h, if_neg (by omega)]
theorem offer_both {f w K : Nat} {F : gLw} {S : Nat → Int32} {tt : Nat} {σ υ : gS} {rec : (gS → Int32 → Int32 → Int32 → Int32 → Option (Unit × gS))} {x : Int32} (ht4 : tt ≤ 4) (h : BS f w K F S tt tt σ υ) : Gd f w K F S tt tt σ υ (gBind (mX4_offer σ x) (fun r36 s37 => some ((), s37))) (if (υ.1 52 45) = 0 then ((mX10_tries_b22 rec υ x)) else (if (υ.1 52 44) < x then ((mX10_tries_b22 rec υ x)) else (some ((), υ)))) := by
  obtain ⟨h1, h2, h3, h4, h5, h6, h7, h8, h9⟩ := id h
  obtain ⟨σ', hσ'⟩ : ∃ s, s = gUA (gUI (gUI σ 14 4 1) 14 1 x) 16 (va_cpy (σ.1 15) (σ.1 16) 0 0 4) := ⟨_, rfl⟩
  have e9 : mX4_offer_b15 σ x = some ((), σ') := by
    unfold mX4_offer_b15
    rw [gl_eq, gl_eq, if_pos (by decide), gl_eq, show Int32.toNatClampNeg 0 = 0 from by decide, show Int32.toNatClampNeg 4 = 4 from by decide, hσ']
    rfl
  obtain ⟨υ', r1, r2, r3, r4⟩ := cp_loop (rec := rec) 4 0 (gUI (gUI υ 52 45 1) 52 44 x) 1100 (by omega) (by omega)
  have e10 : mX10_tries_b22 rec υ x = some ((), υ') := by
    unfold mX10_tries_b22
    rw [gl_eq, gl_eq, gl_eq]
    exact r1
  have k9 : ks σ σ' := by rw [hσ']; exact ks_tr (ks_UI n14 (by decide) (by decide) (by decide)) (ks_tr (ks_UI n14 (by decide) (by decide) (by decide)) (ks_UA n16 (by decide) (by decide) (by decide)))
  have k10 : ks υ υ' := by
    refine ks_tr (ks_52 (j := 45) (v := 1) (by unfold kq; omega)) (ks_tr (ks_52 (j := 44) (v := x) (by unfold kq; omega)) (ks_ag (fun a ha => r2 a (by unfold kp at ha; omega)) r3))
  have ne9 : ∀ a, a ≠ 14 → a ≠ 16 → σ'.1 a = σ.1 a := fun a y z => by
    rw [hσ']
    show (if a = 16 then _ else (gUI (gUI σ 14 4 1) 14 1 x).1 a) = _
    rw [if_neg z, gUI_ne y, gUI_ne y]
  have ne10 : ∀ a, a ≠ 52 → a ≠ 83 → υ'.1 a = υ.1 a := fun a y z => by rw [r2 a z, gUI_ne y, gUI_ne y]
  have a14 : ∀ j, σ'.1 14 j = if j = 1 then x else if j = 4 then 1 else σ.1 14 j := fun j => by
    rw [hσ']
    show (gUI (gUI σ 14 4 1) 14 1 x).1 14 j = _
    rw [gUI_at, gUI_at]
  have a16 : ∀ k, k < 4 → σ'.1 16 k = σ.1 15 k := fun k hk => by
    rw [hσ']
    show va_cpy (σ.1 15) (σ.1 16) 0 0 4 k = _
    unfold va_cpy
    rw [if_pos (by omega), show 0 + (k - 0) = k by omega]
  have a52 : ∀ j, υ'.1 52 j = if j = 44 then x else if j = 45 then 1 else υ.1 52 j := fun j => by
    rw [r2 52 (by decide), gUI_at, gUI_at]
  have a83 : ∀ k, k < 4 → υ'.1 83 k = υ.1 82 k := fun k hk => by
    rw [r4, if_pos (by omega), gUI_ne (by decide), gUI_ne (by decide)]
  have upd : Gd f w K F S tt tt σ υ (some ((), σ')) (some ((), υ')) := by
    refine ⟨σ', υ', rfl, rfl, k9, k10, ⟨Cx_ks h1 k9, Cx_ks h2 k10, (ne9 8 (by decide) (by decide)).trans h3, (ne10 8 (by decide) (by decide)).trans h4, ?_, ?_, fun _ => ⟨?_, fun k hk => ?_⟩, fun k hk => ?_, fun a y z => ?_⟩, ?_⟩
    · rw [a14, if_neg (by decide), if_neg (by decide)]; exact h5
    · rw [a14, if_neg (by decide), if_pos rfl, a52, if_neg (by decide), if_pos rfl]
    · rw [a14, if_pos rfl, a52, if_pos rfl]
    · rw [a16 k (by omega), a83 k (by omega)]; exact h8 k hk
    · rw [ne9 15 (by decide) (by decide), ne10 82 (by decide) (by decide)]; exact h8 k hk
    · rw [ne9 a (by omega) (by omega), ne10 a (by omega) (by omega)]; exact h9 a y z
    · rw [a14, if_neg (by decide), if_pos rfl]; decide
  unfold mX4_offer
  rw [← h6, e9, e10]
  by_cases hz : σ.1 14 4 = 0
  · rw [if_pos hz, if_pos hz]
    exact upd
  · obtain ⟨g1, g2⟩ := h7 hz
    rw [if_neg hz, if_neg hz, ← g1]
    by_cases hle : x ≤ σ.1 14 1
    · rw [if_pos hle, if_neg (fun q => by rw [Int32.lt_iff_toInt_lt] at q; rw [Int32.le_iff_toInt_le] at hle; omega)]
      exact ⟨σ, υ, rfl, rfl, ks_rf σ, ks_rf υ, h, hz⟩
    · rw [if_neg hle, if_pos (by rw [Int32.lt_iff_toInt_lt]; rw [Int32.le_iff_toInt_le] at hle; omega)]
      exact upd
theorem sum_eq (s g h : Int32) : s + (g - h) = s + g - h := by rw [Int32.sub_eq_add_neg, ← Int32.add_assoc, ← Int32.sub_eq_add_neg]
/-- one tried hour, on both sides; colds may differ behind the last day -/
theorem step_both {f w K t tt i L d : Nat} {F : gLw} {S : Nat → Int32} {σ υ : gS} {there sum : Int32} {q9 : gS → Int32 → Int32 → Int32 → Option (Unit × gS)} {q10 : gS → Int32 → Int32 → Int32 → Int32 → Option (Unit × gS)} (hi : i < tt) (ht4 : tt ≤ 4) (hS2 : rg (S 2) 0 9) (hS3 : rg (S 3) 0 9)
    (hrec : ∀ (σ υ : gS) (c sum : Int32), BS f w K F S tt (i + 1) σ υ → ¬ c < 0 → Gd f w K F S tt (i + 1) σ υ (q9 σ (nI (i + 1)) c sum) (q10 υ (nI (i + 1)) (nI tt) c sum))
    (h : BS f w K F S tt i σ υ) (k9 : gS → Int32 → Int32 → Int32 → Int32 → Int32 → Option (Unit × gS)) (k10 : gS → Int32 → Int32 → Int32 → Int32 → Int32 → Int32 → Option (Unit × gS)) :
    ∃ σ' υ' : gS, mX9_tryDay_b79 q9 k9 σ (nI i) sum (nI d) there (nI L) = k9 σ' (nI i) sum (nI d) there (nI (L + 1)) ∧ mX10_tries_b143 q10 k10 υ (nI i) (nI tt) sum (nI d) there (nI L) = k10 υ' (nI i) (nI tt) sum (nI d) there (nI (L + 1)) ∧ ks σ σ' ∧ ks υ υ' ∧ BS f w K F S tt i σ' υ' ∧ ¬ σ'.1 14 4 = 0 := by
  obtain ⟨h1, h2, h3, h4, h5, h6, h7, h8, h9⟩ := id h
  obtain ⟨out, hout⟩ : ∃ out, out = gMin (nI L) there := ⟨_, rfl⟩
  have i4 : inbB (nI i) 4 = true := inbB_nI (by omega) (by decide)
  have c4 : Int32.toNatClampNeg (nI i) = i := nI_cl (by omega)
  obtain ⟨s, hs⟩ : ∃ s, s = gUI σ 15 i (nI L) := ⟨_, rfl⟩
  obtain ⟨u, hu⟩ : ∃ u, u = gUI υ 82 i (nI L) := ⟨_, rfl⟩
  have e9 : ks σ s := by rw [hs]; exact ks_UI n15 (by decide) (by decide) (by decide)
  have e10 : ks υ u := by rw [hu]; exact ks_UI n82 (by decide) (by decide) (by decide)
  have g9 : ∀ a, a ≠ 15 → s.1 a = σ.1 a := fun a x => by rw [hs, gUI_ne x]
  have g10 : ∀ a, a ≠ 82 → u.1 a = υ.1 a := fun a x => by rw [hu, gUI_ne x]
  obtain ⟨s2, r1, r2, r3⟩ := nightC (Cx_ks h1 e9) (q := 8) (Or.inl rfl) (by rw [g9 8 (by decide), h3]; exact hS2) (by rw [g9 8 (by decide), h3]; exact hS3) (nI d) (there - out) out
  rw [g9 8 (by decide), h3] at r1
  have hSυ := h2.2.1
  have u59 : ∀ j, u.1 59 j = υ.1 59 j := fun j => by rw [g10 59 (by decide)]
  have w1 : υ.1 59 1 = S 1 := by rw [hSυ.2.1, h4]
  have w2 : υ.1 59 2 = S 2 := by rw [hSυ.2.2.1, h4]
  have w3 : υ.1 59 3 = S 3 := by rw [hSυ.2.2.2.1, h4]
  obtain ⟨u2, y1, y2, y3⟩ := nightX (Cx_ks h2 e10).2.2.2.2.2 (by rw [u59, w2]; exact hS2) (by rw [u59, w3]; exact hS3) (there - out) out (nI d)
  rw [u59, u59, u59, w1, w2, w3] at y1
  have X9 := Cx_ks (Cx_ks h1 e9) r2
  have X10 := Cx_ks (Cx_ks h2 e10) (ks_km y2)
  have B : BS f w K F S tt (i + 1) s2 u2 := by
    refine ⟨X9, X10, ?_, ?_, ?_, ?_, fun hz => ?_, fun k hk => ?_, fun a x y => ?_⟩
    · rw [r3 8 (by decide), g9 8 (by decide)]; exact h3
    · rw [y3 8 (by decide) (by decide), g10 8 (by decide)]; exact h4
    · rw [r3 14 (by decide), g9 14 (by decide)]; exact h5
    · rw [r3 14 (by decide), g9 14 (by decide), y3 52 (by decide) (by decide), g10 52 (by decide)]; exact h6
    · rw [r3 14 (by decide), g9 14 (by decide)] at hz
      obtain ⟨p1, p2⟩ := h7 hz
      rw [r3 14 (by decide), g9 14 (by decide), y3 52 (by decide) (by decide), g10 52 (by decide), r3 16 (by decide), g9 16 (by decide), y3 83 (by decide) (by decide), g10 83 (by decide)]
      exact ⟨p1, p2⟩
    · rw [r3 15 (by decide), y3 82 (by decide) (by decide), hs, hu, gUI_at, gUI_at]
      by_cases hki : k = i
      · rw [if_pos hki, if_pos hki]
      · rw [if_neg hki, if_neg hki]; exact h8 k (by omega)
    · rw [r3 a (by omega), g9 a (by omega), y3 a (by omega) (by omega), g10 a (by omega)]; exact h9 a x y
  obtain ⟨σ', υ', p1, p2, p3, p4, p5, p6⟩ := hrec s2 u2 (nx F (S 2) (S 3) (S 1) (nI d) (there - out) out) (sum + (gnV σ w (nI d) out - haV σ f w (nI d) out)) B (not_neg_rg (by decide) (hold_rg _ _))
  refine ⟨σ', υ', ?_, ?_, ks_tr e9 (ks_tr r2 p3), ks_tr e10 (ks_tr (ks_km y2) p4), BS_le p5 (by omega), p6⟩
  · have hV := h1.1
    have q1 : mX8_gain σ (nI d) out = some (gnV σ w (nI d) out, σ) := gain_eq hV.2.1 hV.2.2.2.2.1 _ _
    have q2 : mX8_harmOfAll σ (nI d) out = some (haV σ f w (nI d) out, σ) := harmAll_eq hV.1 hV.2.1 hV.2.2.1 hV.2.2.2.2.1 _ _
    unfold mX9_tryDay_b79
    rw [← hout, gl_eq, q1, gb_some, q2, gb_some, gl_eq, if_pos i4, c4, ← hs, gl_eq, e9.2.2.2.2, h1.2.2.2.1]
    show (if gk K = 3 then _ else _) = _
    rw [if_pos (by rcases h1.2.2.1 with rfl | rfl <;> rfl), r1, gb_some, nI_1, p1, gb_some]
    unfold mX9_tryDay_b155
    rw [gl_eq, nI_1]
  · have hV := X10.1
    have row : ∀ a, 2 ≤ a → a ≤ 7 → u2.1 a = σ.1 a := fun a x y => by rw [y3 a (by omega) (by omega), g10 a (by omega)]; exact h9 a x y
    have q0 := metOn_eq (σ := u2) hV.2.1 hV.2.2.2.2.2.1 (nI d) out
    have q1 := gainOf_eq (σ := u2) hV.2.1 hV.2.2.2.2.2.1 (lp (fMet (u2.1 56) (u2.1 57) (nI d) out) w 0 0)
    rw [hV.2.2.2.2.2.2.2.2.2.2.2.1, hV.2.2.2.2.2.2.2.2.2.1, hV.2.2.2.2.2.2.2.2.2.2.1, gainMet hV.2.1] at q1
    rw [hV.2.2.2.2.2.2.2.2.2.1, hV.2.2.2.2.2.2.2.2.2.2.1] at q0
    have q2 := allHarm_eq hV (nI d) out
    have eg : lp (fGain (u2.1 5) (u2.1 6) (u2.1 7) (nI d) out) w 0 0 = gnV σ w (nI d) out := gnV_eq (τ := u2) (σ := σ) row
    have eh : lp (fHarm w (u2.1 4) (u2.1 5) (u2.1 6) (u2.1 2) (nI d) out) f 0 0 = haV σ f w (nI d) out := haV_eq (τ := u2) (σ := σ) row
    unfold mX10_tries_b143
    rw [gMin_comm, ← hout, gl_eq, if_pos i4, c4, ← hu, gl_eq, y1, gb_some, q0, gb_some, q1, gb_some, q2, gb_some, eg, eh, ← sum_eq, nI_1, p2, gb_some]
    unfold mX10_tries_b205
    rw [gl_eq, nI_1]
