/-! ===== best: the search ===== -/
theorem in_loop {f w K t tt i d : Nat} {F : gLw} {S : Nat → Int32} {there sum : Int32} {q9 : gS → Int32 → Int32 → Int32 → Option (Unit × gS)} {q10 : gS → Int32 → Int32 → Int32 → Int32 → Option (Unit × gS)} (hi : i < tt) (ht4 : tt ≤ 4) (hd : d ≤ 29) (hS2 : rg (S 2) 0 9) (hS3 : rg (S 3) 0 9)
    (hrec : ∀ (σ υ : gS) (c sum : Int32), BS f w K F S tt (i + 1) σ υ → ¬ c < 0 → Gd f w K F S tt (i + 1) σ υ (q9 σ (nI (i + 1)) c sum) (q10 υ (nI (i + 1)) (nI tt) c sum)) : ∀ (k L : Nat) (σ υ : gS) (n : Nat), L + k = 25 → k < n → BS f w K F S tt i σ υ → (L ≠ 0 → ¬ σ.1 14 4 = 0) →
    Gd f w K F S tt i σ υ (mX9_tryDay_b46 q9 n σ (nI i) sum (nI d) there (nI L)) (mX10_tries_b117 q10 n υ (nI i) (nI tt) sum (nI d) there (nI L)) := by
  intro k
  induction k with
  | zero =>
    intro L σ υ n hL hn h hz
    obtain ⟨n, rfl⟩ : ∃ m, n = m + 1 := ⟨n - 1, by omega⟩
    refine ⟨σ, υ, ?_, ?_, ks_rf σ, ks_rf υ, h, hz (by omega)⟩
    · conv => lhs; unfold mX9_tryDay_b46
      rw [if_pos (show (24 : Int32) < nI L from nI_lt (a := 24) (by omega) (by omega))]
    · conv => lhs; unfold mX10_tries_b117
      rw [if_pos (show (25 : Int32) ≤ nI L from nI_le (a := 25) (by omega) (by omega))]
  | succ k ih =>
    intro L σ υ n hL hn h hz
    obtain ⟨n, rfl⟩ : ∃ m, n = m + 1 := ⟨n - 1, by omega⟩
    have a1 : ¬ (24 : Int32) < nI L := nI_nlt (a := 24) (by omega) (by omega)
    have a2 : ¬ (25 : Int32) ≤ nI L := nI_ge (b := 25) (by omega) (by omega)
    have go : Gd f w K F S tt i σ υ (mX9_tryDay_b79 q9 (mX9_tryDay_b46 q9 n) σ (nI i) sum (nI d) there (nI L)) (mX10_tries_b143 q10 (mX10_tries_b117 q10 n) υ (nI i) (nI tt) sum (nI d) there (nI L)) := by
      obtain ⟨s, u, r1, r2, r3, r4, r5, r6⟩ := step_both (t := t) (L := L) (d := d) (there := there) (sum := sum) hi ht4 hS2 hS3 hrec h (mX9_tryDay_b46 q9 n) (mX10_tries_b117 q10 n)
      obtain ⟨s', u', p1, p2, p3, p4, p5, p6⟩ := ih (L + 1) s u n (by omega) (by omega) r5 (fun _ => r6)
      exact ⟨s', u', r1.trans p1, r2.trans p2, ks_tr r3 p3, ks_tr r4 p4, p5, p6⟩
    have skip : L ≠ 0 → Gd f w K F S tt i σ υ (mX9_tryDay_b155 q9 (mX9_tryDay_b46 q9 n) σ (nI i) sum (nI d) there (nI L)) (mX10_tries_b205 q10 (mX10_tries_b117 q10 n) υ (nI i) (nI tt) sum (nI d) there (nI L)) := fun h0 => by
      unfold mX9_tryDay_b155 mX10_tries_b205
      rw [gl_eq, gl_eq, nI_1]
      exact ih (L + 1) σ υ n (by omega) (by omega) h (fun _ => hz h0)
    have e9 : ∀ X, (if nI L = 0 then ((mX9_tryDay_b79 q9 (mX9_tryDay_b46 q9 n) σ (nI i) sum (nI d) there (nI L))) else (gBind (mX8_wantsExactly σ (nI d) (nI L)) (fun r34 s35 => if r34 = true then ((mX9_tryDay_b79 q9 (mX9_tryDay_b46 q9 n) s35 (nI i) sum (nI d) there (nI L))) else ((mX9_tryDay_b155 q9 (mX9_tryDay_b46 q9 n) s35 (nI i) sum (nI d) there (nI L)))))) = X → mX9_tryDay_b46 q9 (n + 1) σ (nI i) sum (nI d) there (nI L) = X := fun X hX => by
      conv => lhs; unfold mX9_tryDay_b46
      rw [if_neg a1, if_neg (show ¬ (29 : Int32) < nI d from nI_nlt (a := 29) hd (by omega))]
      exact hX
    have e10 : ∀ X, (if nI L ≤ 0 then ((mX10_tries_b143 q10 (mX10_tries_b117 q10 n) υ (nI i) (nI tt) sum (nI d) there (nI L))) else (gBind (mX10_isWanted υ (nI d) (nI L)) (fun r42 s43 => if r42 = true then ((mX10_tries_b143 q10 (mX10_tries_b117 q10 n) s43 (nI i) (nI tt) sum (nI d) there (nI L))) else ((mX10_tries_b205 q10 (mX10_tries_b117 q10 n) s43 (nI i) (nI tt) sum (nI d) there (nI L)))))) = X → mX10_tries_b117 q10 (n + 1) υ (nI i) (nI tt) sum (nI d) there (nI L) = X := fun X hX => by
      conv => lhs; unfold mX10_tries_b117
      rw [if_neg a2]
      exact hX
    rcases Nat.eq_zero_or_pos L with h0 | hp
    · subst h0
      rw [e9 _ (if_pos nI_0), e10 _ (if_pos (by decide))]
      exact go
    · have hV9 := h.1.1
      have hV10 := h.2.1.1
      have row := h.2.2.2.2.2.2.2.2
      have wE : mX8_wantsExactly σ (nI d) (nI L) = some (wx (σ.1 5) (σ.1 6) (nI d) (nI L) w 0, σ) := by
        unfold mX8_wantsExactly
        rw [gl_eq]
        exact wx9_loop hV9.2.1 hV9.2.2.2.2.1 (nI d) (nI L) w 0 1100 (by omega) (by have := hV9.2.1; omega)
      have wE2 : mX10_isWanted υ (nI d) (nI L) = some (wx (σ.1 5) (σ.1 6) (nI d) (nI L) w 0, υ) := by
        unfold mX10_isWanted
        rw [gl_eq, ← row 5 (by omega) (by omega), ← row 6 (by omega) (by omega)]
        exact wx10_loop hV10 (nI d) (nI L) w 0 1100 (by omega) (by have := hV10.2.1; omega)
      rw [e9 _ (if_neg (nI_ne0 hp (by omega))), e10 _ (if_neg (nI_nle hp (by omega))), wE, wE2, gb_some, gb_some]
      cases wx (σ.1 5) (σ.1 6) (nI d) (nI L) w 0
      · rw [if_neg (by decide), if_neg (by decide)]
        exact skip (by omega)
      · rw [if_pos rfl, if_pos rfl]
        exact go
theorem far_skip {i d : Nat} {there sum : Int32} {q9 : gS → Int32 → Int32 → Int32 → Option (Unit × gS)} (hd : 29 < d) (hd2 : d < 1000) : ∀ (k L : Nat) (σ : gS) (n : Nat), L + k = 25 → 0 < L → k < n → mX9_tryDay_b46 q9 n σ (nI i) sum (nI d) there (nI L) = some ((), σ) := by
  intro k
  induction k with
  | zero =>
    intro L σ n hL h0 hn
    obtain ⟨n, rfl⟩ : ∃ m, n = m + 1 := ⟨n - 1, by omega⟩
    conv => lhs; unfold mX9_tryDay_b46
    rw [if_pos (show (24 : Int32) < nI L from nI_lt (a := 24) (by omega) (by omega))]
  | succ k ih =>
    intro L σ n hL h0 hn
    obtain ⟨n, rfl⟩ : ∃ m, n = m + 1 := ⟨n - 1, by omega⟩
    conv => lhs; unfold mX9_tryDay_b46
    rw [if_neg (show ¬ (24 : Int32) < nI L from nI_nlt (a := 24) (by omega) (by omega)), if_neg (nI_ne0 h0 (by omega)), if_pos (show (29 : Int32) < nI d from nI_lt (a := 29) hd (by omega))]
    unfold mX9_tryDay_b155
    rw [gl_eq, nI_1]
    exact ih (L + 1) σ n (by omega) (by omega) (by omega)
theorem gn_far {σ : gS} {f w d : Nat} (hV : IV σ f w) (hd : 29 < d) (hd2 : d < 1000) (l : Int32) : gnV σ w (nI d) l = 0 := by
  have e11 := hV.2.2.2.2.2.2.2.2.2.2.2.2.2
  have : ∀ (k i : Nat), i + k ≤ w → lp (fGain (σ.1 5) (σ.1 6) (σ.1 7) (nI d) l) k i 0 = 0 := by
    intro k
    induction k with
    | zero => intro i _; rfl
    | succ k ih =>
      intro i hi
      obtain ⟨e, -, he, ee⟩ := (e11 i (by omega)).1
      have hm : mt (σ.1 5) (σ.1 6) (nI d) l i = false := by
        unfold mt
        rw [ee, decide_eq_false (fun q => by have := (nI_eq (by omega) (by omega)).mp q; omega)]
        rfl
      rw [lp_succ]
      have hz : fGain (σ.1 5) (σ.1 6) (σ.1 7) (nI d) l i 0 = 0 := by
        unfold fGain
        rw [hm]
        rfl
      rw [hz]
      exact ih (i + 1) (by omega)
  exact this w 0 (by omega)
theorem ha_0 {σ : gS} {f w : Nat} (d : Int32) : haV σ f w d 0 = 0 := by
  have : ∀ (k i : Nat), lp (fHarm w (σ.1 4) (σ.1 5) (σ.1 6) (σ.1 2) d 0) k i 0 = 0 := by
    intro k
    induction k with
    | zero => intro i; rfl
    | succ k ih =>
      intro i
      rw [lp_succ]
      have hz : fHarm w (σ.1 4) (σ.1 5) (σ.1 6) (σ.1 2) d 0 i 0 = 0 := by
        unfold fHarm hmV
        rw [Int32.zero_add]
        split
        · rfl
        · exact Int32.mul_zero
      rw [hz]
      exact ih (i + 1)
  exact this f 0
theorem far_both {f w K tt i d : Nat} {F : gLw} {S : Nat → Int32} {σ υ : gS} {there sum c10 : Int32} {q9 : gS → Int32 → Int32 → Int32 → Option (Unit × gS)} {q10 : gS → Int32 → Int32 → Int32 → Int32 → Option (Unit × gS)} (hi : i < tt) (ht4 : tt ≤ 4) (hd : 29 < d) (hd2 : d < 1000) (h0 : ¬ there < 0) (hS2 : rg (S 2) 0 9) (hS3 : rg (S 3) 0 9)
    (hrec : ∀ (σ υ : gS) (c c2 sum : Int32), BS f w K F S tt (i + 1) σ υ → ¬ c < 0 → Gd f w K F S tt (i + 1) σ υ (q9 σ (nI (i + 1)) c sum) (q10 υ (nI (i + 1)) (nI tt) c2 sum)) (h : BS f w K F S tt i σ υ) :
    Gd f w K F S tt i σ υ (mX9_tryDay_b46 q9 1100 σ (nI i) sum (nI d) there (nI 0)) (gBind (q10 (gUI υ 82 i 0) (nI (i + 1)) (nI tt) c10 sum) (fun r45 s46 => some ((), s46))) := by
  obtain ⟨h1, h2, h3, h4, h5, h6, h7, h8, h9⟩ := id h
  have i4 : inbB (nI i) 4 = true := inbB_nI (by omega) (by decide)
  have c4 : Int32.toNatClampNeg (nI i) = i := nI_cl (by omega)
  obtain ⟨s, hs⟩ : ∃ s, s = gUI σ 15 i 0 := ⟨_, rfl⟩
  obtain ⟨u, hu⟩ : ∃ u, u = gUI υ 82 i 0 := ⟨_, rfl⟩
  have e9 : ks σ s := by rw [hs]; exact ks_UI n15 (by decide) (by decide) (by decide)
  have e10 : ks υ u := by rw [hu]; exact ks_UI n82 (by decide) (by decide) (by decide)
  have g9 : ∀ a, a ≠ 15 → s.1 a = σ.1 a := fun a x => by rw [hs, gUI_ne x]
  have g10 : ∀ a, a ≠ 82 → u.1 a = υ.1 a := fun a x => by rw [hu, gUI_ne x]
  obtain ⟨s2, r1, r2, r3⟩ := nightC (Cx_ks h1 e9) (q := 8) (Or.inl rfl) (by rw [g9 8 (by decide), h3]; exact hS2) (by rw [g9 8 (by decide), h3]; exact hS3) (nI d) (there - 0) 0
  rw [g9 8 (by decide), h3] at r1
  have B : BS f w K F S tt (i + 1) s2 u := by
    refine ⟨Cx_ks (Cx_ks h1 e9) r2, Cx_ks h2 e10, ?_, ?_, ?_, ?_, fun hz => ?_, fun k hk => ?_, fun a x y => ?_⟩
    · rw [r3 8 (by decide), g9 8 (by decide)]; exact h3
    · rw [g10 8 (by decide)]; exact h4
    · rw [r3 14 (by decide), g9 14 (by decide)]; exact h5
    · rw [r3 14 (by decide), g9 14 (by decide), g10 52 (by decide)]; exact h6
    · rw [r3 14 (by decide), g9 14 (by decide)] at hz
      obtain ⟨p1, p2⟩ := h7 hz
      rw [r3 14 (by decide), g9 14 (by decide), g10 52 (by decide), r3 16 (by decide), g9 16 (by decide), g10 83 (by decide)]
      exact ⟨p1, p2⟩
    · rw [r3 15 (by decide), hs, hu, gUI_at, gUI_at]
      by_cases hki : k = i
      · rw [if_pos hki, if_pos hki]
      · rw [if_neg hki, if_neg hki]; exact h8 k (by omega)
    · rw [r3 a (by omega), g9 a (by omega), g10 a (by omega)]; exact h9 a x y
  obtain ⟨σ', υ', p1, p2, p3, p4, p5, p6⟩ := hrec s2 u (nx F (S 2) (S 3) (S 1) (nI d) (there - 0) 0) c10 sum B (not_neg_rg (by decide) (hold_rg _ _))
  refine ⟨σ', υ', ?_, ?_, ks_tr e9 (ks_tr r2 p3), ks_tr e10 p4, BS_le p5 (by omega), p6⟩
  · have hV := h1.1
    have q1 : mX8_gain σ (nI d) 0 = some (gnV σ w (nI d) 0, σ) := gain_eq hV.2.1 hV.2.2.2.2.1 _ _
    have q2 : mX8_harmOfAll σ (nI d) 0 = some (haV σ f w (nI d) 0, σ) := harmAll_eq hV.1 hV.2.1 hV.2.2.1 hV.2.2.2.2.1 _ _
    have hm : gMin (nI 0) there = 0 := min0 h0
    have hsum : sum + (gnV σ w (nI d) 0 - haV σ f w (nI d) 0) = sum := by
      rw [gn_far hV hd hd2, ha_0, Int32.sub_zero, Int32.add_zero]
    rw [show (1100 : Nat) = 1099 + 1 from rfl]
    conv => lhs; unfold mX9_tryDay_b46
    rw [if_neg (by decide), if_pos nI_0]
    unfold mX9_tryDay_b79
    rw [hm, gl_eq, q1, gb_some, q2, gb_some, gl_eq, if_pos i4, c4, nI_0, ← hs, gl_eq, e9.2.2.2.2, h1.2.2.2.1]
    show (if gk K = 3 then _ else _) = _
    rw [if_pos (by rcases h1.2.2.1 with rfl | rfl <;> rfl), r1, gb_some, nI_1, hsum, p1, gb_some]
    unfold mX9_tryDay_b155
    rw [gl_eq]
    exact far_skip hd hd2 24 1 σ' 1099 (by omega) (by omega) (by omega)
  · rw [← hu, p2, gb_some]
theorem best_rec {f w K t tt : Nat} {F : gLw} {S : Nat → Int32} (ht : t ≤ 29) (ht4 : tt ≤ 4) (hS2 : rg (S 2) 0 9) (hS3 : rg (S 3) 0 9) (hS4 : S 4 = nI t) : ∀ (m i : Nat) (σ υ : gS) (c9 c10 sum : Int32) (d9 d10 : Nat), i + m = tt → m < d9 → m < d10 → BS f w K F S tt i σ υ → (t + i < 30 → c9 = c10) → ¬ c9 < 0 →
    Gd f w K F S tt i σ υ (mgtryDay d9 σ (nI i) c9 sum) (mgtries d10 υ (nI i) (nI tt) c10 sum) := by
  intro m
  induction m with
  | zero =>
    intro i σ υ c9 c10 sum d9 d10 hi hd9 hd10 h _ _
    obtain ⟨d9, rfl⟩ : ∃ m, d9 = m + 1 := ⟨d9 - 1, by omega⟩
    obtain ⟨d10, rfl⟩ : ∃ m, d10 = m + 1 := ⟨d10 - 1, by omega⟩
    obtain rfl : i = tt := by omega
    have e9 : mgtryDay (d9 + 1) σ (nI i) c9 sum = gBind (mX4_offer σ sum) (fun r36 s37 => some ((), s37)) := by
      show mrX9_tryDay (mgtryDay d9) σ (nI i) c9 sum = _
      unfold mrX9_tryDay
      rw [h.2.2.2.2.1, if_neg (nI_nlt (Nat.le_refl i) (by omega))]
    have e10 : mgtries (d10 + 1) υ (nI i) (nI i) c10 sum = (if (υ.1 52 45) = 0 then ((mX10_tries_b22 (mgtries d10) υ sum)) else (if (υ.1 52 44) < sum then ((mX10_tries_b22 (mgtries d10) υ sum)) else (some ((), υ)))) := by
      show mrX10_tries (mgtries d10) υ (nI i) (nI i) c10 sum = _
      unfold mrX10_tries
      rw [if_pos rfl]
    rw [e9, e10]
    exact offer_both ht4 h
  | succ m ih =>
    intro i σ υ c9 c10 sum d9 d10 hi hd9 hd10 h hc h0
    obtain ⟨d9, rfl⟩ : ∃ m, d9 = m + 1 := ⟨d9 - 1, by omega⟩
    obtain ⟨d10, rfl⟩ : ∃ m, d10 = m + 1 := ⟨d10 - 1, by omega⟩
    obtain ⟨h1, h2, h3, h4, h5, h6, h7, h8, h9⟩ := id h
    have hSυ := h2.2.1
    have w1 : υ.1 59 1 = S 1 := by rw [hSυ.2.1, h4]
    have w4 : υ.1 59 4 = nI t := by rw [hSυ.2.2.2.2.1, h4, hS4]
    have nit : ¬ nI i = nI tt := fun q => by have := (nI_eq (by omega) (by omega)).mp q; omega
    by_cases h30 : t + i < 30
    · have hcc := hc h30
      subst hcc
      have e9 : mgtryDay (d9 + 1) σ (nI i) c9 sum = mX9_tryDay_b46 (mgtryDay d9) 1100 σ (nI i) sum (nI (t + i)) (dw (S 1) c9) (nI 0) := by
        show mrX9_tryDay (mgtryDay d9) σ (nI i) c9 sum = _
        unfold mrX9_tryDay
        rw [h5, if_pos (nI_lt (show i < tt by omega) (by omega)), h3, hS4, nI_add, gl_eq, dawn_day rfl (by omega), gb_some, gl_eq, gl_eq, h3]
        rfl
      have e10 : mgtries (d10 + 1) υ (nI i) (nI tt) c9 sum = mX10_tries_b117 (mgtries d10) 1100 υ (nI i) (nI tt) sum (nI (t + i)) (dw (S 1) c9) (nI 0) := by
        show mrX10_tries (mgtries d10) υ (nI i) (nI tt) c9 sum = _
        unfold mrX10_tries
        rw [if_neg nit, now_eq, gb_some, w4, nI_add, gl_eq, if_pos (show nI (t + i) < 30 from nI_lt (b := 30) h30 (by decide)), if_pos (by decide), show Int32.toNatClampNeg 1 = 1 from by decide, w1]
        unfold mX10_tries_b112
        by_cases hb : c9 ≤ S 1
        · rw [if_pos hb, gl_eq, gl_eq, show dw (S 1) c9 = c9 from if_pos hb]
          rfl
        · rw [if_neg hb, gl_eq, gl_eq, show dw (S 1) c9 = 0 from if_neg hb]
          rfl
      rw [e9, e10]
      exact in_loop (t := t) (by omega) ht4 (by omega) hS2 hS3 (fun σ υ c sum hB hc0 => ih (i + 1) σ υ c c sum d9 d10 (by omega) (by omega) (by omega) hB (fun _ => rfl) hc0) 25 0 σ υ 1100 (by omega) (by omega) h (fun q => absurd rfl q)
    · have e9 : mgtryDay (d9 + 1) σ (nI i) c9 sum = mX9_tryDay_b46 (mgtryDay d9) 1100 σ (nI i) sum (nI (t + i)) c9 (nI 0) := by
        show mrX9_tryDay (mgtryDay d9) σ (nI i) c9 sum = _
        unfold mrX9_tryDay
        have gvf : gvB (nI (t + i)) c9 (S 1) = false := by
          unfold gvB
          rw [decide_eq_true (show (29 : Int32) < nI (t + i) from nI_lt (a := 29) (by omega) (by omega))]
          rfl
        rw [h5, if_pos (nI_lt (show i < tt by omega) (by omega)), h3, hS4, nI_add, gl_eq, dawn_eq rfl, gb_some, gl_eq, gl_eq, h3, gvf]
        rfl
      have e10 : mgtries (d10 + 1) υ (nI i) (nI tt) c10 sum = gBind (mgtries d10 (gUI υ 82 i 0) (nI (i + 1)) (nI tt) c10 sum) (fun r45 s46 => some ((), s46)) := by
        show mrX10_tries (mgtries d10) υ (nI i) (nI tt) c10 sum = _
        unfold mrX10_tries
        rw [if_neg nit, now_eq, gb_some, w4, nI_add, gl_eq, if_neg (show ¬ nI (t + i) < 30 from nI_nlt (b := 30) (by omega) (by omega)), if_pos (inbB_nI (show i < 4 by omega) (by decide)), nI_cl (by omega), gl_eq, nI_1]
      rw [e9, e10]
      exact far_both (by omega) ht4 (by omega) (by omega) h0 hS2 hS3 (fun σ υ c c2 sum hB hc0 => ih (i + 1) σ υ c c2 sum d9 d10 (by omega) (by omega) (by omega) hB (fun q => absurd q (by omega)) hc0) h
theorem clear_loop {x7 x8 : Int32} : ∀ (k i : Nat) (σ : gS) (n : Nat), i + k = 4 → k < n → ∃ τ : gS, mX10_best_b31 n σ x7 x8 (nI i) = gBind (mX10_tries τ 0 x7 (τ.1 59 0) 0) (fun r10 s11 => if x8 = (-1) then (some ((s11.1 52 44), s11)) else (if inbB x8 4 = true then (some ((s11.1 83 (Int32.toNatClampNeg x8)), s11)) else none)) ∧ (∀ a, a ≠ 82 → τ.1 a = σ.1 a) ∧ τ.2 = σ.2 := by
  intro k
  induction k with
  | zero =>
    intro i σ n hi hn
    obtain ⟨n, rfl⟩ : ∃ m, n = m + 1 := ⟨n - 1, by omega⟩
    refine ⟨σ, ?_, fun _ _ => rfl, rfl⟩
    conv => lhs; unfold mX10_best_b31
    rw [if_pos (show (4 : Int32) ≤ nI i from nI_le (a := 4) (by omega) (by omega)), if_pos (by decide), show Int32.toNatClampNeg 0 = 0 from by decide]
  | succ k ih =>
    intro i σ n hi hn
    obtain ⟨n, rfl⟩ : ∃ m, n = m + 1 := ⟨n - 1, by omega⟩
    obtain ⟨τ, h1, h2, h3⟩ := ih (i + 1) (gUI σ 82 i 0) n (by omega) (by omega)
    refine ⟨τ, ?_, fun a ha => by rw [h2 a ha, gUI_ne ha], h3⟩
    conv => lhs; unfold mX10_best_b31
    rw [if_neg (show ¬ (4 : Int32) ≤ nI i from nI_ge (b := 4) (by omega) (by omega)), if_pos (inbB_nI (show i < 4 by omega) (by decide)), nI_cl (by omega), gl_eq, gl_eq, nI_1]
    exact h1
theorem s_best : S_best Inv := by
  intro σ p0 p1 hI
  obtain ⟨f, w, K, F, hX⟩ := Cx_Inv hI
  obtain ⟨hV, hS, hK, kk, -⟩ := id hX
  obtain ⟨z0, z1, z2, z3, z4, z5, z6, z7, z8⟩ := id hS
  obtain ⟨t, -, ht, et⟩ := id z5
  cases hw0 : wi p0 1 4 with
  | false =>
    refine ⟨-2000000000, σ, σ, ?_, ?_, hI⟩
    · unfold mX9_best
      rw [w9, gb_some, hw0, if_neg (by decide)]
    · unfold mX10_best
      rw [w10, gb_some, hw0, if_neg (by decide)]
  | true =>
    cases hw1 : wi p1 (-1) (p0 - 1) with
    | false =>
      refine ⟨-2000000000, σ, σ, ?_, ?_, hI⟩
      · unfold mX9_best
        rw [w9, gb_some, hw0, if_pos rfl, w9, gb_some, hw1, if_neg (by decide)]
      · unfold mX10_best
        rw [w10, gb_some, hw0, if_pos rfl, w10, gb_some, hw1, if_neg (by decide)]
    | true =>
      obtain ⟨tt, ht1, ht4, rfl⟩ := wi_rg (a := 1) (b := 4) (by decide) (by decide) hw0
      obtain ⟨s, hs⟩ : ∃ s, s = gUI (gUI σ 14 0 (nI tt)) 14 4 0 := ⟨_, rfl⟩
      have e1 : ks σ s := by rw [hs]; exact ks_tr (ks_UI n14 (by decide) (by decide) (by decide)) (ks_UI n14 (by decide) (by decide) (by decide))
      have g : ∀ a, a ≠ 14 → s.1 a = σ.1 a := fun a x => by rw [hs, gUI_ne x, gUI_ne x]
      have s8 : s.1 8 = σ.1 8 := g 8 (by decide)
      have b0 : s.1 14 0 = nI tt := by rw [hs]; simp [gUI_at]
      have b4 : s.1 14 4 = 0 := by rw [hs]; simp [gUI_at]
      have mk : ∀ υ : gS, ks σ υ → υ.1 52 45 = 0 → BS f w K F (σ.1 8) tt 0 s υ := fun υ k h45 => ⟨Cx_ks hX e1, Cx_ks hX k, s8, k.1 8 (by unfold kp; omega), b0, by rw [b4, h45], fun q => absurd b4 q, fun k hk => absurd hk (by omega), fun a x y => by rw [k.1 a (by unfold kp; omega), g a (by omega)]⟩
      have main := fun (υ : gS) (k : ks σ υ) (h45 : υ.1 52 45 = 0) => best_rec (S := σ.1 8) ht ht4 z6 z7 et tt 0 s υ (σ.1 8 0) (σ.1 8 0) 0 8 8 (by omega) (by omega) (by omega) (mk υ k h45) (fun _ => rfl) (not_neg_rg (by decide) z8)
      obtain ⟨σ', _, r1, _, r3, _, _, _⟩ := main (gUI σ 52 45 0) (ks_52 (by unfold kq; omega)) (by rw [gUI_at]; rfl)
      have kσ' := ks_tr e1 r3
      obtain ⟨u, u1, u2, u3⟩ := clear_loop (x7 := nI tt) (x8 := p1) 4 0 (gUI σ' 52 45 0) 1100 (by omega) (by omega)
      have ku : ks (gUI σ' 52 45 0) u := ks_ag (fun a ha => u2 a (by unfold kp at ha; omega)) u3
      have kσu := ks_tr kσ' (ks_tr (ks_52 (σ := σ') (j := 45) (v := 0) (by unfold kq; omega)) ku)
      obtain ⟨σ2, υ', p1', p2', p3', p4', p5', p6'⟩ := main u kσu (by rw [u2 52 (by decide), gUI_at]; rfl)
      have eσ : σ2 = σ' := by
        rw [r1] at p1'
        exact (gR_inj p1').2.symm
      subst eσ
      obtain ⟨-, -, -, -, -, -, f7, -⟩ := p5'
      obtain ⟨f8, f9⟩ := f7 p6'
      have u59 : u.1 59 0 = σ.1 8 0 := by rw [kσu.1 59 (by unfold kp; omega), z0]
      have A9 : ∀ x, (if p1 = (-1) then (some ((σ2.1 14 1), σ2)) else (if inbB p1 4 = true then (some ((σ2.1 16 (Int32.toNatClampNeg p1)), σ2)) else none)) = x → mX9_best σ (nI tt) p1 = x := fun x hx => by
        unfold mX9_best mX4_begin mX9_tryDay
        rw [w9, gb_some, hw0, if_pos rfl, w9, gb_some, hw1, if_pos rfl, gl_eq, gl_eq, ← hs, gb_some, s8, show mgtryDay 8 s 0 (σ.1 8 0) 0 = some ((), σ2) from r1, gb_some]
        exact hx
      have A10 : ∀ x, (if p1 = (-1) then (some ((υ'.1 52 44), υ')) else (if inbB p1 4 = true then (some ((υ'.1 83 (Int32.toNatClampNeg p1)), υ')) else none)) = x → mX10_best σ2 (nI tt) p1 = x := fun x hx => by
        unfold mX10_best
        rw [w10, gb_some, hw0, if_pos rfl, w10, gb_some, hw1, if_pos rfl, gl_eq, gl_eq]
        refine Eq.trans u1 ?_
        unfold mX10_tries
        rw [u59, show mgtries 8 u 0 (nI tt) (σ.1 8 0) 0 = some ((), υ') from p2', gb_some]
        exact hx
      have hI2 := Inv_ks hI (ks_tr kσu p4')
      by_cases hm : p1 = -1
      · exact ⟨σ2.1 14 1, σ2, υ', A9 _ (if_pos hm), A10 _ (by rw [if_pos hm, f8]), hI2⟩
      · obtain ⟨k, hk, rfl⟩ : ∃ k : Nat, k < tt ∧ p1 = nI k := by
          unfold wi at hw1
          simp only [Bool.and_eq_true, Bool.not_eq_true', decide_eq_false_iff_not] at hw1
          obtain ⟨y1, y2⟩ := hw1
          have hn : ¬ p1 < 0 := by
            intro q
            rw [Int32.lt_iff_toInt_lt] at y1 q
            apply hm
            apply Int32.toInt_inj.mp
            have e1 : (-1 : Int32).toInt = -1 := by decide
            have e0 : (0 : Int32).toInt = 0 := by decide
            omega
          obtain ⟨k, hk, rfl⟩ := nI_of hn
          refine ⟨k, ?_, rfl⟩
          rw [show tt = (tt - 1) + 1 by omega, nI_pred] at y2
          rcases Nat.lt_or_ge (tt - 1) k with q | q
          · exact absurd (nI_lt q hk) y2
          · omega
        have i4 : inbB (nI k) 4 = true := inbB_nI (by omega) (by decide)
        have c4 : Int32.toNatClampNeg (nI k) = k := nI_cl (by omega)
        exact ⟨σ2.1 16 k, σ2, υ', A9 _ (by rw [if_neg hm, if_pos i4, c4]), A10 _ (by rw [if_neg hm, if_pos i4, c4, f9 k hk]), hI2⟩
