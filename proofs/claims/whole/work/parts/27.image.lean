/-! ===== image, back, want ===== -/
theorem now_eq (σ : gS) : mX10_now σ = some (σ.1 59 4, σ) := by
  unfold mX10_now
  rw [if_pos (by decide)]
  rfl
theorem image_loop : ∀ (k i : Nat) (σ : gS) (n : Nat), i + k = 5 → k < n → ∃ τ : gS, mX10_image_b43 n σ (nI i) = some (σ.1 59 4, τ) ∧ (∀ a, a ≠ 72 → τ.1 a = σ.1 a) ∧ τ.2 = σ.2 ∧ ∀ j, τ.1 72 j = if 3 + i ≤ j ∧ j < 8 then σ.1 71 (j - 3) else σ.1 72 j := by
  intro k
  induction k with
  | zero =>
    intro i σ n hi hn
    obtain ⟨n, rfl⟩ : ∃ m, n = m + 1 := ⟨n - 1, by omega⟩
    refine ⟨σ, ?_, fun _ _ => rfl, rfl, fun j => by rw [if_neg (by omega)]⟩
    unfold mX10_image_b43
    rw [if_pos (show (5 : Int32) ≤ nI i from nI_le (a := 5) (by omega) (by omega)), bind_id, now_eq]
  | succ k ih =>
    intro i σ n hi hn
    obtain ⟨n, rfl⟩ : ∃ m, n = m + 1 := ⟨n - 1, by omega⟩
    obtain ⟨τ, h1, h2, h3, h4⟩ := ih (i + 1) (gUI σ 72 (3 + i) (σ.1 71 i)) n (by omega) (by omega)
    have e : (3 + nI i : Int32) = nI (3 + i) := nI_add 3 i
    refine ⟨τ, ?_, fun a ha => by rw [h2 a ha, gUI_ne ha], h3, fun j => ?_⟩
    · unfold mX10_image_b43
      rw [if_neg (show ¬ (5 : Int32) ≤ nI i from nI_ge (b := 5) (by omega) (by decide)), if_pos (inbB_nI (by omega) (by decide)), e, if_pos (inbB_nI (by omega) (by decide)), nI_cl (by omega), nI_cl (by omega), gl_eq, gl_eq, nI_1]
      exact h1
    · rw [h4 j, gUI_ne (by omega), gUI_same]
      by_cases hj : j = 3 + i
      · subst hj
        rw [if_neg (by omega), if_pos (by omega)]
        simp
      · by_cases hc : 3 + (i + 1) ≤ j ∧ j < 8
        · rw [if_pos hc, if_pos (by omega)]
        · rw [if_neg hc, if_neg (by omega)]
          simp [hj]
theorem back_loop : ∀ (k i : Nat) (σ : gS) (n : Nat), i + k = 5 → k < n → ∃ τ : gS, mX10_back_b48 n σ (nI i) = some (σ.1 59 4, τ) ∧ (∀ a, a ≠ 71 → τ.1 a = σ.1 a) ∧ τ.2 = σ.2 ∧ ∀ j, τ.1 71 j = if i ≤ j ∧ j < 5 then σ.1 72 (3 + j) else σ.1 71 j := by
  intro k
  induction k with
  | zero =>
    intro i σ n hi hn
    obtain ⟨n, rfl⟩ : ∃ m, n = m + 1 := ⟨n - 1, by omega⟩
    refine ⟨σ, ?_, fun _ _ => rfl, rfl, fun j => by rw [if_neg (by omega)]⟩
    unfold mX10_back_b48
    rw [if_pos (show (5 : Int32) ≤ nI i from nI_le (a := 5) (by omega) (by omega)), bind_id, now_eq]
  | succ k ih =>
    intro i σ n hi hn
    obtain ⟨n, rfl⟩ : ∃ m, n = m + 1 := ⟨n - 1, by omega⟩
    obtain ⟨τ, h1, h2, h3, h4⟩ := ih (i + 1) (gUI σ 71 i (σ.1 72 (3 + i))) n (by omega) (by omega)
    have e : (3 + nI i : Int32) = nI (3 + i) := nI_add 3 i
    refine ⟨τ, ?_, fun a ha => by rw [h2 a ha, gUI_ne ha], h3, fun j => ?_⟩
    · unfold mX10_back_b48
      rw [if_neg (show ¬ (5 : Int32) ≤ nI i from nI_ge (b := 5) (by omega) (by decide)), e, if_pos (inbB_nI (by omega) (by decide)), if_pos (inbB_nI (by omega) (by decide)), nI_cl (by omega), nI_cl (by omega), gl_eq, gl_eq, nI_1]
      exact h1
    · rw [h4 j, gUI_ne (by omega), gUI_same]
      by_cases hj : j = i
      · subst hj
        rw [if_neg (by omega), if_pos (by omega)]
        simp
      · by_cases hc : i + 1 ≤ j ∧ j < 5
        · rw [if_pos hc, if_pos (by omega)]
        · rw [if_neg hc, if_neg (by omega)]
          simp [hj]
/-- a row of five taken over -/
def gTk (σ : gS) (k q : Nat) : gS := gUI (gUI (gUI (gUI (gUI σ k 0 (σ.1 q 0)) k 1 (σ.1 q 1)) k 2 (σ.1 q 2)) k 3 (σ.1 q 3)) k 4 (σ.1 q 4)
theorem take0_eq {σ : gS} {k q : Nat} (hk : gk k = 0) (hq : gk q = 0) (h : q ≠ k) : mX0_takeFrom σ k q = some ((), gTk σ k q) := by
  unfold mX0_takeFrom gTk
  rw [if_pos hk, if_pos hq]
  simp [gLet, gUI_ne h]
theorem take5_eq {σ : gS} {k q : Nat} (hk : gk k = 5) (hq : gk q = 5) (h : q ≠ k) : mX5_takeFrom σ k q = some ((), gTk σ k q) := by
  unfold mX5_takeFrom gTk
  rw [if_pos hk, if_pos hq]
  simp [gLet, gUI_ne h]
theorem gTk_ne {σ : gS} {k q a : Nat} (h : a ≠ k) : (gTk σ k q).1 a = σ.1 a := by
  unfold gTk
  rw [gUI_ne h, gUI_ne h, gUI_ne h, gUI_ne h, gUI_ne h]
theorem gTk_at {σ : gS} {k q j : Nat} (hj : j < 5) : (gTk σ k q).1 k j = σ.1 q j := by
  unfold gTk
  simp only [gUI_same]
  rcases (show j = 0 ∨ j = 1 ∨ j = 2 ∨ j = 3 ∨ j = 4 by omega) with rfl | rfl | rfl | rfl | rfl <;> rfl
theorem s_image : S_image Inv := by
  intro σ hI
  have hI0 := hI
  obtain ⟨f, w, b, hV, hS, hT, hL, hB, hM, hC, hF, hH⟩ := hI
  obtain ⟨q0, q1, q2, q3, q4, q5, q6, q7⟩ := id hS
  obtain ⟨σ1, e1⟩ : ∃ t, t = gUI (gTk (gTk σ 30 8) 29 28) 0 12 1 := ⟨_, rfl⟩
  obtain ⟨τ, h1, h2, h3, h4⟩ := image_loop 5 0 (gUI (gUI (gUI (gUI σ1 52 28 1) 72 0 (σ1.1 59 0)) 72 1 (σ1.1 59 1)) 72 2 (σ1.1 59 4)) 1100 (by omega) (by omega)
  have g : ∀ a, a ≠ 30 → a ≠ 29 → a ≠ 0 → σ1.1 a = σ.1 a := fun a x1 x2 x3 => by rw [e1, gUI_ne x3, gTk_ne x2, gTk_ne x1]
  have g30 : ∀ j, j < 5 → σ1.1 30 j = σ.1 8 j := fun j hj => by rw [e1, gUI_ne (by decide), gTk_ne (by decide), gTk_at hj]
  have g29 : ∀ j, j < 5 → σ1.1 29 j = σ.1 28 j := fun j hj => by rw [e1, gUI_ne (by decide), gTk_at hj, gTk_ne (by decide)]
  have t : ∀ a, a ≠ 72 → a ≠ 52 → τ.1 a = σ1.1 a := fun a x1 x2 => by rw [h2 a x1, gUI_ne x1, gUI_ne x1, gUI_ne x1, gUI_ne x2]
  have t52 : ∀ j, j ≠ 28 → τ.1 52 j = σ.1 52 j := fun j hj => by
    rw [h2 52 (by decide), gUI_ne (by decide), gUI_ne (by decide), gUI_ne (by decide), gUI_same]
    simp only [if_neg hj]
    rw [g 52 (by decide) (by decide) (by decide)]
  have t52b : τ.1 52 28 = 1 := by
    rw [h2 52 (by decide), gUI_ne (by decide), gUI_ne (by decide), gUI_ne (by decide), gUI_same]
    rfl
  have tt : ∀ a, a ≠ 72 → a ≠ 52 → a ≠ 30 → a ≠ 29 → a ≠ 0 → τ.1 a = σ.1 a := fun a x1 x2 x3 x4 x5 => (t a x1 x2).trans (g a x3 x4 x5)
  have g0 : ∀ j, j ≠ 12 → τ.1 0 j = σ.1 0 j := fun j hj => by
    rw [t 0 (by decide) (by decide), e1, gUI_same]
    simp only [if_neg hj]
    rw [gTk_ne (by decide), gTk_ne (by decide)]
  have hr : τ.2 = σ.2 := by rw [h3]; show σ1.2 = σ.2; rw [e1]; rfl
  refine ⟨σ.1 8 4, σ1, τ, ?_, ?_, ?_⟩
  · unfold mX9_image
    rw [take5_eq rfl rfl (by decide), gb_some, take0_eq rfl rfl (by decide), gb_some, gl_eq, ← e1, g 8 (by decide) (by decide) (by decide)]
  · have e59 : σ1.1 59 = σ.1 59 := g 59 (by decide) (by decide) (by decide)
    unfold mX10_image
    rw [gl_eq, if_pos (by decide), if_pos (by decide), gl_eq, if_pos (by decide), if_pos (by decide), gl_eq, if_pos (by decide), if_pos (by decide), gl_eq, gl_eq]
    refine Eq.trans h1 ?_
    rw [gUI_ne (by decide), gUI_ne (by decide), gUI_ne (by decide), gUI_ne (by decide), e59, q4]
  · refine ⟨f, w, b, IV_ag hV (by rw [tt 1 (by decide) (by decide) (by decide) (by decide) (by decide)]) (t52 0 (by decide)) (by rw [tt 1 (by decide) (by decide) (by decide) (by decide) (by decide)]) (t52 3 (by decide)) (tt 2 (by decide) (by decide) (by decide) (by decide) (by decide)) (tt 3 (by decide) (by decide) (by decide) (by decide) (by decide)) (tt 4 (by decide) (by decide) (by decide) (by decide) (by decide)) (tt 5 (by decide) (by decide) (by decide) (by decide) (by decide)) (tt 6 (by decide) (by decide) (by decide) (by decide) (by decide)) (tt 7 (by decide) (by decide) (by decide) (by decide) (by decide)) (tt 53 (by decide) (by decide) (by decide) (by decide) (by decide)) (tt 54 (by decide) (by decide) (by decide) (by decide) (by decide)) (tt 55 (by decide) (by decide) (by decide) (by decide) (by decide)) (tt 56 (by decide) (by decide) (by decide) (by decide) (by decide)) (tt 57 (by decide) (by decide) (by decide) (by decide) (by decide)) (tt 58 (by decide) (by decide) (by decide) (by decide) (by decide)),
      IS_ag hS (fun _ => by rw [tt 8 (by decide) (by decide) (by decide) (by decide) (by decide)]) (fun _ => by rw [tt 59 (by decide) (by decide) (by decide) (by decide) (by decide)]), IT_ag hT (g0 6 (by decide)) (t52 9 (by decide)) (tt 17 (by decide) (by decide) (by decide) (by decide) (by decide)) (tt 60 (by decide) (by decide) (by decide) (by decide) (by decide)),
      IL_ag hL (by rw [hr]) (by rw [hr]) (fun k hk => ⟨by rw [tt k (by omega) (by omega) (by omega) (by omega) (by omega)], tt _ (by omega) (by omega) (by omega) (by omega) (by omega), tt _ (by omega) (by omega) (by omega) (by omega) (by omega)⟩) (t52 11 (by decide)) (t52 12 (by decide)) (tt 61 (by decide) (by decide) (by decide) (by decide) (by decide)) (tt 62 (by decide) (by decide) (by decide) (by decide) (by decide)) (tt 63 (by decide) (by decide) (by decide) (by decide) (by decide)) (tt 64 (by decide) (by decide) (by decide) (by decide) (by decide)),
      IB_ag hB (fun _ => by rw [tt 28 (by decide) (by decide) (by decide) (by decide) (by decide)]) (fun _ => by rw [tt 71 (by decide) (by decide) (by decide) (by decide) (by decide)]), ?_,
      IC_ag hC (by rw [tt 31 (by decide) (by decide) (by decide) (by decide) (by decide)]) (by rw [tt 31 (by decide) (by decide) (by decide) (by decide) (by decide)]) (t52 31 (by decide)) (t52 30 (by decide)) (tt 73 (by decide) (by decide) (by decide) (by decide) (by decide)) (tt 32 (by decide) (by decide) (by decide) (by decide) (by decide)) (tt 33 (by decide) (by decide) (by decide) (by decide) (by decide)) (tt 34 (by decide) (by decide) (by decide) (by decide) (by decide)) (tt 35 (by decide) (by decide) (by decide) (by decide) (by decide)),
      IF_ag hF (by rw [tt 36 (by decide) (by decide) (by decide) (by decide) (by decide)]) (t52 33 (by decide)) (by rw [tt 36 (by decide) (by decide) (by decide) (by decide) (by decide)]) (t52 35 (by decide)) (tt 74 (by decide) (by decide) (by decide) (by decide) (by decide)) (tt 37 (by decide) (by decide) (by decide) (by decide) (by decide)) (tt 75 (by decide) (by decide) (by decide) (by decide) (by decide)) (tt 38 (by decide) (by decide) (by decide) (by decide) (by decide)),
      IH_ag hH (fun k x1 x2 => ⟨tt k (by omega) (by omega) (by omega) (by omega) (by omega), by rw [hr]⟩) (tt 76 (by decide) (by decide) (by decide) (by decide) (by decide)) (tt 77 (by decide) (by decide) (by decide) (by decide) (by decide)) (by rw [hr])⟩
    have o1 : τ.1 0 12 = 1 := by rw [t 0 (by decide) (by decide), e1, gUI_same]; rfl
    have o30 : τ.1 30 = σ1.1 30 := t 30 (by decide) (by decide)
    have o29 : τ.1 29 = σ1.1 29 := t 29 (by decide) (by decide)
    have e59 : σ1.1 59 = σ.1 59 := g 59 (by decide) (by decide) (by decide)
    refine ⟨by rw [t52b, o1], Or.inr ⟨o1, ?_, ?_, ?_, ?_, ?_, fun j hj => ?_⟩⟩
    · rw [h4, if_neg (by decide), o30, g30 0 (by decide), gUI_same]
      simp only [show ¬ (0 = 2) by decide, if_false]
      rw [gUI_same]
      simp only [show ¬ (0 = 1) by decide, if_false]
      rw [gUI_same]
      simp only [if_true]
      rw [e59, q0]
    · rw [h4, if_neg (by decide), o30, g30 1 (by decide), gUI_same]
      simp only [show ¬ (1 = 2) by decide, if_false]
      rw [gUI_same]
      simp only [if_true]
      rw [e59, q1]
    · rw [h4, if_neg (by decide), o30, g30 4 (by decide), gUI_same]
      simp only [if_true]
      rw [e59, q4]
    · rw [o30, g30 4 (by decide)]; exact q5
    · rw [o30, g30 0 (by decide)]; exact q7.2
    · rw [h4, if_pos (by omega), o29, g29 j hj, gUI_ne (by decide), gUI_ne (by decide), gUI_ne (by decide), gUI_ne (by decide), g 71 (by decide) (by decide) (by decide), show 3 + j - 3 = j by omega]
      exact hB j hj
theorem s_back : S_back Inv := by
  intro σ hI
  have hI0 := hI
  obtain ⟨f, w, b, hV, hS, hT, hL, hB, hM, hC, hF, hH⟩ := hI
  obtain ⟨q0, q1, q2, q3, q4, q5, q6, q7⟩ := id hS
  obtain ⟨m1, m2⟩ := id hM
  rcases m2 with m2 | ⟨m2, n1, n2, n3, n4, n6, n5⟩
  · refine ⟨-5, σ, σ, ?_, ?_, hI0⟩
    · unfold mX9_back
      rw [if_pos m2]
    · unfold mX10_back
      rw [m1, if_pos m2]
  · obtain ⟨σ1, e1⟩ : ∃ t, t = gTk (gUI (gUI (gUI σ 8 0 (σ.1 30 0)) 8 1 (σ.1 30 1)) 8 4 (σ.1 30 4)) 28 29 := ⟨_, rfl⟩
    obtain ⟨τ, h1, h2, h3, h4⟩ := back_loop 5 0 (gUI (gUI (gUI σ1 59 0 (σ1.1 72 0)) 59 1 (σ1.1 72 1)) 59 4 (σ1.1 72 2)) 1100 (by omega) (by omega)
    have g : ∀ a, a ≠ 8 → a ≠ 28 → σ1.1 a = σ.1 a := fun a x1 x2 => by rw [e1, gTk_ne x2, gUI_ne x1, gUI_ne x1, gUI_ne x1]
    have g28 : ∀ j, j < 5 → σ1.1 28 j = σ.1 29 j := fun j hj => by rw [e1, gTk_at hj, gUI_ne (by decide), gUI_ne (by decide), gUI_ne (by decide)]
    have g8 : ∀ j, σ1.1 8 j = if j = 4 then σ.1 30 4 else if j = 1 then σ.1 30 1 else if j = 0 then σ.1 30 0 else σ.1 8 j := fun j => by
      rw [e1, gTk_ne (by decide)]
      simp only [gUI_same]
    have t : ∀ a, a ≠ 71 → a ≠ 59 → τ.1 a = σ1.1 a := fun a x1 x2 => by rw [h2 a x1, gUI_ne x2, gUI_ne x2, gUI_ne x2]
    have t59 : ∀ j, τ.1 59 j = if j = 4 then σ.1 72 2 else if j = 1 then σ.1 72 1 else if j = 0 then σ.1 72 0 else σ.1 59 j := fun j => by
      rw [h2 59 (by decide)]
      simp only [gUI_same]
      rw [g 72 (by decide) (by decide), g 59 (by decide) (by decide)]
    have tt : ∀ a, a ≠ 71 → a ≠ 59 → a ≠ 8 → a ≠ 28 → τ.1 a = σ.1 a := fun a x1 x2 x3 x4 => (t a x1 x2).trans (g a x3 x4)
    have hr : τ.2 = σ.2 := by rw [h3]; show σ1.2 = σ.2; rw [e1]; rfl
    refine ⟨σ.1 30 4, σ1, τ, ?_, ?_, ?_⟩
    · unfold mX9_back
      rw [if_neg (by rw [m2]; decide), gl_eq, gl_eq, gl_eq]
      have z1 : (gUI σ 8 0 (σ.1 30 0)).1 30 1 = σ.1 30 1 := rfl
      have z2 : (gUI (gUI σ 8 0 (σ.1 30 0)) 8 1 (σ.1 30 1)).1 30 4 = σ.1 30 4 := rfl
      rw [z1, z2, take0_eq rfl rfl (by decide), gb_some, ← e1, g8]
      rfl
    · unfold mX10_back
      have e52 : σ1.1 52 = σ.1 52 := g 52 (by decide) (by decide)
      rw [e52, m1, if_neg (by rw [m2]; decide), if_pos (by decide), if_pos (by decide), gl_eq, if_pos (by decide), if_pos (by decide), gl_eq, if_pos (by decide), if_pos (by decide), gl_eq, gl_eq]
      refine Eq.trans h1 ?_
      rw [gUI_same]
      simp only [if_true]
      rw [g 72 (by decide) (by decide), n3]
    · refine ⟨f, w, b, IV_ag hV (by rw [tt 1 (by decide) (by decide) (by decide) (by decide)]) (by rw [tt 52 (by decide) (by decide) (by decide) (by decide)]) (by rw [tt 1 (by decide) (by decide) (by decide) (by decide)]) (by rw [tt 52 (by decide) (by decide) (by decide) (by decide)]) (tt 2 (by decide) (by decide) (by decide) (by decide)) (tt 3 (by decide) (by decide) (by decide) (by decide)) (tt 4 (by decide) (by decide) (by decide) (by decide)) (tt 5 (by decide) (by decide) (by decide) (by decide)) (tt 6 (by decide) (by decide) (by decide) (by decide)) (tt 7 (by decide) (by decide) (by decide) (by decide)) (tt 53 (by decide) (by decide) (by decide) (by decide)) (tt 54 (by decide) (by decide) (by decide) (by decide)) (tt 55 (by decide) (by decide) (by decide) (by decide)) (tt 56 (by decide) (by decide) (by decide) (by decide)) (tt 57 (by decide) (by decide) (by decide) (by decide)) (tt 58 (by decide) (by decide) (by decide) (by decide)),
        ?_, IT_ag hT (by rw [tt 0 (by decide) (by decide) (by decide) (by decide)]) (by rw [tt 52 (by decide) (by decide) (by decide) (by decide)]) (tt 17 (by decide) (by decide) (by decide) (by decide)) (tt 60 (by decide) (by decide) (by decide) (by decide)),
        IL_ag hL (by rw [hr]) (by rw [hr]) (fun k hk => ⟨by rw [tt k (by omega) (by omega) (by omega) (by omega)], tt _ (by omega) (by omega) (by omega) (by omega), tt _ (by omega) (by omega) (by omega) (by omega)⟩) (by rw [tt 52 (by decide) (by decide) (by decide) (by decide)]) (by rw [tt 52 (by decide) (by decide) (by decide) (by decide)]) (tt 61 (by decide) (by decide) (by decide) (by decide)) (tt 62 (by decide) (by decide) (by decide) (by decide)) (tt 63 (by decide) (by decide) (by decide) (by decide)) (tt 64 (by decide) (by decide) (by decide) (by decide)),
        ?_, IM_ag hM (by rw [tt 52 (by decide) (by decide) (by decide) (by decide)]) (by rw [tt 0 (by decide) (by decide) (by decide) (by decide)]) (tt 72 (by decide) (by decide) (by decide) (by decide)) (tt 30 (by decide) (by decide) (by decide) (by decide)) (tt 29 (by decide) (by decide) (by decide) (by decide)),
        IC_ag hC (by rw [tt 31 (by decide) (by decide) (by decide) (by decide)]) (by rw [tt 31 (by decide) (by decide) (by decide) (by decide)]) (by rw [tt 52 (by decide) (by decide) (by decide) (by decide)]) (by rw [tt 52 (by decide) (by decide) (by decide) (by decide)]) (tt 73 (by decide) (by decide) (by decide) (by decide)) (tt 32 (by decide) (by decide) (by decide) (by decide)) (tt 33 (by decide) (by decide) (by decide) (by decide)) (tt 34 (by decide) (by decide) (by decide) (by decide)) (tt 35 (by decide) (by decide) (by decide) (by decide)),
        IF_ag hF (by rw [tt 36 (by decide) (by decide) (by decide) (by decide)]) (by rw [tt 52 (by decide) (by decide) (by decide) (by decide)]) (by rw [tt 36 (by decide) (by decide) (by decide) (by decide)]) (by rw [tt 52 (by decide) (by decide) (by decide) (by decide)]) (tt 74 (by decide) (by decide) (by decide) (by decide)) (tt 37 (by decide) (by decide) (by decide) (by decide)) (tt 75 (by decide) (by decide) (by decide) (by decide)) (tt 38 (by decide) (by decide) (by decide) (by decide)),
        IH_ag hH (fun k x1 x2 => ⟨tt k (by omega) (by omega) (by omega) (by omega), by rw [hr]⟩) (tt 76 (by decide) (by decide) (by decide) (by decide)) (tt 77 (by decide) (by decide) (by decide) (by decide)) (by rw [hr])⟩
      · have o8 : τ.1 8 = σ1.1 8 := t 8 (by decide) (by decide)
        unfold IS
        rw [o8]
        simp only [g8, t59]
        refine ⟨n1, n2, q2, q3, n3, n4, q6, q7.1, n6⟩
      · intro j hj
        rw [h4, if_pos (by omega), t 28 (by decide) (by decide), g28 j hj, gUI_ne (by decide), gUI_ne (by decide), gUI_ne (by decide), g 72 (by decide) (by decide)]
        exact n5 j hj
