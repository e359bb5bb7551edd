/-! ===== THE LAW read: the five levels ===== -/
/-- the op that joins on a level by a letter; 0: none -/
def opL (lv : Nat) (x : Int32) : Nat :=
  if lv = 0 then (if x = 124 then 6 else 0) else if lv = 1 then (if x = 38 then 7 else 0) else if lv = 2 then (if x = 60 then 8 else if x = 61 then 9 else if x = 62 then 10 else 0) else if lv = 3 then (if x = 43 then 11 else if x = 45 then 12 else 0) else (if x = 42 then 13 else if x = 47 then 14 else if x = 37 then 15 else 0)
theorem opL_ok {lv : Nat} (hlv : lv ≤ 4) {x : Int32} (h : opL lv x ≠ 0) : oC (opL lv x) = x ∧ eC (opL lv x) = 0 ∧ 6 ≤ opL lv x ∧ opL lv x ≤ 15 ∧ x ≠ -1 := by
  unfold opL at h ⊢
  rcases (show lv = 0 ∨ lv = 1 ∨ lv = 2 ∨ lv = 3 ∨ lv = 4 by omega) with rfl | rfl | rfl | rfl | rfl
  · by_cases h1 : x = 124
    · subst h1; decide
    · exfalso; apply h; simp [h1]
  · by_cases h1 : x = 38
    · subst h1; decide
    · exfalso; apply h; simp [h1]
  · by_cases h1 : x = 60
    · subst h1; decide
    · by_cases h2 : x = 61
      · subst h2; decide
      · by_cases h3 : x = 62
        · subst h3; decide
        · exfalso; apply h; simp [h1, h2, h3]
  · by_cases h1 : x = 43
    · subst h1; decide
    · by_cases h2 : x = 45
      · subst h2; decide
      · exfalso; apply h; simp [h1, h2]
  · by_cases h1 : x = 42
    · subst h1; decide
    · by_cases h2 : x = 47
      · subst h2; decide
      · by_cases h3 : x = 37
        · subst h3; decide
        · exfalso; apply h; simp [h1, h2, h3]
theorem opL_m1 {lv : Nat} (hlv : lv ≤ 4) : opL lv (-1) = 0 := by
  rcases (show lv = 0 ∨ lv = 1 ∨ lv = 2 ∨ lv = 3 ∨ lv = 4 by omega) with rfl | rfl | rfl | rfl | rfl <;> decide
theorem joins_eq {lv : Nat} (hlv : lv ≤ 4) (σ : gS) (x : Int32) : mX3_joins σ (nI lv) x = some (!decide (opL lv x = 0), σ) := by
  rcases (show lv = 0 ∨ lv = 1 ∨ lv = 2 ∨ lv = 3 ∨ lv = 4 by omega) with rfl | rfl | rfl | rfl | rfl
  · by_cases h1 : x = 124 <;> simp [mX3_joins, opL, h1, show nI 0 = 0 from rfl]
  · by_cases h1 : x = 38 <;> simp [mX3_joins, opL, h1, show nI 1 = 1 from rfl]
  · by_cases h1 : x = 60
    · simp [mX3_joins, mX3_joins_b78, opL, h1, show nI 2 = 2 from rfl]
    · by_cases h2 : x = 61
      · simp [mX3_joins, mX3_joins_b78, opL, h2, show nI 2 = 2 from rfl]
      · by_cases h3 : x = 62 <;> simp [mX3_joins, mX3_joins_b78, opL, h1, h2, h3, show nI 2 = 2 from rfl]
  · by_cases h1 : x = 43
    · simp [mX3_joins, mX3_joins_b96, opL, h1, show nI 3 = 3 from rfl]
    · by_cases h2 : x = 45 <;> simp [mX3_joins, mX3_joins_b96, opL, h1, h2, show nI 3 = 3 from rfl]
  · by_cases h1 : x = 42
    · simp [mX3_joins, mX3_joins_b120, opL, h1, show nI 4 = 4 from rfl]
    · by_cases h2 : x = 47
      · simp [mX3_joins, mX3_joins_b120, opL, h2, show nI 4 = 4 from rfl]
      · by_cases h3 : x = 37 <;> simp [mX3_joins, mX3_joins_b120, opL, h1, h2, h3, show nI 4 = 4 from rfl]
abbrev gRd : Type := (gS → Nat → Int32 → Int32 → Option (Bool × gS)) × (gS → Nat → Int32 → Option (Bool × gS))
theorem b26_eq {K T p z c lv i n : Nat} {tp : Nat → Int32} {σ υ : gS} {rec : gRd} (hlv : lv ≤ 4) (hi : i < 120) (h : QB K T tp p z c σ υ) (o : Int32) : mX3_readLevel_b26 rec K (n + 1) σ (nI lv) o (nI i) = if opL lv (chr T tp p) = 0 then some (true, σ) else gBind (rec.1 (adC K p σ) K (nI (lv + 1)) o) (fun r s => if r = true then gBind (mX3_addStep s K (chr T tp p) 0) (fun _ s2 => if nI lv = 2 then some (true, s2) else mX3_readLevel_b26 rec K n s2 (nI lv) o (nI (i + 1))) else some (false, s)) := by
  conv => lhs; unfold mX3_readLevel_b26
  rw [if_neg (show ¬ (120 : Int32) ≤ nI i from nI_ge (b := 120) hi (by decide)), letter_eq h, gb_some, joins_eq hlv, gb_some]
  by_cases h0 : opL lv (chr T tp p) = 0
  · rw [decide_eq_true h0, if_pos h0, Bool.not_true, if_neg (by decide)]
  · rw [decide_eq_false h0, if_neg h0, Bool.not_false, if_pos rfl, letter_eq h, gb_some, gl_eq, h.2.2.2.2.1, nI_1, gl_eq, nI_1]
    simp only [gLet, nI_1]
    rfl
/-- a level's loop of the reference: one round -/
def RLp (K T : Nat) (tp : Nat → Int32) (lv : Nat) (sub : gS → Option (Bool × gS)) (Lp : Nat → gS → Option (Bool × gS)) : Prop := ∀ (σ υ : gS) (p z c n : Nat), QB K T tp p z c σ υ → Lp (n + 1) υ = if opL lv (chr T tp p) = 0 then some (true, υ) else gBind (sub (adM p υ)) (fun r s => if r = true then gBind (mX10_codes s (nI (opL lv (chr T tp p)))) (fun _ s2 => Lp n s2) else some (false, s))
theorem lev_loop {K T lv o p0 z c : Nat} {tp : Nat → Int32} {rec : gRd} {sub : gS → Option (Bool × gS)} {Lp : Nat → gS → Option (Bool × gS)} {σ0 υ0 : gS} (hlv : lv ≤ 4) (hl2 : lv ≠ 2) (hRL : RLp K T tp lv sub Lp) (hsub : ∀ (σ υ : gS) (p z c : Nat), QB K T tp p z c σ υ → υ.1 52 18 = nI o → RE K T tp o p z c σ υ (rec.1 σ K (nI (lv + 1)) (nI o)) (sub υ)) : ∀ (k i n m p : Nat) (a : List Nat) (σ υ : gS), QB K T tp p (z + a.length) (c + a.length) σ υ → υ.1 52 18 = nI o → p0 + a.length ≤ p → 0 < a.length → fP K z σ0 σ → fQ c υ0 υ → RepC (σ.1 (K + 1)) (σ.1 (K + 2)) z a → RepM (υ.1 68) c a → Ex a → T < p + k → i ≤ p → k < n → k < m →
    RE K T tp o p0 z c σ0 υ0 (mX3_readLevel_b26 rec K n σ (nI lv) (nI o) (nI i)) (Lp m υ) := by
  have n2 : ¬ nI lv = 2 := fun q => by have := (nI_eq (b := 2) (by omega) (by decide)).mp q; omega
  intro k
  induction k with
  | zero =>
    intro i n m p a σ υ h _ _ _ _ _ _ _ _ hk
    have := h.2.1
    omega
  | succ k ih =>
    intro i n m p a σ υ h h18 hpa ha fp fq rc rm ex hk hip hn hm
    obtain ⟨n, rfl⟩ : ∃ q, n = q + 1 := ⟨n - 1, by omega⟩
    obtain ⟨m, rfl⟩ : ∃ q, m = q + 1 := ⟨m - 1, by omega⟩
    have hK := gK_of h.1
    have hT := h.1.2.1
    have hpT := h.2.1
    have done : RE K T tp o p0 z c σ0 υ0 (some (true, σ)) (some (true, υ)) := Or.inl ⟨σ, υ, p, a, rfl, rfl, h, h18, hpa, ha, fp, fq, rc, rm, ex⟩
    rw [hRL σ υ p _ _ m h]
    by_cases hi : i < 120
    · rw [b26_eq hlv hi h]
      by_cases h0 : opL lv (chr T tp p) = 0
      · rw [if_pos h0, if_pos h0]
        exact done
      · obtain ⟨o1, o2, o3, o4, o5⟩ := opL_ok hlv h0
        have hlt : p < T := chr_lt rfl o5
        have h2 := ad_QB h hlt
        have zz := h.2.2.1
        have cz := h.2.2.2.1
        rw [if_neg h0, if_neg h0]
        rcases hsub (adC K p σ) (adM p υ) (p + 1) _ _ h2 (adM_o.trans h18) with ⟨σ', υ', p', b, a1, a2, a3, a4, a5, a6, a7, a8, a9, a10, a11⟩ | ⟨σ', υ', p', a1, a2, a3, a4, a5, a6, a7⟩
        · have b1 := st_QB a3 (show z + a.length + b.length + 1 ≤ p' by omega) (show c + a.length + b.length + 1 ≤ p' by omega) (oC (opL lv (chr T tp p))) (eC (opL lv (chr T tp p))) (nI (opL lv (chr T tp p)))
          have ln : (a ++ (b ++ [opL lv (chr T tp p)])).length = a.length + b.length + 1 := by
            rw [List.length_append, List.length_append]
            show a.length + (b.length + 1) = _
            omega
          rw [a1, gb_some, if_pos rfl, a2, gb_some, if_pos rfl, ← o2]
          rw [show mX3_addStep σ' K (chr T tp p) (eC (opL lv (chr T tp p))) = mX3_addStep σ' K (oC (opL lv (chr T tp p))) (eC (opL lv (chr T tp p))) by rw [o1]]
          rw [addStep_eq hK a3.2.2.2.2.2.2.1 (by have := a3.2.1; omega), gb_some, if_neg n2, codes_eq a3.2.2.2.2.2.2.2 (by have := a3.2.1; omega), gb_some]
          refine ih (i + 1) n m p' (a ++ (b ++ [opL lv (chr T tp p)])) _ _ ?_ (cdM_o.trans a4) (by rw [ln]; omega) (by rw [ln]; omega) (fP_tr (fP_tr (fP_tr fp (ad_fP (z := z)) (Nat.le_refl z)) a7 (by omega)) stC_fP (by omega)) (fQ_tr (fQ_tr (fQ_tr fq (ad_fQ (c := c)) (Nat.le_refl c)) a8 (by omega)) cdM_fQ (by omega)) ?_ ?_ (Ex_bin ex a11 o3 o4) (by omega) (by omega) (by omega) (by omega)
          · rw [ln, show z + (a.length + b.length + 1) = z + a.length + b.length + 1 by omega, show c + (a.length + b.length + 1) = c + a.length + b.length + 1 by omega]
            exact b1
          · rw [RepC_app, RepC_app]
            refine ⟨RepC_ag a z (fun j x1 x2 => ?_) rc, RepC_ag b (z + a.length) (fun j x1 x2 => ?_) a9, st_RepC⟩
            · obtain ⟨y1, y2⟩ := stC_fP (K := K) (z := z + a.length + b.length) (s := oC (opL lv (chr T tp p))) (d := eC (opL lv (chr T tp p))) (σ := σ') |>.2.2.2 j (by omega)
              obtain ⟨y3, y4⟩ := a7.2.2.2 j (by omega)
              rw [y1, y2, y3, y4]
              unfold adC
              rw [gUI_ne (by omega), gUI_ne (by omega)]
              exact ⟨rfl, rfl⟩
            · exact stC_fP.2.2.2 j (by omega)
          · rw [RepM_app, RepM_app]
            refine ⟨RepM_ag a c (fun j x1 x2 => ?_) rm, RepM_ag b (c + a.length) (fun j x1 x2 => ?_) a10, cd_RepM (by omega)⟩
            · rw [cdM_fQ.2.2.2 j (by omega), a8.2.2.2 j (by omega)]
              unfold adM
              rw [gUI_ne (by decide)]
            · exact cdM_fQ.2.2.2 j (by omega)
        · rw [a1, gb_some, if_neg (by decide), a2, gb_some, if_neg (by decide)]
          exact Or.inr ⟨σ', υ', p', rfl, rfl, a3, a4, a5, fP_tr (fP_tr fp (ad_fP (z := z)) (Nat.le_refl z)) a6 (by omega), fQ_tr (fQ_tr fq (ad_fQ (c := c)) (Nat.le_refl c)) a7 (by omega)⟩
    · have hpe : ¬ p < T := by omega
      have x1 : chr T tp p = -1 := if_neg hpe
      have e26 : mX3_readLevel_b26 rec K (n + 1) σ (nI lv) (nI o) (nI i) = some (true, σ) := by
        conv => lhs; unfold mX3_readLevel_b26
        rw [if_pos (show (120 : Int32) ≤ nI i from nI_le (a := 120) (by omega) (by omega))]
      rw [e26, x1, opL_m1 hlv, if_pos rfl]
      exact done
/-- a level out of the next one -/
theorem lev_up {K T lv o D : Nat} {tp : Nat → Int32} {sub : gS → Option (Bool × gS)} {Lp : Nat → gS → Option (Bool × gS)} (hlv : lv ≤ 4) (hl2 : lv ≠ 2) (hRL : RLp K T tp lv sub Lp) (hsub : LVs K T tp (lv + 1) o D sub) (hK : gk K = 3) : LVs K T tp lv o (D + 1) (fun υ => gBind (sub υ) (fun r s => if r = true then Lp 1100 s else some (false, s))) := by
  intro σ υ p z c h h18
  show RE K T tp o p z c σ υ (mrX3_readLevel (mgread D) σ K (nI lv) (nI o)) (gBind (sub υ) (fun r s => if r = true then Lp 1100 s else some (false, s)))
  unfold mrX3_readLevel
  rw [if_pos hK, if_pos (show nI lv < 5 from nI_lt (b := 5) (by omega) (by decide)), nI_1]
  have hT := h.1.2.1
  rcases hsub σ υ p z c h h18 with ⟨σ', υ', p', a, a1, a2, a3, a4, a5, a6, a7, a8, a9, a10, a11⟩ | ⟨σ', υ', p', a1, a2, a3, a4, a5, a6, a7⟩
  · rw [a1, gb_some, if_pos rfl, gl_eq, a2, gb_some, if_pos rfl]
    exact lev_loop hlv hl2 hRL (fun σ υ p z c h1 h2 => hsub σ υ p z c h1 h2) (T + 1) 0 1100 1100 p' a σ' υ' a3 a4 a5 a6 a7 a8 a9 a10 a11 (by omega) (by omega) (by omega) (by omega)
  · rw [a1, gb_some, if_neg (by decide), a2, gb_some, if_neg (by decide)]
    exact Or.inr ⟨σ', υ', p', rfl, rfl, a3, a4, a5, a6, a7⟩
abbrev gGr : Type := (gS → Option (Bool × gS)) × (gS → Option (Bool × gS)) × (gS → Option (Bool × gS)) × (gS → Option (Bool × gS)) × (gS → Option (Bool × gS)) × (gS → Option (Bool × gS))
/-! the reference's loops -/
theorem RL_P (K T : Nat) (tp : Nat → Int32) (rec : gGr) : RLp K T tp 4 rec.1 (mX10_isP_b9 rec) := by
  intro σ υ p z c n h
  obtain ⟨x, hx⟩ : ∃ x, x = chr T tp p := ⟨_, rfl⟩
  have hit : ∀ w : Nat, mX10_isP_b52 rec (mX10_isP_b9 rec n) υ (nI w) = gBind (rec.1 (adM p υ)) (fun r s => if r = true then gBind (mX10_codes s (nI w)) (fun _ s2 => mX10_isP_b9 rec n s2) else some (false, s)) ∨ 1000 ≤ w := fun w => by
    by_cases hw : w < 1000
    · left
      unfold mX10_isP_b52
      rw [gl_eq, if_pos (show (0 : Int32) ≤ nI w from nI_pos' (by omega)), h.2.2.2.2.2.1, nI_1, gl_eq]
      rfl
    · right; omega
  have hit' : ∀ w : Nat, w < 1000 → mX10_isP_b52 rec (mX10_isP_b9 rec n) υ (nI w) = gBind (rec.1 (adM p υ)) (fun r s => if r = true then gBind (mX10_codes s (nI w)) (fun _ s2 => mX10_isP_b9 rec n s2) else some (false, s)) := fun w hw => by
    rcases hit w with q | q
    · exact q
    · omega
  conv => lhs; unfold mX10_isP_b9
  rw [sign_eq h, gb_some, ← hx]
  by_cases h1 : x = 42
  · rw [if_pos h1, show opL 4 x = 13 by rw [h1]; decide, if_neg (by decide)]
    exact hit' 13 (by decide)
  · rw [if_neg h1, sign_eq h, gb_some, ← hx]
    by_cases h2 : x = 47
    · rw [if_pos h2, show opL 4 x = 14 by rw [h2]; decide, if_neg (by decide)]
      exact hit' 14 (by decide)
    · rw [if_neg h2, sign_eq h, gb_some, ← hx]
      by_cases h3 : x = 37
      · rw [if_pos h3, show opL 4 x = 15 by rw [h3]; decide, if_neg (by decide)]
        exact hit' 15 (by decide)
      · rw [if_neg h3, show opL 4 x = 0 by simp [opL, h1, h2, h3], if_pos rfl]
        unfold mX10_isP_b52
        rw [gl_eq, if_neg (by decide)]
theorem RL_S (K T : Nat) (tp : Nat → Int32) (rec : gGr) : RLp K T tp 3 rec.2.1 (mX10_isS_b9 rec) := by
  intro σ υ p z c n h
  obtain ⟨x, hx⟩ : ∃ x, x = chr T tp p := ⟨_, rfl⟩
  have hit' : ∀ w : Nat, w < 1000 → mX10_isS_b38 rec (mX10_isS_b9 rec n) υ (nI w) = gBind (rec.2.1 (adM p υ)) (fun r s => if r = true then gBind (mX10_codes s (nI w)) (fun _ s2 => mX10_isS_b9 rec n s2) else some (false, s)) := fun w hw => by
    unfold mX10_isS_b38
    rw [gl_eq, if_pos (show (0 : Int32) ≤ nI w from nI_pos' (by omega)), h.2.2.2.2.2.1, nI_1, gl_eq]
    rfl
  conv => lhs; unfold mX10_isS_b9
  rw [sign_eq h, gb_some, ← hx]
  by_cases h1 : x = 43
  · rw [if_pos h1, show opL 3 x = 11 by rw [h1]; decide, if_neg (by decide)]
    exact hit' 11 (by decide)
  · rw [if_neg h1, sign_eq h, gb_some, ← hx]
    by_cases h2 : x = 45
    · rw [if_pos h2, show opL 3 x = 12 by rw [h2]; decide, if_neg (by decide)]
      exact hit' 12 (by decide)
    · rw [if_neg h2, show opL 3 x = 0 by simp [opL, h1, h2], if_pos rfl]
      unfold mX10_isS_b38
      rw [gl_eq, if_neg (by decide)]
theorem RL_A (K T : Nat) (tp : Nat → Int32) (rec : gGr) : RLp K T tp 1 rec.2.2.2.1 (mX10_isA_b9 rec) := by
  intro σ υ p z c n h
  conv => lhs; unfold mX10_isA_b9
  rw [is_eq h]
  by_cases h1 : chr T tp p = 38
  · rw [if_pos h1, gb_some, if_pos rfl, h1, show opL 1 38 = 7 by decide, if_neg (by decide)]
    rfl
  · rw [if_neg h1, gb_some, if_neg (by decide), show opL 1 (chr T tp p) = 0 by simp [opL, h1], if_pos rfl]
theorem RL_E (K T : Nat) (tp : Nat → Int32) (rec : gGr) : RLp K T tp 0 rec.2.2.2.2.1 (mX10_isE_b9 rec) := by
  intro σ υ p z c n h
  conv => lhs; unfold mX10_isE_b9
  rw [is_eq h]
  by_cases h1 : chr T tp p = 124
  · rw [if_pos h1, gb_some, if_pos rfl, h1, show opL 0 124 = 6 by decide, if_neg (by decide)]
    rfl
  · rw [if_neg h1, gb_some, if_neg (by decide), show opL 0 (chr T tp p) = 0 by simp [opL, h1], if_pos rfl]
/-- level 2: at most one comparison -/
theorem lev_B {K T o D : Nat} {tp : Nat → Int32} (rec : gGr) (hsub : LVs K T tp 3 o D rec.2.2.1) (hK : gk K = 3) : LVs K T tp 2 o (D + 1) (mrX10_isB rec) := by
  intro σ υ p z c h h18
  show RE K T tp o p z c σ υ (mrX3_readLevel (mgread D) σ K (nI 2) (nI o)) (mrX10_isB rec υ)
  unfold mrX3_readLevel mrX10_isB
  rw [if_pos hK, if_pos (by decide), show (nI 2 + 1 : Int32) = nI 3 from rfl]
  have hT := h.1.2.1
  rcases hsub σ υ p z c h h18 with ⟨σ', υ', p', a, a1, a2, a3, a4, a5, a6, a7, a8, a9, a10, a11⟩ | ⟨σ', υ', p', a1, a2, a3, a4, a5, a6, a7⟩
  · rw [a1, gb_some, if_pos rfl, gl_eq, a2, gb_some, if_pos rfl]
    have e10 : (gBind (mX10_sign υ' ) (fun r3 s4 => if r3 = 60 then ((mX10_isB_b52 rec s4 8)) else (gBind (mX10_sign s4 ) (fun r5 s6 => if r5 = 61 then ((mX10_isB_b52 rec s6 9)) else (gBind (mX10_sign s6 ) (fun r7 s8 => if r7 = 62 then ((mX10_isB_b52 rec s8 10)) else ((mX10_isB_b52 rec s8 (-1))))))))) = if opL 2 (chr T tp p') = 0 then some (true, υ') else gBind (rec.2.2.1 (adM p' υ')) (fun r s => if r = true then gBind (mX10_codes s (nI (opL 2 (chr T tp p')))) (fun r14 s2 => if r14 = true then some (true, s2) else some (false, s2)) else some (false, s)) := by
      obtain ⟨x, hx⟩ : ∃ x, x = chr T tp p' := ⟨_, rfl⟩
      have hit' : ∀ w : Nat, w < 1000 → mX10_isB_b52 rec υ' (nI w) = gBind (rec.2.2.1 (adM p' υ')) (fun r s => if r = true then gBind (mX10_codes s (nI w)) (fun r14 s2 => if r14 = true then some (true, s2) else some (false, s2)) else some (false, s)) := fun w hw => by
        unfold mX10_isB_b52
        rw [gl_eq, if_pos (show (0 : Int32) ≤ nI w from nI_pos' (by omega)), a3.2.2.2.2.2.1, nI_1, gl_eq]
        rfl
      rw [sign_eq a3, gb_some, ← hx]
      by_cases h1 : x = 60
      · rw [if_pos h1, show opL 2 x = 8 by rw [h1]; decide, if_neg (by decide)]
        exact hit' 8 (by decide)
      · rw [if_neg h1, sign_eq a3, gb_some, ← hx]
        by_cases h2 : x = 61
        · rw [if_pos h2, show opL 2 x = 9 by rw [h2]; decide, if_neg (by decide)]
          exact hit' 9 (by decide)
        · rw [if_neg h2, sign_eq a3, gb_some, ← hx]
          by_cases h3 : x = 62
          · rw [if_pos h3, show opL 2 x = 10 by rw [h3]; decide, if_neg (by decide)]
            exact hit' 10 (by decide)
          · rw [if_neg h3, show opL 2 x = 0 by simp [opL, h1, h2, h3], if_pos rfl]
            unfold mX10_isB_b52
            rw [gl_eq, if_neg (by decide)]
    rw [e10, show (1100 : Nat) = 1099 + 1 from rfl, show (0 : Int32) = nI 0 from rfl, b26_eq (by decide) (by decide) a3]
    by_cases h0 : opL 2 (chr T tp p') = 0
    · rw [if_pos h0, if_pos h0]
      exact Or.inl ⟨σ', υ', p', a, rfl, rfl, a3, a4, a5, a6, a7, a8, a9, a10, a11⟩
    · obtain ⟨o1, o2, o3, o4, o5⟩ := opL_ok (lv := 2) (by decide) h0
      have hlt : p' < T := chr_lt rfl o5
      have h2 := ad_QB a3 hlt
      have zz := a3.2.2.1
      have cz := a3.2.2.2.1
      rw [if_neg h0, if_neg h0]
      rcases hsub (adC K p' σ') (adM p' υ') (p' + 1) _ _ h2 (adM_o.trans a4) with ⟨σ2, υ2, p2, b, d1, d2, d3, d4, d5, d6, d7, d8, d9, d10, d11⟩ | ⟨σ2, υ2, p2, d1, d2, d3, d4, d5, d6, d7⟩
      · have b1 := st_QB d3 (show z + a.length + b.length + 1 ≤ p2 by omega) (show c + a.length + b.length + 1 ≤ p2 by omega) (oC (opL 2 (chr T tp p'))) (eC (opL 2 (chr T tp p'))) (nI (opL 2 (chr T tp p')))
        have ln : (a ++ (b ++ [opL 2 (chr T tp p')])).length = a.length + b.length + 1 := by
          rw [List.length_append, List.length_append]
          show a.length + (b.length + 1) = _
          omega
        rw [show (mgread D).1 (adC K p' σ') K (nI (2 + 1)) (nI o) = _ from d1, gb_some, if_pos rfl, d2, gb_some, if_pos rfl]
        rw [show mX3_addStep σ2 K (chr T tp p') (0) = mX3_addStep σ2 K (oC (opL 2 (chr T tp p'))) (eC (opL 2 (chr T tp p'))) by rw [o1, o2]]
        rw [addStep_eq hK d3.2.2.2.2.2.2.1 (by have := d3.2.1; omega), gb_some, if_pos (by decide), codes_eq d3.2.2.2.2.2.2.2 (by have := d3.2.1; omega), gb_some, if_pos rfl]
        refine Or.inl ⟨_, _, p2, a ++ (b ++ [opL 2 (chr T tp p')]), rfl, rfl, ?_, cdM_o.trans d4, by rw [ln]; omega, by rw [ln]; omega, fP_tr (fP_tr (fP_tr a7 (ad_fP (z := z)) (Nat.le_refl z)) d7 (by omega)) stC_fP (by omega), fQ_tr (fQ_tr (fQ_tr a8 (ad_fQ (c := c)) (Nat.le_refl c)) d8 (by omega)) cdM_fQ (by omega), ?_, ?_, Ex_bin a11 d11 o3 o4⟩
        · rw [ln, show z + (a.length + b.length + 1) = z + a.length + b.length + 1 by omega, show c + (a.length + b.length + 1) = c + a.length + b.length + 1 by omega]
          exact b1
        · rw [RepC_app, RepC_app]
          refine ⟨RepC_ag a z (fun j x1 x2 => ?_) a9, RepC_ag b (z + a.length) (fun j x1 x2 => ?_) d9, st_RepC⟩
          · obtain ⟨y1, y2⟩ := stC_fP (K := K) (z := z + a.length + b.length) (s := oC (opL 2 (chr T tp p'))) (d := eC (opL 2 (chr T tp p'))) (σ := σ2) |>.2.2.2 j (by omega)
            obtain ⟨y3, y4⟩ := d7.2.2.2 j (by omega)
            rw [y1, y2, y3, y4]
            unfold adC
            rw [gUI_ne (by omega), gUI_ne (by omega)]
            exact ⟨rfl, rfl⟩
          · exact stC_fP.2.2.2 j (by omega)
        · rw [RepM_app, RepM_app]
          refine ⟨RepM_ag a c (fun j x1 x2 => ?_) a10, RepM_ag b (c + a.length) (fun j x1 x2 => ?_) d10, cd_RepM (by omega)⟩
          · rw [cdM_fQ.2.2.2 j (by omega), d8.2.2.2 j (by omega)]
            unfold adM
            rw [gUI_ne (by decide)]
          · exact cdM_fQ.2.2.2 j (by omega)
      · rw [show (mgread D).1 (adC K p' σ') K (nI (2 + 1)) (nI o) = _ from d1, gb_some, if_neg (by decide), d2, gb_some, if_neg (by decide)]
        exact Or.inr ⟨σ2, υ2, p2, rfl, rfl, d3, d4, d5, fP_tr (fP_tr a7 (ad_fP (z := z)) (Nat.le_refl z)) d6 (by omega), fQ_tr (fQ_tr a8 (ad_fQ (c := c)) (Nat.le_refl c)) d7 (by omega)⟩
  · rw [a1, gb_some, if_neg (by decide), a2, gb_some, if_neg (by decide)]
    exact Or.inr ⟨σ', υ', p', rfl, rfl, a3, a4, a5, a6, a7⟩
theorem lev_5 {K T o D d : Nat} {tp : Nat → Int32} (hK : gk K = 3) (h : OPs K T tp o D d) : LVs K T tp 5 o (D + 1) (mggram d).1 := by
  intro σ υ p z c hq h18
  show RE K T tp o p z c σ υ (mrX3_readLevel (mgread D) σ K (nI 5) (nI o)) ((mggram d).1 υ)
  unfold mrX3_readLevel
  rw [if_pos hK, if_neg (by decide), bind_id]
  exact h σ υ p z c hq h18
/-- E out of O -/
theorem lev_0 {K T o D d : Nat} {tp : Nat → Int32} (hK : gk K = 3) (h : OPs K T tp o D d) : LVs K T tp 0 o (D + 6) (mggram (d + 5)).2.2.2.2.2 := by
  have l5 := lev_5 hK h
  have l4 : LVs K T tp 4 o (D + 2) (mggram (d + 1)).2.1 := lev_up (lv := 4) (by decide) (by decide) (RL_P K T tp (mggram d)) l5 hK
  have l3 : LVs K T tp 3 o (D + 3) (mggram (d + 2)).2.2.1 := lev_up (lv := 3) (by decide) (by decide) (RL_S K T tp (mggram (d + 1))) l4 hK
  have l2 : LVs K T tp 2 o (D + 4) (mggram (d + 3)).2.2.2.1 := lev_B (mggram (d + 2)) l3 hK
  have l1 : LVs K T tp 1 o (D + 5) (mggram (d + 4)).2.2.2.2.1 := lev_up (lv := 1) (by decide) (by decide) (RL_A K T tp (mggram (d + 3))) l2 hK
  exact lev_up (lv := 0) (by decide) (by decide) (RL_E K T tp (mggram (d + 4))) l1 hK
theorem op_all {K T : Nat} {tp : Nat → Int32} (hK : gk K = 3) : ∀ (m o D d : Nat), o + m = 6 → 7 * m + 1 ≤ D → 6 * m + 1 ≤ d → OPs K T tp o D d := by
  intro m
  induction m with
  | zero =>
    intro o D d ho hD hd
    obtain ⟨D, rfl⟩ : ∃ q, D = q + 1 := ⟨D - 1, by omega⟩
    obtain ⟨d, rfl⟩ : ∃ q, d = q + 1 := ⟨d - 1, by omega⟩
    exact op_step (by omega) (fun q => by omega) (fun q => by omega)
  | succ m ih =>
    intro o D d ho hD hd
    obtain ⟨D, rfl⟩ : ∃ q, D = q + 6 + 1 := ⟨D - 7, by omega⟩
    obtain ⟨d, rfl⟩ : ∃ q, d = q + 5 + 1 := ⟨d - 6, by omega⟩
    exact op_step (by omega) (fun _ => ih (o + 1) (D + 6) (d + 5) (by omega) (by omega) (by omega)) (fun _ => lev_0 hK (ih (o + 1) D d (by omega) (by omega) (by omega)))
theorem E_all {K T : Nat} {tp : Nat → Int32} (hK : gk K = 3) : LVs K T tp 0 0 64 (mggram 64).2.2.2.2.2 := lev_0 (D := 58) (d := 59) hK (op_all hK 6 0 58 59 (by omega) (by omega) (by omega))
