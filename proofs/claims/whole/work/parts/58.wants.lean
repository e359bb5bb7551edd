/-! ===== wants from a row ===== -/
/-- farms and wants alike in two states, the class's and the reference's -/
def RW (f w : Nat) (σ υ : gS) : Prop := w ≤ 12 ∧ σ.1 1 0 = nI f ∧ υ.1 52 0 = nI f ∧ σ.1 1 3 = nI w ∧ υ.1 52 3 = nI w ∧ υ.1 55 = σ.1 4 ∧ υ.1 56 = σ.1 5 ∧ υ.1 57 = σ.1 6 ∧ υ.1 58 = σ.1 7 ∧ ∀ j, j < w → rg (σ.1 5 j) 0 29 ∧ rg (σ.1 6 j) 1 24
def fC (σ τ : gS) : Prop := (∀ a, a ≠ 1 → a ≠ 4 → a ≠ 5 → a ≠ 6 → a ≠ 7 → τ.1 a = σ.1 a) ∧ (∀ j, j ≠ 3 → τ.1 1 j = σ.1 1 j) ∧ τ.2 = σ.2
def fM (σ τ : gS) : Prop := (∀ a, a ≠ 52 → a ≠ 55 → a ≠ 56 → a ≠ 57 → a ≠ 58 → τ.1 a = σ.1 a) ∧ (∀ j, j ≠ 3 → τ.1 52 j = σ.1 52 j) ∧ τ.2 = σ.2
theorem fC_tr {σ τ υ : gS} (h : fC σ τ) (k : fC τ υ) : fC σ υ := ⟨fun a x1 x2 x3 x4 x5 => (k.1 a x1 x2 x3 x4 x5).trans (h.1 a x1 x2 x3 x4 x5), fun j hj => (k.2.1 j hj).trans (h.2.1 j hj), k.2.2.trans h.2.2⟩
theorem fM_tr {σ τ υ : gS} (h : fM σ τ) (k : fM τ υ) : fM σ υ := ⟨fun a x1 x2 x3 x4 x5 => (k.1 a x1 x2 x3 x4 x5).trans (h.1 a x1 x2 x3 x4 x5), fun j hj => (k.2.1 j hj).trans (h.2.1 j hj), k.2.2.trans h.2.2⟩
theorem fC_rf (σ : gS) : fC σ σ := ⟨fun _ _ _ _ _ _ => rfl, fun _ _ => rfl, rfl⟩
theorem fM_rf (σ : gS) : fM σ σ := ⟨fun _ _ _ _ _ _ => rfl, fun _ _ => rfl, rfl⟩
theorem fC_W {σ : gS} {w : Nat} {a d h g : Int32} : fC σ (gWc σ w a d h g) := by
  unfold gWc
  refine ⟨fun q x1 x2 x3 x4 x5 => by rw [gUI_ne x1, gUI_ne x5, gUI_ne x4, gUI_ne x3, gUI_ne x2], fun j hj => ?_, rfl⟩
  rw [gUI_at, if_neg hj, gUI_ne (by decide), gUI_ne (by decide), gUI_ne (by decide), gUI_ne (by decide)]
theorem fM_W {σ : gS} {w : Nat} {a d h g : Int32} : fM σ (gWm σ w a d h g) := by
  unfold gWm
  refine ⟨fun q x1 x2 x3 x4 x5 => by rw [gUI_ne x1, gUI_ne x5, gUI_ne x4, gUI_ne x3, gUI_ne x2], fun j hj => ?_, rfl⟩
  rw [gUI_at, if_neg hj, gUI_ne (by decide), gUI_ne (by decide), gUI_ne (by decide), gUI_ne (by decide)]
theorem RW_W {f w : Nat} {σ υ : gS} {a d h g : Int32} (hw : w < 12) (k : RW f w σ υ) (hs : suchB f a d h g = true) : RW f (w + 1) (gWc σ w a d h g) (gWm υ w a d h g) := by
  obtain ⟨k1, k2, k3, k4, k5, k6, k7, k8, k9, k10⟩ := k
  obtain ⟨r1, r2⟩ := suchB_ok hs
  refine ⟨by omega, k2, k3, nI_1 w, nI_1 w, ?_, ?_, ?_, ?_, fun j hj => ?_⟩
  · show (fun i => if i = w then a else υ.1 55 i) = (fun i => if i = w then a else σ.1 4 i)
    rw [k6]
  · show (fun i => if i = w then d else υ.1 56 i) = (fun i => if i = w then d else σ.1 5 i)
    rw [k7]
  · show (fun i => if i = w then h else υ.1 57 i) = (fun i => if i = w then h else σ.1 6 i)
    rw [k8]
  · show (fun i => if i = w then g else υ.1 58 i) = (fun i => if i = w then g else σ.1 7 i)
    rw [k9]
  · show rg (if j = w then d else σ.1 5 j) 0 29 ∧ rg (if j = w then h else σ.1 6 j) 1 24
    by_cases hjw : j = w
    · rw [if_pos hjw, if_pos hjw]; exact ⟨r1, r2⟩
    · rw [if_neg hjw, if_neg hjw]; exact k10 j (by omega)
theorem l0 : (0 : Int64).toInt = 0 := by decide
theorem l4 : (4 : Int64).toInt = 4 := by decide
/-- the place of the next four, in ints and in longs -/
theorem four_at {i : Int32} {q : Nat} (h : q = 0 ∨ (q ≤ 12 ∧ 0 ≤ i.toInt ∧ i.toInt + 4 * q ≤ 60)) (hq : q ≤ 12) : (i + 4 * nI q).toInt = i.toInt + 4 * q ∧ (i.toInt64 + 4 * (nI q).toInt64).toInt = i.toInt + 4 * q ∧ (i.toInt64 + 4 * (nI q).toInt64 + 4).toInt = i.toInt + 4 * q + 4 := by
  have b1 := Int32.toInt_lt i
  have b2 := Int32.le_toInt i
  have e4 : (4 * nI q : Int32) = nI (4 * q) := e4n q
  have e4l : (4 * (nI q).toInt64 : Int64).toInt = 4 * q := by
    rw [Int64.toInt_mul, l4, Int32.toInt_toInt64, nI_toInt (by omega)]
    exact Int.bmod_eq_of_le (by omega) (by omega)
  have e1 : (i.toInt64 + 4 * (nI q).toInt64).toInt = i.toInt + 4 * q := by
    rw [Int64.toInt_add, e4l, Int32.toInt_toInt64]
    exact Int.bmod_eq_of_le (by omega) (by omega)
  refine ⟨?_, e1, ?_⟩
  · rw [e4]
    rcases h with rfl | ⟨h1, h2, h3⟩
    · rw [show nI (4 * 0) = 0 from rfl, Int32.add_zero]; omega
    · rw [Int32.toInt_add, nI_toInt (by omega)]
      rw [Int.bmod_eq_of_le (by omega) (by omega)]
      omega
  · rw [Int64.toInt_add, e1, l4]
    exact Int.bmod_eq_of_le (by omega) (by omega)
theorem wants_rel {f m j N : Nat} {i : Int32} {told : Nat → Int64} (hf : f ≤ 6) (hm : m ≤ 60) (hj : j < 6) (hN : N ≤ 12) : ∀ (k q w : Nat) (σ υ : gS) (came : Int32) (n : Nat), RW f w σ υ → σ.1 (40 + 2 * j) 3 = nI m → υ.1 77 j = nI m → σ.2.1 (40 + 2 * j + 1) = told → (∀ x, x < 60 → υ.2.1 78 (60 * j + x) = told x) → (q = 0 ∨ (q ≤ 12 ∧ 0 ≤ i.toInt ∧ i.toInt + 4 * q ≤ 60)) → q + k = N → k < n →
    ∃ (r : Int32) (w' : Nat) (σ' υ' : gS), mX9_wantsFromRow_b6 (40 + 2 * j) n σ i (nI N) came (nI q) = some (r, σ') ∧ mX10_wants_b49 n υ (nI j) i (nI N) came (nI q) = some (r, υ') ∧ fC σ σ' ∧ fM υ υ' ∧ RW f w' σ' υ' ∧ w ≤ w' := by
  have k6 := gk_sh hj
  intro k
  induction k with
  | zero =>
    intro q w σ υ came n h e3 e7 e1 e8 hq hk hn
    obtain ⟨n, rfl⟩ : ∃ m, n = m + 1 := ⟨n - 1, by omega⟩
    refine ⟨came, w, σ, υ, ?_, ?_, fC_rf σ, fM_rf υ, h, Nat.le_refl w⟩
    · conv => lhs; unfold mX9_wantsFromRow_b6
      rw [if_pos (nI_le (show N ≤ q by omega) (by omega))]
    · conv => lhs; unfold mX10_wants_b49
      rw [if_pos (nI_le (show N ≤ q by omega) (by omega))]
  | succ k ih =>
    intro q w σ υ came n h e3 e7 e1 e8 hq hk hn
    obtain ⟨n, rfl⟩ : ∃ m, n = m + 1 := ⟨n - 1, by omega⟩
    obtain ⟨f1, f2, f3⟩ := four_at hq (by omega)
    obtain ⟨hw, r1, r2, r3, r4, r5, r6, r7, r8, r9⟩ := id h
    have nle : ¬ nI N ≤ nI q := nI_ge (show q < N by omega) (by omega)
    have ij : inbB (nI j) 6 = true := inbB_nI hj (by decide)
    have cj : Int32.toNatClampNeg (nI j) = j := nI_cl (by omega)
    have elen : (Int32.toInt64 (nI m)).toInt = (m : Int) := by rw [Int32.toInt_toInt64, nI_toInt (by omega)]
    by_cases hok : 0 ≤ i.toInt + 4 * q ∧ i.toInt + 4 * q + 4 ≤ (m : Int)
    · obtain ⟨p, hp⟩ : ∃ p : Nat, (p : Int) = i.toInt + 4 * q := ⟨(i.toInt + 4 * q).toNat, by omega⟩
      have hp4 : p + 4 ≤ m := by omega
      have ex : i + 4 * nI q = nI p := Int32.toInt_inj.mp (by rw [f1, nI_toInt (by omega)]; omega)
      have ey : i.toInt64 + 4 * (nI q).toInt64 = lN p := Int64.toInt_inj.mp (by rw [f2, lN_toInt (by omega)]; omega)
      have hpb : hpB (nI p) 4 m = true := by
        unfold hpB
        rw [nI_toInt (by omega), show (4 : Int32).toInt = 4 from by decide]
        simp
        omega
      have g1 : ¬ lg_cmp (lN p) 0 < 0 := fun c => by
        rw [lg_cmp_lt, Int64.lt_iff_toInt_lt, lN_toInt (by omega), l0] at c
        omega
      have g2 : ¬ 0 < lg_cmp (lN p + 4) (Int32.toInt64 (nI m)) := fun c => by
        rw [lg_cmp_gt, Int64.lt_iff_toInt_lt, elen, ← ey, f3] at c
        omega
      have add1 : ∀ c : Nat, (nI p + nI c : Int32) = nI (p + c) := fun c => nI_add p c
      obtain ⟨A, hA⟩ : ∃ A, A = (told p).toInt32 := ⟨_, rfl⟩
      obtain ⟨D, hD⟩ : ∃ A, A = (told (p + 1)).toInt32 := ⟨_, rfl⟩
      obtain ⟨H, hH⟩ : ∃ A, A = (told (p + 2)).toInt32 := ⟨_, rfl⟩
      obtain ⟨G, hG⟩ : ∃ A, A = (told (p + 3)).toInt32 := ⟨_, rfl⟩
      have tA : ∀ υ : gS, (∀ x, x < 60 → υ.2.1 78 (60 * j + x) = told x) → ∀ c : Nat, c < 4 → mX10_toldAt υ (nI j) (nI (p + c)) = some ((told (p + c)).toInt32, υ) := fun υ h8 c hc => by
        rw [toldAt_eq (by omega), h8 _ (by omega)]
      have op9 : ∀ X, (gBind (mX8_mayWant σ A D H G) (fun r14 s15 => if r14 = true then (gBind (mX8_addWant s15 A D H G) (fun r16 s17 => if r16 = (-3) then (some (came, s17)) else (gLet (came + 1) (fun v18 => gLet (nI q + 1) (fun v19 => ((mX9_wantsFromRow_b6 (40 + 2 * j) n) s17 i (nI N) v18 v19)))))) else (some (came, s15)))) = X → mX9_wantsFromRow_b6 (40 + 2 * j) (n + 1) σ i (nI N) came (nI q) = X := fun X hX => by
        conv => lhs; unfold mX9_wantsFromRow_b6
        rw [if_neg nle, ex, gl_eq, hasPlaces_eq k6 e3 hm, gb_some, hpb, if_pos rfl, if_pos (inbB_nI (show p < 60 by omega) (by decide)), nI_cl (show p < 2 ^ 31 by omega), gl_eq, show (nI p + 1 : Int32) = nI (p + 1) from nI_1 p, if_pos (inbB_nI (show p + 1 < 60 by omega) (by decide)), nI_cl (show p + 1 < 2 ^ 31 by omega), gl_eq, show (nI p + 2 : Int32) = nI (p + 2) from nI_add p 2, if_pos (inbB_nI (show p + 2 < 60 by omega) (by decide)), nI_cl (show p + 2 < 2 ^ 31 by omega), gl_eq, show (nI p + 3 : Int32) = nI (p + 3) from nI_add p 3, if_pos (inbB_nI (show p + 3 < 60 by omega) (by decide)), nI_cl (show p + 3 < 2 ^ 31 by omega), gl_eq, e1, ← hA, ← hD, ← hH, ← hG]
        exact hX
      have op10 : ∀ X, (if (υ.1 52 3) = 12 then (some (came, υ)) else if suchB f A D H G = true then gBind (mX10_newWant υ A D H G) (fun r32 s33 => gLet (came + 1) (fun v34 => gLet (nI q + 1) (fun v35 => ((mX10_wants_b49  n) s33 (nI j) i (nI N) v34 v35)))) else some (came, υ)) = X → mX10_wants_b49 (n + 1) υ (nI j) i (nI N) came (nI q) = X := fun X hX => by
        have t0 := tA υ e8 0 (by omega)
        have t1 := tA υ e8 1 (by omega)
        have t2 := tA υ e8 2 (by omega)
        have t3 := tA υ e8 3 (by omega)
        rw [Nat.add_zero] at t0
        rw [← hA] at t0
        rw [← hD] at t1
        rw [← hH] at t2
        rw [← hG] at t3
        conv => lhs; unfold mX10_wants_b49
        rw [if_neg nle, ey, gl_eq, if_neg g1, if_pos ij, cj, e7, if_neg g2]
        by_cases h12 : υ.1 52 3 = 12
        · rw [if_pos h12] at hX ⊢
          exact hX
        · rw [if_neg h12] at hX ⊢
          rw [gl_eq, lN_i, show (nI p + 1 : Int32) = nI (p + 1) from nI_1 p, show (nI p + 2 : Int32) = nI (p + 2) from nI_add p 2, show (nI p + 3 : Int32) = nI (p + 3) from nI_add p 3, t0, gb_some, t1, gb_some, t2, gb_some, t3, gb_some, isSuch_eq hf r2, gb_some]
          cases hsu : suchB f A D H G
          · rw [hsu, if_neg (by decide)] at hX
            rw [if_neg (by decide)]
            exact hX
          · rw [hsu, if_pos rfl] at hX
            rw [if_pos rfl, t0, gb_some, t1, gb_some, t2, gb_some, t3, gb_some]
            exact hX
      cases hsu : suchB f A D H G with
      | false =>
        refine ⟨came, w, σ, υ, op9 _ ?_, op10 _ ?_, fC_rf σ, fM_rf υ, h, Nat.le_refl w⟩
        · rw [mayWant_eq r1, gb_some, hsu, if_neg (by decide)]
        · by_cases h12 : υ.1 52 3 = 12
          · rw [if_pos h12]
          · rw [if_neg h12, hsu, if_neg (by decide)]
      | true =>
        rcases Nat.lt_or_ge w 12 with hlt | hge
        · have n12 : ¬ nI w = 12 := fun c => by have := (nI_eq (b := 12) (by omega) (by decide)).mp c; omega
          have n3 : ¬ nI w = -3 := fun c => by
            have := nI_pos (show w < 2 ^ 31 by omega)
            rw [c] at this
            exact this (by decide)
          have RWn := RW_W hlt h hsu
          have F9 : fC σ (gWc σ w A D H G) := fC_W
          have F10 : fM υ (gWm υ w A D H G) := fM_W
          obtain ⟨r, w', σ', υ', p1, p2, p3, p4, p5, p6⟩ := ih (q + 1) (w + 1) (gWc σ w A D H G) (gWm υ w A D H G) (came + 1) n RWn (by rw [F9.1 _ (by omega) (by omega) (by omega) (by omega) (by omega)]; exact e3) (by rw [F10.1 77 (by decide) (by decide) (by decide) (by decide) (by decide)]; exact e7) (by rw [F9.2.2]; exact e1) (fun x hx => by rw [F10.2.2]; exact e8 x hx) (Or.inr ⟨by omega, by omega, by omega⟩) (by omega) (by omega)
          refine ⟨r, w', σ', υ', op9 _ ?_, op10 _ ?_, fC_tr F9 p3, fM_tr F10 p4, p5, by omega⟩
          · rw [mayWant_eq r1, gb_some, hsu, if_pos rfl, addWant_eq hlt r3, gb_some, if_neg n3, gl_eq, gl_eq, nI_1]
            exact p1
          · rw [r4, if_neg n12, hsu, if_pos rfl, newWant_eq hlt r4, gb_some, gl_eq, gl_eq, nI_1]
            exact p2
        · have hw12 : w = 12 := by omega
          subst hw12
          refine ⟨came, 12, σ, υ, op9 _ ?_, op10 _ ?_, fC_rf σ, fM_rf υ, h, Nat.le_refl 12⟩
          · rw [mayWant_eq r1, gb_some, hsu, if_pos rfl, addWant_full r3, gb_some, if_pos rfl]
          · rw [r4, if_pos (by decide)]
    · refine ⟨came, w, σ, υ, ?_, ?_, fC_rf σ, fM_rf υ, h, Nat.le_refl w⟩
      · have hpb : hpB (i + 4 * nI q) 4 m = false := by
          unfold hpB
          rw [f1, show (4 : Int32).toInt = 4 from by decide]
          by_cases h1 : 0 ≤ i.toInt + 4 * q
          · have h2 : ¬ i.toInt + 4 * q + 4 ≤ (m : Int) := fun c => hok ⟨h1, c⟩
            rw [decide_eq_false h2, Bool.and_false]
          · rw [decide_eq_false h1]
            rfl
        conv => lhs; unfold mX9_wantsFromRow_b6
        rw [if_neg nle, gl_eq, hasPlaces_eq k6 e3 hm, gb_some, hpb, if_neg (by decide)]
      · conv => lhs; unfold mX10_wants_b49
        rw [if_neg nle, gl_eq]
        by_cases h1 : 0 ≤ i.toInt + 4 * q
        · have h2 : ¬ i.toInt + 4 * q + 4 ≤ (m : Int) := fun c => hok ⟨h1, c⟩
          have g1 : ¬ lg_cmp (i.toInt64 + 4 * (nI q).toInt64) 0 < 0 := fun c => by
            rw [lg_cmp_lt, Int64.lt_iff_toInt_lt, f2, l0] at c
            omega
          have g2 : 0 < lg_cmp (i.toInt64 + 4 * (nI q).toInt64 + 4) (Int32.toInt64 (nI m)) := by
            rw [lg_cmp_gt, Int64.lt_iff_toInt_lt, elen, f3]
            omega
          rw [if_neg g1, if_pos ij, cj, e7, if_pos g2]
        · have g1 : lg_cmp (i.toInt64 + 4 * (nI q).toInt64) 0 < 0 := by
            rw [lg_cmp_lt, Int64.lt_iff_toInt_lt, f2, l0]
            omega
          rw [if_pos g1]
theorem s_wants : S_wants Inv := by
  intro σ p0 p1 p2 hI
  have hI0 := hI
  obtain ⟨f, w, b, hV, hS, hT, hL, hB, hM, hC, hF, hH⟩ := hI
  obtain ⟨hf, hw, e1, e2, e3, e4, e5, e6, e7, e8, e9, e10, e12, e11⟩ := id hV
  rcases shelf_cases p0 with hno | ⟨j, hj, rfl, hyes⟩
  · refine ⟨-1, σ, σ, ?_, ?_, hI0⟩
    · unfold mX9_wants
      rw [shelfAt_no hno, gb_some]
      rfl
    · unfold mX10_wants
      rw [isShelf_eq, gb_some, hno, if_neg (by decide)]
  · have i6 : inbB (nI j) 6 = true := inbB_nI hj (by decide)
    have c6 : Int32.toNatClampNeg (nI j) = j := nI_cl (by omega)
    have k6 := gk_sh hj
    have op9 : ∀ x, (gBind (mX9_within σ p2 1 12) (fun r4 s5 => if r4 = true then (if (s5.1 (40 + 2 * j) 0) = 0 then (some (0, s5)) else (gBind (mX6_isRowOf s5 (40 + 2 * j) 0) (fun r6 s7 => if r6 = true then (gBind (mX9_wantsFromRow s7 (40 + 2 * j) p1 p2) (fun r8 s9 => some (r8, s9))) else (some ((-12), s7))))) else (some ((-1), s5)))) = x → mX9_wants σ (nI j) p1 p2 = x := fun x hx => by
      unfold mX9_wants
      rw [shelfAt_yes hj, gb_some]
      show (if gk (40 + 2 * j) = 6 then _ else _) = _
      rw [if_pos k6]
      exact hx
    cases hwi : wi p2 1 12 with
    | false =>
      refine ⟨-1, σ, σ, op9 _ ?_, ?_, hI0⟩
      · rw [w9, gb_some, hwi, if_neg (by decide)]
      · unfold mX10_wants
        rw [isShelf_eq, gb_some, hyes, if_pos rfl, w10, gb_some, hwi, if_neg (by decide)]
    | true =>
      have op10 : ∀ (τ : gS) x, (if τ.1 76 j = -1 then some ((0 : Int32), τ) else if τ.1 76 j = 0 then mX10_wants_b49 1100 τ (nI j) p1 p2 0 0 else some (-12, τ)) = x → mX10_wants τ (nI j) p1 p2 = x := fun τ x hx => by
        unfold mX10_wants
        rw [isShelf_eq, gb_some, hyes, if_pos rfl, w10, gb_some, hwi, if_pos rfl, if_pos i6, if_pos i6, c6, gl_eq, gl_eq]
        exact hx
      rcases hH j hj with ⟨h1, h2⟩ | ⟨h1, n, h2, h3, h4⟩ | ⟨h1, s, n, h2, h3, h4, h5, h6, h7, h8⟩
      · refine ⟨0, σ, σ, op9 _ ?_, op10 σ _ (if_pos h2), hI0⟩
        rw [w9, gb_some, hwi, if_pos rfl, if_pos h1]
      · refine ⟨-12, σ, σ, op9 _ ?_, op10 σ _ ?_, hI0⟩
        · unfold mX6_isRowOf
          rw [w9, gb_some, hwi, if_pos rfl, if_neg (by rw [h1]; decide), if_pos k6, if_neg (by rw [h1]; decide), gb_some, if_neg (by decide)]
        · have b50 := hF.1
          rw [h4, if_neg (nI_n1 (by omega)), if_neg (nI_ne0 (by omega) (by omega))]
      · by_cases hs0 : s = 0
        · subst hs0
          obtain ⟨N, hN1, hN2, rfl⟩ := wi_rg (a := 1) (b := 12) (by decide) (by decide) hwi
          have W := fun (υ : gS) (R : RW f w σ υ) (q7 : υ.1 77 j = nI n) (q8 : ∀ x, x < 60 → υ.2.1 78 (60 * j + x) = σ.2.1 (40 + 2 * j + 1) x) => wants_rel (i := p1) (told := σ.2.1 (40 + 2 * j + 1)) hf h3 hj hN2 N 0 w σ υ 0 1100 R h5 q7 rfl q8 (Or.inl rfl) (by omega) (by omega)
          have hc : ∀ x, x < 60 → σ.2.1 78 (60 * j + x) = σ.2.1 (40 + 2 * j + 1) x := fun x hx => by
            rw [(h8 x hx).1, show 41 + 2 * j = 40 + 2 * j + 1 by omega]
          have R0 : ∀ υ : gS, υ.1 52 0 = nI f → υ.1 52 3 = nI w → υ.1 55 = σ.1 55 → υ.1 56 = σ.1 56 → υ.1 57 = σ.1 57 → υ.1 58 = σ.1 58 → RW f w σ υ := fun υ y1 y2 y3 y4 y5 y6 => ⟨hw, e1, y1, e3, y2, y3.trans e7, y4.trans e8, y5.trans e9, y6.trans e10, e11⟩
          obtain ⟨r, w1, σ', -, p1', -, p3, -, -, -⟩ := W σ (R0 σ e2 e4 rfl rfl rfl rfl) h7 hc
          obtain ⟨r2, w2, σ2, υ', y1, y2, y3, y4, y5, y6⟩ := W σ' (R0 σ' (by rw [p3.1 52 (by decide) (by decide) (by decide) (by decide) (by decide)]; exact e2) (by rw [p3.1 52 (by decide) (by decide) (by decide) (by decide) (by decide)]; exact e4) (p3.1 55 (by decide) (by decide) (by decide) (by decide) (by decide)) (p3.1 56 (by decide) (by decide) (by decide) (by decide) (by decide)) (p3.1 57 (by decide) (by decide) (by decide) (by decide) (by decide)) (p3.1 58 (by decide) (by decide) (by decide) (by decide) (by decide))) (by rw [p3.1 77 (by decide) (by decide) (by decide) (by decide) (by decide)]; exact h7) (fun x hx => by rw [p3.2.2]; exact hc x hx)
          rw [p1'] at y1
          obtain ⟨er, es⟩ := gR_inj y1
          subst er es
          refine ⟨r, σ', υ', op9 _ ?_, op10 σ' _ ?_, ?_⟩
          · unfold mX6_isRowOf
            rw [w9, gb_some, hwi, if_pos rfl, if_neg (by rw [h1]; decide), if_pos k6, if_pos h1, if_pos (by rw [h4]; rfl), gb_some, if_pos rfl, bind_id]
            unfold mX9_wantsFromRow
            rw [if_pos k6, gl_eq, gl_eq]
            exact p1'
          · rw [p3.1 76 (by decide) (by decide) (by decide) (by decide) (by decide), h6, if_neg (by decide), if_pos nI_0]
            exact y2
          · obtain ⟨x0, x1, x2, x3, x4, x5, x6, x7, x8, x9⟩ := y5
            have g : ∀ a, a ≠ 1 → a ≠ 4 → a ≠ 5 → a ≠ 6 → a ≠ 7 → a ≠ 52 → a ≠ 55 → a ≠ 56 → a ≠ 57 → a ≠ 58 → υ'.1 a = σ.1 a := fun a q1 q2 q3 q4 q5 q6 q7 q8 q9 q10 => by rw [y4.1 a q6 q7 q8 q9 q10, p3.1 a q1 q2 q3 q4 q5]
            have gg : ∀ a, (a ≠ 1 ∧ a ≠ 4 ∧ a ≠ 5 ∧ a ≠ 6 ∧ a ≠ 7 ∧ a ≠ 52 ∧ a ≠ 55 ∧ a ≠ 56 ∧ a ≠ 57 ∧ a ≠ 58) → υ'.1 a = σ.1 a := fun a h => g a h.1 h.2.1 h.2.2.1 h.2.2.2.1 h.2.2.2.2.1 h.2.2.2.2.2.1 h.2.2.2.2.2.2.1 h.2.2.2.2.2.2.2.1 h.2.2.2.2.2.2.2.2.1 h.2.2.2.2.2.2.2.2.2
            have v52 : ∀ jj, jj ≠ 3 → υ'.1 52 jj = σ.1 52 jj := fun jj hjj => by rw [y4.2.1 jj hjj, p3.1 52 (by decide) (by decide) (by decide) (by decide) (by decide)]
            have hr : υ'.2 = σ.2 := by rw [y4.2.2, p3.2.2]
            have c : ∀ a, (a = 1 ∨ a = 4 ∨ a = 5 ∨ a = 6 ∨ a = 7) → υ'.1 a = σ'.1 a := fun a h => y4.1 a (by omega) (by omega) (by omega) (by omega) (by omega)
            refine ⟨f, w2, b, ⟨hf, x0, by rw [c 1 (by omega)]; exact x1, x2, by rw [c 1 (by omega)]; exact x3, x4, by rw [gg 53 (by omega), gg 2 (by omega)]; exact e5, by rw [gg 54 (by omega), gg 3 (by omega)]; exact e6, by rw [c 4 (by omega)]; exact x5, by rw [c 5 (by omega)]; exact x6, by rw [c 6 (by omega)]; exact x7, by rw [c 7 (by omega)]; exact x8, fun jj => by rw [gg 3 (by omega)]; exact e12 jj, fun jj hjj => by rw [c 5 (by omega), c 6 (by omega)]; exact x9 jj hjj⟩,
              IS_ag hS (fun _ => by rw [gg 8 (by omega)]) (fun _ => by rw [gg 59 (by omega)]), IT_ag hT (by rw [gg 0 (by omega)]) (v52 9 (by decide)) (gg 17 (by omega)) (gg 60 (by omega)),
              IL_ag hL (by rw [hr]) (by rw [hr]) (fun k hk => ⟨by rw [gg k (by omega)], gg _ (by omega), gg _ (by omega)⟩) (v52 11 (by decide)) (v52 12 (by decide)) (gg 61 (by omega)) (gg 62 (by omega)) (gg 63 (by omega)) (gg 64 (by omega)),
              IB_ag hB (fun _ => by rw [gg 28 (by omega)]) (fun _ => by rw [gg 71 (by omega)]), IM_ag hM (v52 28 (by decide)) (by rw [gg 0 (by omega)]) (gg 72 (by omega)) (gg 30 (by omega)) (gg 29 (by omega)),
              IC_ag (IC_mono (Nat.le_refl f) y6 hC) (by rw [gg 31 (by omega)]) (by rw [gg 31 (by omega)]) (v52 31 (by decide)) (v52 30 (by decide)) (gg 73 (by omega)) (gg 32 (by omega)) (gg 33 (by omega)) (gg 34 (by omega)) (gg 35 (by omega)),
              IF_ag hF (by rw [gg 36 (by omega)]) (v52 33 (by decide)) (by rw [gg 36 (by omega)]) (v52 35 (by decide)) (gg 74 (by omega)) (gg 37 (by omega)) (gg 75 (by omega)) (gg 38 (by omega)),
              IH_ag hH (fun k h1 h2 => ⟨gg k (by omega), by rw [hr]⟩) (gg 76 (by omega)) (gg 77 (by omega)) (by rw [hr])⟩
        · refine ⟨-12, σ, σ, op9 _ ?_, op10 σ _ ?_, hI0⟩
          · unfold mX6_isRowOf
            rw [w9, gb_some, hwi, if_pos rfl, if_neg (by rw [h1]; decide), if_pos k6, if_pos h1, if_neg (by rw [h4]; exact nI_ne0 (by omega) (by omega)), gb_some, if_neg (by decide)]
          · rw [h6, if_neg (nI_n1 (by omega)), if_neg (nI_ne0 (by omega) (by omega))]
