/-! ===== plan ===== -/
theorem lp_or {gn : Nat → Int32} {p q : Nat → Bool} : ∀ (k i : Nat) (a b : Int32), (∀ j, i ≤ j → j < i + k → q j = true → p j = false) → lp (fun j a => if (q j || p j) = true then a + gn j else a) k i (a + b) = lp (fun j a => if q j = true then a + gn j else a) k i a + lp (fun j a => if p j = true then a + gn j else a) k i b := by
  intro k
  induction k with
  | zero => intro i a b _; rfl
  | succ k ih =>
    intro i a b h
    rw [lp_succ, lp_succ, lp_succ]
    have h2 : ∀ j, i + 1 ≤ j → j < i + 1 + k → q j = true → p j = false := fun j x y => h j (by omega) (by omega)
    cases hq : q i
    · cases hp : p i
      · rw [if_neg (by decide), if_neg (by decide), if_neg (by decide)]
        exact ih (i + 1) a b h2
      · show lp _ k (i + 1) (a + b + gn i) = lp _ k (i + 1) a + lp _ k (i + 1) (b + gn i)
        rw [Int32.add_assoc]
        exact ih (i + 1) a (b + gn i) h2
    · have hp := h i (Nat.le_refl i) (by omega) hq
      rw [hp]
      show lp _ k (i + 1) (a + b + gn i) = lp _ k (i + 1) (a + gn i) + lp _ k (i + 1) b
      rw [i_rc]
      exact ih (i + 1) (a + gn i) b h2
theorem gain_or {gn : Nat → Int32} {x : Int32} {p : Nat → Bool} {w : Nat} (hw : w ≤ 12) (h : ∀ j, j < w → bt x j = true → p j = false) : lp (fGainB gn (x ||| lp (fSet p) w 0 0)) w 0 0 = lp (fGainB gn x) w 0 0 + lp (fun j a => if p j = true then a + gn j else a) w 0 0 := by
  have e := lp_or (gn := gn) (p := p) (q := fun j => bt x j) w 0 0 0 (fun j _ hj => h j (by omega))
  rw [Int32.add_zero] at e
  refine Eq.trans ?_ e
  apply lp_congr
  intro j a _ hj
  unfold fGainB
  have e2 : bt (x ||| lp (fSet p) w 0 0) j = (bt x j || p j) := by
    rw [bt_xb (by omega), xb_or, ← bt_xb (by omega), ← bt_xb (by omega), fSet_0 (by omega) (by omega)]
  rw [e2]
def fMD (σ : gS) (w : Nat) (P : Nat → Int32) (d : Nat) (a : Int32) : Int32 := a ||| lp (fMet (σ.1 5) (σ.1 6) (nI d) (P d)) w 0 0
theorem gain_days {σ : gS} {w : Nat} {P : Nat → Int32} (hw : w ≤ 12) : ∀ (k d : Nat) (M : Int32), d + k ≤ 100 → (∀ j, j < w → bt M j = true → ∃ e : Nat, e < d ∧ σ.1 5 j = nI e) → lp (fGainB (σ.1 7) (lp (fMD σ w P) k d M)) w 0 0 = lp (fun d a => a + gnV σ w (nI d) (P d)) k d (lp (fGainB (σ.1 7) M) w 0 0) := by
  intro k
  induction k with
  | zero => intro d M _ _; rfl
  | succ k ih =>
    intro d M hd h
    have dis : ∀ j, j < w → bt M j = true → mt (σ.1 5) (σ.1 6) (nI d) (P d) j = false := fun j hj hb => by
      obtain ⟨e, he, h5⟩ := h j hj hb
      unfold mt
      rw [h5, decide_eq_false (fun q => by have := (nI_eq (by omega) (by omega)).mp q; omega)]
      rfl
    have e := gain_or (gn := σ.1 7) (x := M) (p := mt (σ.1 5) (σ.1 6) (nI d) (P d)) hw dis
    rw [lp_succ, lp_succ, ih (d + 1) _ (by omega) ?_]
    · congr 1
    · intro j hj hb
      unfold fMD at hb
      rw [fMet_set, bt_xb (by omega), xb_or, ← bt_xb (by omega), ← bt_xb (by omega), fSet_0 (by omega) hj, Bool.or_eq_true] at hb
      rcases hb with hb | hb
      · obtain ⟨e, he, h5⟩ := h j hj hb
        exact ⟨e, by omega, h5⟩
      · unfold mt at hb
        rw [Bool.and_eq_true, decide_eq_true_iff] at hb
        exact ⟨d, by omega, hb.1⟩
theorem metTo9 {σ : gS} {f w t y : Nat} {P : Nat → Int32} (hV : IV σ f w) (hy : y < 30) (hP : ∀ j, t ≤ j → j < 30 → σ.1 13 j = P j) : ∀ (k d : Nat) (a : Int32) (n : Nat), t ≤ d → d + k = y + 1 → k < n → mX9_metTo_b10 n σ (nI y) a (nI d) = some (lp (fMD σ w P) k d a, σ) := by
  intro k
  induction k with
  | zero =>
    intro d a n ht hd hn
    obtain ⟨n, rfl⟩ : ∃ m, n = m + 1 := ⟨n - 1, by omega⟩
    conv => lhs; unfold mX9_metTo_b10
    rw [if_pos (nI_lt (show y < d by omega) (by omega))]
    rfl
  | succ k ih =>
    intro d a n ht hd hn
    obtain ⟨n, rfl⟩ : ∃ m, n = m + 1 := ⟨n - 1, by omega⟩
    conv => lhs; unfold mX9_metTo_b10
    rw [if_neg (nI_nlt (show d ≤ y by omega) (by omega)), if_pos (inbB_nI (show d < 30 by omega) (by decide)), nI_cl (by omega), hP d ht (by omega), met_eq hV.2.1 hV.2.2.2.2.1, gb_some, gl_eq, gl_eq, nI_1, ih (d + 1) _ n (by omega) (by omega) (by omega), lp_succ]
    rfl
def fHD (σ : gS) (f w : Nat) (P : Nat → Int32) (o : Option Nat) (d : Nat) (a : Int32) : Int32 := a + (match o with | none => haV σ f w (nI d) (P d) | some fi => hmV w (σ.1 4) (σ.1 5) (σ.1 6) (σ.1 2) fi (nI d) (P d))
theorem sumG9 {σ : gS} {f w t y : Nat} {P : Nat → Int32} (hV : IV σ f w) (hy : y < 30) (hP : ∀ j, t ≤ j → j < 30 → σ.1 13 j = P j) : ∀ (k d : Nat) (a : Int32) (n : Nat), t ≤ d → d + k = y + 1 → k < n → mX9_sumTo_b11 n σ (nI y) (nI 2) a (nI d) = some (lp (fun d a => a + gnV σ w (nI d) (P d)) k d a, σ) := by
  intro k
  induction k with
  | zero =>
    intro d a n ht hd hn
    obtain ⟨n, rfl⟩ : ∃ m, n = m + 1 := ⟨n - 1, by omega⟩
    conv => lhs; unfold mX9_sumTo_b11
    rw [if_pos (nI_lt (show y < d by omega) (by omega))]
    rfl
  | succ k ih =>
    intro d a n ht hd hn
    obtain ⟨n, rfl⟩ : ∃ m, n = m + 1 := ⟨n - 1, by omega⟩
    conv => lhs; unfold mX9_sumTo_b11
    rw [if_neg (nI_nlt (show d ≤ y by omega) (by omega)), if_pos (inbB_nI (show d < 30 by omega) (by decide)), nI_cl (by omega), hP d ht (by omega), gl_eq, if_pos (by decide), gain_eq hV.2.1 hV.2.2.2.2.1, gb_some, gl_eq]
    unfold mX9_sumTo_b91
    rw [gl_eq, nI_1, ih (d + 1) _ n (by omega) (by omega) (by omega), lp_succ]
    rfl
theorem sumH9 {σ : gS} {f w t y : Nat} {P : Nat → Int32} {q : Int32} {o : Option Nat} (hV : IV σ f w) (hy : y < 30) (hP : ∀ j, t ≤ j → j < 30 → σ.1 13 j = P j) (hq : (q = 3 ∧ o = none) ∨ ∃ fi, fi < f ∧ q = nI (fi + 10) ∧ o = some fi) : ∀ (k d : Nat) (a : Int32) (n : Nat), t ≤ d → d + k = y + 1 → k < n → mX9_sumTo_b11 n σ (nI y) q a (nI d) = some (lp (fHD σ f w P o) k d a, σ) := by
  have hf := hV.1
  intro k
  induction k with
  | zero =>
    intro d a n ht hd hn
    obtain ⟨n, rfl⟩ : ∃ m, n = m + 1 := ⟨n - 1, by omega⟩
    conv => lhs; unfold mX9_sumTo_b11
    rw [if_pos (nI_lt (show y < d by omega) (by omega))]
    rfl
  | succ k ih =>
    intro d a n ht hd hn
    obtain ⟨n, rfl⟩ : ∃ m, n = m + 1 := ⟨n - 1, by omega⟩
    conv => lhs; unfold mX9_sumTo_b11
    rw [if_neg (nI_nlt (show d ≤ y by omega) (by omega)), if_pos (inbB_nI (show d < 30 by omega) (by decide)), nI_cl (by omega), hP d ht (by omega), gl_eq]
    unfold mX9_sumTo_b91
    rcases hq with ⟨rfl, rfl⟩ | ⟨fi, hfi, rfl, rfl⟩
    · rw [if_neg (by decide), if_pos rfl, harmAll_eq hV.1 hV.2.1 hV.2.2.1 hV.2.2.2.2.1, gb_some, gl_eq, gl_eq, nI_1, ih (d + 1) _ n (by omega) (by omega) (by omega), lp_succ]
      rfl
    · have n2 : ¬ nI (fi + 10) = 2 := fun q => by have := (nI_eq (b := 2) (by omega) (by decide)).mp q; omega
      have n3 : ¬ nI (fi + 10) = 3 := fun q => by have := (nI_eq (b := 3) (by omega) (by decide)).mp q; omega
      have e10 : (nI (fi + 10) - 10 : Int32) = nI fi := by
        rw [← nI_add]
        exact Int32.add_sub_cancel _ _
      rw [if_neg n2, if_neg n3, e10, harm_eq hV.2.1 hV.2.2.2.2.1 (by omega), gb_some, gl_eq, gl_eq, nI_1, ih (d + 1) _ n (by omega) (by omega) (by omega), lp_succ]
      rfl
theorem plan10 {σ : gS} {f w t y : Nat} {P : Nat → Int32} {q : Int32} {o : Option Nat} (hV : IV σ f w) (hy : y < 30) (hP : ∀ j, t ≤ j → j < 30 → σ.1 81 j = P j) (hq : (q < 10 ∧ o = none) ∨ ∃ fi, fi < f ∧ q = nI (fi + 10) ∧ o = some fi) : ∀ (k d : Nat) (M H : Int32) (n : Nat), t ≤ d → d + k = y + 1 → k < n → mX10_plan_b96 n σ (nI y) q M H (nI d) = if q = 1 then some (lp (fMD σ w P) k d M, σ) else if q = 2 then some (lp (fGainB (σ.1 7) (lp (fMD σ w P) k d M)) w 0 0, σ) else some (lp (fHD σ f w P o) k d H, σ) := by
  obtain ⟨hf, hw, e1, e2, e3, e4, e5, e6, e7, e8, e9, e10, -⟩ := id hV
  intro k
  induction k with
  | zero =>
    intro d M H n ht hd hn
    obtain ⟨n, rfl⟩ : ∃ m, n = m + 1 := ⟨n - 1, by omega⟩
    conv => lhs; unfold mX10_plan_b96
    rw [if_pos (nI_lt (show y < d by omega) (by omega)), bind_id, gainOf_eq hw e4, e10]
    rfl
  | succ k ih =>
    intro d M H n ht hd hn
    obtain ⟨n, rfl⟩ : ∃ m, n = m + 1 := ⟨n - 1, by omega⟩
    have i30 := inbB_nI (show d < 30 by omega) (show 30 ≤ 1000 by decide)
    conv => lhs; unfold mX10_plan_b96
    rw [if_neg (nI_nlt (show d ≤ y by omega) (by omega)), if_pos i30, nI_cl (by omega), hP d ht (by omega), metOn_eq hw e4, gb_some, e8, e9, gl_eq, if_pos i30, if_pos i30, hP d ht (by omega)]
    unfold mX10_plan_b161
    rcases hq with ⟨hq, rfl⟩ | ⟨fi, hfi, rfl, rfl⟩
    · rw [if_pos hq, allHarm_eq hV, gb_some, gl_eq, gl_eq, nI_1, ih (d + 1) _ _ n (by omega) (by omega) (by omega), lp_succ, lp_succ]
      rfl
    · have n10 : ¬ nI (fi + 10) < 10 := nI_nlt (b := 10) (by omega) (by omega)
      have e10' : (nI (fi + 10) - 10 : Int32) = nI fi := by
        rw [← nI_add]
        exact Int32.add_sub_cancel _ _
      rw [if_neg n10, e10', harmOn_eq hV (by omega), gb_some, gl_eq, gl_eq, nI_1, ih (d + 1) _ _ n (by omega) (by omega) (by omega), lp_succ, lp_succ]
      rfl
theorem plan_head {σ : gS} {f w : Nat} (hV : IV σ f w) (p0 p1 p2 : Int32) : mX9_plan σ p0 p1 p2 = mX9_plan_b25 σ p0 p1 p2 (if inN (p2 - 10) f = true then 1 else 0) := by
  have hf := hV.1
  unfold mX9_plan
  by_cases h : p2 < 10
  · have hn : inN (p2 - 10) f = false := by
      cases hi : inN (p2 - 10) f
      · rfl
      · exfalso
        obtain ⟨fi, hfi, e⟩ := inN_of (by omega) hi
        have e2 : p2 = nI (fi + 10) := by
          rw [← nI_add, ← e]
          exact (Int32.sub_add_cancel p2 10).symm
        rw [e2] at h
        exact nI_nlt (b := 10) (by omega) (by omega) h
    rw [if_pos h, hn]
    rfl
  · rw [if_neg h, hasFarm_eq hV.2.2.1, gb_some]
    cases inN (p2 - 10) f
    · rfl
    · rfl
theorem s_plan : S_plan Inv := by
  intro σ p0 p1 p2 hI
  obtain ⟨f, w, K, F, hX⟩ := Cx_Inv hI
  obtain ⟨hV, hS, hK, kk, -⟩ := id hX
  obtain ⟨f', w', b, -, -, -, -, -, -, -, hF, hH⟩ := id hI
  obtain ⟨z0, z1, z2, z3, z4, z5, z6, z7, z8⟩ := id hS
  obtain ⟨t, -, ht, et⟩ := id z5
  obtain ⟨hf, hw, e1, e2, -⟩ := id hV
  rw [show (∃ (r : Int32) (σ1 σ2 : gS), mX9_plan σ p0 p1 p2 = some (r, σ1) ∧ mX10_plan σ1 p0 p1 p2 = some (r, σ2) ∧ Inv σ2) = (∃ (r : Int32) (σ1 σ2 : gS), mX9_plan_b25 σ p0 p1 p2 (if inN (p2 - 10) f = true then 1 else 0) = some (r, σ1) ∧ mX10_plan σ1 p0 p1 p2 = some (r, σ2) ∧ Inv σ2) by rw [plan_head hV]]
  cases hwi : wi p1 (nI t) 29 with
  | false =>
    refine ⟨-1, σ, σ, ?_, ?_, hI⟩
    · unfold mX9_plan_b25
      rw [gl_eq, et, w9, gb_some, hwi, if_neg (by decide)]
    · unfold mX10_plan
      rw [isShelf_eq, gb_some]
      cases wi p0 0 5
      · rw [if_neg (by decide)]
      · rw [if_pos rfl, now_eq, gb_some, z4, et, w10, gb_some, hwi, if_neg (by decide)]
  | true =>
    obtain ⟨y, hy1, hy2, rfl⟩ := day_of (b := 29) (by omega) (by decide) hwi
    have i30 := inbB_nI (show y < 30 by omega) (show 30 ≤ 1000 by decide)
    have c30 : Int32.toNatClampNeg (nI y) = y := nI_cl (by omega)
    by_cases hok : wi p2 0 3 = true ∨ inN (p2 - 10) f = true
    · have A9 : mX9_plan_b25 σ p0 (nI y) p2 (if inN (p2 - 10) f = true then 1 else 0) = mX9_plan_b59 σ p0 (nI y) p2 := by
        unfold mX9_plan_b25
        rw [gl_eq, et, w9, gb_some, hwi, if_pos rfl, w9, gb_some]
        cases h3 : wi p2 0 3
        · rcases hok with q | q
          · rw [h3] at q; cases q
          · rw [if_neg (by decide), q, if_pos rfl, if_neg (by decide)]
        · rw [if_pos rfl]
      rcases shelf_cases p0 with hno | ⟨j, hj, rfl, hyes⟩
      · refine ⟨-1, σ, σ, ?_, ?_, hI⟩
        · rw [A9]
          unfold mX9_plan_b59 mX9_thinkPlan
          rw [refuse_no hno, gb_some, gl_eq, if_neg (by decide), gb_some, gl_eq, if_neg (by decide)]
        · unfold mX10_plan
          rw [isShelf_eq, gb_some, hno, if_neg (by decide)]
      · have A10 : ∀ τ : gS, ks σ τ → mX10_plan τ (nI j) (nI y) p2 = mX10_plan_b42 τ (nI j) (nI y) p2 := fun τ k => by
          have t59 : τ.1 59 = σ.1 59 := k.1 59 (by unfold kp; omega)
          unfold mX10_plan
          rw [isShelf_eq, gb_some, hyes, if_pos rfl, now_eq, gb_some, t59, z4, et, w10, gb_some, hwi, if_pos rfl, w10, gb_some, isFarm_eq (by omega) (show τ.1 52 0 = nI f from (k.2.2.2.1 0 (by unfold kq; omega)).trans e2), gb_some]
          cases h3 : wi p2 0 3
          · rcases hok with q | q
            · rw [h3] at q; cases q
            · rw [if_neg (by decide), q, if_pos rfl]
          · rw [if_pos rfl]
        rcases refuse_cases (s0 := 0) hF.1 hj (by omega) (hH j hj) with ⟨h1, h2⟩ | ⟨h1, h2⟩ | ⟨h1, h2, n, hn, e3, e77, e76, hc⟩
        · refine ⟨-11, σ, σ, ?_, ?_, hI⟩
          · rw [A9]
            unfold mX9_plan_b59 mX9_thinkPlan
            rw [show mX9_refuseRow σ (nI j) 0 = some (-11, σ) from h1, gb_some, gl_eq, if_neg (by decide), gb_some, gl_eq, if_neg (by decide)]
          · rw [A10 σ (ks_rf σ)]
            unfold mX10_plan_b42
            rw [show mX10_noRow σ (nI j) 0 = some (-11, σ) from h2, gb_some, gl_eq, if_neg (by decide)]
        · refine ⟨-12, σ, σ, ?_, ?_, hI⟩
          · rw [A9]
            unfold mX9_plan_b59 mX9_thinkPlan
            rw [show mX9_refuseRow σ (nI j) 0 = some (-12, σ) from h1, gb_some, gl_eq, if_neg (by decide), gb_some, gl_eq, if_neg (by decide)]
          · rw [A10 σ (ks_rf σ)]
            unfold mX10_plan_b42
            rw [show mX10_noRow σ (nI j) 0 = some (-12, σ) from h2, gb_some, gl_eq, if_neg (by decide)]
        · obtain ⟨τ, r1, r2, r3, r4, r5⟩ := think9 hX et ht hj hn e3 h1
          obtain ⟨s, υ, u1, v1, v2, v3, v4, v5⟩ := think10 hX r2 et ht hj hn e77 (fun i hi => (hc i hi).1)
          obtain ⟨P, hP⟩ : ∃ P, P = PO σ F (AP (σ.2.1 (40 + 2 * j + 1)) n t) t := ⟨_, rfl⟩
          rw [← hP] at r4 v4
          have hnr : mX10_noRow τ (nI j) 0 = some (0, τ) := by
            unfold mX10_noRow
            rw [if_pos (inbB_nI hj (by decide)), if_pos (inbB_nI hj (by decide)), nI_cl (by omega), r2.1 76 (by unfold kp; omega), e76, if_neg (by decide), if_pos nI_0]
          have kυ : ks σ υ := ks_tr r2 (ks_km v2)
          have t8 : τ.1 8 4 = nI t := by rw [r2.1 8 (by unfold kp; omega)]; exact et
          have u59 : υ.1 59 4 = nI t := by rw [kυ.1 59 (by unfold kp; omega), z4]; exact et
          have rows : ∀ a, 2 ≤ a → a ≤ 7 → υ.1 a = τ.1 a := fun a x1 x2 => by rw [kυ.1 a (by unfold kp; omega), r2.1 a (by unfold kp; omega)]
          have op9 : ∀ x, (if p2 = 0 then (some (P y, τ)) else (if p2 = 1 then (gBind (mX9_metTo τ (nI y)) (fun r21 s22 => some (r21, s22))) else (gBind (mX9_sumTo τ (nI y) p2) (fun r19 s20 => some (r19, s20))))) = x → mX9_plan_b25 σ (nI j) (nI y) p2 (if inN (p2 - 10) f = true then 1 else 0) = x := fun x hx => by
            rw [A9]
            unfold mX9_plan_b59
            rw [r1, gb_some, gl_eq, if_pos rfl, if_pos i30, c30, r4 y hy1 (by omega)]
            exact hx
          have op10 : ∀ x, (if p2 = 0 then (some (P y, υ)) else mX10_plan_b96 1100 υ (nI y) p2 0 0 (nI t)) = x → mX10_plan τ (nI j) (nI y) p2 = x := fun x hx => by
            rw [A10 τ r2]
            unfold mX10_plan_b42
            rw [hnr, gb_some, gl_eq, if_pos (by decide), u1, gb_some, if_pos (by decide), show Int32.toNatClampNeg 0 = 0 from by decide, v1, gb_some, if_pos i30, c30, v4 y hy1 (by omega), gl_eq, gl_eq, now_eq, gb_some, gl_eq, u59]
            exact hx
          have hVτ := IV_ks hV r2
          have hVυ := IV_ks hV kυ
          have hI2 := Inv_ks hI kυ
          have mdE : fMD υ w P = fMD τ w P := by unfold fMD; rw [rows 5 (by omega) (by omega), rows 6 (by omega) (by omega)]
          have hdE : ∀ o, fHD υ f w P o = fHD τ f w P o := fun o => by
            unfold fHD haV
            rw [rows 4 (by omega) (by omega), rows 5 (by omega) (by omega), rows 6 (by omega) (by omega), rows 2 (by omega) (by omega)]
          have fin : ∀ q, q = 0 ∨ q = 1 ∨ q = 2 ∨ q = 3 ∨ (∃ fi, fi < f ∧ q = fi + 10) → p2 = nI q → ∃ (r : Int32) (σ1 σ2 : gS), mX9_plan_b25 σ (nI j) (nI y) p2 (if inN (p2 - 10) f = true then 1 else 0) = some (r, σ1) ∧ mX10_plan σ1 (nI j) (nI y) p2 = some (r, σ2) ∧ Inv σ2 := fun q hq e => by
            rcases hq with rfl | rfl | rfl | rfl | ⟨fi, hfi, rfl⟩
            · exact ⟨P y, τ, υ, op9 _ (by rw [e, if_pos nI_0]), op10 _ (by rw [e, if_pos nI_0]), hI2⟩
            · refine ⟨lp (fMD τ w P) (y + 1 - t) t 0, τ, υ, op9 _ ?_, op10 _ ?_, hI2⟩
              · rw [e, if_neg (by decide), if_pos (by decide), bind_id]
                unfold mX9_metTo
                rw [gl_eq, gl_eq, t8]
                exact metTo9 hVτ (by omega) r4 (y + 1 - t) t 0 1100 (Nat.le_refl t) (by omega) (by omega)
              · rw [e, if_neg (by decide)]
                rw [plan10 (o := none) hVυ (by omega) v4 (Or.inl ⟨by decide, rfl⟩) (y + 1 - t) t 0 0 1100 (Nat.le_refl t) (by omega) (by omega), if_pos (by decide), mdE]
            · refine ⟨lp (fun d a => a + gnV τ w (nI d) (P d)) (y + 1 - t) t 0, τ, υ, op9 _ ?_, op10 _ ?_, hI2⟩
              · rw [e, if_neg (by decide), if_neg (by decide), bind_id]
                unfold mX9_sumTo
                rw [gl_eq, gl_eq, t8]
                exact sumG9 hVτ (by omega) r4 (y + 1 - t) t 0 1100 (Nat.le_refl t) (by omega) (by omega)
              · rw [e, if_neg (by decide)]
                have gd := gain_days (σ := τ) (P := P) hw (y + 1 - t) t 0 (by omega) (fun jj hjj hb => by rw [bt_xb (by omega), xb_0] at hb; cases hb)
                have g0 : lp (fGainB (τ.1 7) 0) w 0 0 = 0 := by
                  have : ∀ (k i : Nat), i + k ≤ 12 → lp (fGainB (τ.1 7) 0) k i 0 = 0 := by
                    intro k
                    induction k with
                    | zero => intro i _; rfl
                    | succ k ih =>
                      intro i hi
                      rw [lp_succ]
                      have : fGainB (τ.1 7) 0 i 0 = 0 := by
                        unfold fGainB
                        rw [bt_xb (by omega), xb_0]
                        rfl
                      rw [this]
                      exact ih (i + 1) (by omega)
                  exact this w 0 (by omega)
                rw [g0] at gd
                rw [plan10 (o := none) hVυ (by omega) v4 (Or.inl ⟨by decide, rfl⟩) (y + 1 - t) t 0 0 1100 (Nat.le_refl t) (by omega) (by omega), if_neg (by decide), if_pos (by decide), mdE, rows 7 (by omega) (by omega), gd]
            · refine ⟨lp (fHD τ f w P none) (y + 1 - t) t 0, τ, υ, op9 _ ?_, op10 _ ?_, hI2⟩
              · rw [e, if_neg (by decide), if_neg (by decide), bind_id]
                unfold mX9_sumTo
                rw [gl_eq, gl_eq, t8]
                exact sumH9 hVτ (by omega) r4 (Or.inl ⟨rfl, rfl⟩) (y + 1 - t) t 0 1100 (Nat.le_refl t) (by omega) (by omega)
              · rw [e, if_neg (by decide)]
                rw [plan10 (o := none) hVυ (by omega) v4 (Or.inl ⟨by decide, rfl⟩) (y + 1 - t) t 0 0 1100 (Nat.le_refl t) (by omega) (by omega), if_neg (by decide), if_neg (by decide), hdE]
            · have n0 : ¬ nI (fi + 10) = 0 := nI_ne0 (by omega) (by omega)
              have n1 : ¬ nI (fi + 10) = 1 := fun q => by have := (nI_eq (b := 1) (by omega) (by decide)).mp q; omega
              have n2 : ¬ nI (fi + 10) = 2 := fun q => by have := (nI_eq (b := 2) (by omega) (by decide)).mp q; omega
              refine ⟨lp (fHD τ f w P (some fi)) (y + 1 - t) t 0, τ, υ, op9 _ ?_, op10 _ ?_, hI2⟩
              · rw [e, if_neg n0, if_neg n1, bind_id]
                unfold mX9_sumTo
                rw [gl_eq, gl_eq, t8]
                exact sumH9 hVτ (by omega) r4 (Or.inr ⟨fi, hfi, rfl, rfl⟩) (y + 1 - t) t 0 1100 (Nat.le_refl t) (by omega) (by omega)
              · rw [e, if_neg n0]
                rw [plan10 (o := some fi) hVυ (by omega) v4 (Or.inr ⟨fi, hfi, rfl, rfl⟩) (y + 1 - t) t 0 0 1100 (Nat.le_refl t) (by omega) (by omega), if_neg n1, if_neg n2, hdE]
          rcases hok with q | q
          · obtain ⟨m, -, hm, em⟩ := wi_rg (a := 0) (b := 3) (by decide) (by decide) q
            exact fin m (by omega) em
          · obtain ⟨fi, hfi, em⟩ := inN_of (by omega) q
            refine fin (fi + 10) (Or.inr (Or.inr (Or.inr (Or.inr ⟨fi, hfi, rfl⟩)))) ?_
            rw [← nI_add, ← em]
            exact (Int32.sub_add_cancel p2 10).symm
    · have h3 : wi p2 0 3 = false := by
        cases h : wi p2 0 3
        · rfl
        · exact absurd (Or.inl h) hok
      have h4 : inN (p2 - 10) f = false := by
        cases h : inN (p2 - 10) f
        · rfl
        · exact absurd (Or.inr h) hok
      refine ⟨-1, σ, σ, ?_, ?_, hI⟩
      · unfold mX9_plan_b25
        rw [gl_eq, et, w9, gb_some, hwi, if_pos rfl, w9, gb_some, h3, if_neg (by decide), h4, if_pos (by decide)]
      · unfold mX10_plan
        rw [isShelf_eq, gb_some]
        cases wi p0 0 5
        · rw [if_neg (by decide)]
        · rw [if_pos rfl, now_eq, gb_some, z4, et, w10, gb_some, hwi, if_pos rfl, w10, gb_some, h3, if_neg (by decide), isFarm_eq (by omega) e2, gb_some, h4, if_neg (by decide)]
