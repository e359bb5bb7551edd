/-! ===== mend ===== -/
theorem rem13 {σ : gS} {d : Nat} (hd : d < 40) (e : σ.1 31 4 = nI d) (n q x v : Int32) : ∃ τ : gS, mX1_remember_b13 σ n q x v = some ((), τ) ∧ (∀ a, a < 31 ∨ 35 < a → τ.1 a = σ.1 a) ∧ τ.2 = σ.2 ∧ (∀ i, τ.1 32 i = if i = d then n else σ.1 32 i) ∧ (∀ i, τ.1 33 i = if i = d then q else σ.1 33 i) ∧ (∀ i, τ.1 34 i = if i = d then x else σ.1 34 i) ∧ (∀ i, τ.1 35 i = if i = d then v else σ.1 35 i) ∧ τ.1 31 4 = nI (d + 1) ∧ τ.1 31 5 = 0 := by
  have i4 : inbB (nI d) 40 = true := inbB_nI hd (by decide)
  have cd : Int32.toNatClampNeg (nI d) = d := nI_cl (by omega)
  refine ⟨gUI (gUI (gUI (gUI (gUI (gUI σ 32 d n) 33 d q) 34 d x) 35 d v) 31 4 (nI d + 1)) 31 5 0, ?_, fun a ha => ?_, rfl, fun i => rfl, fun i => rfl, fun i => rfl, fun i => rfl, nI_1 d, rfl⟩
  · simp [mX1_remember_b13, gLet, gUI_ne, e, i4, cd]
  · rw [gUI_ne (by omega), gUI_ne (by omega), gUI_ne (by omega), gUI_ne (by omega), gUI_ne (by omega), gUI_ne (by omega)]
theorem forget_eq {σ : gS} : ∃ τ : gS, mX1_forgetOldest σ = some ((), τ) ∧ (∀ a, a < 31 ∨ 35 < a → τ.1 a = σ.1 a) ∧ τ.2 = σ.2 ∧ τ.1 31 4 = nI 39 ∧ (∀ i, i < 39 → τ.1 32 i = σ.1 32 (i + 1)) ∧ (∀ i, i < 39 → τ.1 33 i = σ.1 33 (i + 1)) ∧ (∀ i, i < 39 → τ.1 34 i = σ.1 34 (i + 1)) ∧ ∀ i, i < 39 → τ.1 35 i = σ.1 35 (i + 1) := by
  have hc : ∀ (r : Nat → Int32) (i : Nat), i < 39 → va_cpy r r 1 0 39 i = r (i + 1) := fun r i hi => by
    unfold va_cpy
    rw [if_pos (by omega), show 1 + (i - 0) = i + 1 by omega]
  refine ⟨gUA (gUA (gUA (gUA (gUI σ 31 4 39) 32 (va_cpy (σ.1 32) (σ.1 32) 1 0 39)) 33 (va_cpy (σ.1 33) (σ.1 33) 1 0 39)) 34 (va_cpy (σ.1 34) (σ.1 34) 1 0 39)) 35 (va_cpy (σ.1 35) (σ.1 35) 1 0 39), rfl, fun a ha => ?_, rfl, rfl, fun i hi => hc _ i hi, fun i hi => hc _ i hi, fun i hi => hc _ i hi, fun i hi => hc _ i hi⟩
  simp [gUA, gUI, show a ≠ 31 by omega, show a ≠ 32 by omega, show a ≠ 33 by omega, show a ≠ 34 by omega, show a ≠ 35 by omega]
theorem mend95 {σ : gS} {d : Nat} (hd : d < 40) (e : σ.1 52 31 = nI d) (n q x v : Int32) : ∃ τ : gS, mX10_mend_b95 σ n q v x = some (x, τ) ∧ (∀ a, a ≠ 52 → a ≠ 73 → τ.1 a = σ.1 a) ∧ τ.2 = σ.2 ∧ (∀ i, τ.1 73 i = if i = 4 * d + 3 then v else if i = 4 * d + 2 then x else if i = 4 * d + 1 then q else if i = 4 * d then n else σ.1 73 i) ∧ ∀ i, τ.1 52 i = if i = 30 then nI (d + 1) else if i = 31 then nI (d + 1) else σ.1 52 i := by
  have f1 : (4 * nI d + 1 : Int32) = nI (4 * d + 1) := by rw [e4n]; exact nI_add _ 1
  have f2 : (4 * nI d + 2 : Int32) = nI (4 * d + 2) := by rw [e4n]; exact nI_add _ 2
  have f3 : (4 * nI d + 3 : Int32) = nI (4 * d + 3) := by rw [e4n]; exact nI_add _ 3
  have i0 : inbB (nI (4 * d)) 160 = true := inbB_nI (by omega) (by decide)
  have i1 : inbB (nI (4 * d + 1)) 160 = true := inbB_nI (by omega) (by decide)
  have i2 : inbB (nI (4 * d + 2)) 160 = true := inbB_nI (by omega) (by decide)
  have i3 : inbB (nI (4 * d + 3)) 160 = true := inbB_nI (by omega) (by decide)
  have g0 : Int32.toNatClampNeg (nI (4 * d)) = 4 * d := nI_cl (by omega)
  have g1 : Int32.toNatClampNeg (nI (4 * d + 1)) = 4 * d + 1 := nI_cl (by omega)
  have g2 : Int32.toNatClampNeg (nI (4 * d + 2)) = 4 * d + 2 := nI_cl (by omega)
  have g3 : Int32.toNatClampNeg (nI (4 * d + 3)) = 4 * d + 3 := nI_cl (by omega)
  refine ⟨gUI (gUI (gUI (gUI (gUI (gUI σ 73 (4 * d) n) 73 (4 * d + 1) q) 73 (4 * d + 2) x) 73 (4 * d + 3) v) 52 31 (nI d + 1)) 52 30 (nI d + 1), ?_, fun a h1 h2 => ?_, rfl, fun i => rfl, fun i => ?_⟩
  · have h1 : (nI (4 * d) + 1 : Int32) = nI (4 * d + 1) := nI_add _ 1
    have h2 : (nI (4 * d) + 2 : Int32) = nI (4 * d + 2) := nI_add _ 2
    have h3 : (nI (4 * d) + 3 : Int32) = nI (4 * d + 3) := nI_add _ 3
    simp [mX10_mend_b95, gLet, gUI_ne, gUI_same, e, h1, h2, h3, e4n, i0, i1, i2, i3, g0, g1, g2, g3]
  · rw [gUI_ne h1, gUI_ne h1, gUI_ne h2, gUI_ne h2, gUI_ne h2, gUI_ne h2]
  · rw [← nI_1 d]; rfl
theorem mend55 {n q v x : Int32} : ∀ (k i : Nat) (σ : gS) (m : Nat), i + k = 156 → k < m → ∃ τ : gS, mX10_mend_b55 m σ n q v x (nI i) = mX10_mend_b95 (gUI τ 52 31 (τ.1 52 31 - 1)) n q v x ∧ (∀ a, a ≠ 73 → τ.1 a = σ.1 a) ∧ τ.2 = σ.2 ∧ ∀ j, τ.1 73 j = if i ≤ j ∧ j < 156 then σ.1 73 (j + 4) else σ.1 73 j := by
  intro k
  induction k with
  | zero =>
    intro i σ m hi hm
    obtain ⟨m, rfl⟩ : ∃ t, m = t + 1 := ⟨m - 1, by omega⟩
    refine ⟨σ, ?_, fun _ _ => rfl, rfl, fun j => by rw [if_neg (by omega)]⟩
    conv => lhs; unfold mX10_mend_b55
    rw [if_pos (show (156 : Int32) ≤ nI i from nI_le (a := 156) (by omega) (by omega)), gl_eq]
  | succ k ih =>
    intro i σ m hi hm
    obtain ⟨m, rfl⟩ : ∃ t, m = t + 1 := ⟨m - 1, by omega⟩
    obtain ⟨τ, h1, h2, h3, h4⟩ := ih (i + 1) (gUI σ 73 i (σ.1 73 (i + 4))) m (by omega) (by omega)
    have e : (nI i + 4 : Int32) = nI (i + 4) := nI_add i 4
    refine ⟨τ, ?_, fun a ha => by rw [h2 a ha, gUI_ne ha], h3, fun j => ?_⟩
    · conv => lhs; unfold mX10_mend_b55
      rw [if_neg (show ¬ (156 : Int32) ≤ nI i from nI_ge (b := 156) (by omega) (by decide)), e, if_pos (inbB_nI (by omega) (by decide)), if_pos (inbB_nI (by omega) (by decide)), nI_cl (by omega), nI_cl (by omega), gl_eq, gl_eq, nI_1]
      exact h1
    · rw [h4 j, gUI_same]
      by_cases hj : j = i
      · subst hj
        rw [if_neg (by omega), if_pos (by omega)]
        simp
      · by_cases hc : i + 1 ≤ j ∧ j < 156
        · rw [if_pos hc, if_pos (by omega)]
          simp [show j + 4 ≠ i by omega]
        · rw [if_neg hc, if_neg (by omega)]
          simp [hj]
/-- a value fits what -/
def fitB (i : Nat) (v : Int32) : Bool := wi v (gTb 0 i) (gTb 1 i)
theorem isFit_eq {i : Nat} (hi : i ≤ 9) (σ : gS) (v : Int32) : mX10_isFit σ (nI i) v = some (fitB i v, σ) := by
  rcases (show i = 0 ∨ i = 1 ∨ i = 2 ∨ i = 3 ∨ i = 4 ∨ i = 5 ∨ i = 6 ∨ i = 7 ∨ i = 8 ∨ i = 9 by omega) with rfl | rfl | rfl | rfl | rfl | rfl | rfl | rfl | rfl | rfl
  · simp [mX10_isFit, bind_id, w10, isDay_eq, show ¬ nI 0 = 2 by decide, show ¬ nI 0 = 3 by decide, show ¬ nI 0 = 4 by decide, show ¬ nI 0 = 5 by decide, show ¬ nI 0 = 6 by decide, show ¬ nI 0 = 7 by decide, show ¬ nI 0 = 8 by decide, show ¬ nI 0 = 9 by decide]; rfl
  · simp [mX10_isFit, bind_id, w10, isDay_eq, show ¬ nI 1 = 2 by decide, show ¬ nI 1 = 3 by decide, show ¬ nI 1 = 4 by decide, show ¬ nI 1 = 5 by decide, show ¬ nI 1 = 6 by decide, show ¬ nI 1 = 7 by decide, show ¬ nI 1 = 8 by decide, show ¬ nI 1 = 9 by decide]; rfl
  · simp [mX10_isFit, bind_id, w10, isDay_eq, show nI 2 = 2 by decide]; rfl
  · simp [mX10_isFit, bind_id, w10, isDay_eq, show nI 3 = 3 by decide]; rfl
  · simp [mX10_isFit, bind_id, w10, isDay_eq, show nI 4 = 4 by decide]; rfl
  · simp [mX10_isFit, bind_id, w10, isDay_eq, show nI 5 = 5 by decide]; rfl
  · simp [mX10_isFit, bind_id, w10, isDay_eq, show nI 6 = 6 by decide]; rfl
  · simp [mX10_isFit, bind_id, w10, isDay_eq, show nI 7 = 7 by decide]; rfl
  · simp [mX10_isFit, bind_id, w10, isDay_eq, show nI 8 = 8 by decide]; rfl
  · simp [mX10_isFit, bind_id, w10, isDay_eq, show nI 9 = 9 by decide]; rfl
theorem fit_ok {i : Nat} (hi : i ≤ 9) {v : Int32} (h : fitB i v = true) : okV (nI i) v := by
  have ne : ∀ k : Nat, k ≤ 9 → nI i = nI k → i = k := fun k hk e => (nI_eq (by omega) (by omega)).mp e
  refine ⟨fun e => ?_, fun e => ?_, fun e => ?_, fun e => ?_, fun e => ?_, fun e => ?_, fun e => ?_⟩
  · cases ne 2 (by omega) e; exact wi_rg (a := 0) (b := 29) (by decide) (by decide) h
  · cases ne 3 (by omega) e; exact wi_rg (a := 1) (b := 24) (by decide) (by decide) h
  · cases ne 7 (by omega) e; exact wi_rg (a := 0) (b := 9) (by decide) (by decide) h
  · cases ne 8 (by omega) e; exact wi_rg (a := 0) (b := 9) (by decide) (by decide) h
  · cases ne 9 (by omega) e; exact wi_rg (a := 0) (b := 29) (by decide) (by decide) h
  · cases ne 5 (by omega) e; exact wi_rg (a := 0) (b := 999) (by decide) (by decide) h
  · cases ne 1 (by omega) e; exact wi_rg (a := 0) (b := 9) (by decide) (by decide) h
theorem okN_q {f w : Nat} {n q : Int32} (h : okN f w n q) : ∃ i : Nat, i ≤ 9 ∧ q = nI i := by
  rcases h with ⟨rfl, -⟩ | ⟨rfl, -⟩ | ⟨rfl, -⟩ | ⟨rfl, -⟩ | ⟨rfl, -⟩ | ⟨rfl | rfl | rfl | rfl | rfl, -⟩
  · exact ⟨0, by omega, rfl⟩
  · exact ⟨1, by omega, rfl⟩
  · exact ⟨2, by omega, rfl⟩
  · exact ⟨3, by omega, rfl⟩
  · exact ⟨4, by omega, rfl⟩
  · exact ⟨5, by omega, rfl⟩
  · exact ⟨6, by omega, rfl⟩
  · exact ⟨7, by omega, rfl⟩
  · exact ⟨8, by omega, rfl⟩
  · exact ⟨9, by omega, rfl⟩
/-- what stands there is allowed -/
theorem PrC_okV {σ : gS} {kc km j : Nat} {q : Int32} {f w : Nat} (hV : IV σ f w) (hS : IS σ) (h : PrC kc km j q f w) : okV q (σ.1 kc j) := by
  obtain ⟨hf, hw, e1, e2, e3, e4, e5, e6, e7, e8, e9, e10, e12, e11⟩ := hV
  obtain ⟨q0, q1, q2, q3, q4, q5, q6, q7⟩ := hS
  rcases h with ⟨rfl, rfl, rfl, hj⟩ | ⟨rfl, rfl, rfl, hj⟩ | ⟨rfl, rfl, rfl, hj⟩ | ⟨rfl, rfl, rfl, hj⟩ | ⟨rfl, rfl, rfl, hj⟩ | ⟨rfl, rfl, hj, rfl⟩
  · exact ⟨fun e => absurd e (by decide), fun e => absurd e (by decide), fun e => absurd e (by decide), fun e => absurd e (by decide), fun e => absurd e (by decide), fun e => absurd e (by decide), fun e => absurd e (by decide)⟩
  · exact ⟨fun e => absurd e (by decide), fun e => absurd e (by decide), fun e => absurd e (by decide), fun e => absurd e (by decide), fun e => absurd e (by decide), fun e => absurd e (by decide), fun _ => e12 j⟩
  · exact ⟨fun _ => (e11 j hj).1, fun e => absurd e (by decide), fun e => absurd e (by decide), fun e => absurd e (by decide), fun e => absurd e (by decide), fun e => absurd e (by decide), fun e => absurd e (by decide)⟩
  · exact ⟨fun e => absurd e (by decide), fun _ => (e11 j hj).2, fun e => absurd e (by decide), fun e => absurd e (by decide), fun e => absurd e (by decide), fun e => absurd e (by decide), fun e => absurd e (by decide)⟩
  · exact ⟨fun e => absurd e (by decide), fun e => absurd e (by decide), fun e => absurd e (by decide), fun e => absurd e (by decide), fun e => absurd e (by decide), fun e => absurd e (by decide), fun e => absurd e (by decide)⟩
  · rcases (show j = 0 ∨ j = 1 ∨ j = 2 ∨ j = 3 ∨ j = 4 by omega) with rfl | rfl | rfl | rfl | rfl
    · exact ⟨fun e => absurd e (by decide), fun e => absurd e (by decide), fun e => absurd e (by decide), fun e => absurd e (by decide), fun e => absurd e (by decide), fun _ => q7.2, fun e => absurd e (by decide)⟩
    · exact ⟨fun e => absurd e (by decide), fun e => absurd e (by decide), fun e => absurd e (by decide), fun e => absurd e (by decide), fun e => absurd e (by decide), fun e => absurd e (by decide), fun e => absurd e (by decide)⟩
    · exact ⟨fun e => absurd e (by decide), fun e => absurd e (by decide), fun _ => q6, fun e => absurd e (by decide), fun e => absurd e (by decide), fun e => absurd e (by decide), fun e => absurd e (by decide)⟩
    · exact ⟨fun e => absurd e (by decide), fun e => absurd e (by decide), fun e => absurd e (by decide), fun _ => q7.1, fun e => absurd e (by decide), fun e => absurd e (by decide), fun e => absurd e (by decide)⟩
    · exact ⟨fun e => absurd e (by decide), fun e => absurd e (by decide), fun e => absurd e (by decide), fun e => absurd e (by decide), fun _ => q5, fun e => absurd e (by decide), fun e => absurd e (by decide)⟩
set_option maxRecDepth 100000 in
/-- what both sides remember of a change -/
theorem mend_mem {σ : gS} {f w kc km j i F : Nat} {n v : Int32} (hF : 156 < F) (hC : IC σ f w) (hok : okN f w n (nI i)) (hv : okV (nI i) v) (hx : okV (nI i) (σ.1 kc j)) (k1 : 2 ≤ kc) (k2 : kc ≤ 8) (k3 : 53 ≤ km) (k4 : km ≤ 59) : ∃ σ1 σ2 : gS, mX1_remember (gUI σ kc j v) n (nI i) (σ.1 kc j) v = some ((), σ1) ∧ (if (gUI σ1 km j v).1 52 31 = 40 then gLet 0 (fun v20 => mX10_mend_b55 F (gUI σ1 km j v) n (nI i) v (σ.1 kc j) v20) else mX10_mend_b95 (gUI σ1 km j v) n (nI i) v (σ.1 kc j)) = some (σ.1 kc j, σ2) ∧ ((∀ a, a < 31 ∨ 35 < a → σ1.1 a = (gUI σ kc j v).1 a) ∧ σ1.2 = σ.2) ∧ ((∀ a, a ≠ 52 → a ≠ 73 → σ2.1 a = (gUI σ1 km j v).1 a) ∧ σ2.2 = σ1.2 ∧ ∀ t, t ≠ 30 → t ≠ 31 → σ2.1 52 t = σ1.1 52 t) ∧ IC σ2 f w := by
  obtain ⟨d, u, c0, c1, c2, c3, c4, c5⟩ := id hC
  have a31 : (gUI σ kc j v).1 31 4 = nI d := by rw [gUI_ne (by omega)]; exact c1
  rcases Nat.lt_or_ge d 40 with hd | hd
  · obtain ⟨σ1, t1, t2, t3, t4, t5, t6, t7, t8, t9⟩ := rem13 hd a31 n (nI i) (σ.1 kc j) v
    have b52 : (gUI σ1 km j v).1 52 = σ.1 52 := by rw [gUI_ne (by omega), t2 52 (by omega), gUI_ne (by omega)]
    have b73 : (gUI σ1 km j v).1 73 = σ.1 73 := by rw [gUI_ne (by omega), t2 73 (by omega), gUI_ne (by omega)]
    obtain ⟨σ2, y1, y2, y3, y4, y5⟩ := mend95 (σ := gUI σ1 km j v) hd (by rw [b52]; exact c3) n (nI i) (σ.1 kc j) v
    refine ⟨σ1, σ2, ?_, ?_, ⟨t2, t3⟩, ⟨y2, y3, fun t z1 z2 => ?_⟩, d + 1, 0, by omega, ?_, ?_, ?_, ?_, fun t ht => ?_⟩
    · unfold mX1_remember
      rw [a31, if_pos (show nI d < (40 : Int32) from nI_lt (b := 40) hd (by decide)), t1]
    · rw [b52, c3, if_neg (show ¬ nI d = (40 : Int32) from fun e => by have := (nI_eq (b := 40) (by omega) (by decide)).mp e; omega)]
      exact y1
    · rw [y5, if_neg z1, if_neg z2, gUI_ne (by omega)]
    · rw [y2 31 (by decide) (by decide), gUI_ne (by omega)]; exact t8
    · rw [y2 31 (by decide) (by decide), gUI_ne (by omega)]; exact t9
    · rw [y5]; rfl
    · rw [y5]; rfl
    · rw [y4, y4, y4, y4, b73, y2 32 (by decide) (by decide), y2 33 (by decide) (by decide), y2 34 (by decide) (by decide), y2 35 (by decide) (by decide), gUI_ne (by omega), gUI_ne (by omega), gUI_ne (by omega), gUI_ne (by omega), t4, t5, t6, t7, gUI_ne (by omega), gUI_ne (by omega), gUI_ne (by omega), gUI_ne (by omega)]
      by_cases htd : t = d
      · subst htd
        simp only [if_true, show ¬ 4 * t = 4 * t + 3 by omega, show ¬ 4 * t = 4 * t + 2 by omega, show ¬ 4 * t = 4 * t + 1 by omega, show ¬ 4 * t + 1 = 4 * t + 3 by omega, show ¬ 4 * t + 1 = 4 * t + 2 by omega, show ¬ 4 * t + 2 = 4 * t + 3 by omega, if_false]
        exact ⟨trivial, trivial, trivial, trivial, hok, hx, hv⟩
      · simp only [if_neg htd, show ¬ 4 * t = 4 * d + 3 by omega, show ¬ 4 * t = 4 * d + 2 by omega, show ¬ 4 * t = 4 * d + 1 by omega, show ¬ 4 * t = 4 * d by omega, show ¬ 4 * t + 1 = 4 * d + 3 by omega, show ¬ 4 * t + 1 = 4 * d + 2 by omega, show ¬ 4 * t + 1 = 4 * d + 1 by omega, show ¬ 4 * t + 1 = 4 * d by omega, show ¬ 4 * t + 2 = 4 * d + 3 by omega, show ¬ 4 * t + 2 = 4 * d + 2 by omega, show ¬ 4 * t + 2 = 4 * d + 1 by omega, show ¬ 4 * t + 2 = 4 * d by omega, show ¬ 4 * t + 3 = 4 * d + 3 by omega, show ¬ 4 * t + 3 = 4 * d + 2 by omega, show ¬ 4 * t + 3 = 4 * d + 1 by omega, show ¬ 4 * t + 3 = 4 * d by omega, if_false]
        exact c5 t (by omega)
  · have hd40 : d = 40 := by omega
    subst hd40
    obtain ⟨σf, w1, w2, w3, w4, w5, w6, w7, w8⟩ := forget_eq (σ := gUI σ kc j v)
    obtain ⟨σ1, t1, t2, t3, t4, t5, t6, t7, t8, t9⟩ := rem13 (d := 39) (by omega) w4 n (nI i) (σ.1 kc j) v
    have b52 : (gUI σ1 km j v).1 52 = σ.1 52 := by rw [gUI_ne (by omega), t2 52 (by omega), w2 52 (by omega), gUI_ne (by omega)]
    have b73 : (gUI σ1 km j v).1 73 = σ.1 73 := by rw [gUI_ne (by omega), t2 73 (by omega), w2 73 (by omega), gUI_ne (by omega)]
    obtain ⟨σl, l1, l2, l3, l4⟩ := mend55 (n := n) (q := nI i) (v := v) (x := σ.1 kc j) 156 0 (gUI σ1 km j v) F (by omega) (by omega)
    have l52 : (gUI σl 52 31 (σl.1 52 31 - 1)).1 52 31 = nI 39 := by
      rw [gUI_same]
      simp only [if_true]
      rw [l2 52 (by decide), b52, c3]
      exact nI_pred 39
    obtain ⟨σ2, y1, y2, y3, y4, y5⟩ := mend95 (σ := gUI σl 52 31 (σl.1 52 31 - 1)) (d := 39) (by omega) l52 n (nI i) (σ.1 kc j) v
    have yr : ∀ a, a ≠ 52 → a ≠ 73 → σ2.1 a = (gUI σ1 km j v).1 a := fun a z1 z2 => by rw [y2 a z1 z2, gUI_ne z1, l2 a z2]
    have y73 : ∀ m, (gUI σl 52 31 (σl.1 52 31 - 1)).1 73 m = if m < 156 then σ.1 73 (m + 4) else σ.1 73 m := fun m => by
      rw [gUI_ne (by decide), l4 m, b73]
      by_cases hm : m < 156
      · rw [if_pos (by omega), if_pos hm]
      · rw [if_neg (by omega), if_neg hm]
    refine ⟨σ1, σ2, ?_, ?_, ⟨fun a ha => by rw [t2 a ha, w2 a ha], t3.trans w3⟩, ⟨yr, ?_, fun t z1 z2 => ?_⟩, 40, 0, by omega, ?_, ?_, ?_, ?_, fun t ht => ?_⟩
    · unfold mX1_remember
      rw [a31, if_neg (by decide), w1, gb_some, t1]
    · rw [b52, c3, if_pos (by decide), gl_eq]
      exact (show mX10_mend_b55 F (gUI σ1 km j v) n (nI i) v (σ.1 kc j) 0 = _ from l1).trans y1
    · rw [y3]; show σl.2 = _; rw [l3]; rfl
    · rw [y5, if_neg z1, if_neg z2, gUI_same]
      simp only [if_neg z2]
      rw [l2 52 (by decide), gUI_ne (by omega)]
    · rw [yr 31 (by decide) (by decide), gUI_ne (by omega)]; exact t8
    · rw [yr 31 (by decide) (by decide), gUI_ne (by omega)]; exact t9
    · rw [y5]; rfl
    · rw [y5]; rfl
    · rw [y4, y4, y4, y4, y73, y73, y73, y73, yr 32 (by decide) (by decide), yr 33 (by decide) (by decide), yr 34 (by decide) (by decide), yr 35 (by decide) (by decide), gUI_ne (by omega), gUI_ne (by omega), gUI_ne (by omega), gUI_ne (by omega), t4, t5, t6, t7]
      by_cases htd : t = 39
      · subst htd
        exact ⟨rfl, rfl, rfl, rfl, hok, hx, hv⟩
      · simp only [if_neg htd, show ¬ 4 * t = 4 * 39 + 3 by omega, show ¬ 4 * t = 4 * 39 + 2 by omega, show ¬ 4 * t = 4 * 39 + 1 by omega, show ¬ 4 * t = 4 * 39 by omega, show ¬ 4 * t + 1 = 4 * 39 + 3 by omega, show ¬ 4 * t + 1 = 4 * 39 + 2 by omega, show ¬ 4 * t + 1 = 4 * 39 + 1 by omega, show ¬ 4 * t + 1 = 4 * 39 by omega, show ¬ 4 * t + 2 = 4 * 39 + 3 by omega, show ¬ 4 * t + 2 = 4 * 39 + 2 by omega, show ¬ 4 * t + 2 = 4 * 39 + 1 by omega, show ¬ 4 * t + 2 = 4 * 39 by omega, show ¬ 4 * t + 3 = 4 * 39 + 3 by omega, show ¬ 4 * t + 3 = 4 * 39 + 2 by omega, show ¬ 4 * t + 3 = 4 * 39 + 1 by omega, show ¬ 4 * t + 3 = 4 * 39 by omega, if_false]
        rw [if_pos (by omega), if_pos (by omega), if_pos (by omega), if_pos (by omega), w5 t (by omega), w6 t (by omega), w7 t (by omega), w8 t (by omega), gUI_ne (by omega), gUI_ne (by omega), gUI_ne (by omega), gUI_ne (by omega)]
        have := c5 (t + 1) (by omega)
        rw [show 4 * (t + 1) = 4 * t + 4 by omega, show 4 * t + 4 + 1 = 4 * t + 1 + 4 by omega, show 4 * t + 4 + 2 = 4 * t + 2 + 4 by omega, show 4 * t + 4 + 3 = 4 * t + 3 + 4 by omega] at this
        exact this
theorem s_mend : S_mend Inv := by
  intro σ n q v hI
  have hI0 := hI
  obtain ⟨f, w, b, hV, hS, hT, hL, hB, hM, hC, hF, hH⟩ := hI
  obtain ⟨hf, hw, e1, e2, e3, e4, e5, e6, e7, e8, e9, e10, e12, e11⟩ := id hV
  by_cases h10 : q = 10
  · subst h10
    refine ⟨-1, σ, σ, ?_, ?_, hI0⟩
    · simp [mX9_mend, isNumber_eq e1 e3, gb_some]
    · have : isOfB f w n 10 = false := by
        unfold isOfB
        rw [if_neg (by decide), if_neg (by decide), if_neg (by decide)]
      unfold mX10_mend
      rw [isOf_eq hf hw e2 e4, gb_some, this, if_neg (by decide)]
  · cases ho : isOfB f w n q with
    | false =>
      refine ⟨-1, σ, σ, ?_, ?_, hI0⟩
      · simp [mX9_mend, isNumber_eq e1 e3, gb_some, h10, ho]
      · unfold mX10_mend
        rw [isOf_eq hf hw e2 e4, gb_some, ho, if_neg (by decide)]
    | true =>
      have hok := isOf_ok hf hw ho
      obtain ⟨i, hi, rfl⟩ := okN_q hok
      have ib : inbB (nI i) 10 = true := inbB_nI (by omega) (by decide)
      have ci : Int32.toNatClampNeg (nI i) = i := nI_cl (by omega)
      cases hfit : fitB i v with
      | false =>
        have hfit2 : wi v (gTb 0 i) (gTb 1 i) = false := hfit
        refine ⟨-1, σ, σ, ?_, ?_, hI0⟩
        · simp [mX9_mend, isNumber_eq e1 e3, gb_some, h10, ho, ib, ci, w9, hfit2]
        · unfold mX10_mend
          rw [isOf_eq hf hw e2 e4, gb_some, ho, if_pos rfl, isFit_eq hi, gb_some, hfit, if_neg (by decide)]
      | true =>
        have hfit2 : wi v (gTb 0 i) (gTb 1 i) = true := hfit
        obtain ⟨kc, km, j, hp, p2, p3, p4, p5⟩ := okN_cells hf hw hok
        obtain ⟨⟨k1, k2⟩, k3, k4⟩ := PrC_ne hp
        have heq := PrC_eq hV hS hp
        by_cases hsame : σ.1 kc j = v
        · refine ⟨σ.1 kc j, σ, σ, ?_, ?_, hI0⟩
          · simp [mX9_mend, isNumber_eq e1 e3, gb_some, h10, ho, ib, ci, w9, hfit2, p2, gLet, hsame]
          · unfold mX10_mend
            rw [isOf_eq hf hw e2 e4, gb_some, ho, if_pos rfl, isFit_eq hi, gb_some, hfit, if_pos rfl, p4, gb_some, gl_eq, heq, if_pos hsame]
        · have hv := fit_ok hi hfit
          have hx := PrC_okV hV hS hp
          obtain ⟨σ1, σ2, r1, r2, g1, g2, ic⟩ := mend_mem (F := 1100) (j := j) (by omega) hC hok hv hx k1 k2 k3 k4
          refine ⟨σ.1 kc j, σ1, σ2, ?_, ?_, ?_⟩
          · simp [mX9_mend, isNumber_eq e1 e3, gb_some, h10, ho, ib, ci, w9, hfit2, p2, gLet, hsame, p3, r1]
          · have b52 : σ1.1 52 = σ.1 52 := by rw [g1.1 52 (by omega), gUI_ne (by omega)]
            have bkm : σ1.1 km j = σ.1 kc j := by rw [g1.1 km (by omega), gUI_ne (by omega)]; exact heq
            unfold mX10_mend
            rw [isOf_eq hf hw (by rw [b52]; exact e2) (by rw [b52]; exact e4), gb_some, ho, if_pos rfl, isFit_eq hi, gb_some, hfit, if_pos rfl, p4, gb_some, gl_eq, bkm, if_neg hsame, p5, gb_some]
            exact r2
          · refine Inv_num (v := v) hV hS hT hL hB hM hF hH hp hv (fun a y1 y2 y3 y4 y5 => ?_) (fun t => ?_) (fun t => ?_) (fun t y1 y2 => ?_) (by rw [g2.2.1, g1.2]) ic
            · rw [g2.1 a y4 y5, gUI_ne y2, g1.1 a y3, gUI_ne y1]
            · rw [g2.1 kc (by omega) (by omega), gUI_ne (by omega), g1.1 kc (by omega), gUI_same]
            · rw [g2.1 km (by omega) (by omega), gUI_same, g1.1 km (by omega), gUI_ne (by omega)]
            · rw [g2.2.2 t y1 y2, g1.1 52 (by omega), gUI_ne (by omega)]
