/-! ===== pass: both sides ===== -/
def bp (k : Nat) (dd : Bool) (s : gS) : gS := if dd = true then gUI s k 4 (s.1 k 4 + 1) else s
theorem bp_ne {k a : Nat} {dd : Bool} {s : gS} (h : a ≠ k) : (bp k dd s).1 a = s.1 a := by
  unfold bp
  cases dd
  · rw [if_neg (by decide)]
  · rw [if_pos rfl, gUI_ne h]
theorem bp_2 {k : Nat} {dd : Bool} {s : gS} : (bp k dd s).2 = s.2 := by
  unfold bp
  cases dd <;> rfl
theorem bp_at {k : Nat} {dd : Bool} {s : gS} {j : Nat} : (bp k dd s).1 k j = if dd = true ∧ j = 4 then s.1 k 4 + 1 else s.1 k j := by
  unfold bp
  cases dd
  · rw [if_neg (by decide), if_neg (by simp)]
  · rw [if_pos rfl, gUI_same]
    by_cases h : j = 4
    · simp [h]
    · simp [h]
theorem haV_eq {σ τ : gS} {f w : Nat} {d l : Int32} (h : ∀ a, 2 ≤ a → a ≤ 7 → τ.1 a = σ.1 a) : haV τ f w d l = haV σ f w d l := by
  unfold haV
  rw [h 4 (by omega) (by omega), h 5 (by omega) (by omega), h 6 (by omega) (by omega), h 2 (by omega) (by omega)]
theorem gnV_eq {σ τ : gS} {w : Nat} {d l : Int32} (h : ∀ a, 2 ≤ a → a ≤ 7 → τ.1 a = σ.1 a) : gnV τ w d l = gnV σ w d l := by
  unfold gnV
  rw [h 5 (by omega) (by omega), h 6 (by omega) (by omega), h 7 (by omega) (by omega)]
theorem pass_fin {σ : gS} {f w b K : Nat} {F : gLw} (hT : IT σ) (hL : IL σ) (hB : IB σ) (hM : IM σ) (hC : IC σ f w) (hF : IF σ b) (hH : IH σ b) (hX : Cx σ f w K F) (dd : Bool) (l t : Int32) (hnow : rg (σ.1 8 4 + 1) 0 29) : ∃ (v : Int32) (τ υ : gS), mX9_pass_b94 (bp 28 dd σ) l t = some (v, τ) ∧ mX10_pass_b82 (bp 71 dd τ) l t = some (v, υ) ∧ Inv υ ∧ τ.1 59 = σ.1 59 := by
  obtain ⟨hV, hS, -⟩ := id hX
  have lσ : ld σ (bp 28 dd σ) := ⟨fun a h1 _ => bp_ne h1, bp_2⟩
  obtain ⟨τ, r1, r2, r3, r4, r5, r6, r7, r8⟩ := pass9 (Cx_ld hX lσ) l t
  have lτ : ld τ (bp 71 dd τ) := ⟨fun a _ h2 => bp_ne h2, bp_2⟩
  have g : ∀ a, kp a ∧ a ≠ 8 ∧ a ≠ 28 → τ.1 a = σ.1 a := fun a ⟨x1, x2, x3⟩ => (r2 a x1 x2 x3).trans (bp_ne x3)
  have q : ∀ j, kq j → τ.1 52 j = σ.1 52 j := fun j hj => by rw [r5 j hj, bp_ne (by decide)]
  have hVτ : IV τ f w := IV_ag hV (by rw [g 1 (by unfold kp; omega)]) (q 0 (by unfold kq; omega)) (by rw [g 1 (by unfold kp; omega)]) (q 3 (by unfold kq; omega)) (g 2 (by unfold kp; omega)) (g 3 (by unfold kp; omega)) (g 4 (by unfold kp; omega)) (g 5 (by unfold kp; omega)) (g 6 (by unfold kp; omega)) (g 7 (by unfold kp; omega)) (g 53 (by unfold kp; omega)) (g 54 (by unfold kp; omega)) (g 55 (by unfold kp; omega)) (g 56 (by unfold kp; omega)) (g 57 (by unfold kp; omega)) (g 58 (by unfold kp; omega))
  have e59 : τ.1 59 = σ.1 59 := g 59 (by unfold kp; omega)
  obtain ⟨υ, u1, u2, u3, u4, u5⟩ := pass10 (τ := bp 71 dd τ) hX (IV_ld hVτ lτ) (fun a x y => by rw [bp_ne (by omega)]; exact g a (by unfold kp; omega)) (by rw [bp_ne (by decide)]; exact q 11 (by unfold kq; omega)) (by rw [bp_ne (by decide)]; exact q 12 (by unfold kq; omega)) (by rw [bp_ne (by decide)]; exact e59) l t
  obtain ⟨z0, z1, z2, z3, z4, z5, z6, z7, z8⟩ := id hS
  have b8 : (bp 28 dd σ).1 8 = σ.1 8 := bp_ne (by decide)
  rw [z1, z2, z3, z4] at u1 u4
  rw [z4] at u5
  rw [b8] at r1 r7 r8
  obtain ⟨v, hv⟩ : ∃ v, v = nx F (σ.1 8 2) (σ.1 8 3) (σ.1 8 1) (σ.1 8 4) (t - l) l := ⟨_, rfl⟩
  rw [← hv] at r1 u1 r7 u4
  refine ⟨v, τ, υ, r1, u1, ?_, e59⟩
  have rows : ∀ a, 2 ≤ a → a ≤ 7 → τ.1 a = σ.1 a := fun a h1 h2 => g a (by unfold kp; omega)
  have hu : ∀ a, a ≠ 69 → a ≠ 70 → a ≠ 71 → a ≠ 59 → υ.1 a = τ.1 a := fun a x1 x2 x3 x4 => (u2 a x1 x2 x3 x4).trans (bp_ne x3)
  refine Inv_deed hV hT hL hM hC hF hH (fun a h1 h2 h3 h4 h5 => ?_) ?_ ?_ (fun j hj => ?_) ?_ ?_ ?_
  · rw [hu a (by unfold kp at h1; omega) (by unfold kp at h1; omega) h5 h3]
    exact g a ⟨h1, h2, h4⟩
  · rw [hu 18 (by decide) (by decide) (by decide) (by decide), r3, bp_ne (by decide)]
  · rw [hu 23 (by decide) (by decide) (by decide) (by decide), r4, bp_ne (by decide)]
  · rw [hu 52 (by decide) (by decide) (by decide) (by decide)]
    exact q j hj
  · rw [u3, bp_2, r6, bp_2]
  · unfold IS
    rw [hu 8 (by decide) (by decide) (by decide) (by decide)]
    simp only [u4, r7]
    refine ⟨rfl, z1, z2, z3, rfl, hnow, z6, z7, ?_⟩
    show rg v 0 999
    rw [hv]
    exact hold_rg _ _
  · intro j hj
    have e71 : τ.1 71 = σ.1 71 := g 71 (by unfold kp; omega)
    rw [hu 28 (by decide) (by decide) (by decide) (by decide), r8, u5, haV_eq (fun a h1 h2 => bp_ne (by omega)), gnV_eq (fun a h1 h2 => bp_ne (by omega)), haV_eq rows, gnV_eq rows, haV_eq (σ := σ) (τ := bp 28 dd σ) (fun a h1 h2 => bp_ne (by omega)), gnV_eq (σ := σ) (τ := bp 28 dd σ) (fun a h1 h2 => bp_ne (by omega))]
    simp only [bp_at, e71]
    rw [hB 0 (by omega), hB 1 (by omega), hB 2 (by omega), hB 3 (by omega), hB 4 (by omega), hB j hj]
theorem s_pass : S_pass Inv := by
  intro σ p0 hI
  have hI0 := hI
  obtain ⟨f, w, b, hV, hS, hT, hL, hB, hM, hC, hF, hH⟩ := hI
  obtain ⟨K, F, hK, k1, k2, k3, k4⟩ := id hL
  have hX : Cx σ f w K F := ⟨hV, hS, hK, k1, k3, k4⟩
  obtain ⟨z0, z1, z2, z3, z4, z5, z6, z7, z8⟩ := id hS
  obtain ⟨t, -, ht, et⟩ := id z5
  cases hwi : wi p0 0 24 with
  | false =>
    refine ⟨-1, σ, σ, ?_, ?_, hI0⟩
    · unfold mX9_pass
      rw [w9, gb_some, hwi, if_neg (by decide)]
    · unfold mX10_pass
      rw [w10, gb_some, hwi, if_neg (by decide)]
  | true =>
    by_cases h29 : t = 29
    · subst h29
      refine ⟨-5, σ, σ, ?_, ?_, hI0⟩
      · unfold mX9_pass
        rw [w9, gb_some, hwi, if_pos rfl, et, if_neg (by decide)]
      · unfold mX10_pass
        rw [w10, gb_some, hwi, if_pos rfl, now_eq, gb_some, z4, et, if_pos (by decide)]
    · have n1 : σ.1 8 4 < 29 := by rw [et]; exact nI_lt (b := 29) (by omega) (by decide)
      have n2 : ¬ σ.1 8 4 = 29 := by
        rw [et]
        exact fun q => h29 ((nI_eq (b := 29) (by omega) (by decide)).mp q)
      have hnow : rg (σ.1 8 4 + 1) 0 29 := ⟨t + 1, by omega, by omega, by rw [et, nI_1]⟩
      have n3 : ¬ 29 < σ.1 8 4 := by rw [et]; exact nI_nlt (a := 29) (by omega) (by omega)
      have gv : gvB (σ.1 8 4) (σ.1 8 0) (σ.1 8 1) = !decide (σ.1 8 0 ≤ σ.1 8 1) := by
        unfold gvB
        rw [decide_eq_false n3]
        rfl
      have i0 : inbB 0 5 = true := by decide
      have i1 : inbB 1 5 = true := by decide
      have i4 : inbB 4 5 = true := by decide
      have c0 : Int32.toNatClampNeg 0 = 0 := by decide
      have c1 : Int32.toNatClampNeg 1 = 1 := by decide
      have c4 : Int32.toNatClampNeg 4 = 4 := by decide
      by_cases hg : σ.1 8 0 ≤ σ.1 8 1
      · have gv2 : gvB (σ.1 8 4) (σ.1 8 0) (σ.1 8 1) = false := by rw [gv, decide_eq_true hg]; rfl
        by_cases hl : p0 ≤ σ.1 8 0
        · obtain ⟨v, τ, υ, r1, r2, r3, r4⟩ := pass_fin hT hL hB hM hC hF hH hX false p0 (σ.1 8 0) hnow
          refine ⟨v, τ, υ, ?_, ?_, r3⟩
          · unfold mX9_pass
            rw [w9, gb_some, hwi, if_pos rfl, if_pos n1, dawn_eq rfl, gb_some, gl_eq, gv2, show (if false = true then (0 : Int32) else σ.1 8 0) = σ.1 8 0 from rfl, if_pos hl, gives_eq rfl, gb_some, gv2, if_neg (by decide)]
            exact r1
          · unfold mX10_pass
            rw [w10, gb_some, hwi, if_pos rfl, now_eq, gb_some, r4, z4, if_neg n2, if_pos i0, if_pos i1, c0, c1, z0, z1, if_pos hg]
            unfold mX10_pass_b44 mX10_pass_b59
            rw [gl_eq, if_pos rfl, if_pos i0, c0, r4, z0, gl_eq, if_pos hl, if_pos rfl]
            exact r2
        · refine ⟨-2, σ, σ, ?_, ?_, hI0⟩
          · unfold mX9_pass
            rw [w9, gb_some, hwi, if_pos rfl, if_pos n1, dawn_eq rfl, gb_some, gl_eq, gv2, show (if false = true then (0 : Int32) else σ.1 8 0) = σ.1 8 0 from rfl, if_neg hl]
          · unfold mX10_pass
            rw [w10, gb_some, hwi, if_pos rfl, now_eq, gb_some, z4, if_neg n2, if_pos i0, if_pos i1, c0, c1, z0, z1, if_pos hg]
            unfold mX10_pass_b44 mX10_pass_b59
            rw [gl_eq, if_pos rfl, if_pos i0, c0, z0, gl_eq, if_neg hl]
      · have gv2 : gvB (σ.1 8 4) (σ.1 8 0) (σ.1 8 1) = true := by rw [gv, decide_eq_false hg]; rfl
        by_cases hl : p0 ≤ 0
        · obtain ⟨v, τ, υ, r1, r2, r3, r4⟩ := pass_fin hT hL hB hM hC hF hH hX true p0 0 hnow
          refine ⟨v, τ, υ, ?_, ?_, r3⟩
          · unfold mX9_pass
            rw [w9, gb_some, hwi, if_pos rfl, if_pos n1, dawn_eq rfl, gb_some, gl_eq, gv2, if_pos rfl, if_pos hl, gives_eq rfl, gb_some, gv2, if_pos rfl, gl_eq]
            exact r1
          · unfold mX10_pass
            rw [w10, gb_some, hwi, if_pos rfl, now_eq, gb_some, r4, z4, if_neg n2, if_pos i0, if_pos i1, c0, c1, z0, z1, if_neg hg]
            unfold mX10_pass_b44 mX10_pass_b59
            rw [gl_eq, if_neg (by decide), gl_eq, if_pos hl, if_neg (by decide), if_pos i4, if_pos i4, gl_eq, c4]
            exact r2
        · refine ⟨-2, σ, σ, ?_, ?_, hI0⟩
          · unfold mX9_pass
            rw [w9, gb_some, hwi, if_pos rfl, if_pos n1, dawn_eq rfl, gb_some, gl_eq, gv2, if_pos rfl, if_neg hl]
          · unfold mX10_pass
            rw [w10, gb_some, hwi, if_pos rfl, now_eq, gb_some, z4, if_neg n2, if_pos i0, if_pos i1, c0, c1, z0, z1, if_neg hg]
            unfold mX10_pass_b44 mX10_pass_b59
            rw [gl_eq, if_neg (by decide), gl_eq, if_neg hl]
