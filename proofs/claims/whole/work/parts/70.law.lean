/-! ===== law ===== -/
theorem gUR_ne {σ : gS} {k j a : Nat} {v : Option Nat} (h : a ≠ k) : (gUR σ k j v).2.2 a = σ.2.2 a := by
  unfold gUR
  exact if_neg h
theorem gUR_at {σ : gS} {k j b : Nat} {v : Option Nat} : (gUR σ k j v).2.2 k b = if b = j then v else σ.2.2 k b := by
  unfold gUR
  exact congrFun (if_pos rfl) b
/-- what the reading starts from -/
def rsC (K : Nat) (t : Int32) (σ : gS) : gS := gUI (gUI (gUI (gUR σ K 6 (some 17)) K 7 t) K 8 0) K 2 0
def rsM (υ : gS) : gS := gUI (gUI (gUI (gUI υ 52 17 0) 52 18 0) 52 19 0) 52 20 0
theorem rsM_ne {υ : gS} {a : Nat} (h : a ≠ 52) : (rsM υ).1 a = υ.1 a := by unfold rsM; rw [gUI_ne h, gUI_ne h, gUI_ne h, gUI_ne h]
theorem rsM_at {υ : gS} {j : Nat} (h1 : j ≠ 17) (h2 : j ≠ 18) (h3 : j ≠ 19) (h4 : j ≠ 20) : (rsM υ).1 52 j = υ.1 52 j := by unfold rsM; rw [gUI_at, if_neg h4, gUI_at, if_neg h3, gUI_at, if_neg h2, gUI_at, if_neg h1]
theorem rsC_ne {K : Nat} {t : Int32} {σ : gS} {a : Nat} (h : a ≠ K) : (rsC K t σ).1 a = σ.1 a := by unfold rsC; rw [gUI_ne h, gUI_ne h, gUI_ne h]; rfl
theorem rs_text {K t : Nat} {σ υ : gS} (hK : K = 18 ∨ K = 23) (ht : t ≤ 120) (hr : ∀ j, j < t → rg (σ.1 17 j) 0 255) (h60 : υ.1 60 = σ.1 17) (h9 : υ.1 52 9 = nI t) : TXE K t (rsC K (nI t) σ) (rsM υ) (mX3_readText (rsC K (nI t) σ) K) (mX10_law υ) := by
  have gK : gk K = 3 := by rcases hK with rfl | rfl <;> rfl
  have q0 : QB K t (σ.1 17) 0 0 0 (rsC K (nI t) σ) (rsM υ) := by
    refine ⟨⟨hK, ht, hr, ?_, rsC_ne (by omega), (rsM_ne (by decide)).trans h60, ?_, (rsM_at (by decide) (by decide) (by decide) (by decide)).trans h9⟩, Nat.zero_le _, Nat.le_refl _, Nat.le_refl _, ?_, ?_, ?_, ?_⟩
    · show (gUR σ K 6 (some 17)).2.2 K 6 = some 17
      rw [gUR_at, if_pos rfl]
    · unfold rsC; rw [gUI_at, if_neg (by decide), gUI_at, if_neg (by decide), gUI_at, if_pos rfl]
    · unfold rsC; rw [gUI_at, if_neg (by decide), gUI_at, if_pos rfl]; rfl
    · unfold rsM; rw [gUI_at, if_neg (by decide), gUI_at, if_neg (by decide), gUI_at, if_neg (by decide), gUI_at, if_pos rfl]; rfl
    · unfold rsC; rw [gUI_at, if_pos rfl]; rfl
    · unfold rsM; rw [gUI_at, if_neg (by decide), gUI_at, if_pos rfl]; rfl
  have R := text_loop (σ0 := rsC K (nI t) σ) (υ0 := rsM υ) gK (t + 1) 1100 1100 0 0 0 [] (rsC K (nI t) σ) (rsM υ) q0 (by unfold rsM; rw [gUI_at, if_neg (by decide), gUI_at, if_neg (by decide), gUI_at, if_pos rfl]; rfl) (by unfold rsM; rw [gUI_at, if_pos rfl]; rfl) (Nat.le_refl _) rfl ⟨rfl, rfl⟩ (fun x hx => absurd hx (List.not_mem_nil)) (fP_rf K 0 _) (fR_rf 0 0 _) (by omega) (by omega) (by omega)
  have e1 : mX3_readText (rsC K (nI t) σ) K = mX3_readText_b2 K 1100 (rsC K (nI t) σ) (nI ([] : List (List Nat × List Nat)).length) := by
    unfold mX3_readText
    rw [if_pos gK, gl_eq]
    rfl
  have e2 : mX10_law υ = gBind (mX10_isLine (rsM υ)) (fun r s => gLet (b2i r) (fun v => mX10_law_b25 1100 s v)) := by
    unfold mX10_law rsM
    rw [gl_eq, gl_eq, gl_eq, gl_eq]
  rw [e1, e2]
  exact R
/-- what holds after both read -/
theorem law_Inv {σ τ : gS} {K : Nat} (hK : K = 18 ∨ K = 23) (hI : Inv σ) (h1 : ∀ a, a ≠ 0 → a ≠ K → a ≠ K + 1 → a ≠ K + 2 → a ≠ 52 → (a < 61 ∨ 68 < a) → τ.1 a = σ.1 a) (h0 : ∀ j, j ≠ 6 → τ.1 0 j = σ.1 0 j) (h52 : ∀ j, j ≠ 9 → j ≠ 11 → j ≠ 12 → j ≠ 17 → j ≠ 18 → j ≠ 19 → j ≠ 20 → τ.1 52 j = σ.1 52 j) (h2 : τ.2.1 = σ.2.1) (hL : IL τ) (t0 : τ.1 0 6 = 0) (t9 : τ.1 52 9 = 0) : Inv τ := by
  obtain ⟨f, w, b, hV, hS, hT, -, hB, hM, hC, hF, hH⟩ := hI
  have n : ∀ a, (a < 61 ∨ 68 < a) → a ≠ 0 → a ≠ 52 → (a < 18 ∨ 25 < a) → τ.1 a = σ.1 a := fun a x y w v => h1 a y (by omega) (by omega) (by omega) w x
  have e52 : ∀ j, j < 9 ∨ 20 < j → τ.1 52 j = σ.1 52 j := fun j hj => h52 j (by omega) (by omega) (by omega) (by omega) (by omega) (by omega) (by omega)
  have N : ∀ a, a ≠ 0 → a ≠ 52 → (a < 18 ∨ 25 < a) → (a < 61 ∨ 68 < a) → ∀ j, τ.1 a j = σ.1 a j := fun a x y v u j => by rw [n a u x y v]
  refine ⟨f, w, b, IV_ag hV (N 1 (by decide) (by decide) (by decide) (by decide) 0) (e52 0 (by decide)) (N 1 (by decide) (by decide) (by decide) (by decide) 3) (e52 3 (by decide)) (n 2 (by decide) (by decide) (by decide) (by decide)) (n 3 (by decide) (by decide) (by decide) (by decide)) (n 4 (by decide) (by decide) (by decide) (by decide)) (n 5 (by decide) (by decide) (by decide) (by decide)) (n 6 (by decide) (by decide) (by decide) (by decide)) (n 7 (by decide) (by decide) (by decide) (by decide)) (n 53 (by decide) (by decide) (by decide) (by decide)) (n 54 (by decide) (by decide) (by decide) (by decide)) (n 55 (by decide) (by decide) (by decide) (by decide)) (n 56 (by decide) (by decide) (by decide) (by decide)) (n 57 (by decide) (by decide) (by decide) (by decide)) (n 58 (by decide) (by decide) (by decide) (by decide)), IS_ag hS (N 8 (by decide) (by decide) (by decide) (by decide)) (N 59 (by decide) (by decide) (by decide) (by decide)), ⟨0, by decide, t0, t9, ?_, fun j hj => absurd hj (Nat.not_lt_zero j)⟩, hL, IB_ag hB (N 28 (by decide) (by decide) (by decide) (by decide)) (N 71 (by decide) (by decide) (by decide) (by decide)), IM_ag hM (e52 28 (by decide)) (h0 12 (by decide)) (n 72 (by decide) (by decide) (by decide) (by decide)) (n 30 (by decide) (by decide) (by decide) (by decide)) (n 29 (by decide) (by decide) (by decide) (by decide)), IC_ag hC (N 31 (by decide) (by decide) (by decide) (by decide) 4) (N 31 (by decide) (by decide) (by decide) (by decide) 5) (e52 31 (by decide)) (e52 30 (by decide)) (n 73 (by decide) (by decide) (by decide) (by decide)) (n 32 (by decide) (by decide) (by decide) (by decide)) (n 33 (by decide) (by decide) (by decide) (by decide)) (n 34 (by decide) (by decide) (by decide) (by decide)) (n 35 (by decide) (by decide) (by decide) (by decide)), IF_ag hF (N 36 (by decide) (by decide) (by decide) (by decide) 0) (e52 33 (by decide)) (N 36 (by decide) (by decide) (by decide) (by decide) 3) (e52 35 (by decide)) (n 74 (by decide) (by decide) (by decide) (by decide)) (n 37 (by decide) (by decide) (by decide) (by decide)) (n 75 (by decide) (by decide) (by decide) (by decide)) (n 38 (by decide) (by decide) (by decide) (by decide)), IH_ag hH (fun k x y => ⟨n k (by omega) (by omega) (by omega) (by omega), by rw [h2]⟩) (n 76 (by decide) (by decide) (by decide) (by decide)) (n 77 (by decide) (by decide) (by decide) (by decide)) (by rw [h2])⟩
  obtain ⟨t, -, -, -, e, -⟩ := hT
  rw [n 60 (by decide) (by decide) (by decide) (by decide), n 17 (by decide) (by decide) (by decide) (by decide)]
  exact e
theorem gMM {t : Nat} (h : t ≤ 120) : gMax 0 (gMin (nI t) 120) = nI t := by
  have e : gMin (nI t) 120 = nI t := by
    unfold gMin
    by_cases q : (120 : Int32) < nI t
    · exact absurd q (nI_nlt (a := 120) (b := t) h (by omega))
    · rw [if_neg q]
  rw [e]
  unfold gMax
  by_cases q : (0 : Int32) < nI t
  · rw [if_pos q]
  · rw [if_neg q]
    by_cases t0 : t = 0
    · rw [t0]; rfl
    · exact absurd (nI_lt (a := 0) (by omega) (by omega)) q
theorem k9_law {σ : gS} {K t : Nat} (hK : gk K = 3) (h8 : σ.2.2 0 8 = some K) (h6 : σ.1 0 6 = nI t) (ht : t ≤ 120) {r : Bool} {σ' : gS} (hr : mX3_readText (rsC K (nI t) σ) K = some (r, σ')) : mX9_law σ = gLet (if r = true then (-1 : Int32) else σ'.1 K 8) (fun v4 => gLet (gUI σ' 0 6 0) (fun s5 => if v4 = (-1) then (gOpt (s5.2.2 0 7) (none) (fun k6 => if gk k6 = 3 then (gOpt (s5.2.2 0 8) (none) (fun k7 => if gk k7 = 3 then (gLet (gUR s5 0 7 (some k7)) (fun s8 => gLet (gUR s8 0 8 (some k6)) (fun s9 => some (1, s9)))) else none)) else none)) else (some (((-100) - v4), s5)))) := by
  have e : mX3_read σ K 17 (σ.1 0 6) = some (if r = true then (-1 : Int32) else σ'.1 K 8, σ') := by
    unfold mX3_read
    rw [if_pos hK, if_pos (show gk 17 = 1120 from rfl), h6, gMM ht, gl_eq, gl_eq, gl_eq, gl_eq]
    show gBind (mX3_readText (rsC K (nI t) σ) K) _ = _
    rw [hr, gb_some]
    cases r
    · rfl
    · rfl
  unfold mX9_law
  rw [h8]
  show (if gk K = 3 then _ else none) = _
  rw [if_pos hK, e, gb_some, gl_eq]
theorem s_law : S_law Inv := by
  intro σ hI
  obtain ⟨f, w, b, hV, hS, hT, hL, hB, hM, hC, hF, hH⟩ := id hI
  obtain ⟨t, ht, t6, t9, t60, tr⟩ := hT
  obtain ⟨K0, F, hK0, r7, r8, lc, lm⟩ := hL
  obtain ⟨K, hKd⟩ : ∃ K, K = 41 - K0 := ⟨_, rfl⟩
  rw [← hKd] at r8
  have hK : K = 18 ∨ K = 23 := by omega
  have hKK : K0 = 41 - K := by omega
  have gK : gk K = 3 := by rcases hK with rfl | rfl <;> rfl
  have gK0 : gk K0 = 3 := by rcases hK0 with rfl | rfl <;> rfl
  have C0 : ∀ (σ' : gS), fP K 0 (rsC K (nI t) σ) σ' → (∀ a, a ≠ K → a ≠ K + 1 → a ≠ K + 2 → σ'.1 a = σ.1 a) ∧ σ'.2.1 = σ.2.1 ∧ (∀ a, a ≠ K → σ'.2.2 a = σ.2.2 a) := fun σ' h => by
    refine ⟨fun a x y w => by rw [h.1 a x y w, rsC_ne x], by rw [h.2.2.1]; rfl, fun a x => ?_⟩
    rw [h.2.2.1]
    exact gUR_ne x
  -- the second time: behind the class's own end
  have two : ∀ (υ : gS), (∀ a, a ≠ K → a ≠ K + 1 → a ≠ K + 2 → a ≠ 0 → υ.1 a = σ.1 a) → TXE K t (rsC K (nI t) σ) (rsM υ) (mX3_readText (rsC K (nI t) σ) K) (mX10_law υ) := fun υ h => rs_text hK ht tr (by rw [h 60 (by omega) (by omega) (by omega) (by decide)]; exact t60) (by rw [h 52 (by omega) (by omega) (by omega) (by decide)]; exact t9)
  rcases two σ (fun _ _ _ _ _ => rfl) with ⟨σ', υ', z, c, ls, a1, -, -, -, -, -, -, -, -, -, -, -, a2, -⟩ | ⟨σ', υ', p, a1, -, a2, -, a3, a4, -⟩
  · obtain ⟨c1, c2, c3⟩ := C0 σ' a2
    have s7 : (gUI σ' 0 6 0).2.2 0 7 = some K0 := by
      show σ'.2.2 0 7 = _
      rw [c3 0 (by omega)]; exact r7
    have s8 : (gUI σ' 0 6 0).2.2 0 8 = some K := by
      show σ'.2.2 0 8 = _
      rw [c3 0 (by omega)]; exact r8
    obtain ⟨s9, hs9⟩ : ∃ s9, s9 = gUR (gUR (gUI σ' 0 6 0) 0 7 (some K)) 0 8 (some K0) := ⟨_, rfl⟩
    have x1 : mX9_law σ = some (1, s9) := by
      rw [k9_law gK r8 t6 ht a1, gl_eq, gl_eq, if_pos rfl, if_pos rfl, s7]
      show (if gk K0 = 3 then _ else none) = _
      rw [if_pos gK0, s8]
      show (if gk K = 3 then _ else none) = _
      rw [if_pos gK, gl_eq, gl_eq, hs9]
    have d1 : ∀ a, a ≠ 0 → s9.1 a = σ'.1 a := fun a x => by
      rw [hs9]
      show (gUI σ' 0 6 0).1 a = _
      exact gUI_ne x
    have d0 : ∀ j, j ≠ 6 → s9.1 0 j = σ.1 0 j := fun j x => by
      rw [hs9]
      show (gUI σ' 0 6 0).1 0 j = _
      rw [gUI_at, if_neg x, c1 0 (by omega) (by omega) (by omega)]
    have d6 : s9.1 0 6 = 0 := by
      rw [hs9]
      show (gUI σ' 0 6 0).1 0 6 = _
      rw [gUI_at, if_pos rfl]
    rcases two s9 (fun a x y w v => by rw [d1 a v, c1 a x y w]) with ⟨σ2, υ2, z2, c2', ls2, b1, b2, b3, b4, b5, b6, b7, b8, b9, b10, b11, b12, b13, b14⟩ | ⟨σ2, υ2, p2, b1, -⟩
    · have e : σ2 = σ' := by
        have q := b1.symm.trans a1
        injection q with q
        injection q
      rw [e] at b7 b10
      obtain ⟨s14, hs14⟩ : ∃ s14, s14 = gUI (gUI (gUI υ2 52 9 0) 52 11 1) 52 12 (nI ls2.length) := ⟨_, rfl⟩
      have n14 : ∀ a, a ≠ 52 → s14.1 a = υ2.1 a := fun a x => by rw [hs14, gUI_ne x, gUI_ne x, gUI_ne x]
      have m14 : ∀ j, j ≠ 9 → j ≠ 11 → j ≠ 12 → s14.1 52 j = υ2.1 52 j := fun j x y w => by rw [hs14, gUI_at, if_neg w, gUI_at, if_neg y, gUI_at, if_neg x]
      obtain ⟨τ, q1, q2, q3, q4, q5⟩ := b99_loop (Q := ls2.length) (c := c2') b6 (by omega) ls2.length 0 1100 s14 (by omega) (by rw [hs14, gUI_at, if_pos rfl]) (by rw [m14 19 (by decide) (by decide) (by decide)]; exact b8) (fun j hj => absurd hj (Nat.not_lt_zero j)) (by omega)
      have x2 : mX10_law s9 = some (1, τ) := by
        rw [b2]
        unfold mX10_law_b66
        rw [gl_eq, gl_eq, if_neg (show ¬ (1 : Int32) = 0 by decide), gl_eq, gl_eq, gl_eq, gUI_at, if_neg (by decide), gUI_at, if_neg (by decide), b9, ← hs14]
        exact q1
      have fin : ∀ a, a ≠ 52 → (a < 61 ∨ 68 < a) → τ.1 a = s9.1 a := fun a x y => by
        rw [q2 a (by omega) (by omega) (by omega) (by omega), n14 a x, b14.1 a x (by omega) (by omega) (by omega) (by omega), rsM_ne x]
      have fin2 : τ.2 = s9.2 := by
        rw [q3, hs14]
        show υ2.2 = _
        rw [b14.2.2.1]
        rfl
      have k9 : ∀ j, j ≠ 9 → j ≠ 11 → j ≠ 12 → j ≠ 17 → j ≠ 18 → j ≠ 19 → j ≠ 20 → τ.1 52 j = s9.1 52 j := fun j x1 x2 x3 x4 x5 x6 x7 => by
        rw [q2 52 (by decide) (by decide) (by decide) (by decide), m14 j x1 x2 x3, b14.2.1 j x4 x5 x6 x7, rsM_at x4 x5 x6 x7]
      refine ⟨1, s9, τ, x1, x2, law_Inv hK hI (fun a y0 y1 y2 y3 y4 y5 => by rw [fin a y4 y5, d1 a y0, c1 a y1 y2 y3]) (fun j hj => by rw [fin 0 (by decide) (by decide)]; exact d0 j hj) (fun j x1 x2 x3 x4 x5 x6 x7 => by rw [k9 j x1 x2 x3 x4 x5 x6 x7, d1 52 (by decide), c1 52 (by omega) (by omega) (by omega)]) ?_ ?_ (by rw [fin 0 (by decide) (by decide)]; exact d6) ?_⟩
      · rw [fin2, hs9]
        exact c2
      · refine ⟨K, FT ls2, hK, ?_, ?_, ?_, ?_⟩
        · rw [fin2, hs9, gUR_at, if_neg (by decide), gUR_at, if_pos rfl]
        · rw [fin2, hs9, gUR_at, if_pos rfl, hKK]
        · rw [fin K (by omega) (by omega), fin (K + 1) (by omega) (by omega), fin (K + 2) (by omega) (by omega), d1 K (by omega), d1 (K + 1) (by omega), d1 (K + 2) (by omega), b7]
          exact LawC_of hK b4 b3 b10 b12
        · have e11 : τ.1 52 11 = 1 := by rw [q2 52 (by decide) (by decide) (by decide) (by decide), hs14, gUI_at, if_neg (by decide), gUI_at, if_pos rfl]
          have e12 : τ.1 52 12 = nI ls2.length := by rw [q2 52 (by decide) (by decide) (by decide) (by decide), hs14, gUI_at, if_pos rfl]
          rw [e11, e12]
          refine LawM_of b6 (P := c2') (by omega) (LinM_ag ls2 0 0 _ _ (fun j hj => ?_) (fun j hj => ?_) b11) b12
          · obtain ⟨y1, y2, y3⟩ := q4 j hj
            rw [n14 65 (by decide)] at y1
            rw [n14 66 (by decide)] at y2
            rw [n14 67 (by decide)] at y3
            exact ⟨y1, y2, y3⟩
          · rw [q5 j hj, n14 68 (by decide)]
      · rw [q2 52 (by decide) (by decide) (by decide) (by decide), hs14, gUI_at, if_neg (by decide), gUI_at, if_neg (by decide), gUI_at, if_pos rfl]
    · rw [a1] at b1
      injection b1 with b1
      injection b1 with b1 _
      cases b1
  · obtain ⟨c1, c2, c3⟩ := C0 σ' a4
    obtain ⟨s5, hs5⟩ : ∃ s5, s5 = gUI σ' 0 6 0 := ⟨_, rfl⟩
    have x1 : mX9_law σ = some (-100 - nI p, s5) := by
      rw [k9_law gK r8 t6 ht a1, gl_eq, gl_eq, if_neg (show ¬ false = true by decide), a2, if_neg (nI_n1 (by omega)), hs5]
    have d1 : ∀ a, a ≠ 0 → s5.1 a = σ'.1 a := fun a x => by rw [hs5]; exact gUI_ne x
    have d0 : ∀ j, j ≠ 6 → s5.1 0 j = σ.1 0 j := fun j x => by rw [hs5, gUI_at, if_neg x, c1 0 (by omega) (by omega) (by omega)]
    rcases two s5 (fun a x y w v => by rw [d1 a v, c1 a x y w]) with ⟨σ2, υ2, z2, c2', ls2, b1, -⟩ | ⟨σ2, υ2, p2, b1, b2, b3, b4, b5, b6, b7⟩
    · rw [a1] at b1
      injection b1 with b1
      injection b1 with b1 _
      cases b1
    · have e : σ2 = σ' := by
        have q := b1.symm.trans a1
        injection q with q
        injection q
      have ep : nI p2 = nI p := by rw [← b3, e, a2]
      obtain ⟨τ, hτ⟩ : ∃ τ, τ = gUI υ2 52 9 0 := ⟨_, rfl⟩
      have x2 : mX10_law s5 = some (-100 - nI p, τ) := by
        rw [b2]
        unfold mX10_law_b66
        rw [gl_eq, gl_eq, if_pos rfl, gUI_at, if_neg (by decide), b4, ep, hτ]
      have fin : ∀ a, a ≠ 52 → (a < 65 ∨ 68 < a) → τ.1 a = s5.1 a := fun a x y => by
        rw [hτ, gUI_ne x, b7.1 a x (by omega) (by omega) (by omega) (by omega), rsM_ne x]
      have fin2 : τ.2 = s5.2 := by
        rw [hτ]
        show υ2.2 = _
        rw [b7.2.2.1]
        rfl
      have k9 : ∀ j, j ≠ 9 → j ≠ 17 → j ≠ 18 → j ≠ 19 → j ≠ 20 → τ.1 52 j = s5.1 52 j := fun j x1 x4 x5 x6 x7 => by
        rw [hτ, gUI_at, if_neg x1, b7.2.1 j x4 x5 x6 x7, rsM_at x4 x5 x6 x7]
      have f52 : ∀ j, j ≠ 9 → j ≠ 17 → j ≠ 18 → j ≠ 19 → j ≠ 20 → τ.1 52 j = σ.1 52 j := fun j x1 x4 x5 x6 x7 => by rw [k9 j x1 x4 x5 x6 x7, d1 52 (by decide), c1 52 (by omega) (by omega) (by omega)]
      have fa : ∀ a, a ≠ 0 → a ≠ K → a ≠ K + 1 → a ≠ K + 2 → a ≠ 52 → (a < 65 ∨ 68 < a) → τ.1 a = σ.1 a := fun a y0 y1 y2 y3 y4 y5 => by rw [fin a y4 y5, d1 a y0, c1 a y1 y2 y3]
      have fr : ∀ a, a ≠ K → τ.2.2 a = σ.2.2 a := fun a x => by
        rw [fin2, hs5]
        exact c3 a x
      refine ⟨-100 - nI p, s5, τ, x1, x2, law_Inv hK hI (fun a y0 y1 y2 y3 y4 y5 => fa a y0 y1 y2 y3 y4 (by omega)) (fun j hj => by rw [fin 0 (by decide) (by decide)]; exact d0 j hj) (fun j x1 x2 x3 x4 x5 x6 x7 => f52 j x1 x4 x5 x6 x7) ?_ ?_ ?_ ?_⟩
      · rw [fin2, hs5]
        exact c2
      · refine ⟨K0, F, hK0, ?_, ?_, ?_, ?_⟩
        · rw [fr 0 (by omega)]; exact r7
        · rw [fr 0 (by omega), ← hKd]; exact r8
        · rw [fa K0 (by omega) (by omega) (by omega) (by omega) (by omega) (by omega), fa (K0 + 1) (by omega) (by omega) (by omega) (by omega) (by omega) (by omega), fa (K0 + 2) (by omega) (by omega) (by omega) (by omega) (by omega) (by omega)]
          exact lc
        · rw [f52 11 (by decide) (by decide) (by decide) (by decide) (by decide), f52 12 (by decide) (by decide) (by decide) (by decide) (by decide), fa 61 (by decide) (by omega) (by omega) (by omega) (by decide) (by decide), fa 62 (by decide) (by omega) (by omega) (by omega) (by decide) (by decide), fa 63 (by decide) (by omega) (by omega) (by omega) (by decide) (by decide), fa 64 (by decide) (by omega) (by omega) (by omega) (by decide) (by decide)]
          exact lm
      · rw [fin 0 (by decide) (by decide), hs5, gUI_at, if_pos rfl]
      · rw [hτ, gUI_at, if_pos rfl]
