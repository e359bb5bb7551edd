/-! ===== a number changes in both: undo, redo ===== -/
theorem Inv_num {σ τ : gS} {f w b kc km j : Nat} {q v : Int32} (hV : IV σ f w) (hS : IS σ) (hT : IT σ) (hL : IL σ) (hB : IB σ) (hM : IM σ) (hF : IF σ b) (hH : IH σ b) (hp : PrC kc km j q f w) (hv : okV q v) (h1 : ∀ a, a ≠ kc → a ≠ km → (a < 31 ∨ 35 < a) → a ≠ 52 → a ≠ 73 → τ.1 a = σ.1 a) (hc : ∀ i, τ.1 kc i = if i = j then v else σ.1 kc i) (hm : ∀ i, τ.1 km i = if i = j then v else σ.1 km i) (h52 : ∀ i, i ≠ 30 → i ≠ 31 → τ.1 52 i = σ.1 52 i) (hr : τ.2 = σ.2) (hC : IC τ f w) : Inv τ := by
  obtain ⟨hf, hw, e1, e2, e3, e4, e5, e6, e7, e8, e9, e10, e12, e11⟩ := id hV
  obtain ⟨q0, q1, q2, q3, q4, q5, q6, q7⟩ := id hS
  have hkc : kc ≤ 8 ∧ 2 ≤ kc := by rcases hp with ⟨rfl, -⟩ | ⟨rfl, -⟩ | ⟨rfl, -⟩ | ⟨rfl, -⟩ | ⟨rfl, -⟩ | ⟨rfl, -⟩ <;> decide
  have hkm : km ≤ 59 ∧ 53 ≤ km := by rcases hp with ⟨-, rfl, -⟩ | ⟨-, rfl, -⟩ | ⟨-, rfl, -⟩ | ⟨-, rfl, -⟩ | ⟨-, rfl, -⟩ | ⟨-, rfl, -⟩ <;> decide
  have g : ∀ a, (a < 2 ∨ (8 < a ∧ a < 31) ∨ (35 < a ∧ a < 52) ∨ (59 < a ∧ a ≠ 73)) → τ.1 a = σ.1 a := fun a ha => h1 a (by omega) (by omega) (by omega) (by omega) (by omega)
  have rest : IV τ f w → IS τ → Inv τ := fun hV2 hS2 => ⟨f, w, b, hV2, hS2, IT_ag hT (by rw [g 0 (by omega)]) (h52 9 (by decide) (by decide)) (g 17 (by omega)) (g 60 (by omega)),
    IL_ag hL (by rw [hr]) (by rw [hr]) (fun k hk => ⟨by rw [g k (by omega)], g _ (by omega), g _ (by omega)⟩) (h52 11 (by decide) (by decide)) (h52 12 (by decide) (by decide)) (g 61 (by omega)) (g 62 (by omega)) (g 63 (by omega)) (g 64 (by omega)),
    IB_ag hB (fun _ => by rw [g 28 (by omega)]) (fun _ => by rw [g 71 (by omega)]), IM_ag hM (h52 28 (by decide) (by decide)) (by rw [g 0 (by omega)]) (g 72 (by omega)) (g 30 (by omega)) (g 29 (by omega)), hC,
    IF_ag hF (by rw [g 36 (by omega)]) (h52 33 (by decide) (by decide)) (by rw [g 36 (by omega)]) (h52 35 (by decide) (by decide)) (g 74 (by omega)) (g 37 (by omega)) (g 75 (by omega)) (g 38 (by omega)),
    IH_ag hH (fun k x1 x2 => ⟨g k (by omega), by rw [hr]⟩) (g 76 (by omega)) (g 77 (by omega)) (by rw [hr])⟩
  have v1 : τ.1 1 0 = nI f := by rw [g 1 (by omega)]; exact e1
  have v3 : τ.1 1 3 = nI w := by rw [g 1 (by omega)]; exact e3
  have v2 : τ.1 52 0 = nI f := (h52 0 (by decide) (by decide)).trans e2
  have v4 : τ.1 52 3 = nI w := (h52 3 (by decide) (by decide)).trans e4
  rcases hp with ⟨rfl, rfl, rfl, hj⟩ | ⟨rfl, rfl, rfl, hj⟩ | ⟨rfl, rfl, rfl, hj⟩ | ⟨rfl, rfl, rfl, hj⟩ | ⟨rfl, rfl, rfl, hj⟩ | ⟨rfl, rfl, hj, rfl⟩
  · exact rest ⟨hf, hw, v1, v2, v3, v4, (funext fun i => by rw [hc, hm, e5]), (by rw [h1 54 (by decide) (by decide) (by decide) (by decide) (by decide), h1 3 (by decide) (by decide) (by decide) (by decide) (by decide)]; exact e6), (by rw [h1 55 (by decide) (by decide) (by decide) (by decide) (by decide), h1 4 (by decide) (by decide) (by decide) (by decide) (by decide)]; exact e7), (by rw [h1 56 (by decide) (by decide) (by decide) (by decide) (by decide), h1 5 (by decide) (by decide) (by decide) (by decide) (by decide)]; exact e8), (by rw [h1 57 (by decide) (by decide) (by decide) (by decide) (by decide), h1 6 (by decide) (by decide) (by decide) (by decide) (by decide)]; exact e9), (by rw [h1 58 (by decide) (by decide) (by decide) (by decide) (by decide), h1 7 (by decide) (by decide) (by decide) (by decide) (by decide)]; exact e10), (fun i => by rw [h1 3 (by decide) (by decide) (by decide) (by decide) (by decide)]; exact e12 i), (fun i hi => by rw [h1 5 (by decide) (by decide) (by decide) (by decide) (by decide), h1 6 (by decide) (by decide) (by decide) (by decide) (by decide)]; exact e11 i hi)⟩ (IS_ag hS (fun _ => by rw [h1 8 (by decide) (by decide) (by decide) (by decide) (by decide)]) (fun _ => by rw [h1 59 (by decide) (by decide) (by decide) (by decide) (by decide)]))
  · exact rest ⟨hf, hw, v1, v2, v3, v4, (by rw [h1 53 (by decide) (by decide) (by decide) (by decide) (by decide), h1 2 (by decide) (by decide) (by decide) (by decide) (by decide)]; exact e5), (funext fun i => by rw [hc, hm, e6]), (by rw [h1 55 (by decide) (by decide) (by decide) (by decide) (by decide), h1 4 (by decide) (by decide) (by decide) (by decide) (by decide)]; exact e7), (by rw [h1 56 (by decide) (by decide) (by decide) (by decide) (by decide), h1 5 (by decide) (by decide) (by decide) (by decide) (by decide)]; exact e8), (by rw [h1 57 (by decide) (by decide) (by decide) (by decide) (by decide), h1 6 (by decide) (by decide) (by decide) (by decide) (by decide)]; exact e9), (by rw [h1 58 (by decide) (by decide) (by decide) (by decide) (by decide), h1 7 (by decide) (by decide) (by decide) (by decide) (by decide)]; exact e10), (fun i => by rw [hc]; exact (if hij : i = j then by rw [if_pos hij]; exact hv.2.2.2.2.2.2 rfl else by rw [if_neg hij]; exact e12 i)), (fun i hi => by rw [h1 5 (by decide) (by decide) (by decide) (by decide) (by decide), h1 6 (by decide) (by decide) (by decide) (by decide) (by decide)]; exact e11 i hi)⟩ (IS_ag hS (fun _ => by rw [h1 8 (by decide) (by decide) (by decide) (by decide) (by decide)]) (fun _ => by rw [h1 59 (by decide) (by decide) (by decide) (by decide) (by decide)]))
  · exact rest ⟨hf, hw, v1, v2, v3, v4, (by rw [h1 53 (by decide) (by decide) (by decide) (by decide) (by decide), h1 2 (by decide) (by decide) (by decide) (by decide) (by decide)]; exact e5), (by rw [h1 54 (by decide) (by decide) (by decide) (by decide) (by decide), h1 3 (by decide) (by decide) (by decide) (by decide) (by decide)]; exact e6), (by rw [h1 55 (by decide) (by decide) (by decide) (by decide) (by decide), h1 4 (by decide) (by decide) (by decide) (by decide) (by decide)]; exact e7), (funext fun i => by rw [hc, hm, e8]), (by rw [h1 57 (by decide) (by decide) (by decide) (by decide) (by decide), h1 6 (by decide) (by decide) (by decide) (by decide) (by decide)]; exact e9), (by rw [h1 58 (by decide) (by decide) (by decide) (by decide) (by decide), h1 7 (by decide) (by decide) (by decide) (by decide) (by decide)]; exact e10), (fun i => by rw [h1 3 (by decide) (by decide) (by decide) (by decide) (by decide)]; exact e12 i), (fun i hi => by
      rw [hc, h1 6 (by decide) (by decide) (by decide) (by decide) (by decide)]
      by_cases hij : i = j
      · rw [if_pos hij]; exact ⟨hv.1 rfl, (e11 i hi).2⟩
      · rw [if_neg hij]; exact e11 i hi)⟩ (IS_ag hS (fun _ => by rw [h1 8 (by decide) (by decide) (by decide) (by decide) (by decide)]) (fun _ => by rw [h1 59 (by decide) (by decide) (by decide) (by decide) (by decide)]))
  · exact rest ⟨hf, hw, v1, v2, v3, v4, (by rw [h1 53 (by decide) (by decide) (by decide) (by decide) (by decide), h1 2 (by decide) (by decide) (by decide) (by decide) (by decide)]; exact e5), (by rw [h1 54 (by decide) (by decide) (by decide) (by decide) (by decide), h1 3 (by decide) (by decide) (by decide) (by decide) (by decide)]; exact e6), (by rw [h1 55 (by decide) (by decide) (by decide) (by decide) (by decide), h1 4 (by decide) (by decide) (by decide) (by decide) (by decide)]; exact e7), (by rw [h1 56 (by decide) (by decide) (by decide) (by decide) (by decide), h1 5 (by decide) (by decide) (by decide) (by decide) (by decide)]; exact e8), (funext fun i => by rw [hc, hm, e9]), (by rw [h1 58 (by decide) (by decide) (by decide) (by decide) (by decide), h1 7 (by decide) (by decide) (by decide) (by decide) (by decide)]; exact e10), (fun i => by rw [h1 3 (by decide) (by decide) (by decide) (by decide) (by decide)]; exact e12 i), (fun i hi => by
      rw [hc, h1 5 (by decide) (by decide) (by decide) (by decide) (by decide)]
      by_cases hij : i = j
      · rw [if_pos hij]; exact ⟨(e11 i hi).1, hv.2.1 rfl⟩
      · rw [if_neg hij]; exact e11 i hi)⟩ (IS_ag hS (fun _ => by rw [h1 8 (by decide) (by decide) (by decide) (by decide) (by decide)]) (fun _ => by rw [h1 59 (by decide) (by decide) (by decide) (by decide) (by decide)]))
  · exact rest ⟨hf, hw, v1, v2, v3, v4, (by rw [h1 53 (by decide) (by decide) (by decide) (by decide) (by decide), h1 2 (by decide) (by decide) (by decide) (by decide) (by decide)]; exact e5), (by rw [h1 54 (by decide) (by decide) (by decide) (by decide) (by decide), h1 3 (by decide) (by decide) (by decide) (by decide) (by decide)]; exact e6), (by rw [h1 55 (by decide) (by decide) (by decide) (by decide) (by decide), h1 4 (by decide) (by decide) (by decide) (by decide) (by decide)]; exact e7), (by rw [h1 56 (by decide) (by decide) (by decide) (by decide) (by decide), h1 5 (by decide) (by decide) (by decide) (by decide) (by decide)]; exact e8), (by rw [h1 57 (by decide) (by decide) (by decide) (by decide) (by decide), h1 6 (by decide) (by decide) (by decide) (by decide) (by decide)]; exact e9), (funext fun i => by rw [hc, hm, e10]), (fun i => by rw [h1 3 (by decide) (by decide) (by decide) (by decide) (by decide)]; exact e12 i), (fun i hi => by rw [h1 5 (by decide) (by decide) (by decide) (by decide) (by decide), h1 6 (by decide) (by decide) (by decide) (by decide) (by decide)]; exact e11 i hi)⟩ (IS_ag hS (fun _ => by rw [h1 8 (by decide) (by decide) (by decide) (by decide) (by decide)]) (fun _ => by rw [h1 59 (by decide) (by decide) (by decide) (by decide) (by decide)]))
  · refine rest ⟨hf, hw, v1, v2, v3, v4, (by rw [h1 53 (by decide) (by decide) (by decide) (by decide) (by decide), h1 2 (by decide) (by decide) (by decide) (by decide) (by decide)]; exact e5), (by rw [h1 54 (by decide) (by decide) (by decide) (by decide) (by decide), h1 3 (by decide) (by decide) (by decide) (by decide) (by decide)]; exact e6), (by rw [h1 55 (by decide) (by decide) (by decide) (by decide) (by decide), h1 4 (by decide) (by decide) (by decide) (by decide) (by decide)]; exact e7), (by rw [h1 56 (by decide) (by decide) (by decide) (by decide) (by decide), h1 5 (by decide) (by decide) (by decide) (by decide) (by decide)]; exact e8), (by rw [h1 57 (by decide) (by decide) (by decide) (by decide) (by decide), h1 6 (by decide) (by decide) (by decide) (by decide) (by decide)]; exact e9), (by rw [h1 58 (by decide) (by decide) (by decide) (by decide) (by decide), h1 7 (by decide) (by decide) (by decide) (by decide) (by decide)]; exact e10), (fun i => by rw [h1 3 (by decide) (by decide) (by decide) (by decide) (by decide)]; exact e12 i), (fun i hi => by rw [h1 5 (by decide) (by decide) (by decide) (by decide) (by decide), h1 6 (by decide) (by decide) (by decide) (by decide) (by decide)]; exact e11 i hi)⟩ ?_
    unfold IS
    simp only [hc, hm]
    rcases (show j = 0 ∨ j = 1 ∨ j = 2 ∨ j = 3 ∨ j = 4 by omega) with rfl | rfl | rfl | rfl | rfl
    · exact ⟨rfl, q1, q2, q3, q4, q5, q6, q7.1, hv.2.2.2.2.2.1 rfl⟩
    · exact ⟨q0, rfl, q2, q3, q4, q5, q6, q7⟩
    · exact ⟨q0, q1, rfl, q3, q4, q5, hv.2.2.1 rfl, q7⟩
    · exact ⟨q0, q1, q2, rfl, q4, q5, q6, hv.2.2.2.1 rfl, q7.2⟩
    · exact ⟨q0, q1, q2, q3, rfl, hv.2.2.2.2.1 rfl, q6, q7⟩
theorem e4n (d : Nat) : (4 * nI d : Int32) = nI (4 * d) := (Int32.ofNat_mul 4 d).symm
theorem PrC_ne {kc km j : Nat} {q : Int32} {f w : Nat} (h : PrC kc km j q f w) : (2 ≤ kc ∧ kc ≤ 8) ∧ 53 ≤ km ∧ km ≤ 59 := by
  rcases h with ⟨rfl, rfl, -⟩ | ⟨rfl, rfl, -⟩ | ⟨rfl, rfl, -⟩ | ⟨rfl, rfl, -⟩ | ⟨rfl, rfl, -⟩ | ⟨rfl, rfl, -⟩ <;> decide
theorem s_undo : S_undo Inv := by
  intro σ hI
  have hI0 := hI
  obtain ⟨f, w, b, hV, hS, hT, hL, hB, hM, hC, hF, hH⟩ := hI
  obtain ⟨d, u, c0, c1, c2, c3, c4, c5⟩ := id hC
  rcases Nat.eq_zero_or_pos d with rfl | hd
  · refine ⟨-5, σ, σ, ?_, ?_, hI0⟩
    · have hb : mX1_stepBack σ = some (-1, σ) := by
        unfold mX1_stepBack
        rw [c1, if_neg (by decide)]
      unfold mX9_undo
      rw [hb, gb_some, gl_eq, if_neg (by decide)]
    · unfold mX10_undo
      rw [c3, if_pos (by decide)]
  · obtain ⟨p, rfl⟩ : ∃ p, d = p + 1 := ⟨d - 1, by omega⟩
    obtain ⟨x1, x2, x3, x4, x5, x6, x7⟩ := c5 p (by omega)
    obtain ⟨kc, km, j, hp, p2, p3, p4, p5⟩ := okN_cells hV.1 hV.2.1 x5
    obtain ⟨⟨k1, k2⟩, k3, k4⟩ := PrC_ne hp
    obtain ⟨σa, ea⟩ : ∃ t, t = gUI (gUI σ 31 4 (nI p)) 31 5 (nI u + 1) := ⟨_, rfl⟩
    have i4 : inbB (nI p) 40 = true := inbB_nI (by omega) (by decide)
    have cp : Int32.toNatClampNeg (nI p) = p := nI_cl (by omega)
    have a1 : ∀ a, a ≠ 31 → σa.1 a = σ.1 a := fun a ha => by rw [ea, gUI_ne ha, gUI_ne ha]
    have hb : mX1_stepBack σ = some (nI p, σa) := by
      unfold mX1_stepBack
      rw [c1, if_pos (show (0 : Int32) < nI (p + 1) from nI_lt (a := 0) (by omega) (by omega)), gl_eq, gl_eq, nI_pred]
      have z : (gUI σ 31 4 (nI p)).1 31 5 = nI u := by rw [gUI_same]; exact c2
      rw [z, ← ea]
      have z2 : σa.1 31 4 = nI p := by rw [ea]; simp [gUI_same]
      rw [z2]
    refine ⟨nI p, gUI σa kc j (σ.1 34 p), gUI (gUI (gUI σa kc j (σ.1 34 p)) 52 31 (nI p)) km j (σ.1 34 p), ?_, ?_, ?_⟩
    · unfold mX9_undo
      rw [hb, gb_some, gl_eq, if_pos (show (0 : Int32) ≤ nI p from nI_pos' (by omega)), if_pos i4, if_pos i4, if_pos i4, cp, a1 32 (by decide), a1 33 (by decide), a1 34 (by decide), p3, gb_some, gUI_ne (by omega)]
      rw [ea]
      simp [gUI_same]
    · have b73 : (gUI σa kc j (σ.1 34 p)).1 73 = σ.1 73 := by rw [gUI_ne (by omega), a1 73 (by decide)]
      have b52 : (gUI σa kc j (σ.1 34 p)).1 52 31 = nI (p + 1) := by rw [gUI_ne (by omega), a1 52 (by decide)]; exact c3
      have f1 : (4 * nI p + 1 : Int32) = nI (4 * p + 1) := by rw [e4n]; exact nI_add _ 1
      have f2 : (4 * nI p + 2 : Int32) = nI (4 * p + 2) := by rw [e4n]; exact nI_add _ 2
      have d52 : ∀ v, (gUI (gUI σa kc j (σ.1 34 p)) 52 31 v).1 52 31 = v := fun v => by rw [gUI_same]; simp
      have d73 : ∀ v, (gUI (gUI σa kc j (σ.1 34 p)) 52 31 v).1 73 = σ.1 73 := fun v => by rw [gUI_ne (by decide)]; exact b73
      unfold mX10_undo
      rw [b52, if_neg (nI_ne0 (by omega) (by omega)), gl_eq, nI_pred, d52, d73, f1, f2, e4n, if_pos (inbB_nI (by omega) (by decide)), if_pos (inbB_nI (by omega) (by decide)), if_pos (inbB_nI (by omega) (by decide)), nI_cl (by omega), nI_cl (by omega), nI_cl (by omega), x1, x2, x3, p5, gb_some, gUI_ne (by omega), d52]
    · have hrow : ∀ a, a ≠ kc → a ≠ km → a ≠ 31 → a ≠ 52 → (gUI (gUI (gUI σa kc j (σ.1 34 p)) 52 31 (nI p)) km j (σ.1 34 p)).1 a = σ.1 a := fun a y1 y2 y3 y4 => by rw [gUI_ne y2, gUI_ne y4, gUI_ne y1, a1 a y3]
      have h52 : ∀ i, (gUI (gUI (gUI σa kc j (σ.1 34 p)) 52 31 (nI p)) km j (σ.1 34 p)).1 52 i = if i = 31 then nI p else σ.1 52 i := fun i => by
        rw [gUI_ne (by omega), gUI_same, gUI_ne (by omega), a1 52 (by decide)]
      have h31 : ∀ i, (gUI (gUI (gUI σa kc j (σ.1 34 p)) 52 31 (nI p)) km j (σ.1 34 p)).1 31 i = if i = 5 then nI u + 1 else if i = 4 then nI p else σ.1 31 i := fun i => by
        rw [gUI_ne (by omega), gUI_ne (by decide), gUI_ne (by omega), ea]
        simp only [gUI_same]
      refine Inv_num (v := σ.1 34 p) hV hS hT hL hB hM hF hH hp x6 (fun a y1 y2 y3 y4 y5 => hrow a y1 y2 (by omega) y4) (fun i => ?_) (fun i => ?_) (fun i y1 y2 => by rw [h52, if_neg y2]) (by show σa.2 = σ.2; rw [ea]; rfl) ⟨p, u + 1, by omega, ?_, ?_, ?_, ?_, fun i hi => ?_⟩
      · rw [gUI_ne (by omega), gUI_ne (by omega), gUI_same, a1 kc (by omega)]
      · rw [gUI_same, gUI_ne (by omega), gUI_ne (by omega), a1 km (by omega)]
      · rw [h31]; rfl
      · rw [h31]; exact nI_1 u
      · rw [h52]; rfl
      · rw [h52, if_neg (by decide), c4, show p + 1 + u = p + (u + 1) by omega]
      · rw [hrow 73 (by omega) (by omega) (by decide) (by decide), hrow 32 (by omega) (by omega) (by decide) (by decide), hrow 33 (by omega) (by omega) (by decide) (by decide), hrow 34 (by omega) (by omega) (by decide) (by decide), hrow 35 (by omega) (by omega) (by decide) (by decide)]
        exact c5 i (by omega)
theorem s_redo : S_redo Inv := by
  intro σ hI
  have hI0 := hI
  obtain ⟨f, w, b, hV, hS, hT, hL, hB, hM, hC, hF, hH⟩ := hI
  obtain ⟨p, u, c0, c1, c2, c3, c4, c5⟩ := id hC
  rcases Nat.eq_zero_or_pos u with rfl | hd
  · refine ⟨-5, σ, σ, ?_, ?_, hI0⟩
    · have hb : mX1_stepOn σ = some (-1, σ) := by
        unfold mX1_stepOn
        rw [c2, if_pos (by decide)]
      unfold mX9_redo
      rw [hb, gb_some, gl_eq, if_neg (by decide)]
    · unfold mX10_redo
      rw [c3, c4, if_pos (by rfl)]
  · obtain ⟨u, rfl⟩ : ∃ t, u = t + 1 := ⟨u - 1, by omega⟩
    obtain ⟨x1, x2, x3, x4, x5, x6, x7⟩ := c5 p (by omega)
    obtain ⟨kc, km, j, hp, p2, p3, p4, p5⟩ := okN_cells hV.1 hV.2.1 x5
    obtain ⟨⟨k1, k2⟩, k3, k4⟩ := PrC_ne hp
    obtain ⟨σa, ea⟩ : ∃ t, t = gUI (gUI σ 31 5 (nI u)) 31 4 (nI p + 1) := ⟨_, rfl⟩
    have i4 : inbB (nI p) 40 = true := inbB_nI (by omega) (by decide)
    have cp : Int32.toNatClampNeg (nI p) = p := nI_cl (by omega)
    have a1 : ∀ a, a ≠ 31 → σa.1 a = σ.1 a := fun a ha => by rw [ea, gUI_ne ha, gUI_ne ha]
    have hb : mX1_stepOn σ = some (nI p, σa) := by
      unfold mX1_stepOn
      rw [c2, if_neg (show ¬ nI (u + 1) ≤ (0 : Int32) from nI_nle (by omega) (by omega)), c1, if_pos (show nI p < (40 : Int32) from nI_lt (b := 40) (by omega) (by decide)), gl_eq, gl_eq, nI_pred]
      have z : (gUI σ 31 5 (nI u)).1 31 4 = nI p := by rw [gUI_same]; exact c1
      rw [z, ← ea]
      have z2 : σa.1 31 4 = nI p + 1 := by rw [ea]; simp [gUI_same]
      rw [z2, Int32.add_sub_cancel]
    refine ⟨nI u, gUI σa kc j (σ.1 35 p), gUI (gUI (gUI σa kc j (σ.1 35 p)) km j (σ.1 35 p)) 52 31 (nI p + 1), ?_, ?_, ?_⟩
    · unfold mX9_redo
      rw [hb, gb_some, gl_eq, if_pos (show (0 : Int32) ≤ nI p from nI_pos' (by omega)), if_pos i4, if_pos i4, if_pos i4, cp, a1 32 (by decide), a1 33 (by decide), a1 35 (by decide), p3, gb_some, gUI_ne (by omega)]
      rw [ea]
      simp [gUI_same]
    · have b73 : (gUI σa kc j (σ.1 35 p)).1 73 = σ.1 73 := by rw [gUI_ne (by omega), a1 73 (by decide)]
      have b52 : (gUI σa kc j (σ.1 35 p)).1 52 = σ.1 52 := by rw [gUI_ne (by omega), a1 52 (by decide)]
      have f1 : (4 * nI p + 1 : Int32) = nI (4 * p + 1) := by rw [e4n]; exact nI_add _ 1
      have f2 : (4 * nI p + 3 : Int32) = nI (4 * p + 3) := by rw [e4n]; exact nI_add _ 3
      have ne : ¬ nI p = nI (p + (u + 1)) := fun q => by have := (nI_eq (by omega) (by omega)).mp q; omega
      have d52 : (gUI (gUI σa kc j (σ.1 35 p)) km j (σ.1 35 p)).1 52 = σ.1 52 := by rw [gUI_ne (by omega)]; exact b52
      unfold mX10_redo
      rw [b52, b73, c3, c4, if_neg ne, f1, f2, e4n, if_pos (inbB_nI (by omega) (by decide)), if_pos (inbB_nI (by omega) (by decide)), if_pos (inbB_nI (by omega) (by decide)), nI_cl (by omega), nI_cl (by omega), nI_cl (by omega), x1, x2, x4, p5, gb_some, gl_eq, d52, c3]
      have r1 : (gUI (gUI (gUI σa kc j (σ.1 35 p)) km j (σ.1 35 p)) 52 31 (nI p + 1)).1 52 30 = nI (p + (u + 1)) := by rw [gUI_same, d52]; exact c4
      have r2 : (gUI (gUI (gUI σa kc j (σ.1 35 p)) km j (σ.1 35 p)) 52 31 (nI p + 1)).1 52 31 = nI (p + 1) := by rw [gUI_same]; exact nI_1 p
      rw [r1, r2, show p + (u + 1) = u + (p + 1) by omega, ← nI_add, Int32.add_sub_cancel]
    · have hrow : ∀ a, a ≠ kc → a ≠ km → a ≠ 31 → a ≠ 52 → (gUI (gUI (gUI σa kc j (σ.1 35 p)) km j (σ.1 35 p)) 52 31 (nI p + 1)).1 a = σ.1 a := fun a y1 y2 y3 y4 => by rw [gUI_ne y4, gUI_ne y2, gUI_ne y1, a1 a y3]
      have h52 : ∀ i, (gUI (gUI (gUI σa kc j (σ.1 35 p)) km j (σ.1 35 p)) 52 31 (nI p + 1)).1 52 i = if i = 31 then nI p + 1 else σ.1 52 i := fun i => by
        rw [gUI_same, gUI_ne (by omega), gUI_ne (by omega), a1 52 (by decide)]
      have h31 : ∀ i, (gUI (gUI (gUI σa kc j (σ.1 35 p)) km j (σ.1 35 p)) 52 31 (nI p + 1)).1 31 i = if i = 4 then nI p + 1 else if i = 5 then nI u else σ.1 31 i := fun i => by
        rw [gUI_ne (by decide), gUI_ne (by omega), gUI_ne (by omega), ea]
        simp only [gUI_same]
      refine Inv_num (v := σ.1 35 p) hV hS hT hL hB hM hF hH hp x7 (fun a y1 y2 y3 y4 y5 => hrow a y1 y2 (by omega) y4) (fun i => ?_) (fun i => ?_) (fun i y1 y2 => by rw [h52, if_neg y2]) (by show σa.2 = σ.2; rw [ea]; rfl) ⟨p + 1, u, by omega, ?_, ?_, ?_, ?_, fun i hi => ?_⟩
      · rw [gUI_ne (by omega), gUI_ne (by omega), gUI_same, a1 kc (by omega)]
      · rw [gUI_ne (by omega), gUI_same, gUI_ne (by omega), a1 km (by omega)]
      · rw [h31]; exact nI_1 p
      · rw [h31]; rfl
      · rw [h52]; exact nI_1 p
      · rw [h52, if_neg (by decide), c4, show p + (u + 1) = p + 1 + u by omega]
      · rw [hrow 73 (by omega) (by omega) (by decide) (by decide), hrow 32 (by omega) (by omega) (by decide) (by decide), hrow 33 (by omega) (by omega) (by decide) (by decide), hrow 34 (by omega) (by omega) (by decide) (by decide), hrow 35 (by omega) (by omega) (by decide) (by decide)]
        exact c5 i (by omega)
