/-! ===== want, wants ===== -/
def suchB (f : Nat) (a d h g : Int32) : Bool := inN a f && (wi d 0 29 && (wi h 1 24 && wi g 0 99))
theorem mayWant_eq {σ : gS} {f : Nat} (e : σ.1 1 0 = nI f) (a d h g : Int32) : mX8_mayWant σ a d h g = some (suchB f a d h g, σ) := by
  unfold mX8_mayWant suchB
  rw [hasFarm_eq e, gb_some, show inbB 2 10 = true from by decide, show inbB 3 10 = true from by decide, show inbB 4 10 = true from by decide, show gTb 0 (Int32.toNatClampNeg 2) = 0 from by decide, show gTb 1 (Int32.toNatClampNeg 2) = 29 from by decide, show gTb 0 (Int32.toNatClampNeg 3) = 1 from by decide, show gTb 1 (Int32.toNatClampNeg 3) = 24 from by decide, show gTb 0 (Int32.toNatClampNeg 4) = 0 from by decide, show gTb 1 (Int32.toNatClampNeg 4) = 99 from by decide]
  cases h1 : inN a f
  · rfl
  · simp only [if_true, w9, gb_some]
    cases h2 : wi d 0 29
    · rfl
    · simp only [if_true]
      cases h3 : wi h 1 24
      · rfl
      · simp only [if_true]
        cases h4 : wi g 0 99 <;> rfl
theorem isSuch_eq {σ : gS} {f : Nat} (hf : f ≤ 6) (e : σ.1 52 0 = nI f) (a d h g : Int32) : mX10_isSuch σ a d h g = some (suchB f a d h g, σ) := by
  unfold mX10_isSuch suchB
  rw [isFarm_eq (by omega) e, gb_some]
  cases h1 : inN a f
  · rfl
  · simp only [if_true, isDay_eq, w10, gb_some]
    cases h2 : wi d 0 29
    · rfl
    · simp only [if_true]
      cases h3 : wi h 1 24
      · rfl
      · simp only [if_true]
        cases h4 : wi g 0 99 <;> rfl
/-- a want more, in the class and in the reference -/
def gWc (σ : gS) (w : Nat) (a d h g : Int32) : gS := gUI (gUI (gUI (gUI (gUI σ 4 w a) 5 w d) 6 w h) 7 w g) 1 3 (nI w + 1)
def gWm (σ : gS) (w : Nat) (a d h g : Int32) : gS := gUI (gUI (gUI (gUI (gUI σ 55 w a) 56 w d) 57 w h) 58 w g) 52 3 (nI w + 1)
theorem addWant_eq {σ : gS} {w : Nat} (hw : w < 12) (e : σ.1 1 3 = nI w) (a d h g : Int32) : mX8_addWant σ a d h g = some (nI w, gWc σ w a d h g) := by
  have i : inbB (nI w) 12 = true := inbB_nI hw (by decide)
  have c : Int32.toNatClampNeg (nI w) = w := nI_cl (by omega)
  have l : nI w < 12 := nI_lt (b := 12) hw (by decide)
  simp [mX8_addWant, gWc, gLet, gUI_ne, gUI_same, e, i, c, l]
theorem addWant_full {σ : gS} (e : σ.1 1 3 = nI 12) (a d h g : Int32) : mX8_addWant σ a d h g = some (-3, σ) := by
  unfold mX8_addWant
  rw [e, if_neg (by decide)]
theorem newWant_eq {σ : gS} {w : Nat} (hw : w < 12) (e : σ.1 52 3 = nI w) (a d h g : Int32) : mX10_newWant σ a d h g = some (nI w, gWm σ w a d h g) := by
  have i : inbB (nI w) 12 = true := inbB_nI hw (by decide)
  have c : Int32.toNatClampNeg (nI w) = w := nI_cl (by omega)
  simp [mX10_newWant, gWm, gLet, gUI_ne, gUI_same, e, i, c]
theorem suchB_ok {f : Nat} {a d h g : Int32} (h0 : suchB f a d h g = true) : rg d 0 29 ∧ rg h 1 24 := by
  unfold suchB at h0
  simp only [Bool.and_eq_true] at h0
  exact ⟨wi_rg (a := 0) (b := 29) (by decide) (by decide) h0.2.1, wi_rg (a := 1) (b := 24) (by decide) (by decide) h0.2.2.1⟩
/-- Inv behind a want more on both sides -/
theorem Inv_want {σ : gS} {f w b : Nat} {a d h g : Int32} (hw : w < 12) (hV : IV σ f w) (hS : IS σ) (hT : IT σ) (hL : IL σ) (hB : IB σ) (hM : IM σ) (hC : IC σ f w) (hF : IF σ b) (hH : IH σ b) (hs : suchB f a d h g = true) : IV (gWm (gWc σ w a d h g) w a d h g) f (w + 1) ∧ IS (gWm (gWc σ w a d h g) w a d h g) ∧ IT (gWm (gWc σ w a d h g) w a d h g) ∧ IL (gWm (gWc σ w a d h g) w a d h g) ∧ IB (gWm (gWc σ w a d h g) w a d h g) ∧ IM (gWm (gWc σ w a d h g) w a d h g) ∧ IC (gWm (gWc σ w a d h g) w a d h g) f (w + 1) ∧ IF (gWm (gWc σ w a d h g) w a d h g) b ∧ IH (gWm (gWc σ w a d h g) w a d h g) b := by
  obtain ⟨hf, hw', e1, e2, e3, e4, e5, e6, e7, e8, e9, e10, e12, e11⟩ := hV
  obtain ⟨r1, r2⟩ := suchB_ok hs
  refine ⟨⟨hf, by omega, e1, e2, nI_1 w, nI_1 w, e5, e6, ?_, ?_, ?_, ?_, e12, fun j hj => ?_⟩, IS_ag hS (fun _ => rfl) (fun _ => rfl), IT_ag hT rfl rfl rfl rfl, IL_ag hL rfl rfl (fun k hk => by rcases hk with rfl | rfl <;> exact ⟨rfl, rfl, rfl⟩) rfl rfl rfl rfl rfl rfl, IB_ag hB (fun _ => rfl) (fun _ => rfl), IM_ag hM rfl rfl rfl rfl rfl, IC_ag (IC_mono (by omega) (by omega) hC) rfl rfl rfl rfl rfl rfl rfl rfl rfl, IF_ag hF rfl rfl rfl rfl rfl rfl rfl rfl, IH_ag hH (fun k h1 h2 => ⟨?_, rfl⟩) rfl rfl rfl⟩
  · show (fun i => if i = w then a else σ.1 55 i) = (fun i => if i = w then a else σ.1 4 i)
    rw [e7]
  · show (fun i => if i = w then d else σ.1 56 i) = (fun i => if i = w then d else σ.1 5 i)
    rw [e8]
  · show (fun i => if i = w then h else σ.1 57 i) = (fun i => if i = w then h else σ.1 6 i)
    rw [e9]
  · show (fun i => if i = w then g else σ.1 58 i) = (fun i => if i = w then g else σ.1 7 i)
    rw [e10]
  · show rg (if j = w then d else σ.1 5 j) 0 29 ∧ rg (if j = w then h else σ.1 6 j) 1 24
    by_cases hjw : j = w
    · rw [if_pos hjw, if_pos hjw]; exact ⟨r1, r2⟩
    · rw [if_neg hjw, if_neg hjw]; exact e11 j (by omega)
  · unfold gWm gWc
    rw [gUI_ne (by omega), gUI_ne (by omega), gUI_ne (by omega), gUI_ne (by omega), gUI_ne (by omega), gUI_ne (by omega), gUI_ne (by omega), gUI_ne (by omega), gUI_ne (by omega), gUI_ne (by omega)]
theorem s_want : S_want Inv := by
  intro σ a0 a1 hI
  have hI0 := hI
  obtain ⟨f, w, b, hV, hS, hT, hL, hB, hM, hC, hF, hH⟩ := hI
  obtain ⟨hf, hw, e1, e2, e3, e4, -⟩ := id hV
  by_cases h0 : a1 < 0
  · refine ⟨-1, σ, σ, ?_, ?_, hI0⟩
    · unfold mX9_want
      rw [if_pos h0]
    · unfold mX10_want
      rw [if_pos h0]
  · cases hs : suchB f a0 (a1 / 100) (gRem a1 100) 10 with
    | false =>
      refine ⟨-1, σ, σ, ?_, ?_, hI0⟩
      · unfold mX9_want
        rw [if_neg h0, mayWant_eq e1, gb_some, hs, if_neg (by decide)]
      · unfold mX10_want
        rw [if_neg h0, isSuch_eq hf e2, gb_some, hs, if_neg (by decide)]
    | true =>
      rcases Nat.lt_or_ge w 12 with hlt | hge
      · refine ⟨nI w, gWc σ w a0 (a1 / 100) (gRem a1 100) 10, gWm (gWc σ w a0 (a1 / 100) (gRem a1 100) 10) w a0 (a1 / 100) (gRem a1 100) 10, ?_, ?_, ⟨f, w + 1, b, Inv_want hlt hV hS hT hL hB hM hC hF hH hs⟩⟩
        · unfold mX9_want
          rw [if_neg h0, mayWant_eq e1, gb_some, hs, if_pos rfl, bind_id, addWant_eq hlt e3]
        · have x1 : (gWc σ w a0 (a1 / 100) (gRem a1 100) 10).1 52 0 = nI f := e2
          have x2 : (gWc σ w a0 (a1 / 100) (gRem a1 100) 10).1 52 3 = nI w := e4
          have n12 : ¬ nI w = 12 := fun q => by have := (nI_eq (b := 12) (by omega) (by decide)).mp q; omega
          unfold mX10_want
          rw [if_neg h0, isSuch_eq hf x1, gb_some, hs, if_pos rfl, x2, if_neg n12, bind_id, newWant_eq hlt x2]
      · have hw12 : w = 12 := by omega
        subst hw12
        refine ⟨-3, σ, σ, ?_, ?_, hI0⟩
        · unfold mX9_want
          rw [if_neg h0, mayWant_eq e1, gb_some, hs, if_pos rfl, bind_id, addWant_full e3]
        · unfold mX10_want
          rw [if_neg h0, isSuch_eq hf e2, gb_some, hs, if_pos rfl, e4, if_pos (by decide)]
