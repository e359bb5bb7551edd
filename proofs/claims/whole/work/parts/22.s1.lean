/-! ===== farm ===== -/
theorem k9_farm (σ : gS) (a : Int32) : mX9_farm σ a = if wi a 0 9 = true then mX8_addFarm σ a else some (-1, σ) := by
  unfold mX9_farm
  rw [if_pos (by decide), if_pos (by decide), show gTb 0 (Int32.toNatClampNeg 0) = 0 from by decide, show gTb 1 (Int32.toNatClampNeg 0) = 9 from by decide, w9, gb_some, bind_id]
theorem s_farm : S_farm Inv := by
  intro σ a hI
  have hI0 := hI
  obtain ⟨f, w, b, hV, hS, hT, hL, hB, hM, hC, hF, hH⟩ := hI
  obtain ⟨hf, hw, e1, e2, e3, e4, e5, e6, e7, e8, e9, e10, e12, e11⟩ := hV
  by_cases hwi : wi a 0 9 = true
  · by_cases h6 : f = 6
    · subst h6
      refine ⟨-3, σ, σ, ?_, ?_, hI0⟩
      · rw [k9_farm, if_pos hwi]
        unfold mX8_addFarm
        rw [e1, if_neg (by decide)]
      · unfold mX10_farm
        rw [w10, gb_some, if_pos hwi, e2, if_pos (by decide)]
    · have hlt : f < 6 := by omega
      have n6 : ¬ nI f = 6 := fun q => h6 ((nI_eq (by omega) (by decide)).mp (show nI f = nI 6 from q))
      have l6 : nI f < 6 := nI_lt (b := 6) hlt (by decide)
      have i6 : inbB (nI f) 6 = true := inbB_nI hlt (by decide)
      have c6 : Int32.toNatClampNeg (nI f) = f := nI_cl (by omega)
      refine ⟨nI f, gUI (gUI (gUI σ 2 f a) 3 f 1) 1 0 (nI f + 1), gUI (gUI (gUI (gUI (gUI (gUI σ 2 f a) 3 f 1) 1 0 (nI f + 1)) 53 f a) 54 f 1) 52 0 (nI f + 1), ?_, ?_, ?_⟩
      · rw [k9_farm, if_pos hwi]
        simp [mX8_addFarm, gLet, gUI_ne, gUI_same, e1, l6, i6, c6]
      · simp [mX10_farm, w10, gb_some, hwi, gLet, gUI_ne, gUI_same, e2, n6, i6, c6]
      · refine ⟨f + 1, w, b, ⟨by omega, hw, nI_1 f, nI_1 f, e3, e4, ?_, ?_, e7, e8, e9, e10, ?_, e11⟩, IS_ag hS (fun _ => rfl) (fun _ => rfl), IT_ag hT rfl rfl rfl rfl, IL_ag hL rfl rfl (fun k hk => by rcases hk with rfl | rfl <;> exact ⟨rfl, rfl, rfl⟩) rfl rfl rfl rfl rfl rfl, IB_ag hB (fun _ => rfl) (fun _ => rfl), IM_ag hM rfl rfl rfl rfl rfl, IC_ag (IC_mono (by omega) (by omega) hC) rfl rfl rfl rfl rfl rfl rfl rfl rfl, IF_ag hF rfl rfl rfl rfl rfl rfl rfl rfl, IH_ag hH (fun k h1 h2 => ⟨by simp [gUI, show k ≠ 52 by omega, show k ≠ 54 by omega, show k ≠ 53 by omega, show k ≠ 1 by omega, show k ≠ 3 by omega, show k ≠ 2 by omega], rfl⟩) rfl rfl rfl⟩
        · show (fun b => if b = f then a else σ.1 53 b) = (fun b => if b = f then a else σ.1 2 b)
          rw [e5]
        · show (fun b => if b = f then (1 : Int32) else σ.1 54 b) = (fun b => if b = f then (1 : Int32) else σ.1 3 b)
          rw [e6]
        · intro j
          show rg (if j = f then 1 else σ.1 3 j) 0 9
          by_cases hj : j = f
          · rw [if_pos hj]; exact ⟨1, by omega, by omega, rfl⟩
          · rw [if_neg hj]; exact e12 j
  · refine ⟨-1, σ, σ, ?_, ?_, hI0⟩
    · rw [k9_farm, if_neg hwi]
    · unfold mX10_farm
      rw [w10, gb_some, if_neg hwi]
