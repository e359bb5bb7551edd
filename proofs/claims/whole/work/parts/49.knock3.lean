/-! ===== knock's face, bore ===== -/
theorem km_sy {σ τ : gS} (h : km σ τ) : km τ σ := ⟨fun a x1 x2 x3 x4 x5 x6 => (h.1 a x1 x2 x3 x4 x5 x6).symm, fun j hj => (h.2.1 j hj).symm, h.2.2.symm⟩
theorem wi_03 {x : Int32} (h : wi x 0 3 = true) : ∃ q : Nat, q ≤ 3 ∧ x = nI q := by
  obtain ⟨q, -, h1, h2⟩ := wi_rg (a := 0) (b := 3) (by decide) (by decide) h
  exact ⟨q, h1, h2⟩
theorem gTk_at8 {σ : gS} : ∀ a, a < 5 → (gTk σ 9 8).1 9 a = σ.1 8 a := fun a ha => gTk_at ha
theorem ks_gTk {σ : gS} : ks σ (gTk σ 9 8) := by
  unfold gTk
  exact ks_tr (ks_tr (ks_tr (ks_tr ks_9 ks_9) ks_9) ks_9) ks_9
theorem s_knock : S_knock Inv := by
  intro σ p0 p1 hI
  obtain ⟨f, w, K, F, hX⟩ := Cx_Inv hI
  obtain ⟨hV, hS, hK, kk, -⟩ := id hX
  obtain ⟨f', w', b, -, -, -, -, -, -, -, hF, hH⟩ := id hI
  obtain ⟨z0, z1, z2, z3, z4, z5, z6, z7, z8⟩ := id hS
  obtain ⟨t, -, ht, et⟩ := id z5
  cases hwi : wi p1 0 3 with
  | false =>
    refine ⟨-1, σ, σ, ?_, ?_, hI⟩
    · unfold mX9_knock
      rw [w9, gb_some, hwi, if_neg (by decide)]
    · unfold mX10_knock
      rw [isShelf_eq, gb_some]
      cases wi p0 0 5
      · rw [if_neg (by decide)]
      · rw [if_pos rfl, w10, gb_some, hwi, if_neg (by decide)]
  | true =>
    rcases shelf_cases p0 with hno | ⟨j, hj, rfl, hyes⟩
    · refine ⟨-1, σ, σ, ?_, ?_, hI⟩
      · unfold mX9_knock
        rw [w9, gb_some, hwi, if_pos rfl, refuse_no hno, gb_some, gl_eq, if_neg (by decide)]
      · unfold mX10_knock
        rw [isShelf_eq, gb_some, hno, if_neg (by decide)]
    · rcases refuse_cases (s0 := 1) hF.1 hj (by omega) (hH j hj) with ⟨h1, h2⟩ | ⟨h1, h2⟩ | ⟨h1, h2, n, hn, e3, e77, e76, hc⟩
      · refine ⟨-11, σ, σ, ?_, ?_, hI⟩
        · unfold mX9_knock
          rw [w9, gb_some, hwi, if_pos rfl, show mX9_refuseRow σ (nI j) 1 = some (-11, σ) from h1, gb_some, gl_eq, if_neg (by decide)]
        · unfold mX10_knock
          rw [isShelf_eq, gb_some, hyes, if_pos rfl, w10, gb_some, hwi, if_pos rfl, show mX10_noRow σ (nI j) 1 = some (-11, σ) from h2, gb_some, gl_eq, if_neg (by decide)]
      · refine ⟨-12, σ, σ, ?_, ?_, hI⟩
        · unfold mX9_knock
          rw [w9, gb_some, hwi, if_pos rfl, show mX9_refuseRow σ (nI j) 1 = some (-12, σ) from h1, gb_some, gl_eq, if_neg (by decide)]
        · unfold mX10_knock
          rw [isShelf_eq, gb_some, hyes, if_pos rfl, w10, gb_some, hwi, if_pos rfl, show mX10_noRow σ (nI j) 1 = some (-12, σ) from h2, gb_some, gl_eq, if_neg (by decide)]
      · obtain ⟨told, hto⟩ : ∃ told, told = σ.2.1 (40 + 2 * j + 1) := ⟨_, rfl⟩
        rw [← hto] at hc
        have k1 : ks σ (gTk σ 9 8) := ks_gTk
        have X1 := Cx_ks hX k1
        have g3 : (gTk σ 9 8).1 (40 + 2 * j) 3 = nI n := by rw [gTk_ne (by omega)]; exact e3
        have g4 : (gTk σ 9 8).2.1 (40 + 2 * j + 1) = told := hto.symm
        obtain ⟨S, hSd⟩ : ∃ S, S = (gTk σ 9 8).1 9 := ⟨_, rfl⟩
        have S0 : S 0 = σ.1 8 0 := by rw [hSd]; exact gTk_at (by decide)
        have S1 : S 1 = σ.1 8 1 := by rw [hSd]; exact gTk_at (by decide)
        have S2 : S 2 = σ.1 8 2 := by rw [hSd]; exact gTk_at (by decide)
        have S3 : S 3 = σ.1 8 3 := by rw [hSd]; exact gTk_at (by decide)
        have S4 : S 4 = σ.1 8 4 := by rw [hSd]; exact gTk_at (by decide)
        have hnr : ∀ τ : gS, ks σ τ → mX10_noRow τ (nI j) 1 = some (0, τ) := fun τ k => by
          unfold mX10_noRow
          rw [if_pos (inbB_nI hj (by decide)), if_pos (inbB_nI hj (by decide)), nI_cl (by omega), k.1 76 (by unfold kp; omega), e76, if_neg (by decide), if_pos (by rfl)]
        have i6 : inbB (nI j) 6 = true := inbB_nI hj (by decide)
        have c6 : Int32.toNatClampNeg (nI j) = j := nI_cl (by omega)
        have k6 := gk_sh hj
        have op9 : ∀ x, mX9_knock_b37 σ (nI j) p1 (if gRem p1 2 = 1 then 1 else 0) = x → mX9_knock σ (nI j) p1 = x := fun x hx => by
          unfold mX9_knock
          rw [w9, gb_some, hwi, if_pos rfl, show mX9_refuseRow σ (nI j) 1 = some (1, σ) from h1, gb_some, gl_eq, if_pos rfl, ← hx]
          by_cases hq : gRem p1 2 = 1
          · rw [if_pos hq, if_pos hq]
          · rw [if_neg hq, if_neg hq]
        obtain ⟨q, hq, rfl⟩ := wi_03 hwi
        have hto2 : ∀ i, i < 60 → (told i).toInt32.toInt64 = told i := fun i hi => (hc i hi).2
        have hc1 : ∀ i, i < 60 → σ.2.1 78 (60 * j + i) = told i := fun i hi => (hc i hi).1
        have h_lo : ∀ ls : Int32, (ls = 0 ∨ ls = 1) → q < 2 → nI q = ls → ∃ (r : Int32) (σ1 σ2 : gS), mX9_knock σ (nI j) (nI q) = some (r, σ1) ∧ mX10_knock σ1 (nI j) (nI q) = some (r, σ2) ∧ Inv σ2 := fun ls hls hq2 eq => by
          obtain ⟨τ, r1, r2⟩ := much9_loop (S := S) (told := told) (ls := ls) ht hn hj (by rw [S2]; exact z6) (by rw [S3]; exact z7) (by rw [S4]; exact et) hto2 1000 0 (gTk σ 9 8) 0 1100 X1 (fun a _ => by rw [hSd]) g3 g4 (by omega) (by omega) (fun _ => rfl)
          have kτ := ks_tr k1 r2
          have t59 : τ.1 59 = σ.1 59 := kτ.1 59 (by unfold kp; omega)
          obtain ⟨υ, v1, v2⟩ := much10_loop (p := j) (F := F) (S := σ.1 59) (told := told) (ls := ls) ht hn hj (by rw [z2]; exact z6) (by rw [z3]; exact z7) (by rw [z4]; exact et) 1000 τ 1100 (Mx_ks hX kτ) t59 (by rw [kτ.1 77 (by unfold kp; omega)]; exact e77) (fun i hi => by rw [kτ.2.2.2.2]; exact hc1 i hi) (by omega) (by omega)
          have eG : gkC F (σ.1 59) told t n = gkC F S told t n := by
            funext c
            unfold gkC
            rw [show nxS F (σ.1 59) = nxS F S from nxS_eq (by rw [z1, S1]) (by rw [z2, S2]) (by rw [z3, S3]), z1, S1]
          rw [eG] at v1
          have hrem : (if gRem (nI q) 2 = 1 then (1 : Int32) else 0) = ls := by
            rcases hls with rfl | rfl
            · obtain rfl : q = 0 := by
                have := (nI_eq (b := 0) (by omega) (by decide)).mp eq
                exact this
              decide
            · obtain rfl : q = 1 := by
                have := (nI_eq (b := 1) (by omega) (by decide)).mp eq
                exact this
              decide
          refine ⟨(if ls = 0 then nI (cn (gkC F S told t n) 1000) else lsf (gkC F S told t n) 1000 0), τ, υ, op9 _ ?_, ?_, Inv_ks hI (ks_tr kτ (ks_km v2))⟩
          · rw [hrem]
            unfold mX9_knock_b37
            rw [gl_eq, if_neg (show ¬ (2 : Int32) ≤ nI q from nI_ge (b := 2) hq2 (by decide)), if_pos i6, c6, if_pos k6, bind_id]
            unfold mX9_howMuch
            rw [if_pos k6, take5_eq rfl rfl (by decide), gb_some, gl_eq, gl_eq]
            exact r1
          · unfold mX10_knock
            rw [isShelf_eq, gb_some, hyes, if_pos rfl, w10, gb_some, hwi, if_pos rfl, hnr τ kτ, gb_some, gl_eq, if_pos (by decide), gl_eq, gl_eq, if_neg (show ¬ (2 : Int32) ≤ nI q from nI_ge (b := 2) hq2 (by decide)), gl_eq, eq]
            rw [Nat.sub_self, Nat.sub_self] at v1
            exact v1
        have h_hi : ∀ ls : Int32, ((ls = 0 ∧ q = 2) ∨ (ls = 1 ∧ q = 3)) → ∃ (r : Int32) (σ1 σ2 : gS), mX9_knock σ (nI j) (nI q) = some (r, σ1) ∧ mX10_knock σ1 (nI j) (nI q) = some (r, σ2) ∧ Inv σ2 := fun ls hls => by
          obtain ⟨τ, r1, r2⟩ := fast9_loop (S := S) (told := told) (ls := ls) ht hn hj (by rw [S0]; exact not_neg_rg (by decide) z8) (by rw [S4]; exact et) hto2 100 0 (gTk σ 9 8) 0 1100 X1 (fun a _ _ => by rw [hSd]) g3 g4 (by omega) (by omega) (fun _ => rfl)
          have kτ := ks_tr k1 r2
          have t59 : τ.1 59 = σ.1 59 := kτ.1 59 (by unfold kp; omega)
          obtain ⟨υ, v1, v2⟩ := fast10_loop (p := j) (F := F) (σ0 := τ) (told := told) (ls := nI q) ht hn hj (Mx_ks hX kτ) (by rw [t59, z4]; exact et) (by rw [kτ.1 77 (by unfold kp; omega)]; exact e77) (fun i hi => by rw [kτ.2.2.2.2]; exact hc1 i hi) 100 τ _ _ 1100 (km_sy setw_id) (by omega) (by omega)
          have eG : gkG F (τ.1 59) told t n = gkG F S told t n := by
            funext c
            unfold gkG
            rw [t59, show nxS F (sG (σ.1 59) c) = nxS F (sG S c) from nxS_eq (by show σ.1 59 1 = S 1; rw [z1, S1]) rfl rfl, z1, S1, z0, S0]
          rw [eG] at v1
          have hq23 : (2 : Int32) ≤ nI q := nI_le (a := 2) (by omega) (by omega)
          have hrem : (if gRem (nI q) 2 = 1 then (1 : Int32) else 0) = ls := by
            rcases hls with ⟨rfl, rfl⟩ | ⟨rfl, rfl⟩
            · decide
            · decide
          have hval : (if nI q = 2 then nI (cn (gkG F S told t n) 100) else lsf (gkG F S told t n) 100 0) = (if ls = 0 then nI (cn (gkG F S told t n) 100) else lsf (gkG F S told t n) 100 0) := by
            rcases hls with ⟨rfl, rfl⟩ | ⟨rfl, rfl⟩
            · rw [if_pos (by decide), if_pos rfl]
            · rw [if_neg (by decide), if_neg (by decide)]
          rw [hval] at v1
          refine ⟨(if ls = 0 then nI (cn (gkG F S told t n) 100) else lsf (gkG F S told t n) 100 0), τ, υ, op9 _ ?_, ?_, Inv_ks hI (ks_tr kτ (ks_km v2))⟩
          · rw [hrem]
            unfold mX9_knock_b37
            rw [gl_eq, if_pos hq23, if_pos i6, c6, if_pos k6, bind_id]
            unfold mX9_howFast
            rw [if_pos k6, take5_eq rfl rfl (by decide), gb_some, gl_eq, gl_eq]
            exact r1
          · unfold mX10_knock
            rw [isShelf_eq, gb_some, hyes, if_pos rfl, w10, gb_some, hwi, if_pos rfl, hnr τ kτ, gb_some, gl_eq, if_pos (by decide), gl_eq, gl_eq, if_pos hq23, if_pos (by decide), gl_eq, if_pos (by decide), gl_eq, gl_eq, show Int32.toNatClampNeg 2 = 2 from by decide, show Int32.toNatClampNeg 3 = 3 from by decide]
            rw [Nat.sub_self, Nat.sub_self] at v1
            exact v1
        rcases (show q = 0 ∨ q = 1 ∨ q = 2 ∨ q = 3 by omega) with rfl | rfl | rfl | rfl
        · exact h_lo 0 (Or.inl rfl) (by omega) rfl
        · exact h_lo 1 (Or.inr rfl) (by omega) rfl
        · exact h_hi 0 (Or.inl ⟨rfl, rfl⟩)
        · exact h_hi 1 (Or.inr ⟨rfl, rfl⟩)
