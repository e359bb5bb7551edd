/-! ===== drawn: the face ===== -/
theorem s_drawn : S_drawn Inv := by
  intro σ p0 p1 p2 p3 hI
  obtain ⟨f, w, K, F, hX⟩ := Cx_Inv hI
  obtain ⟨hV, hS, hK, kk, -⟩ := id hX
  obtain ⟨f', w', b, -, -, -, -, -, -, -, hF, hH⟩ := id hI
  obtain ⟨z0, z1, z2, z3, z4, z5, z6, z7, z8⟩ := id hS
  obtain ⟨t, -, ht, et⟩ := id z5
  by_cases hn : p2 < 0
  · refine ⟨-2000000000, σ, σ, ?_, ?_, hI⟩
    · unfold mX9_drawn
      rw [gl_eq, gl_eq, gl_eq, if_pos hn]
    · unfold mX10_drawn
      rw [isShelf_eq, gb_some]
      cases wi p0 0 5
      · rw [if_neg (by decide)]
      · rw [if_pos rfl, if_pos hn]
  · obtain ⟨m, hm, rfl⟩ := nI_of hn
    have ed1 : nI m / 10000 = nI (m / 10000) := pk_div (d := 10000) hm (by decide) (by decide)
    have ed2 : nI m / 100 = nI (m / 100) := pk_div (d := 100) hm (by decide) (by decide)
    have er : gRem (nI m) 100 = nI (m % 100) := rem_n (d := 100) hm (by decide) (by decide)
    have er2 : gRem (nI (m / 100)) 100 = nI (m / 100 % 100) := rem_n (d := 100) (by omega) (by decide) (by decide)
    have h12 : wi (nI (m % 100)) 0 12 = !decide ((12 : Int32) < nI (m % 100)) := wi_hi (b := 12) (by omega)
    -- the checks ahead, on both sides
    cases hw1 : wi (nI (m / 10000)) 1 30 with
    | false =>
      refine ⟨-2000000000, σ, σ, ?_, ?_, hI⟩
      · unfold mX9_drawn
        rw [gl_eq, gl_eq, gl_eq, if_neg hn, w9, gb_some, ed1, hw1, if_neg (by decide)]
      · unfold mX10_drawn
        rw [isShelf_eq, gb_some]
        cases wi p0 0 5
        · rw [if_neg (by decide)]
        · rw [if_pos rfl, if_neg hn, w10, gb_some, ed1, hw1, if_neg (by decide)]
    | true =>
      cases hw2 : wi (nI (m / 100 % 100)) 1 30 with
      | false =>
        refine ⟨-2000000000, σ, σ, ?_, ?_, hI⟩
        · unfold mX9_drawn
          rw [gl_eq, gl_eq, gl_eq, if_neg hn, w9, gb_some, ed1, hw1, if_pos rfl, w9, gb_some, ed2, er2, hw2, if_neg (by decide)]
        · unfold mX10_drawn
          rw [isShelf_eq, gb_some]
          cases wi p0 0 5
          · rw [if_neg (by decide)]
          · rw [if_pos rfl, if_neg hn, w10, gb_some, ed1, hw1, if_pos rfl, w10, gb_some, ed2, er2, hw2, if_neg (by decide)]
      | true =>
        by_cases hw3 : (12 : Int32) < nI (m % 100)
        · rw [decide_eq_true hw3] at h12
          refine ⟨-2000000000, σ, σ, ?_, ?_, hI⟩
          · unfold mX9_drawn
            rw [gl_eq, gl_eq, gl_eq, if_neg hn, w9, gb_some, ed1, hw1, if_pos rfl, w9, gb_some, ed2, er2, hw2, if_pos rfl, w9, gb_some, er, h12, if_neg (by decide)]
          · unfold mX10_drawn
            rw [isShelf_eq, gb_some]
            cases wi p0 0 5
            · rw [if_neg (by decide)]
            · rw [if_pos rfl, if_neg hn, w10, gb_some, ed1, hw1, if_pos rfl, w10, gb_some, ed2, er2, hw2, if_pos rfl, er, if_pos hw3]
        · rw [decide_eq_false hw3] at h12
          cases hw4 : wi p3 0 1 with
          | false =>
            refine ⟨-2000000000, σ, σ, ?_, ?_, hI⟩
            · unfold mX9_drawn
              rw [gl_eq, gl_eq, gl_eq, if_neg hn, w9, gb_some, ed1, hw1, if_pos rfl, w9, gb_some, ed2, er2, hw2, if_pos rfl, w9, gb_some, er, h12, if_pos (by decide), w9, gb_some, hw4, if_neg (by decide)]
            · unfold mX10_drawn
              rw [isShelf_eq, gb_some]
              cases wi p0 0 5
              · rw [if_neg (by decide)]
              · rw [if_pos rfl, if_neg hn, w10, gb_some, ed1, hw1, if_pos rfl, w10, gb_some, ed2, er2, hw2, if_pos rfl, er, if_neg hw3, w10, gb_some, hw4, if_neg (by decide)]
          | true =>
            have A9 : ∀ (r : Int32) (x : Option (Int32 × gS)), mX9_refuseRow σ p0 0 = some (r, σ) → (if r = 1 then (if inbB p0 6 = true then (if gk (40 + 2 * Int32.toNatClampNeg p0) = 6 then (gBind (mX7_askRow σ (40 + 2 * Int32.toNatClampNeg p0) (σ.1 8 4)) (fun r15 s16 => gBind (mX7_beginDraws s16 p1 (nI (m % 100))) (fun r17 s18 => gLet (gMin 29 (((s18.1 8 4) + nI (m / 100 % 100)) - 1)) (fun v19 => gLet 0 (fun v20 => (mX9_drawn_b134  1100 s18 p3 (nI (m / 10000)) v19 v20)))))) else none) else none) else (some ((-2000000000), σ))) = x → mX9_drawn σ p0 p1 (nI m) p3 = x := fun r x hr hx => by
              unfold mX9_drawn
              rw [gl_eq, gl_eq, gl_eq, if_neg hn, w9, gb_some, ed1, hw1, if_pos rfl, w9, gb_some, ed2, er2, hw2, if_pos rfl, w9, gb_some, er, h12, if_pos (by decide), w9, gb_some, hw4, if_pos rfl, hr, gb_some]
              exact hx
            rcases shelf_cases p0 with hno | ⟨j, hj, rfl, hyes⟩
            · refine ⟨-2000000000, σ, σ, A9 _ _ (refuse_no hno) (if_neg (by decide)), ?_, hI⟩
              unfold mX10_drawn
              rw [isShelf_eq, gb_some, hno, if_neg (by decide)]
            · have i6 : inbB (nI j) 6 = true := inbB_nI hj (by decide)
              have c6 : Int32.toNatClampNeg (nI j) = j := nI_cl (by omega)
              have A10 : ∀ (τ : gS) (x : Option (Int32 × gS)), (if (τ.1 76 j) = 0 then (gBind (mX10_reads τ (nI j)) (fun r9 s10 => gLet p1 (fun v11 => gLet 0 (fun v12 => gLet 0 (fun v13 => gBind (mX10_now s10 ) (fun r14 s15 => gLet (gMin 29 ((r14 + nI (m / 100 % 100)) - 1)) (fun v16 => gLet 0 (fun v17 => (mX10_drawn_b111  1100 s15 (nI m) p3 v11 v12 v13 v16 v17))))))))) else (some ((-2000000000), τ))) = x → mX10_drawn τ (nI j) p1 (nI m) p3 = x := fun τ x hx => by
                unfold mX10_drawn
                rw [isShelf_eq, gb_some, hyes, if_pos rfl, if_neg hn, w10, gb_some, ed1, hw1, if_pos rfl, w10, gb_some, ed2, er2, hw2, if_pos rfl, er, if_neg hw3, w10, gb_some, hw4, if_pos rfl, if_pos i6, c6]
                exact hx
              have n76 : ∀ r : Int32, r ≠ 0 → mX10_noRow σ (nI j) 0 = some (r, σ) → ¬ σ.1 76 j = 0 := fun r hr h2 q => by
                unfold mX10_noRow at h2
                rw [if_pos i6, c6, q, if_neg (by decide), if_pos i6, if_pos rfl] at h2
                exact hr (gR_inj h2).1.symm
              rcases refuse_cases (s0 := 0) hF.1 hj (by omega) (hH j hj) with ⟨h1, h2⟩ | ⟨h1, h2⟩ | ⟨h1, h2, n, hn60, e3, e77, e76, hc⟩
              · exact ⟨-2000000000, σ, σ, A9 _ _ h1 (if_neg (by decide)), A10 σ _ (if_neg (n76 (-11) (by decide) h2)), hI⟩
              · exact ⟨-2000000000, σ, σ, A9 _ _ h1 (if_neg (by decide)), A10 σ _ (if_neg (n76 (-12) (by decide) h2)), hI⟩
              · have k6 := gk_sh hj
                obtain ⟨N, hN1, hN2, eN⟩ := wi_rg (a := 1) (b := 30) (by decide) (by decide) hw1
                obtain ⟨M, hM1, hM2, eM⟩ := wi_rg (a := 1) (b := 30) (by decide) (by decide) hw2
                have eNn : m / 10000 = N := (nI_eq (by omega) (by omega)).mp eN
                have eMm : m / 100 % 100 = M := (nI_eq (by omega) (by omega)).mp eM
                obtain ⟨last, hlast⟩ : ∃ last, last = min 29 (t + M - 1) := ⟨_, rfl⟩
                have hl29 : last ≤ 29 := by omega
                have htl : t ≤ last := by omega
                have elast : gMin 29 (nI t + nI (m / 100 % 100) - 1) = nI last := by
                  rw [eMm, nI_add, show t + M = (t + M - 1) + 1 by omega, nI_pred]
                  unfold gMin
                  by_cases q : t + M - 1 < 29
                  · rw [if_pos (show nI (t + M - 1) < 29 from nI_lt (b := 29) q (by decide)), show last = t + M - 1 by omega]
                  · rw [if_neg (show ¬ nI (t + M - 1) < 29 from nI_nlt (b := 29) (by omega) (by omega)), show last = 29 by omega]
                    rfl
                have k10 : ¬ kp 10 := by unfold kp; omega
                obtain ⟨s, q1, q2, q3, q4⟩ := askRow_eq (σ := σ) (q := 40 + 2 * j) (t := t) (m := n) k6 (by omega) ht hn60 e3
                obtain ⟨A, hA⟩ : ∃ A, A = AP (σ.2.1 (40 + 2 * j + 1)) n t := ⟨_, rfl⟩
                rw [← hA] at q4
                obtain ⟨s2, hs2⟩ : ∃ s2, s2 = gUI (gUI (gUI (gUI s 10 6 p1) 10 7 (nI (m % 100))) 10 4 0) 10 5 0 := ⟨_, rfl⟩
                have e1 : ks σ s := ks_11 q2 q3
                have kk10 : ∀ (x : gS) (jj : Nat) (v : Int32), ks x (gUI x 10 jj v) := fun x jj v => ks_UI k10 (by decide) (by decide) (by decide)
                have e2 : ks σ s2 := by rw [hs2]; exact ks_tr e1 (ks_tr (ks_tr (ks_tr (kk10 _ _ _) (kk10 _ _ _)) (kk10 _ _ _)) (kk10 _ _ _))
                have g2 : ∀ a, a ≠ 10 → s2.1 a = s.1 a := fun a h => by rw [hs2, gUI_ne h, gUI_ne h, gUI_ne h, gUI_ne h]
                have b6 : s2.1 10 6 = p1 := by rw [hs2]; simp [gUI_at]
                have b7 : s2.1 10 7 = nI (m % 100) := by rw [hs2]; simp [gUI_at]
                have b4 : s2.1 10 4 = 0 := by rw [hs2]; simp [gUI_at]
                have b5 : s2.1 10 5 = 0 := by rw [hs2]; simp [gUI_at]
                have s8 : s2.1 8 = σ.1 8 := (g2 8 (by decide)).trans (q2 8 (by decide))
                obtain ⟨τ, r1, r2⟩ := sum9_loop (σ0 := σ) (what := p3) (N := N) (A := A) (S := σ.1 8) hl29 htl hN2 z6 z7 et N 0 s2 1100 (Cx_ks hX e2) s8 (fun j hj => by rw [g2 11 (by decide)]; exact q4 j hj) (fun a x y => by rw [g2 a (by omega), q2 a (by omega)]) b7 (by omega) (by omega)
                rw [b6, b4, b5] at r1
                have kτ := ks_tr e2 r2
                have t59 : τ.1 59 = σ.1 59 := kτ.1 59 (by unfold kp; omega)
                obtain ⟨u, u1, u2, u3, u4⟩ := reads_eq (σ := τ) (p := j) (t := t) (m := n) hj ht hn60 (by rw [kτ.1 77 (by unfold kp; omega)]; exact e77) (by rw [t59, z4]; exact et) (told := σ.2.1 (40 + 2 * j + 1)) (fun i hi => by rw [kτ.2.2.2.2]; exact (hc i hi).1)
                rw [← hA] at u4
                have ku : km τ u := km_79 u2 u3
                have kσu := ks_tr kτ (ks_km ku)
                have u59 : u.1 59 = σ.1 59 := kσu.1 59 (by unfold kp; omega)
                obtain ⟨υ, v1, v2⟩ := sum10_loop (σ0 := σ) (what := p3) (N := N) (A := A) (W := σ.1 59) (nmo := nI m) (F := F) hl29 htl hN2 (by rw [ed1, eN]) (by rw [z2]; exact z6) (by rw [z3]; exact z7) (by rw [z4]; exact et) N 0 u p1 0 0 1100 (Mx_ks hX kσu) (IV_ks hV kσu) u59 u4 (fun a x y => kσu.1 a (by unfold kp; omega)) (by omega) (by omega)
                have eS : smS σ f w F (σ.1 59) A (gRem (nI m) 100) (σ.1 59 0) t (last + 1 - t) = smS σ f w F (σ.1 8) A (nI (m % 100)) (σ.1 8 0) t (last + 1 - t) := by
                  have eD : drS σ f w F (σ.1 59) A (nI (m % 100)) = drS σ f w F (σ.1 8) A (nI (m % 100)) := by
                    unfold drS
                    rw [show nxS F (σ.1 59) = nxS F (σ.1 8) from nxS_eq z1 z2 z3, z1]
                  unfold smS
                  rw [er, z0, eD]
                rw [eS] at v1
                refine ⟨(if p3 = 0 then (lp (smS σ f w F (σ.1 8) A (nI (m % 100)) (σ.1 8 0) t (last + 1 - t)) N 0 (p1, 0, 0)).2.1 else (lp (smS σ f w F (σ.1 8) A (nI (m % 100)) (σ.1 8 0) t (last + 1 - t)) N 0 (p1, 0, 0)).2.2), τ, υ, A9 _ _ h1 ?_, A10 τ _ ?_, Inv_ks hI (ks_tr kσu (ks_km v2))⟩
                · rw [if_pos rfl, if_pos i6, c6, if_pos k6, et, q1, gb_some]
                  unfold mX7_beginDraws
                  rw [gl_eq, gl_eq, gl_eq, gl_eq, ← hs2, gb_some, s8, et, elast, gl_eq, gl_eq, eN]
                  exact r1
                · rw [kτ.1 76 (by unfold kp; omega), e76, if_pos nI_0, u1, gb_some, gl_eq, gl_eq, gl_eq, now_eq, gb_some, u59, z4, et, elast, gl_eq, gl_eq]
                  exact v1
