/-! ===== THE LAW read: operands, levels ===== -/
def nmI (x : Int32) : Int32 := if x = 98 then 5 else if x = 99 then 0 else if x = 100 then 4 else if x = 103 then 2 else if x = 107 then 3 else if x = 108 then 1 else -1
theorem nameOf_eq (υ : gS) (x : Int32) : mX10_nameOf υ x = some (nmI x, υ) := by
  unfold mX10_nameOf nmI
  by_cases h1 : x = 98
  · simp [h1]
  · by_cases h2 : x = 99
    · simp [h2]
    · by_cases h3 : x = 100
      · simp [h3]
      · by_cases h4 : x = 103
        · simp [h4]
        · by_cases h5 : x = 107
          · simp [h5]
          · by_cases h6 : x = 108
            · simp [h6]
            · simp only [h1, h2, h3, h4, h5, h6, if_false]
              simp
theorem b7_step {n i : Nat} {σ : gS} {v : Int32} (hi : i < 6) : mJ1_indexOfChar_4cfef_b7 (n + 1) σ 6 v (nI i) = if gBy i = v then some (nI i, σ) else mJ1_indexOfChar_4cfef_b7 n σ 6 v (nI (i + 1)) := by
  conv => lhs; unfold mJ1_indexOfChar_4cfef_b7
  rw [if_neg (show ¬ (6 : Int32) ≤ nI i from nI_ge (b := 6) hi (by decide)), if_pos (inbB_nI hi (by decide)), nI_cl (by omega), gl_eq, nI_1]
theorem b7_end {n : Nat} {σ : gS} {v : Int32} : mJ1_indexOfChar_4cfef_b7 (n + 1) σ 6 v (nI 6) = some (-1, σ) := by
  conv => lhs; unfold mJ1_indexOfChar_4cfef_b7
  rw [if_pos (by decide)]
def ixB (v : Int32) : Int32 := if gBy 0 = v then nI 0 else if gBy 1 = v then nI 1 else if gBy 2 = v then nI 2 else if gBy 3 = v then nI 3 else if gBy 4 = v then nI 4 else if gBy 5 = v then nI 5 else -1
theorem b7_all {n : Nat} {σ : gS} {v : Int32} : mJ1_indexOfChar_4cfef_b7 (n + 7) σ 6 v (nI 0) = some (ixB v, σ) := by
  unfold ixB
  rw [b7_step (by decide), b7_step (by decide), b7_step (by decide), b7_step (by decide), b7_step (by decide), b7_step (by decide), b7_end]
  by_cases h0 : gBy 0 = v
  · rw [if_pos h0, if_pos h0]
  · rw [if_neg h0, if_neg h0]
    by_cases h1 : gBy 1 = v
    · rw [if_pos h1, if_pos h1]
    · rw [if_neg h1, if_neg h1]
      by_cases h2 : gBy 2 = v
      · rw [if_pos h2, if_pos h2]
      · rw [if_neg h2, if_neg h2]
        by_cases h3 : gBy 3 = v
        · rw [if_pos h3, if_pos h3]
        · rw [if_neg h3, if_neg h3]
          by_cases h4 : gBy 4 = v
          · rw [if_pos h4, if_pos h4]
          · rw [if_neg h4, if_neg h4]
            by_cases h5 : gBy 5 = v
            · rw [if_pos h5, if_pos h5]
            · rw [if_neg h5, if_neg h5]
theorem ix_nm : ∀ m, m < 256 → ixB (Int8.toInt32 (Int32.toInt8 (nI m))) = nmI (nI m) := by decide +kernel
theorem ch_nm : ∀ m, m < 256 → UInt32.toInt32 (Int32.toUInt32 (nI m) % 65536) = nI m := by decide +kernel
theorem indexOf9 {σ : gS} {m : Nat} (hm : m < 256) : mJ0_indexOf_0f7a4 σ (UInt32.toInt32 (Int32.toUInt32 (nI m) % 65536)) = some (nmI (nI m), σ) := by
  rw [ch_nm m hm]
  unfold mJ0_indexOf_0f7a4 mJ0_indexOf_7cf53 mJ0_isLatin1_aae02 mJ0_length_8abf5 mJ0_coder_7d493 mJ1_indexOf_4cfef mJ1_canEncode_9a6ad
  rw [if_neg (by decide), if_pos rfl, gb_some, if_pos rfl, if_neg (by decide), gb_some, gb_some, if_neg (nI_pos (by omega)), if_neg (show ¬ (255 : Int32) < nI m from nI_nlt (a := 255) (by omega) (by decide)), gb_some, if_pos rfl, gl_eq, show gMax 0 0 = (0 : Int32) from by decide, show gMin ((6 : Int32) >>> ((0 : Int32) &&& 31)) 6 = 6 from by decide, gl_eq, if_pos (by decide)]
  unfold mJ1_indexOfChar_4cfef
  rw [gl_eq, gl_eq, show (1100 : Nat) = 1093 + 7 from rfl]
  rw [show mJ1_indexOfChar_4cfef_b7 (1093 + 7) σ 6 (Int8.toInt32 (Int32.toInt8 (nI m))) 0 = _ from b7_all, gb_some, gb_some, gb_some, ix_nm m hm]
theorem nm_cases (x : Int32) : (nmI x < 0 ∧ nmI x = -1) ∨ (∃ j : Nat, j < 6 ∧ nmI x = nI j ∧ x ≠ -1) := by
  unfold nmI
  by_cases h1 : x = 98
  · rw [if_pos h1]; exact Or.inr ⟨5, by decide, rfl, by rw [h1]; decide⟩
  · rw [if_neg h1]
    by_cases h2 : x = 99
    · rw [if_pos h2]; exact Or.inr ⟨0, by decide, rfl, by rw [h2]; decide⟩
    · rw [if_neg h2]
      by_cases h3 : x = 100
      · rw [if_pos h3]; exact Or.inr ⟨4, by decide, rfl, by rw [h3]; decide⟩
      · rw [if_neg h3]
        by_cases h4 : x = 103
        · rw [if_pos h4]; exact Or.inr ⟨2, by decide, rfl, by rw [h4]; decide⟩
        · rw [if_neg h4]
          by_cases h5 : x = 107
          · rw [if_pos h5]; exact Or.inr ⟨3, by decide, rfl, by rw [h5]; decide⟩
          · rw [if_neg h5]
            by_cases h6 : x = 108
            · rw [if_pos h6]; exact Or.inr ⟨1, by decide, rfl, by rw [h6]; decide⟩
            · rw [if_neg h6]; exact Or.inl ⟨by decide, rfl⟩
theorem chr_rg {T p : Nat} {tp : Nat → Int32} (h : ∀ j, j < T → rg (tp j) 0 255) : chr T tp p = -1 ∨ ∃ m : Nat, m < 256 ∧ chr T tp p = nI m := by
  unfold chr
  by_cases hlt : p < T
  · rw [if_pos hlt]
    obtain ⟨m, -, h2, h3⟩ := h p hlt
    exact Or.inr ⟨m, by omega, h3⟩
  · rw [if_neg hlt]; exact Or.inl rfl
/-- the reference's count of what is open changes -/
theorem op_QB {K T p z c : Nat} {tp : Nat → Int32} {σ υ : gS} (h : QB K T tp p z c σ υ) (v : Int32) : QB K T tp p z c σ (gUI υ 52 18 v) := by
  obtain ⟨⟨t1, t2, t3, t4, t5, t6, t7, t8⟩, h1, h2, h3, h4, h5, h6, h7⟩ := h
  exact ⟨⟨t1, t2, t3, t4, t5, by rw [gUI_ne (by decide)]; exact t6, t7, by rw [gUI_at, if_neg (by decide)]; exact t8⟩, h1, h2, h3, h4, by rw [gUI_at, if_neg (by decide)]; exact h5, h6, by rw [gUI_at, if_neg (by decide)]; exact h7⟩
theorem op_fQ {c : Nat} {υ : gS} {v : Int32} : fQ c υ (gUI υ 52 18 v) := ⟨fun a x _ => gUI_ne x, fun j _ x _ => by rw [gUI_at, if_neg x], rfl, fun j _ => by rw [gUI_ne (by decide)]⟩
def OPs (K T : Nat) (tp : Nat → Int32) (o D d : Nat) : Prop := ∀ (σ υ : gS) (p z c : Nat), QB K T tp p z c σ υ → υ.1 52 18 = nI o → RE K T tp o p z c σ υ ((mgread D).2 σ K (nI o)) ((mggram d).1 υ)
def LVs (K T : Nat) (tp : Nat → Int32) (lv o D : Nat) (ref : gS → Option (Bool × gS)) : Prop := ∀ (σ υ : gS) (p z c : Nat), QB K T tp p z c σ υ → υ.1 52 18 = nI o → RE K T tp o p z c σ υ ((mgread D).1 σ K (nI lv) (nI o)) (ref υ)
theorem op_step {K T : Nat} {tp : Nat → Int32} {o D d : Nat} (ho : o ≤ 6) (hO : o < 6 → OPs K T tp (o + 1) D d) (hL : o < 6 → LVs K T tp 0 (o + 1) D (mggram d).2.2.2.2.2) : OPs K T tp o (D + 1) (d + 1) := by
  intro σ υ p z c h h18
  have hK := gK_of h.1
  have hT := h.1.2.1
  have hpT := h.2.1
  show RE K T tp o p z c σ υ (mrX3_readOperand (mgread D) σ K (nI o)) (mrX10_isO (mggram d) υ)
  obtain ⟨x, hx⟩ : ∃ x, x = chr T tp p := ⟨_, rfl⟩
  cases hdg : dgB x with
  | true =>
    obtain ⟨σ', υ', p', w, r1, r2, r3, r4, r5, r6, r7, r8, r9, r10⟩ := num_loop (rec := mggram d) (o := o) (p0 := p) h.2.2.1 h.2.2.2.1 4 0 0 1100 1100 σ υ h h18 (by omega) (by decide) (Or.inr (by rw [Nat.add_zero, ← hx]; exact hdg)) (by omega) (by omega)
    refine Or.inl ⟨σ', υ', p', [18 + w], ?_, ?_, r3, r4, r5, Nat.succ_pos 0, r6, r7, r9, r10, Ex_1 (Or.inr (by omega))⟩
    · unfold mrX3_readOperand mX3_readNumber
      rw [if_pos hK, letter_eq h, gb_some, gl_eq, ← hx, isDigit9, gb_some, hdg, if_pos rfl, if_pos hK, gl_eq, gl_eq, show mX3_readNumber_b4 K 1100 σ 0 0 = _ from r1, gb_some]
    · unfold mrX10_isO
      rw [isDigit10 h, gb_some, ← hx, hdg, if_pos rfl, gl_eq, gl_eq]
      exact r2
  | false =>
    have e9 : mrX3_readOperand (mgread D) σ K (nI o) = mX3_readOperand_b33 (mgread D) K σ (nI o) x (nmI x) := by
      unfold mrX3_readOperand
      rw [if_pos hK, letter_eq h, gb_some, gl_eq, ← hx, isDigit9, gb_some, hdg, if_neg (by decide)]
      rcases chr_rg (p := p) h.1.2.2.1 with q | ⟨m, hm, q⟩
      · rw [← hx] at q
        rw [q, if_neg (by decide)]
        rfl
      · rw [← hx] at q
        rw [q, if_pos (show (0 : Int32) ≤ nI m from nI_pos' (by omega)), indexOf9 hm, gb_some]
    have e10 : ∀ X, (if nmI x < 0 then (if (υ.1 52 18) = 6 then (some (false, υ)) else (gLet (gUI υ 52 18 ((υ.1 52 18) + 1)) (fun s8 => gBind (mX10_is s8 33) (fun r9 s10 => if r9 = true then (gBind ((mggram d).1 s10 ) (fun r29 s30 => if r29 = true then (gBind (mX10_codes s30 16) (fun r33 s34 => if r33 = true then ((mX10_isO_b145 (mggram d) s34 1)) else ((mX10_isO_b144 (mggram d) s34 )))) else ((mX10_isO_b144 (mggram d) s30 )))) else (gBind (mX10_is s10 45) (fun r11 s12 => if r11 = true then (gBind ((mggram d).1 s12 ) (fun r23 s24 => if r23 = true then (gBind (mX10_codes s24 17) (fun r27 s28 => if r27 = true then ((mX10_isO_b179 (mggram d) s28 1)) else ((mX10_isO_b178 (mggram d) s28 )))) else ((mX10_isO_b178 (mggram d) s24 )))) else (gBind (mX10_is s12 40) (fun r13 s14 => if r13 = true then (gBind ((mggram d).2.2.2.2.2 s14 ) (fun r19 s20 => if r19 = true then (gBind (mX10_is s20 41) (fun r21 s22 => if r21 = true then ((mX10_isO_b213 (mggram d) s22 1)) else ((mX10_isO_b212 (mggram d) s22 )))) else ((mX10_isO_b212 (mggram d) s20 )))) else ((mX10_isO_b212 (mggram d) s14 )))))))))) else (gLet (gUI υ 52 17 ((υ.1 52 17) + 1)) (fun s35 => gBind (mX10_codes s35 (nmI x)) (fun r36 s37 => some (r36, s37))))) = X → mrX10_isO (mggram d) υ = X := fun X hX => by
      unfold mrX10_isO
      rw [isDigit10 h, gb_some, ← hx, hdg, if_neg (by decide), sign_eq h, gb_some, ← hx, nameOf_eq, gb_some, gl_eq]
      exact hX
    rw [e9]
    unfold mX3_readOperand_b33
    rw [gl_eq]
    rcases nm_cases x with ⟨n1, n2⟩ | ⟨j, hj, n2, n3⟩
    · rw [if_pos n1]
      by_cases ho6 : o < 6
      · obtain ⟨υ1, hυ1⟩ : ∃ u, u = gUI υ 52 18 (nI (o + 1)) := ⟨_, rfl⟩
        have h1 : QB K T tp p z c σ υ1 := by rw [hυ1]; exact op_QB h _
        have f1 : fQ c υ υ1 := by rw [hυ1]; exact op_fQ
        have o1 : υ1.1 52 18 = nI (o + 1) := by rw [hυ1, gUI_at, if_pos rfl]
        have E10 : ∀ X, (gBind (mX10_is υ1 33) (fun r9 s10 => if r9 = true then (gBind ((mggram d).1 s10 ) (fun r29 s30 => if r29 = true then (gBind (mX10_codes s30 16) (fun r33 s34 => if r33 = true then ((mX10_isO_b145 (mggram d) s34 1)) else ((mX10_isO_b144 (mggram d) s34 )))) else ((mX10_isO_b144 (mggram d) s30 )))) else (gBind (mX10_is s10 45) (fun r11 s12 => if r11 = true then (gBind ((mggram d).1 s12 ) (fun r23 s24 => if r23 = true then (gBind (mX10_codes s24 17) (fun r27 s28 => if r27 = true then ((mX10_isO_b179 (mggram d) s28 1)) else ((mX10_isO_b178 (mggram d) s28 )))) else ((mX10_isO_b178 (mggram d) s24 )))) else (gBind (mX10_is s12 40) (fun r13 s14 => if r13 = true then (gBind ((mggram d).2.2.2.2.2 s14 ) (fun r19 s20 => if r19 = true then (gBind (mX10_is s20 41) (fun r21 s22 => if r21 = true then ((mX10_isO_b213 (mggram d) s22 1)) else ((mX10_isO_b212 (mggram d) s22 )))) else ((mX10_isO_b212 (mggram d) s20 )))) else ((mX10_isO_b212 (mggram d) s14 )))))))) = X → mrX10_isO (mggram d) υ = X := fun X hX => by
          refine e10 _ ?_
          rw [if_pos n1, h18, if_neg (fun q : nI o = 6 => by have := (nI_eq (b := 6) (by omega) (by decide)).mp q; omega), nI_1, gl_eq, ← hυ1]
          exact hX
        rw [if_pos (show nI o < 6 from nI_lt (b := 6) ho6 (by decide)), skip_eq h, ← hx]
        -- the end with one open less
        have endT : ∀ (u : gS) (p' : Nat), u.1 52 18 = nI (o + 1) → mX10_isO_b214 (mggram d) u 1 = some (true, gUI u 52 18 (nI o)) := fun u _ hu => by
          unfold mX10_isO_b214
          rw [hu, nI_pred, gl_eq, if_neg (by decide), if_pos rfl]
        have endF : ∀ u : gS, mX10_isO_b214 (mggram d) u 0 = some (false, gUI u 52 18 (u.1 52 18 - 1)) := fun u => by
          unfold mX10_isO_b214
          rw [gl_eq, if_pos rfl]
        by_cases x40 : x = 40
        · -- ( E )
          have hlt : p < T := chr_lt (w := 40) (by rw [← hx, x40]) (by decide)
          have h2 := ad_QB h1 hlt
          rw [if_pos x40, gb_some, if_pos rfl]
          have E10' : ∀ X, (gBind ((mggram d).2.2.2.2.2 (adM p υ1) ) (fun r19 s20 => if r19 = true then (gBind (mX10_is s20 41) (fun r21 s22 => if r21 = true then ((mX10_isO_b213 (mggram d) s22 1)) else ((mX10_isO_b212 (mggram d) s22 )))) else ((mX10_isO_b212 (mggram d) s20 )))) = X → mrX10_isO (mggram d) υ = X := fun X hX => by
            refine E10 _ ?_
            rw [is_eq h1, ← hx, x40, if_neg (by decide), gb_some, if_neg (by decide), is_eq h1, ← hx, x40, if_neg (by decide), gb_some, if_neg (by decide), is_eq h1, ← hx, x40, if_pos rfl, gb_some, if_pos rfl]
            exact hX
          rcases hL ho6 (adC K p σ) (adM p υ1) (p + 1) z c h2 (adM_o.trans o1) with ⟨σ', υ', p', code, a1, a2, a3, a4, a5, a6, a7, a8, a9, a10, a11⟩ | ⟨σ', υ', p', a1, a2, a3, a4, a5, a6, a7⟩
          · rw [nI_1, show (mgread D).1 (adC K p σ) K 0 (nI (o + 1)) = _ from a1, gb_some, if_pos rfl, skip_eq a3]
            by_cases x41 : chr T tp p' = 41
            · have hlt' : p' < T := chr_lt x41 (by decide)
              have h3 := ad_QB a3 hlt'
              refine Or.inl ⟨adC K p' σ', gUI (adM p' υ') 52 18 (nI o), p' + 1, code, ?_, E10' _ ?_, op_QB h3 _, by rw [gUI_at, if_pos rfl], by omega, a6, fP_tr (fP_tr ad_fP a7 (Nat.le_refl z)) ad_fP (Nat.le_refl z), fQ_tr (fQ_tr (fQ_tr f1 ad_fQ (Nat.le_refl c)) a8 (Nat.le_refl c)) (fQ_tr (c' := c) ad_fQ op_fQ (Nat.le_refl c)) (Nat.le_refl c), ?_, ?_, a11⟩
              · rw [if_pos x41, gb_some, if_pos rfl]
              · rw [a2, gb_some, if_pos rfl, is_eq a3, if_pos x41, gb_some, if_pos rfl]
                unfold mX10_isO_b213
                rw [gl_eq]
                exact endT _ 0 (adM_o.trans a4)
              · unfold adC
                rw [gUI_ne (by omega), gUI_ne (by omega)]
                exact a9
              · unfold adM
                rw [gUI_ne (by decide), gUI_ne (by decide)]
                exact a10
            · refine Or.inr ⟨σ', gUI υ' 52 18 (υ'.1 52 18 - 1), p', ?_, E10' _ ?_, a3.2.2.2.2.1, by rw [gUI_at, if_neg (by decide)]; exact a3.2.2.2.2.2.1, a3.2.1, fP_tr ad_fP a7 (Nat.le_refl z), fQ_tr (fQ_tr (fQ_tr f1 ad_fQ (Nat.le_refl c)) a8 (Nat.le_refl c)) (op_fQ (c := c)) (Nat.le_refl c)⟩
              · rw [if_neg x41, gb_some, if_neg (by decide)]
              · rw [a2, gb_some, if_pos rfl, is_eq a3, if_neg x41, gb_some, if_neg (by decide)]
                unfold mX10_isO_b212 mX10_isO_b213
                rw [gl_eq]
                exact endF _
          · refine Or.inr ⟨σ', gUI υ' 52 18 (υ'.1 52 18 - 1), p', ?_, E10' _ ?_, a3, by rw [gUI_at, if_neg (by decide)]; exact a4, a5, fP_tr ad_fP a6 (Nat.le_refl z), fQ_tr (fQ_tr (fQ_tr f1 ad_fQ (Nat.le_refl c)) a7 (Nat.le_refl c)) (op_fQ (c := c)) (Nat.le_refl c)⟩
            · rw [nI_1, show (mgread D).1 (adC K p σ) K 0 (nI (o + 1)) = _ from a1, gb_some, if_neg (by decide)]
            · rw [a2, gb_some, if_neg (by decide)]
              unfold mX10_isO_b212 mX10_isO_b213
              rw [gl_eq]
              exact endF _
        · rw [if_neg x40, gb_some, if_neg (by decide), skip_eq h, ← hx]
          -- ! O and - O
          have una : ∀ (w : Int32) (cc : Nat) (hcc : cc = 16 ∨ cc = 17) (X9 X10 : Option (Bool × gS)), x = w → w ≠ -1 → (X9 = gBind ((mgread D).2 (adC K p σ) K (nI (o + 1))) (fun r18 s19 => if r18 = true then gBind (mX3_addStep s19 K (oC cc) 0) (fun r21 s22 => some (true, s22)) else some (false, s19))) → (X10 = gBind ((mggram d).1 (adM p υ1)) (fun r29 s30 => if r29 = true then (gBind (mX10_codes s30 (nI cc)) (fun r33 s34 => if r33 = true then mX10_isO_b214 (mggram d) s34 1 else mX10_isO_b214 (mggram d) s34 0)) else mX10_isO_b214 (mggram d) s30 0)) → RE K T tp o p z c σ υ X9 X10 := fun w cc hcc X9 X10 hxw hw e9 e10 => by
            have hlt : p < T := chr_lt (w := w) (by rw [← hx, hxw]) hw
            have h2 := ad_QB h1 hlt
            rcases hO ho6 (adC K p σ) (adM p υ1) (p + 1) z c h2 (adM_o.trans o1) with ⟨σ', υ', p', code, a1, a2, a3, a4, a5, a6, a7, a8, a9, a10, a11⟩ | ⟨σ', υ', p', a1, a2, a3, a4, a5, a6, a7⟩
            · have hz' := h2.2.2.1
              have zz := h.2.2.1
              have cz := h.2.2.2.1
              have pT := a3.2.1
              have b1 := st_QB a3 (show z + code.length + 1 ≤ p' by omega) (show c + code.length + 1 ≤ p' by omega) (oC cc) (eC cc) (nI cc)
              have ec0 : eC cc = 0 := by
                unfold eC
                rw [if_neg (by omega), if_neg (by omega)]
              refine Or.inl ⟨stC K (z + code.length) (oC cc) (eC cc) σ', gUI (cdM (c + code.length) (nI cc) υ') 52 18 (nI o), p', code ++ [cc], ?_, ?_, ?_, by rw [gUI_at, if_pos rfl], ?_, ?_, fP_tr (fP_tr ad_fP a7 (Nat.le_refl z)) stC_fP (by omega), fQ_tr (fQ_tr (fQ_tr f1 ad_fQ (Nat.le_refl c)) a8 (Nat.le_refl c)) (fQ_tr (cdM_fQ (c := c + code.length)) op_fQ (Nat.le_refl _)) (by omega), ?_, ?_, Ex_un a11 hcc⟩
              · rw [e9, a1, gb_some, if_pos rfl, ← ec0, addStep_eq hK a3.2.2.2.2.2.2.1 (by omega), gb_some]
              · rw [e10, a2, gb_some, if_pos rfl, codes_eq a3.2.2.2.2.2.2.2 (by omega), gb_some, if_pos rfl]
                exact endT _ 0 (cdM_o.trans a4)
              · rw [List.length_append]
                exact op_QB b1 _
              · rw [List.length_append]
                show p + (code.length + 1) ≤ p'
                omega
              · rw [List.length_append]
                show 0 < code.length + 1
                omega
              · rw [RepC_app]
                refine ⟨RepC_ag code z (fun j x1 x2 => stC_fP.2.2.2 j x2) a9, st_RepC⟩
              · rw [RepM_app, gUI_ne (show 68 ≠ 52 by decide)]
                refine ⟨RepM_ag code c (fun j x1 x2 => cdM_fQ.2.2.2 j x2) a10, cd_RepM (by omega)⟩
            · refine Or.inr ⟨σ', gUI υ' 52 18 (υ'.1 52 18 - 1), p', ?_, ?_, a3, by rw [gUI_at, if_neg (by decide)]; exact a4, a5, fP_tr ad_fP a6 (Nat.le_refl z), fQ_tr (fQ_tr (fQ_tr f1 ad_fQ (Nat.le_refl c)) a7 (Nat.le_refl c)) (op_fQ (c := c)) (Nat.le_refl c)⟩
              · rw [e9, a1, gb_some, if_neg (by decide)]
              · rw [e10, a2, gb_some, if_neg (by decide)]
                exact endF _
          by_cases x33 : x = 33
          · refine una 33 16 (Or.inl rfl) _ _ x33 (by decide) ?_ ?_
            · rw [if_pos x33, gb_some, if_pos rfl]
              unfold mX3_readOperand_b120 mX3_readOperand_b146
              rw [nI_1, x33]
              rfl
            · refine E10 _ ?_
              rw [is_eq h1, ← hx, if_pos x33, gb_some, if_pos rfl]
              unfold mX10_isO_b145 mX10_isO_b144 mX10_isO_b145
              rfl
          · rw [if_neg x33, gb_some, if_neg (by decide), skip_eq h, ← hx]
            by_cases x45 : x = 45
            · refine una 45 17 (Or.inr rfl) _ _ x45 (by decide) ?_ ?_
              · rw [if_pos x45, gb_some, if_pos rfl]
                unfold mX3_readOperand_b120 mX3_readOperand_b146
                rw [nI_1, x45]
                rfl
              · refine E10 _ ?_
                rw [is_eq h1, ← hx, if_neg x33, gb_some, if_neg (by decide), is_eq h1, ← hx, if_pos x45, gb_some, if_pos rfl]
                unfold mX10_isO_b179 mX10_isO_b178 mX10_isO_b179
                rfl
            · refine Or.inr ⟨σ, gUI υ1 52 18 (υ1.1 52 18 - 1), p, ?_, E10 _ ?_, h.2.2.2.2.1, by rw [gUI_at, if_neg (by decide)]; exact h1.2.2.2.2.2.1, hpT, fP_rf K z σ, fQ_tr f1 (op_fQ (c := c)) (Nat.le_refl c)⟩
              · rw [if_neg x45, gb_some, if_neg (by decide)]
              · rw [is_eq h1, ← hx, if_neg x33, gb_some, if_neg (by decide), is_eq h1, ← hx, if_neg x45, gb_some, if_neg (by decide), is_eq h1, ← hx, if_neg x40, gb_some, if_neg (by decide)]
                unfold mX10_isO_b212 mX10_isO_b213
                rw [gl_eq]
                exact endF _
      · have eo : o = 6 := by omega
        subst eo
        refine Or.inr ⟨σ, υ, p, ?_, e10 _ ?_, h.2.2.2.2.1, h.2.2.2.2.2.1, hpT, fP_rf K z σ, fQ_rf c υ⟩
        · rw [if_neg (by decide)]
        · rw [if_pos n1, h18, if_pos (by decide)]
    · have hlt : p < T := chr_lt (w := x) hx.symm n3
      have h2 := ad_QB h hlt
      have zz := h.2.2.1
      have cz := h.2.2.2.1
      have b1 := st_QB h2 (show z + 1 ≤ p + 1 by omega) (show c + 1 ≤ p + 1 by omega) (oC j) (eC j) (nI j)
      refine Or.inl ⟨stC K z (oC j) (eC j) (adC K p σ), cdM c (nI j) (adM p υ), p + 1, [j], ?_, e10 _ ?_, b1, cdM_o.trans (adM_o.trans h18), Nat.le_refl _, Nat.succ_pos 0, fP_tr ad_fP stC_fP (Nat.le_refl z), fQ_tr ad_fQ cdM_fQ (Nat.le_refl c), st_RepC, cd_RepM (by omega), Ex_1 (Or.inl hj)⟩
      · rw [n2, if_neg (nI_pos (by omega)), h.2.2.2.2.1, nI_1, gl_eq]
        show gBind (mX3_addStep (adC K p σ) K 118 (nI j)) _ = _
        rw [addStep_eq hK h2.2.2.2.2.2.2.1 (by omega), gb_some, show oC j = 118 from if_pos hj, show eC j = nI j from if_pos hj]
      · rw [n2, if_neg (nI_pos (by omega)), h.2.2.2.2.2.1, nI_1, gl_eq]
        show gBind (mX10_codes (adM p υ) (nI j)) _ = _
        rw [codes_eq h2.2.2.2.2.2.2.2 (by omega), gb_some]
