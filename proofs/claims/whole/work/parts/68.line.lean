/-! ===== THE LAW read: a line, a text ===== -/
def QC (K T : Nat) (tp : Nat → Int32) (p z c : Nat) (σ υ : gS) : Prop := PT K T tp σ υ ∧ p ≤ T ∧ z ≤ p + 1 ∧ c ≤ p ∧ σ.1 K 8 = nI p ∧ υ.1 52 17 = nI p ∧ σ.1 K 2 = nI z ∧ υ.1 52 19 = nI c
theorem skip_QC {K T p z c : Nat} {tp : Nat → Int32} {σ υ : gS} (h : QC K T tp p z c σ υ) (w : Int32) : mX3_skip σ K w = if chr T tp p = w then some (true, adC K p σ) else some (false, σ) := by
  obtain ⟨ht, hp, -, -, h8, -⟩ := h
  obtain ⟨h1, h2, h3, h4, h5, h6, h7, -⟩ := id ht
  have hl : mX3_letter σ K = some (chr T tp p, σ) := by
    unfold mX3_letter chr
    rw [if_pos (gK_of ht), h4]
    show (if gk 17 = 1120 then (if σ.1 K 8 < 0 then some ((-1 : Int32), σ) else if σ.1 K 7 ≤ σ.1 K 8 then some (-1, σ) else (if gk 17 = 1120 then (if inbB (σ.1 K 8) 120 = true then some (σ.1 17 (Int32.toNatClampNeg (σ.1 K 8)), σ) else none) else none)) else none) = _
    rw [if_pos (show gk 17 = 1120 from rfl), if_pos (show gk 17 = 1120 from rfl), h8, if_neg (nI_pos (by omega)), h7]
    by_cases hlt : p < T
    · rw [if_neg (nI_ge hlt (by omega)), if_pos hlt, if_pos (inbB_nI (show p < 120 by omega) (by decide)), nI_cl (by omega), h5]
    · rw [if_pos (nI_le (show T ≤ p by omega) (by omega)), if_neg hlt]
  unfold mX3_skip
  rw [if_pos (gK_of ht), hl, gb_some, h8, nI_1]
  rfl
theorem is_QC {K T p z c : Nat} {tp : Nat → Int32} {σ υ : gS} (h : QC K T tp p z c σ υ) (w : Int32) : mX10_is υ w = if chr T tp p = w then some (true, adM p υ) else some (false, υ) := by
  obtain ⟨ht, hp, -, -, -, h8, -⟩ := h
  obtain ⟨h1, h2, h3, h4, h5, h6, h7, h9⟩ := id ht
  have hl : mX10_sign υ = some (chr T tp p, υ) := by
    unfold mX10_sign chr
    rw [h9, h8]
    by_cases hlt : p < T
    · rw [if_neg (nI_ge hlt (by omega)), if_pos hlt, if_pos (inbB_nI (show p < 120 by omega) (by decide)), nI_cl (by omega), h6]
    · rw [if_pos (nI_le (show T ≤ p by omega) (by omega)), if_neg hlt]
  unfold mX10_is
  rw [hl, gb_some, h8, nI_1]
  rfl
theorem ad_QC {K T p z c : Nat} {tp : Nat → Int32} {σ υ : gS} (h : QC K T tp p z c σ υ) (hlt : p < T) : QB K T tp (p + 1) z c (adC K p σ) (adM p υ) := by
  obtain ⟨ht, hp, hz, hc, h1, h2, h3, h4⟩ := h
  refine ⟨PT_fr ht (ad_fP (z := z)) (ad_fQ (c := c)), by omega, by omega, by omega, ?_, ?_, ?_, ?_⟩
  · unfold adC; rw [gUI_at, if_pos rfl]
  · unfold adM; rw [gUI_at, if_pos rfl]
  · unfold adC; rw [gUI_at, if_neg (by decide)]; exact h3
  · unfold adM; rw [gUI_at, if_neg (by decide)]; exact h4
/-- the reference's frame: below c codes, below q lines, nothing changes -/
def fR (c q : Nat) (σ τ : gS) : Prop := (∀ a, a ≠ 52 → a ≠ 65 → a ≠ 66 → a ≠ 67 → a ≠ 68 → τ.1 a = σ.1 a) ∧ (∀ j, j ≠ 17 → j ≠ 18 → j ≠ 19 → j ≠ 20 → τ.1 52 j = σ.1 52 j) ∧ τ.2 = σ.2 ∧ (∀ j, j < c → τ.1 68 j = σ.1 68 j) ∧ ∀ j, j < q → τ.1 65 j = σ.1 65 j ∧ τ.1 66 j = σ.1 66 j ∧ τ.1 67 j = σ.1 67 j
theorem fR_rf (c q : Nat) (σ : gS) : fR c q σ σ := ⟨fun _ _ _ _ _ _ => rfl, fun _ _ _ _ _ => rfl, rfl, fun _ _ => rfl, fun _ _ => ⟨rfl, rfl, rfl⟩⟩
theorem fR_tr {c c' q q' : Nat} {σ τ υ : gS} (h : fR c q σ τ) (k : fR c' q' τ υ) (hc : c ≤ c') (hq : q ≤ q') : fR c q σ υ := ⟨fun a x y w v u => (k.1 a x y w v u).trans (h.1 a x y w v u), fun j x y w v => (k.2.1 j x y w v).trans (h.2.1 j x y w v), k.2.2.1.trans h.2.2.1, fun j hj => (k.2.2.2.1 j (by omega)).trans (h.2.2.2.1 j hj), fun j hj => by
  obtain ⟨k1, k2, k3⟩ := k.2.2.2.2 j (by omega)
  obtain ⟨h1, h2, h3⟩ := h.2.2.2.2 j hj
  exact ⟨k1.trans h1, k2.trans h2, k3.trans h3⟩⟩
theorem fR_of {c q : Nat} {σ τ : gS} (h : fQ c σ τ) : fR c q σ τ := ⟨fun a x _ _ _ y => h.1 a x y, fun j x y w _ => h.2.1 j x y w, h.2.2.1, h.2.2.2, fun j _ => ⟨by rw [h.1 65 (by decide) (by decide)], by rw [h.1 66 (by decide) (by decide)], by rw [h.1 67 (by decide) (by decide)]⟩⟩
theorem fR_65 {c q : Nat} {x : Int32} {υ : gS} : fR c q υ (gUI υ 65 q x) := ⟨fun a _ x _ _ _ => gUI_ne x, fun j _ _ _ _ => by rw [gUI_ne (by decide)], rfl, fun j _ => by rw [gUI_ne (by decide)], fun j hj => ⟨by rw [gUI_at, if_neg (by omega)], by rw [gUI_ne (by decide)], by rw [gUI_ne (by decide)]⟩⟩
theorem fR_66 {c q : Nat} {x : Int32} {υ : gS} : fR c q υ (gUI υ 66 q x) := ⟨fun a _ _ x _ _ => gUI_ne x, fun j _ _ _ _ => by rw [gUI_ne (by decide)], rfl, fun j _ => by rw [gUI_ne (by decide)], fun j hj => ⟨by rw [gUI_ne (by decide)], by rw [gUI_at, if_neg (by omega)], by rw [gUI_ne (by decide)]⟩⟩
def leM (q c : Nat) (υ : gS) : gS := gUI (gUI υ 52 20 (nI (q + 1))) 67 q (nI c)
theorem fR_le {c c' q : Nat} {υ : gS} : fR c q υ (leM q c' υ) := by
  unfold leM
  exact ⟨fun a x _ _ y _ => by rw [gUI_ne y, gUI_ne x], fun j _ _ _ x => by rw [gUI_ne (by decide), gUI_at, if_neg x], rfl, fun j _ => by rw [gUI_ne (by decide), gUI_ne (by decide)], fun j hj => ⟨by rw [gUI_ne (by decide), gUI_ne (by decide)], by rw [gUI_ne (by decide), gUI_ne (by decide)], by rw [gUI_at, if_neg (by omega), gUI_ne (by decide)]⟩⟩
theorem PT_fR {K T z c q : Nat} {tp : Nat → Int32} {σ υ σ' υ' : gS} (h : PT K T tp σ υ) (hp : fP K z σ σ') (hq : fR c q υ υ') : PT K T tp σ' υ' := by
  obtain ⟨h1, h2, h3, h4, h5, h6, h7, h8⟩ := h
  exact ⟨h1, h2, h3, by rw [hp.2.2.1]; exact h4, by rw [hp.1 17 (by omega) (by omega) (by omega)]; exact h5, by rw [hq.1 60 (by decide) (by decide) (by decide) (by decide) (by decide)]; exact h6, by rw [hp.2.1 7 (by decide) (by decide)]; exact h7, by rw [hq.2.1 9 (by decide) (by decide) (by decide) (by decide)]; exact h8⟩
theorem QB_cg {K T p z c : Nat} {tp : Nat → Int32} {σ υ υ' : gS} (h : QB K T tp p z c σ υ) (h1 : υ'.1 52 = υ.1 52) (h2 : υ'.1 60 = υ.1 60) : QB K T tp p z c σ υ' := by
  obtain ⟨⟨a1, a2, a3, a4, a5, a6, a7, a8⟩, hp, hz, hc, b1, b2, b3, b4⟩ := h
  exact ⟨⟨a1, a2, a3, a4, a5, h2.trans a6, a7, by rw [h1]; exact a8⟩, hp, hz, hc, b1, by rw [h1]; exact b2, b3, by rw [h1]; exact b4⟩
theorem st1_QB {K T p z c : Nat} {tp : Nat → Int32} {σ υ : gS} (h : QB K T tp p z c σ υ) (hz : z + 1 ≤ p) (s d : Int32) : QB K T tp p (z + 1) c (stC K z s d σ) υ := by
  obtain ⟨ht, hp, -, hc, h1, h2, h3, h4⟩ := h
  refine ⟨PT_fr ht (stC_fP (z := z)) (fQ_rf 0 υ), hp, hz, hc, ?_, h2, ?_, h4⟩
  · unfold stC; rw [gUI_at, if_neg (by decide), gUI_ne (by omega), gUI_ne (by omega)]; exact h1
  · unfold stC; rw [gUI_at, if_pos rfl]
theorem st_at {K z : Nat} {s d : Int32} {σ : gS} : (stC K z s d σ).1 (K + 1) z = s := by
  unfold stC; rw [gUI_ne (by omega), gUI_ne (by omega), gUI_at, if_pos rfl]
/-- a line's end, on both sides -/
theorem line_end {K T q p z c : Nat} {tp : Nat → Int32} {σ υ : gS} (h : QB K T tp p z c σ υ) (h18 : υ.1 52 18 = nI 0) (h20 : υ.1 52 20 = nI q) (hq : q ≤ 60) : mX3_readLine_b38 K σ = some (true, stC K z 59 0 σ) ∧ mX10_isLine_b71 υ = some (true, leM q c υ) ∧ QC K T tp p (z + 1) c (stC K z 59 0 σ) (leM q c υ) ∧ (leM q c υ).1 52 18 = nI 0 ∧ (leM q c υ).1 52 20 = nI (q + 1) := by
  have hT := h.1.2.1
  have hp := h.2.1
  have hz := h.2.2.1
  have hc := h.2.2.2.1
  refine ⟨?_, ?_, ⟨PT_fR h.1 (stC_fP (z := z)) (fR_le (c := 0)), hp, by omega, hc, ?_, ?_, ?_, ?_⟩, ?_, ?_⟩
  · unfold mX3_readLine_b38
    rw [addStep_eq (gK_of h.1) h.2.2.2.2.2.2.1 (by omega), gb_some]
  · unfold mX10_isLine_b71
    rw [h20, gl_eq, if_pos (inbB_nI (show q < 61 by omega) (by decide)), nI_cl (by omega), nI_1, gUI_at, if_neg (by decide), h.2.2.2.2.2.2.2, gl_eq]
    rfl
  · unfold stC; rw [gUI_at, if_neg (by decide), gUI_ne (by omega), gUI_ne (by omega)]; exact h.2.2.2.2.1
  · unfold leM; rw [gUI_ne (by decide), gUI_at, if_neg (by decide)]; exact h.2.2.2.2.2.1
  · unfold stC; rw [gUI_at, if_pos rfl]
  · unfold leM; rw [gUI_ne (by decide), gUI_at, if_neg (by decide)]; exact h.2.2.2.2.2.2.2
  · unfold leM; rw [gUI_ne (by decide), gUI_at, if_neg (by decide)]; exact h18
  · unfold leM; rw [gUI_ne (by decide), gUI_at, if_pos rfl]
def LNE (K T : Nat) (tp : Nat → Int32) (q p z c : Nat) (σ υ : gS) (X Y : Option (Bool × gS)) : Prop :=
  (∃ (σ' υ' : gS) (p' z' c' : Nat) (l : List Nat × List Nat), X = some (true, σ') ∧ Y = some (true, υ') ∧ QC K T tp p' z' c' σ' υ' ∧ υ'.1 52 18 = nI 0 ∧ υ'.1 52 20 = nI (q + 1) ∧ p + 1 ≤ p' ∧ z < z' ∧ c ≤ c' ∧ fP K z σ σ' ∧ fR c q υ υ' ∧ LinC (σ'.1 (K + 1)) (σ'.1 (K + 2)) z [l] z' ∧ LinM (υ'.1 65) (υ'.1 66) (υ'.1 67) (υ'.1 68) q c [l] (q + 1) c' ∧ ((l.1 = [] ∨ Ex l.1) ∧ Ex l.2)) ∨
  (∃ (σ' υ' : gS) (p' : Nat), X = some (false, σ') ∧ Y = some (false, υ') ∧ σ'.1 K 8 = nI p' ∧ υ'.1 52 17 = nI p' ∧ p' ≤ T ∧ fP K z σ σ' ∧ fR c q υ υ')
theorem line_eq {K T q p z c : Nat} {tp : Nat → Int32} {σ υ : gS} (hK : gk K = 3) (h : QB K T tp p z c σ υ) (h18 : υ.1 52 18 = nI 0) (h20 : υ.1 52 20 = nI q) (hq : q ≤ 60) : LNE K T tp q p z c σ υ (mX3_readLine σ K) (mX10_isLine υ) := by
  have hT := h.1.2.1
  have iq : inbB (nI q) 61 = true := inbB_nI (by omega) (by decide)
  have cq : Int32.toNatClampNeg (nI q) = q := nI_cl (by omega)
  obtain ⟨υ0, hυ0⟩ : ∃ υ0, υ0 = gUI υ 65 q (nI c) := ⟨_, rfl⟩
  have q0 : QB K T tp p z c σ υ0 := QB_cg h (by rw [hυ0, gUI_ne (by decide)]) (by rw [hυ0, gUI_ne (by decide)])
  have f0 : fR c q υ υ0 := by rw [hυ0]; exact fR_65
  unfold mX3_readLine mX10_isLine
  rw [if_pos hK, h20, if_pos iq, cq, h.2.2.2.2.2.2.2, gl_eq, ← hυ0]
  rcases E_all (T := T) (tp := tp) hK σ υ0 p z c q0 (by rw [hυ0, gUI_ne (by decide)]; exact h18) with ⟨σ1, υ1, p1, a, a1, a2, a3, a4, a5, a6, a7, a8, a9, a10, a11⟩ | ⟨σ1, υ1, p1, a1, a2, a3, a4, a5, a6, a7⟩
  · have a1' : mX3_readLevel σ K 0 0 = some (true, σ1) := a1
    have a2' : mX10_isE υ0 = some (true, υ1) := a2
    have h20' : υ1.1 52 20 = nI q := by rw [a8.2.1 20 (by decide) (by decide) (by decide), hυ0, gUI_ne (by decide)]; exact h20
    have h65 : υ1.1 65 q = nI c := by rw [a8.1 65 (by decide) (by decide), hυ0, gUI_at, if_pos rfl]
    have hp1 := a3.2.1
    have hz1 := a3.2.2.1
    have hc1 := a3.2.2.2.1
    have ane : a ≠ [] := fun e => by rw [e] at a6; exact absurd a6 (by decide)
    obtain ⟨υ2, hυ2⟩ : ∃ υ2, υ2 = gUI υ1 66 q (nI c) := ⟨_, rfl⟩
    have q2 : QB K T tp p1 (z + a.length) (c + a.length) σ1 υ2 := QB_cg a3 (by rw [hυ2, gUI_ne (by decide)]) (by rw [hυ2, gUI_ne (by decide)])
    have f12 : ∀ e, fR e q υ1 υ2 := fun e => by rw [hυ2]; exact fR_66
    have f2 : fR c q υ υ2 := fR_tr (fR_tr f0 (fR_of a8) (Nat.le_refl c) (Nat.le_refl q)) (f12 c) (Nat.le_refl c) (Nat.le_refl q)
    have g20 : υ2.1 52 20 = nI q := by rw [hυ2, gUI_ne (by decide)]; exact h20'
    have g18 : υ2.1 52 18 = nI 0 := by rw [hυ2, gUI_ne (by decide)]; exact a4
    have g65 : υ2.1 65 q = nI c := by rw [hυ2, gUI_ne (by decide)]; exact h65
    rw [a1', gb_some, if_pos rfl, a2', gb_some, if_pos rfl, h20', if_pos iq, if_pos iq, cq, h65, gl_eq, ← hυ2, skip_eq q2, is_eq q2]
    by_cases h63 : chr T tp p1 = 63
    · have hlt : p1 < T := chr_lt h63 (by decide)
      have q3 := ad_QB q2 hlt
      have m20 : (adM p1 υ2).1 52 20 = nI q := by unfold adM; rw [gUI_at, if_neg (by decide)]; exact g20
      obtain ⟨υ3, hυ3⟩ : ∃ υ3, υ3 = gUI (adM p1 υ2) 66 q (nI (c + a.length)) := ⟨_, rfl⟩
      obtain ⟨σ3, hσ3⟩ : ∃ σ3, σ3 = stC K (z + a.length) 63 0 (adC K p1 σ1) := ⟨_, rfl⟩
      have q4 : QB K T tp (p1 + 1) (z + a.length + 1) (c + a.length) σ3 υ3 := by
        rw [hσ3]
        exact QB_cg (st1_QB q3 (by omega) 63 0) (by rw [hυ3, gUI_ne (by decide)]) (by rw [hυ3, gUI_ne (by decide)])
      have k18 : υ3.1 52 18 = nI 0 := by rw [hυ3, gUI_ne (by decide)]; exact adM_o.trans g18
      have k20 : υ3.1 52 20 = nI q := by rw [hυ3, gUI_ne (by decide)]; exact m20
      have k65 : υ3.1 65 q = nI c := by rw [hυ3, gUI_ne (by decide)]; unfold adM; rw [gUI_ne (by decide)]; exact g65
      have k66 : υ3.1 66 q = nI (c + a.length) := by rw [hυ3, gUI_at, if_pos rfl]
      have fM : ∀ e, fR e q υ2 υ3 := fun e => by rw [hυ3]; exact fR_tr (fR_of (ad_fQ (c := e))) fR_66 (Nat.le_refl e) (Nat.le_refl q)
      have fC : fP K (z + a.length) σ1 σ3 := by rw [hσ3]; exact fP_tr ad_fP stC_fP (Nat.le_refl _)
      have t63 : σ3.1 (K + 1) (z + a.length) = 63 := by rw [hσ3]; exact st_at
      rw [if_pos h63, if_pos h63, gb_some, if_pos rfl, gb_some, if_pos rfl, addStep_eq hK q3.2.2.2.2.2.2.1 (by omega), gb_some, m20, if_pos iq, cq, show (adM p1 υ2).1 52 19 = nI (c + a.length) from q3.2.2.2.2.2.2.2, gl_eq, ← hυ3, ← hσ3]
      rcases E_all (T := T) (tp := tp) hK σ3 υ3 (p1 + 1) _ _ q4 k18 with ⟨σ4, υ4, p4, b, b1, b2, b3, b4, b5, b6, b7, b8, b9, b10, b11⟩ | ⟨σ4, υ4, p4, b1, b2, b3, b4, b5, b6, b7⟩
      · have b1' : mX3_readLevel σ3 K 0 0 = some (true, σ4) := b1
        have b2' : mX10_isE υ3 = some (true, υ4) := b2
        have hz4 := b3.2.2.1
        have hc4 := b3.2.2.2.1
        obtain ⟨e1, e2, e3, e4, e5⟩ := line_end b3 b4 (by rw [b8.2.1 20 (by decide) (by decide) (by decide)]; exact k20) hq
        rw [b1', gb_some, if_pos rfl, b2', gb_some, if_pos rfl, e1, e2]
        have fP1 : fP K (z + a.length) σ1 (stC K (z + a.length + 1 + b.length) 59 0 σ4) := fP_tr (fP_tr fC b7 (by omega)) stC_fP (by omega)
        have fM1 : fR (c + a.length) q υ1 (leM q (c + a.length + b.length) υ4) := fR_tr (fR_tr (fR_tr (f12 _) (fM _) (Nat.le_refl _) (Nat.le_refl q)) (fR_of b8) (Nat.le_refl _) (Nat.le_refl q)) (fR_le (c := c + a.length)) (Nat.le_refl _) (Nat.le_refl q)
        refine Or.inl ⟨_, _, p4, z + a.length + 1 + b.length + 1, c + a.length + b.length, (a, b), rfl, rfl, e3, e4, e5, by omega, by omega, by omega, fP_tr a7 fP1 (by omega), fR_tr (fR_tr f0 (fR_of a8) (Nat.le_refl c) (Nat.le_refl q)) fM1 (by omega) (Nat.le_refl q), Or.inr ⟨ane, RepC_ag a z (fun j x y => fP1.2.2.2 j (by omega)) a9, ?_, RepC_ag b _ (fun j x y => stC_fP.2.2.2 j (by show j < z + a.length + 1 + b.length; omega)) b9, st_at, rfl⟩, ⟨?_, ?_, ?_, ?_, rfl, rfl⟩, Or.inr a11, b11⟩
        · rw [(stC_fP (K := K) (z := z + a.length + 1 + b.length) (s := 59) (d := 0) (σ := σ4)).2.2.2 (z + a.length) (by omega) |>.1, (b7.2.2.2 (z + a.length) (by omega)).1]
          exact t63
        · show (leM q (c + a.length + b.length) υ4).1 65 q = nI c
          unfold leM
          rw [gUI_ne (by decide), gUI_ne (by decide), b8.1 65 (by decide) (by decide)]
          exact k65
        · show (leM q (c + a.length + b.length) υ4).1 66 q = nI (c + a.length)
          unfold leM
          rw [gUI_ne (by decide), gUI_ne (by decide), b8.1 66 (by decide) (by decide)]
          exact k66
        · show (leM q (c + a.length + b.length) υ4).1 67 q = nI (c + a.length + b.length)
          unfold leM
          rw [gUI_at, if_pos rfl]
        · show RepM ((leM q (c + a.length + b.length) υ4).1 68) c (a ++ b)
          rw [RepM_app]
          refine ⟨RepM_ag a c (fun j x y => fM1.2.2.2.1 j (by omega)) a10, RepM_ag b _ (fun j x y => ?_) b10⟩
          exact (fR_le (c := c + a.length + b.length) (c' := c + a.length + b.length) (q := q) (υ := υ4)).2.2.2.1 j (by omega)
      · have b1' : mX3_readLevel σ3 K 0 0 = some (false, σ4) := b1
        have b2' : mX10_isE υ3 = some (false, υ4) := b2
        rw [b1', gb_some, if_neg (by decide), b2', gb_some, if_neg (by decide)]
        exact Or.inr ⟨σ4, υ4, p4, rfl, rfl, b3, b4, b5, fP_tr a7 (fP_tr fC b6 (by omega)) (by omega), fR_tr f2 (fR_tr (fM c) (fR_of b7) (by omega) (Nat.le_refl q)) (Nat.le_refl c) (Nat.le_refl q)⟩
    · obtain ⟨e1, e2, e3, e4, e5⟩ := line_end q2 g18 g20 hq
      rw [if_neg h63, if_neg h63, gb_some, if_neg (by decide), gb_some, if_neg (by decide), e1, e2]
      refine Or.inl ⟨_, _, p1, z + a.length + 1, c + a.length, ([], a), rfl, rfl, e3, e4, e5, by omega, by omega, by omega, fP_tr a7 stC_fP (by omega), fR_tr f2 (fR_le (c := c)) (Nat.le_refl c) (Nat.le_refl q), Or.inl ⟨rfl, RepC_ag a z (fun j x y => stC_fP.2.2.2 j (by show j < z + a.length; omega)) a9, st_at, rfl⟩, ⟨?_, ?_, ?_, ?_, rfl, rfl⟩, Or.inl rfl, a11⟩
      · show (leM q (c + a.length) υ2).1 65 q = nI c
        unfold leM
        rw [gUI_ne (by decide), gUI_ne (by decide)]
        exact g65
      · show (leM q (c + a.length) υ2).1 66 q = nI c
        unfold leM
        rw [gUI_ne (by decide), gUI_ne (by decide), hυ2, gUI_at, if_pos rfl]
      · show (leM q (c + a.length) υ2).1 67 q = nI (c + 0 + a.length)
        unfold leM
        rw [gUI_at, if_pos rfl, Nat.add_zero]
      · show RepM ((leM q (c + a.length) υ2).1 68) c a
        refine RepM_ag a c (fun j x y => ?_) a10
        rw [(fR_le (c := c + a.length) (c' := c + a.length) (q := q) (υ := υ2)).2.2.2.1 j (by omega)]
        exact (f12 (c + a.length)).2.2.2.1 j (by omega)
  · have a1' : mX3_readLevel σ K 0 0 = some (false, σ1) := a1
    have a2' : mX10_isE υ0 = some (false, υ1) := a2
    rw [a1', gb_some, if_neg (by decide), a2', gb_some, if_neg (by decide)]
    exact Or.inr ⟨σ1, υ1, p1, rfl, rfl, a3, a4, a5, a6, fR_tr f0 (fR_of a7) (Nat.le_refl c) (Nat.le_refl q)⟩
