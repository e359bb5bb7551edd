/-! ===== THE LAW read: a text ===== -/
theorem LinC_app {st de : Nat → Int32} : ∀ (a b : List (List Nat × List Nat)) (i z w : Nat), LinC st de i a z → LinC st de z b w → LinC st de i (a ++ b) w
  | [], b, i, z, w, h, k => by
    have e : i = z := h
    rw [e]; exact k
  | l :: r, b, i, z, w, h, k => by
    rcases h with ⟨h1, h2, h3, h4⟩ | ⟨h1, h2, h3, h4, h5, h6⟩
    · exact Or.inl ⟨h1, h2, h3, LinC_app r b _ z w h4 k⟩
    · exact Or.inr ⟨h1, h2, h3, h4, h5, LinC_app r b _ z w h6 k⟩
theorem LinC_ag {st de st2 de2 : Nat → Int32} : ∀ (ls : List (List Nat × List Nat)) (i z : Nat), (∀ j, j < z → st2 j = st j ∧ de2 j = de j) → LinC st de i ls z → LinC st2 de2 i ls z
  | [], i, z, _, h => h
  | l :: r, i, z, hh, h => by
    rcases h with ⟨h1, h2, h3, h4⟩ | ⟨h1, h2, h3, h4, h5, h6⟩
    · have := LinC_le r _ z h4
      exact Or.inl ⟨h1, RepC_ag l.2 i (fun j _ x => hh j (by omega)) h2, (hh _ (by omega)).1.trans h3, LinC_ag r _ z hh h4⟩
    · have := LinC_le r _ z h6
      exact Or.inr ⟨h1, RepC_ag l.1 i (fun j _ x => hh j (by omega)) h2, (hh _ (by omega)).1.trans h3, RepC_ag l.2 _ (fun j _ x => hh j (by omega)) h4, (hh _ (by omega)).1.trans h5, LinC_ag r _ z hh h6⟩
theorem LinM_app {as sa en cd : Nat → Int32} : ∀ (a b : List (List Nat × List Nat)) (q p Q P R S : Nat), LinM as sa en cd q p a Q P → LinM as sa en cd Q P b R S → LinM as sa en cd q p (a ++ b) R S
  | [], b, q, p, Q, P, R, S, h, k => by
    obtain ⟨e1, e2⟩ := h
    rw [e1, e2]; exact k
  | l :: r, b, q, p, Q, P, R, S, h, k => ⟨h.1, h.2.1, h.2.2.1, h.2.2.2.1, LinM_app r b _ _ Q P R S h.2.2.2.2 k⟩
theorem LinM_ag {as sa en cd as2 sa2 en2 cd2 : Nat → Int32} : ∀ (ls : List (List Nat × List Nat)) (q p Q P : Nat), (∀ j, j < Q → as2 j = as j ∧ sa2 j = sa j ∧ en2 j = en j) → (∀ j, j < P → cd2 j = cd j) → LinM as sa en cd q p ls Q P → LinM as2 sa2 en2 cd2 q p ls Q P
  | [], q, p, Q, P, _, _, h => h
  | l :: r, q, p, Q, P, hq, hp, h => by
    obtain ⟨h1, h2, h3, h4, h5⟩ := h
    have hle := LinM_le r _ _ Q P h5
    obtain ⟨x1, x2, x3⟩ := hq q (by omega)
    exact ⟨x1.trans h1, x2.trans h2, x3.trans h3, RepM_ag _ p (fun j _ x => hp j (by rw [List.length_append] at x; omega)) h4, LinM_ag r _ _ Q P hq hp h5⟩
def TXE (K T : Nat) (σ υ : gS) (X : Option (Bool × gS)) (Y : Option (Int32 × gS)) : Prop :=
  (∃ (σ' υ' : gS) (z c : Nat) (ls : List (List Nat × List Nat)), X = some (true, σ') ∧ Y = mX10_law_b66 υ' 1 ∧ 0 < z ∧ z ≤ 121 ∧ c ≤ 120 ∧ ls.length ≤ 60 ∧ σ'.1 K 2 = nI z ∧ υ'.1 52 19 = nI c ∧ υ'.1 52 20 = nI ls.length ∧ LinC (σ'.1 (K + 1)) (σ'.1 (K + 2)) 0 ls z ∧ LinM (υ'.1 65) (υ'.1 66) (υ'.1 67) (υ'.1 68) 0 0 ls ls.length c ∧ WFl ls ∧ fP K 0 σ σ' ∧ fR 0 0 υ υ') ∨
  (∃ (σ' υ' : gS) (p : Nat), X = some (false, σ') ∧ Y = mX10_law_b66 υ' 0 ∧ σ'.1 K 8 = nI p ∧ υ'.1 52 17 = nI p ∧ p ≤ T ∧ fP K 0 σ σ' ∧ fR 0 0 υ υ')
theorem text_loop {K T : Nat} {tp : Nat → Int32} {σ0 υ0 : gS} (hK : gk K = 3) : ∀ (k n m p z c : Nat) (ls : List (List Nat × List Nat)) (σ υ : gS), QB K T tp p z c σ υ → υ.1 52 18 = nI 0 → υ.1 52 20 = nI ls.length → 2 * ls.length ≤ p → LinC (σ.1 (K + 1)) (σ.1 (K + 2)) 0 ls z → LinM (υ.1 65) (υ.1 66) (υ.1 67) (υ.1 68) 0 0 ls ls.length c → WFl ls → fP K 0 σ0 σ → fR 0 0 υ0 υ → T + 1 ≤ k + p → T + 1 ≤ n + p → T + 1 ≤ m + p →
    TXE K T σ0 υ0 (mX3_readText_b2 K n σ (nI ls.length)) (gBind (mX10_isLine υ) (fun r s => gLet (b2i r) (fun v => mX10_law_b25 m s v))) := by
  intro k
  induction k with
  | zero =>
    intro n m p z c ls σ υ h h18 h20 hl hC hM hW fp fr hk hn hm
    have := h.2.1
    omega
  | succ k ih =>
    intro n m p z c ls σ υ h h18 h20 hl hC hM hW fp fr hk hn hm
    have hT := h.1.2.1
    have hp := h.2.1
    obtain ⟨n, rfl⟩ : ∃ q, n = q + 1 := ⟨n - 1, by omega⟩
    obtain ⟨m, rfl⟩ : ∃ q, m = q + 1 := ⟨m - 1, by omega⟩
    have hh : ∀ X, (gBind (mX3_readLine σ K) (fun r3 s4 => if r3 = true then (if (s4.1 K 8) < (s4.1 K 7) then (gBind (mX3_skip s4 K 59) (fun r5 s6 => if r5 = true then mX3_readText_b2 K n s6 (nI (ls.length + 1)) else (some (false, s6)))) else (some (true, s4))) else (some (false, s4)))) = X → mX3_readText_b2 K (n + 1) σ (nI ls.length) = X := fun X hX => by
      conv => lhs; unfold mX3_readText_b2
      rw [if_neg (show ¬ (120 : Int32) ≤ nI ls.length from nI_ge (b := 120) (show ls.length < 120 by omega) (by decide)), nI_1]
      exact hX
    rcases line_eq hK h h18 h20 (show ls.length ≤ 60 by omega) with ⟨σ1, υ1, p1, z1, c1, l, a1, a2, a3, a4, a5, a6, a7, a8, a9, a10, a11, a12, a13⟩ | ⟨σ1, υ1, p1, a1, a2, a3, a4, a5, a6, a7⟩
    · have hp1 := a3.2.1
      have hz1 := a3.2.2.1
      have hc1 := a3.2.2.2.1
      have ln : (ls ++ [l]).length = ls.length + 1 := by rw [List.length_append]; rfl
      have hC1 : LinC (σ1.1 (K + 1)) (σ1.1 (K + 2)) 0 (ls ++ [l]) z1 := LinC_app ls [l] 0 z z1 (LinC_ag ls 0 z (fun j hj => a9.2.2.2 j hj) hC) a11
      have hM1 : LinM (υ1.1 65) (υ1.1 66) (υ1.1 67) (υ1.1 68) 0 0 (ls ++ [l]) (ls ++ [l]).length c1 := by
        rw [ln]
        exact LinM_app ls [l] 0 0 _ _ _ _ (LinM_ag ls 0 0 _ _ (fun j hj => a10.2.2.2.2 j hj) (fun j hj => a10.2.2.2.1 j hj) hM) a12
      have hW1 : WFl (ls ++ [l]) := fun x hx => by
        rcases List.mem_append.mp hx with q | q
        · exact hW x q
        · rw [List.mem_singleton.mp q]; exact a13
      have fp1 : fP K 0 σ0 σ1 := fP_tr fp a9 (by omega)
      have fr1 : fR 0 0 υ0 υ1 := fR_tr fr a10 (by omega) (by omega)
      have e7 : σ1.1 K 7 = nI T := a3.1.2.2.2.2.2.2.1
      rw [a2, gb_some, show b2i true = 1 from rfl, gl_eq]
      have rh : ∀ X, (if chr T tp p1 = 59 then (gBind (mX10_isLine (adM p1 υ1)) (fun r s => gLet (b2i r) (fun v => mX10_law_b25 m s v))) else mX10_law_b46 υ1 1) = X → mX10_law_b25 (m + 1) υ1 1 = X := fun X hX => by
        conv => lhs; unfold mX10_law_b25
        rw [if_neg (by decide), is_QC a3]
        by_cases q : chr T tp p1 = 59
        · rw [if_pos q] at hX ⊢
          exact hX
        · rw [if_neg q] at hX ⊢
          exact hX
      by_cases h59 : chr T tp p1 = 59
      · have hlt : p1 < T := chr_lt h59 (by decide)
        have q2 := ad_QC a3 hlt
        have IH := ih n m (p1 + 1) z1 c1 (ls ++ [l]) (adC K p1 σ1) (adM p1 υ1) q2 (adM_o.trans a4) (by unfold adM; rw [gUI_at, if_neg (by decide), ln]; exact a5) (by rw [ln]; omega) (by unfold adC; rw [gUI_ne (by omega), gUI_ne (by omega)]; exact hC1) (by unfold adM; rw [gUI_ne (by decide), gUI_ne (by decide), gUI_ne (by decide), gUI_ne (by decide)]; exact hM1) hW1 (fP_tr fp1 ad_fP (Nat.le_refl 0)) (fR_tr fr1 (fR_of (ad_fQ (c := 0))) (Nat.le_refl 0) (Nat.le_refl 0)) (by omega) (by omega) (by omega)
        rw [hh _ rfl, rh _ rfl, a1, gb_some, if_pos rfl, a3.2.2.2.2.1, e7, if_pos (nI_lt hlt (by omega)), skip_QC a3, if_pos h59, gb_some, if_pos rfl, if_pos h59]
        rw [ln] at IH
        exact IH
      · rw [hh _ rfl, rh _ rfl, a1, gb_some, if_pos rfl, a3.2.2.2.2.1, e7, if_neg h59]
        unfold mX10_law_b46 mX10_law_b65
        rw [if_neg (show ¬ (1 : Int32) = 0 by decide), a3.2.2.2.2.2.1, a3.1.2.2.2.2.2.2.2]
        by_cases hlt : p1 < T
        · rw [if_pos (nI_lt hlt (by omega)), skip_QC a3, if_neg h59, gb_some, if_neg (by decide), if_neg (fun q => absurd ((nI_eq (by omega) (by omega)).mp q) (by omega))]
          exact Or.inr ⟨σ1, υ1, p1, rfl, rfl, a3.2.2.2.2.1, a3.2.2.2.2.2.1, hp1, fp1, fr1⟩
        · have e : p1 = T := by omega
          rw [if_neg (nI_nlt (show T ≤ p1 by omega) (by omega)), if_pos (by rw [e])]
          exact Or.inl ⟨σ1, υ1, z1, c1, ls ++ [l], rfl, rfl, by omega, by omega, by omega, by rw [ln]; omega, a3.2.2.2.2.2.2.1, a3.2.2.2.2.2.2.2, by rw [ln]; exact a5, hC1, hM1, hW1, fp1, fr1⟩
    · rw [hh _ rfl, a1, gb_some, if_neg (by decide), a2, gb_some, show b2i false = 0 from rfl, gl_eq]
      have e : mX10_law_b25 (m + 1) υ1 0 = mX10_law_b66 υ1 0 := by
        conv => lhs; unfold mX10_law_b25
        rw [if_pos rfl]
        unfold mX10_law_b46 mX10_law_b65
        rw [if_pos rfl]
      rw [e]
      exact Or.inr ⟨σ1, υ1, p1, rfl, rfl, a3, a4, a5, fP_tr fp a6 (by omega), fR_tr fr a7 (by omega) (by omega)⟩
/-! the tables taken over -/
theorem b151_loop {c : Nat} (hc : c ≤ 200) : ∀ (k i m : Nat) (σ : gS), i + k = c → σ.1 52 19 = nI c → (∀ j, j < i → σ.1 64 j = σ.1 68 j) → k < m → ∃ τ : gS, mX10_law_b151 m σ (nI i) = some (1, τ) ∧ (∀ a, a ≠ 64 → τ.1 a = σ.1 a) ∧ τ.2 = σ.2 ∧ ∀ j, j < c → τ.1 64 j = σ.1 68 j := by
  intro k
  induction k with
  | zero =>
    intro i m σ hi h19 hj hm
    obtain ⟨m, rfl⟩ : ∃ q, m = q + 1 := ⟨m - 1, by omega⟩
    refine ⟨σ, ?_, fun _ _ => rfl, rfl, fun j hx => hj j (by omega)⟩
    conv => lhs; unfold mX10_law_b151
    rw [h19, if_pos (nI_le (show c ≤ i by omega) (by omega))]
  | succ k ih =>
    intro i m σ hi h19 hj hm
    obtain ⟨m, rfl⟩ : ∃ q, m = q + 1 := ⟨m - 1, by omega⟩
    have ii : inbB (nI i) 200 = true := inbB_nI (by omega) (by decide)
    obtain ⟨τ, r1, r2, r3, r4⟩ := ih (i + 1) m (gUI σ 64 i (σ.1 68 i)) (by omega) (by rw [gUI_ne (by decide)]; exact h19) (fun j hx => by
      rw [gUI_at, gUI_ne (show 68 ≠ 64 by decide)]
      by_cases e : j = i
      · rw [if_pos e, e]
      · rw [if_neg e]; exact hj j (by omega)) (by omega)
    refine ⟨τ, ?_, fun a ha => by rw [r2 a ha, gUI_ne ha], r3, fun j hx => by rw [r4 j hx, gUI_ne (by decide)]⟩
    conv => lhs; unfold mX10_law_b151
    rw [h19, if_neg (nI_ge (show i < c by omega) (by omega)), if_pos ii, if_pos ii, nI_cl (by omega), gl_eq, gl_eq, nI_1]
    exact r1
theorem b99_loop {Q c : Nat} (hQ : Q ≤ 60) (hc : c ≤ 200) : ∀ (k i m : Nat) (σ : gS), i + k = Q → σ.1 52 12 = nI Q → σ.1 52 19 = nI c → (∀ j, j < i → σ.1 61 j = σ.1 65 j ∧ σ.1 62 j = σ.1 66 j ∧ σ.1 63 j = σ.1 67 j) → k < m → ∃ τ : gS, mX10_law_b99 m σ (nI i) = some (1, τ) ∧ (∀ a, a ≠ 61 → a ≠ 62 → a ≠ 63 → a ≠ 64 → τ.1 a = σ.1 a) ∧ τ.2 = σ.2 ∧ (∀ j, j < Q → τ.1 61 j = σ.1 65 j ∧ τ.1 62 j = σ.1 66 j ∧ τ.1 63 j = σ.1 67 j) ∧ ∀ j, j < c → τ.1 64 j = σ.1 68 j := by
  intro k
  induction k with
  | zero =>
    intro i m σ hi h12 h19 hj hm
    obtain ⟨m, rfl⟩ : ∃ q, m = q + 1 := ⟨m - 1, by omega⟩
    obtain ⟨τ, r1, r2, r3, r4⟩ := b151_loop hc c 0 1100 σ (by omega) h19 (fun j hx => absurd hx (by omega)) (by omega)
    refine ⟨τ, ?_, fun a _ _ _ x => r2 a x, r3, fun j hx => ?_, r4⟩
    · conv => lhs; unfold mX10_law_b99
      rw [h12, if_pos (nI_le (show Q ≤ i by omega) (by omega)), gl_eq]
      exact r1
    · rw [r2 61 (by decide), r2 62 (by decide), r2 63 (by decide)]
      exact hj j (by omega)
  | succ k ih =>
    intro i m σ hi h12 h19 hj hm
    obtain ⟨m, rfl⟩ : ∃ q, m = q + 1 := ⟨m - 1, by omega⟩
    have i1 : inbB (nI i) 61 = true := inbB_nI (by omega) (by decide)
    have i0 : inbB (nI i) 60 = true := inbB_nI (by omega) (by decide)
    obtain ⟨s, hs⟩ : ∃ s, s = gUI (gUI (gUI σ 61 i (σ.1 65 i)) 62 i (σ.1 66 i)) 63 i (σ.1 67 i) := ⟨_, rfl⟩
    have ne : ∀ a, a ≠ 61 → a ≠ 62 → a ≠ 63 → s.1 a = σ.1 a := fun a x y w => by rw [hs, gUI_ne w, gUI_ne y, gUI_ne x]
    obtain ⟨τ, r1, r2, r3, r4, r5⟩ := ih (i + 1) m s (by omega) (by rw [ne 52 (by decide) (by decide) (by decide)]; exact h12) (by rw [ne 52 (by decide) (by decide) (by decide)]; exact h19) (fun j hx => by
      rw [ne 65 (by decide) (by decide) (by decide), ne 66 (by decide) (by decide) (by decide), ne 67 (by decide) (by decide) (by decide), hs]
      rw [gUI_ne (show 61 ≠ 63 by decide), gUI_ne (show 61 ≠ 62 by decide), gUI_ne (show 62 ≠ 63 by decide), gUI_at, gUI_at, gUI_at, gUI_ne (show 62 ≠ 61 by decide), gUI_ne (show 63 ≠ 62 by decide), gUI_ne (show 63 ≠ 61 by decide)]
      by_cases e : j = i
      · rw [if_pos e, if_pos e, if_pos e, e]; exact ⟨rfl, rfl, rfl⟩
      · rw [if_neg e, if_neg e, if_neg e]; exact hj j (by omega)) (by omega)
    refine ⟨τ, ?_, fun a x y w v => by rw [r2 a x y w v, ne a x y w], by rw [r3, hs]; rfl, fun j hx => ?_, fun j hx => ?_⟩
    · conv => lhs; unfold mX10_law_b99
      rw [h12, if_neg (nI_ge (show i < Q by omega) (by omega)), if_pos i1, if_pos i0, nI_cl (by omega), gl_eq, if_pos i1, if_pos i0, gl_eq, if_pos i1, if_pos i0, gl_eq, gl_eq, nI_1, gUI_ne (show 66 ≠ 61 by decide), gUI_ne (show 67 ≠ 62 by decide), gUI_ne (show 67 ≠ 61 by decide), ← hs]
      exact r1
    · have := r4 j hx
      rw [ne 65 (by decide) (by decide) (by decide), ne 66 (by decide) (by decide) (by decide), ne 67 (by decide) (by decide) (by decide)] at this
      exact this
    · rw [r5 j hx, ne 68 (by decide) (by decide) (by decide)]
