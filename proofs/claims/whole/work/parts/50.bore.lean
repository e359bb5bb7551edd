/-! ===== bore ===== -/
theorem gvF_keep {b : Int32} {N : Nat → Int32 → Int32 → Int32} {A : Nat → Int32} {t : Nat} {c0 g : Int32} (hg : ¬ g = -2) : ∀ k i, lp (fGv b N A t c0) k i g = g := by
  intro k
  induction k with
  | zero => intro i; rfl
  | succ k ih =>
    intro i
    rw [lp_succ]
    have e : fGv b N A t c0 i g = g := if_neg (fun q => hg q.1)
    rw [e]
    exact ih (i + 1)
theorem gvF_val {b : Int32} {N : Nat → Int32 → Int32 → Int32} {A : Nat → Int32} {t : Nat} {c0 : Int32} : ∀ k i, t + i + k ≤ 100 → lp (fGv b N A t c0) k i (-2) = -2 ∨ ∃ j, i ≤ j ∧ j < i + k ∧ lp (fGv b N A t c0) k i (-2) = nI (t + j) := by
  intro k
  induction k with
  | zero => intro i _; exact Or.inl rfl
  | succ k ih =>
    intro i hi
    rw [lp_succ]
    by_cases h : wkC b N A t c0 i ≤ b
    · have e : fGv b N A t c0 i (-2) = -2 := if_neg (fun q => q.2 h)
      rw [e]
      rcases ih (i + 1) (by omega) with q | ⟨j, h1, h2, h3⟩
      · exact Or.inl q
      · exact Or.inr ⟨j, by omega, by omega, h3⟩
    · have e : fGv b N A t c0 i (-2) = nI (t + i) := if_pos ⟨rfl, h⟩
      rw [e, gvF_keep (fun q => by
        have := nI_pos (show t + i < 2 ^ 31 by omega)
        rw [q] at this
        exact this (by decide))]
      exact Or.inr ⟨i, Nat.le_refl i, by omega, rfl⟩
theorem nI_m2 {n : Nat} (h : n < 2 ^ 31) : ¬ nI n = -2 := fun q => by
  have := nI_pos h
  rw [q] at this
  exact this (by decide)
/-- the BOARDS give first on day y (30: never) -/
def gvOn (b : Int32) (N : Nat → Int32 → Int32 → Int32) (t : Nat) (c0 : Int32) (y k i : Nat) : Bool := decide (lp (fGv b N Z0 t c0) k i (-2) = (if y = 30 then -2 else nI y))
theorem gfo_loop {f w K t y : Nat} {F : gLw} {S : Nat → Int32} {c0 : Int32} (hty : t ≤ y) (hy : y ≤ 30) (h0 : ¬ c0 < 0) (hS2 : rg (S 2) 0 9) (hS3 : rg (S 3) 0 9) : ∀ (k i : Nat) (σ : gS) (n : Nat), Cx σ f w K F → σ.1 9 = S → t + i + k = 30 → k < n →
    ∃ τ : gS, mX9_givesFirstOn_b16 n σ (nI y) (wkC (S 1) (nxS F S) Z0 t c0 i) (nI (t + i)) = some (gvOn (S 1) (nxS F S) t c0 y k i, τ) ∧ ks σ τ ∧ ∀ a, a < 18 → τ.1 a = σ.1 a := by
  have b71 : ∀ σ : gS, mX9_givesFirstOn_b71 σ (nI y) = some (decide (y = 30), σ) := fun σ => by
    unfold mX9_givesFirstOn_b71
    by_cases h : y = 30
    · rw [if_pos (by rw [h]; rfl), decide_eq_true h]
    · rw [if_neg (fun q : nI y = 30 => h ((nI_eq (b := 30) (by omega) (by decide)).mp q)), decide_eq_false h]
  intro k
  induction k with
  | zero =>
    intro i σ n hX h9 hi hn
    obtain ⟨n, rfl⟩ : ∃ m, n = m + 1 := ⟨n - 1, by omega⟩
    refine ⟨σ, ?_, ks_rf σ, fun _ _ => rfl⟩
    conv => lhs; unfold mX9_givesFirstOn_b16
    rw [if_pos (show (29 : Int32) < nI (t + i) from nI_lt (a := 29) (by omega) (by omega)), b71]
    have e : gvOn (S 1) (nxS F S) t c0 y 0 i = decide (y = 30) := by
      unfold gvOn
      rw [lp_zero]
      by_cases h : y = 30
      · rw [if_pos h, decide_eq_true rfl, decide_eq_true h]
      · rw [if_neg h, decide_eq_false (fun q => nI_m2 (by omega) q.symm), decide_eq_false h]
    rw [e]
  | succ k ih =>
    intro i σ n hX h9 hi hn
    obtain ⟨n, rfl⟩ : ∃ m, n = m + 1 := ⟨n - 1, by omega⟩
    have n29 : ¬ (29 : Int32) < nI (t + i) := nI_nlt (a := 29) (by omega) (by omega)
    obtain ⟨c, hc⟩ : ∃ c, c = wkC (S 1) (nxS F S) Z0 t c0 i := ⟨_, rfl⟩
    by_cases hlt : y < t + i
    · refine ⟨σ, ?_, ks_rf σ, fun _ _ => rfl⟩
      conv => lhs; unfold mX9_givesFirstOn_b16
      rw [if_neg n29, if_pos (nI_lt hlt (by omega)), b71]
      have e : gvOn (S 1) (nxS F S) t c0 y (k + 1) i = decide (y = 30) := by
        unfold gvOn
        rw [if_neg (show ¬ y = 30 by omega), decide_eq_false (show ¬ y = 30 by omega)]
        apply decide_eq_false
        intro q
        rcases gvF_val (b := S 1) (N := nxS F S) (A := Z0) (t := t) (c0 := c0) (k + 1) i (by omega) with h | ⟨j, h1, h2, h3⟩
        · rw [h] at q; exact nI_m2 (by omega) q.symm
        · rw [h3] at q
          have := (nI_eq (by omega) (by omega)).mp q
          omega
      rw [e]
    · by_cases hb : c ≤ S 1
      · obtain ⟨u, r1, r2, r3⟩ := nightC hX (q := 9) (Or.inr rfl) (by rw [h9]; exact hS2) (by rw [h9]; exact hS3) (nI (t + i)) c 0
        rw [h9] at r1
        obtain ⟨τ, q1, q2, q3⟩ := ih (i + 1) u n (Cx_ks hX r2) ((r3 9 (by decide)).trans h9) (by omega) (by omega)
        refine ⟨τ, ?_, ks_tr r2 q2, fun a ha => (q3 a ha).trans (r3 a ha)⟩
        have hw1 : wkC (S 1) (nxS F S) Z0 t c0 (i + 1) = nx F (S 2) (S 3) (S 1) (nI (t + i)) c 0 := by
          rw [wk_0 h0 i, ← hc, show dw (S 1) c = c from if_pos hb]
          rfl
        rw [hw1] at q1
        conv => lhs; unfold mX9_givesFirstOn_b16
        rw [if_neg n29, if_neg (nI_nlt (show t + i ≤ y by omega) (by omega)), gives_eq rfl, gb_some, gv_day (show t + i ≤ 29 by omega), h9, ← hc, decide_eq_true hb, Bool.not_true, if_neg (by decide), hX.2.2.2.1]
        show (if gk K = 3 then _ else _) = _
        rw [if_pos (by rcases hX.2.2.1 with rfl | rfl <;> rfl), r1, gb_some, gl_eq, gl_eq, nI_1]
        have e : gvOn (S 1) (nxS F S) t c0 y (k + 1) i = gvOn (S 1) (nxS F S) t c0 y k (i + 1) := by
          unfold gvOn
          rw [lp_succ]
          have e2 : fGv (S 1) (nxS F S) Z0 t c0 i (-2) = -2 := if_neg (fun q => q.2 (by rw [← hc]; exact hb))
          rw [e2]
        rw [e]
        exact q1
      · refine ⟨σ, ?_, ks_rf σ, fun _ _ => rfl⟩
        conv => lhs; unfold mX9_givesFirstOn_b16
        rw [if_neg n29, if_neg (nI_nlt (show t + i ≤ y by omega) (by omega)), gives_eq rfl, gb_some, gv_day (show t + i ≤ 29 by omega), h9, ← hc, decide_eq_false hb, Bool.not_false, if_pos rfl]
        have e : gvOn (S 1) (nxS F S) t c0 y (k + 1) i = decide (t + i = y) := by
          unfold gvOn
          rw [lp_succ]
          have e2 : fGv (S 1) (nxS F S) Z0 t c0 i (-2) = nI (t + i) := if_pos ⟨rfl, by rw [← hc]; exact hb⟩
          rw [e2, gvF_keep (nI_m2 (by omega))]
          by_cases h : t + i = y
          · rw [decide_eq_true h, if_neg (show ¬ y = 30 by omega), h, decide_eq_true rfl]
          · rw [decide_eq_false h]
            apply decide_eq_false
            intro q
            by_cases h30 : y = 30
            · rw [if_pos h30] at q; exact nI_m2 (by omega) q
            · rw [if_neg h30] at q; exact h ((nI_eq (by omega) (by omega)).mp q)
        rw [e]
        by_cases h : t + i = y
        · rw [if_pos (by rw [h]), decide_eq_true h]
        · rw [if_neg (fun q => h ((nI_eq (by omega) (by omega)).mp q)), decide_eq_false h]
def sB (S : Nat → Int32) (b : Nat) : Nat → Int32 := fun j => if j = 1 then nI b else S j
def gkB (F : gLw) (S : Nat → Int32) (t y b : Nat) : Bool := !decide (b = 0) && gvOn (nI b) (nxS F (sB S b)) t (S 0) y (30 - t) 0
theorem bore9_loop {f w K t y : Nat} {F : gLw} {S : Nat → Int32} {ls : Int32} (hls : ls = 0 ∨ ls = 1) (ht : t ≤ 29) (hty : t ≤ y) (hy : y ≤ 30) (hS0 : ¬ S 0 < 0) (hS2 : rg (S 2) 0 9) (hS3 : rg (S 3) 0 9) (hS4 : S 4 = nI t) : ∀ (k i : Nat) (σ : gS) (x : Int32) (n : Nat), Cx σ f w K F → (∀ a, a ≠ 1 → σ.1 9 a = S a) → 0 < i → i + k = 1000 → k < n → (ls = 0 → x = nI (cn (gkB F S t y) i)) →
    ∃ τ : gS, mX9_bore_b43 n σ (nI y) ls x (nI i) = some (if ls = 0 then nI (cn (gkB F S t y) 1000) else lsf (gkB F S t y) k i, τ) ∧ ks σ τ := by
  intro k
  induction k with
  | zero =>
    intro i σ x n hX h9 h0i hi hn hx
    obtain ⟨n, rfl⟩ : ∃ m, n = m + 1 := ⟨n - 1, by omega⟩
    obtain rfl : i = 1000 := by omega
    refine ⟨σ, ?_, ks_rf σ⟩
    conv => lhs; unfold mX9_bore_b43
    rw [if_pos (by decide)]
    by_cases hl : ls = 0
    · rw [if_pos hl, if_pos hl, hx hl]
    · rw [if_neg hl, if_neg hl]
      rfl
  | succ k ih =>
    intro i σ x n hX h9 h0i hi hn hx
    obtain ⟨n, rfl⟩ : ∃ m, n = m + 1 := ⟨n - 1, by omega⟩
    have e1 : ks σ (gUI σ 9 1 (nI i)) := ks_9
    have s9 : (gUI σ 9 1 (nI i)).1 9 = sB S i := by
      rw [gUI_same]
      funext a
      unfold sB
      by_cases ha : a = 1
      · rw [if_pos ha, if_pos ha]
      · rw [if_neg ha, if_neg ha, h9 a ha]
    obtain ⟨u, r1, r2, r3⟩ := gfo_loop (F := F) (S := sB S i) (c0 := S 0) hty hy hS0 hS2 hS3 (30 - t) 0 (gUI σ 9 1 (nI i)) 1100 (Cx_ks hX e1) s9 (by omega) (by omega)
    have r1' : mX9_givesFirstOn (gUI σ 9 1 (nI i)) (nI y) = some (gkB F S t y i, u) := by
      unfold mX9_givesFirstOn
      rw [gl_eq, gl_eq, s9, show sB S i 0 = S 0 from rfl, show sB S i 4 = nI t from hS4]
      have e : gkB F S t y i = gvOn (sB S i 1) (nxS F (sB S i)) t (S 0) y (30 - t) 0 := by
        unfold gkB
        rw [decide_eq_false (show ¬ i = 0 by omega)]
        rfl
      rw [e]
      exact r1
    have n999 : ¬ (999 : Int32) < nI i := nI_nlt (a := 999) (by omega) (by omega)
    have u9 : ∀ a, a ≠ 1 → u.1 9 a = S a := fun a ha => by rw [r3 9 (by decide), gUI_at, if_neg ha, h9 a ha]
    have hXu := Cx_ks (Cx_ks hX e1) r2
    cases hg : gkB F S t y i with
    | true =>
      rw [hg] at r1'
      by_cases hl : ls = 0
      · obtain ⟨τ, q1, q2⟩ := ih (i + 1) u (x + 1) n hXu u9 (by omega) (by omega) (by omega) (fun _ => by
          rw [hx hl, nI_1]
          show _ = nI (cn (gkB F S t y) i + (if gkB F S t y i = true then 1 else 0))
          rw [hg]
          rfl)
        refine ⟨τ, ?_, ks_tr e1 (ks_tr r2 q2)⟩
        conv => lhs; unfold mX9_bore_b43
        rw [if_neg n999, gl_eq, r1', gb_some, if_pos rfl, if_neg (show ¬ ls = 1 by rw [hl]; decide), gl_eq]
        unfold mX9_bore_b79
        rw [gl_eq, nI_1, q1, if_pos hl, if_pos hl]
      · refine ⟨u, ?_, ks_tr e1 r2⟩
        conv => lhs; unfold mX9_bore_b43
        rw [if_neg n999, gl_eq, r1', gb_some, if_pos rfl, if_pos (show ls = 1 by rcases hls with q | q; exact absurd q hl; exact q), if_neg hl]
        show _ = some (if gkB F S t y i = true then nI i else _, u)
        rw [hg, if_pos rfl]
    | false =>
      rw [hg] at r1'
      obtain ⟨τ, q1, q2⟩ := ih (i + 1) u x n hXu u9 (by omega) (by omega) (by omega) (fun hl => by
        rw [hx hl]
        show _ = nI (cn (gkB F S t y) i + (if gkB F S t y i = true then 1 else 0))
        rw [hg]
        rfl)
      refine ⟨τ, ?_, ks_tr e1 (ks_tr r2 q2)⟩
      conv => lhs; unfold mX9_bore_b43
      rw [if_neg n999, gl_eq, r1', gb_some, if_neg (by decide)]
      unfold mX9_bore_b79
      rw [gl_eq, nI_1, q1]
      show _ = some (if ls = 0 then _ else (if gkB F S t y i = true then nI i else lsf (gkB F S t y) k (i + 1)), τ)
      rw [hg, if_neg (show ¬ false = true by decide)]
/-- the reference's BEARS, for a while -/
def setb (σ : gS) (a : Int32) : gS := gUI σ 59 1 a
theorem setb_km {σ τ : gS} {a x : Int32} (h : km (setb σ a) τ) : km (setb σ x) (gUI τ 59 1 x) := by
  refine ⟨fun q x1 x2 x3 x4 x5 x6 => ?_, fun j hj => ?_, h.2.2⟩
  · by_cases hq : q = 59
    · subst hq
      funext j
      have e := congrFun (h.1 59 (by decide) (by decide) (by decide) (by decide) (by decide) (by decide)) j
      unfold setb at e ⊢
      rw [gUI_at] at e
      rw [gUI_at, gUI_at]
      by_cases h3 : j = 1
      · rw [if_pos h3, if_pos h3]
      · rw [if_neg h3, if_neg h3, e, if_neg h3]
    · have e := h.1 q x1 x2 x3 x4 x5 x6
      unfold setb at e ⊢
      rw [gUI_ne hq] at e
      rw [gUI_ne hq, gUI_ne hq, e]
  · have e := h.2.1 j hj
    unfold setb at e ⊢
    rw [gUI_ne (by decide)] at e
    rw [gUI_ne (by decide), gUI_ne (by decide), e]
theorem setb_id {σ : gS} : km σ (setb σ (σ.1 59 1)) := by
  refine ⟨fun q x1 x2 x3 x4 x5 x6 => ?_, fun j hj => ?_, rfl⟩
  · by_cases hq : q = 59
    · subst hq
      funext j
      unfold setb
      rw [gUI_at]
      by_cases h3 : j = 1
      · rw [if_pos h3, h3]
      · rw [if_neg h3]
    · unfold setb
      rw [gUI_ne hq]
  · unfold setb
    rw [gUI_ne (by decide)]
theorem setb_59 {σ τ : gS} {v : Nat} (h : km (setb σ (nI v)) τ) : τ.1 59 = sB (σ.1 59) v := by
  funext j
  have e := congrFun (h.1 59 (by decide) (by decide) (by decide) (by decide) (by decide) (by decide)) j
  unfold setb at e
  rw [gUI_at] at e
  exact e
theorem setb_M {σ : gS} {F : gLw} {a : Int32} (h : Mx σ F) : Mx (setb σ a) F := h
theorem bore10_loop {t y : Nat} {F : gLw} {σ0 : gS} {ls : Int32} (ht : t ≤ 29) (hy : y ≤ 30) (hM : Mx σ0 F) (hS2 : rg (σ0.1 59 2) 0 9) (hS3 : rg (σ0.1 59 3) 0 9) (hS4 : σ0.1 59 4 = nI t) : ∀ (v : Nat) (σ : gS) (a : Int32) (n : Nat), km (setb σ0 a) σ → 0 < v → v ≤ 1000 → v < n →
    ∃ τ : gS, mX10_bore_b43 n σ (nI y) ls (σ0.1 59 1) (nI (cn (gkB F (σ0.1 59) t y) 1000 - cn (gkB F (σ0.1 59) t y) v)) (lsf (gkB F (σ0.1 59) t y) (1000 - v) v) (nI v - 1) = some (if ls = 0 then nI (cn (gkB F (σ0.1 59) t y) 1000) else lsf (gkB F (σ0.1 59) t y) 999 1, τ) ∧ km σ0 τ := by
  have i1 : inbB 1 5 = true := by decide
  have c1' : Int32.toNatClampNeg 1 = 1 := by decide
  intro v
  induction v with
  | zero => intro σ a n _ h0 _ _; omega
  | succ v ih =>
    intro σ a n hk _ hv hn
    obtain ⟨n, rfl⟩ : ∃ m, n = m + 1 := ⟨n - 1, by omega⟩
    rcases Nat.eq_zero_or_pos v with rfl | hp
    · refine ⟨gUI σ 59 1 (σ0.1 59 1), ?_, km_tr setb_id (setb_km hk)⟩
      conv => lhs; unfold mX10_bore_b43
      rw [nI_pred, if_pos (show nI 0 ≤ 0 by decide), if_pos i1, gl_eq, c1']
      have z : cn (gkB F (σ0.1 59) t y) (0 + 1) = 0 := by
        show 0 + (if gkB F (σ0.1 59) t y 0 = true then 1 else 0) = 0
        rw [show gkB F (σ0.1 59) t y 0 = false from rfl]
        rfl
      by_cases hl : ls = 0
      · rw [if_pos hl, if_pos hl, z]; rfl
      · rw [if_neg hl, if_neg hl]
    · obtain ⟨s, hs⟩ : ∃ s, s = gUI σ 59 1 (nI v) := ⟨_, rfl⟩
      have k1 : km (setb σ0 (nI v)) s := by rw [hs]; exact setb_km hk
      have s59 := setb_59 k1
      obtain ⟨u, u1, u2, u3, u4⟩ := idles_eq s
      have k2 : km s u := km_79 u2 u3
      have u59 : u.1 59 = sB (σ0.1 59) v := (u2 59 (by decide)).trans s59
      obtain ⟨x, r1, r2, r3, r4, r5, r6⟩ := walk10_eq (A := Z0) (Mx_km (Mx_km (setb_M hM) k1) k2) (by rw [u59]; exact hS2) (by rw [u59]; exact hS3) (by rw [u59]; exact hS4) ht u4 (u.1 59 0)
      rw [u59, show sB (σ0.1 59) v 1 = nI v from rfl, show sB (σ0.1 59) v 0 = σ0.1 59 0 from rfl] at r6
      have k3 := km_tr k1 (km_tr k2 r2)
      obtain ⟨τ, q1, q2⟩ := ih x _ n k3 hp (by omega) (by omega)
      refine ⟨τ, ?_, q2⟩
      have c1 := cn_mono (gkB F (σ0.1 59) t y) (show v + 1 ≤ 1000 by omega)
      have c2 : cn (gkB F (σ0.1 59) t y) (v + 1) = cn (gkB F (σ0.1 59) t y) v + (if gkB F (σ0.1 59) t y v = true then 1 else 0) := rfl
      have c3 : lsf (gkB F (σ0.1 59) t y) (1000 - v) v = (if gkB F (σ0.1 59) t y v = true then nI v else lsf (gkB F (σ0.1 59) t y) (1000 - (v + 1)) (v + 1)) := by
        rw [show 1000 - v = (1000 - (v + 1)) + 1 by omega]
        rfl
      have hgE : gkB F (σ0.1 59) t y v = decide (lp (fGv (nI v) (nxS F (sB (σ0.1 59) v)) Z0 t (σ0.1 59 0)) (30 - t) 0 (-2) = (if y = 30 then -2 else nI y)) := by
        unfold gkB
        rw [decide_eq_false (show ¬ v = 0 by omega)]
        rfl
      have b86 : ∀ Y : Int32, Y = (if y = 30 then -2 else nI y) → mX10_bore_b86 (mX10_bore_b43 n) x (nI y) ls (σ0.1 59 1) (nI (cn (gkB F (σ0.1 59) t y) 1000 - cn (gkB F (σ0.1 59) t y) (v + 1))) (lsf (gkB F (σ0.1 59) t y) (1000 - (v + 1)) (v + 1)) (nI v) Y (x.1 52 43) = some (if ls = 0 then nI (cn (gkB F (σ0.1 59) t y) 1000) else lsf (gkB F (σ0.1 59) t y) 999 1, τ) := fun Y hY => by
        unfold mX10_bore_b86 mX10_bore_b99
        rw [r6, hY]
        by_cases hu : lp (fGv (nI v) (nxS F (sB (σ0.1 59) v)) Z0 t (σ0.1 59 0)) (30 - t) 0 (-2) = (if y = 30 then -2 else nI y)
        · have hg : gkB F (σ0.1 59) t y v = true := by rw [hgE]; exact decide_eq_true hu
          rw [hg, if_pos rfl] at c2 c3
          rw [if_pos hu, gl_eq, gl_eq, gl_eq, nI_1, show (nI v + -1 : Int32) = nI v - 1 from (Int32.sub_eq_add_neg _ _).symm]
          rw [show cn (gkB F (σ0.1 59) t y) 1000 - cn (gkB F (σ0.1 59) t y) (v + 1) + 1 = cn (gkB F (σ0.1 59) t y) 1000 - cn (gkB F (σ0.1 59) t y) v by omega]
          rw [c3] at q1
          exact q1
        · have hg : gkB F (σ0.1 59) t y v = false := by rw [hgE]; exact decide_eq_false hu
          rw [hg, if_neg (by decide)] at c2 c3
          rw [if_neg hu, gl_eq, show (nI v + -1 : Int32) = nI v - 1 from (Int32.sub_eq_add_neg _ _).symm, c2, ← c3]
          exact q1
      conv => lhs; unfold mX10_bore_b43
      rw [nI_pred, if_neg (nI_nle hp (by omega)), if_pos i1, c1', gl_eq, ← hs, u1, gb_some, if_pos (by decide), show Int32.toNatClampNeg 0 = 0 from by decide, r1, gb_some]
      by_cases h30 : y = 30
      · rw [if_pos (show nI y = 30 by rw [h30]; rfl)]
        exact b86 _ (by rw [if_pos h30])
      · rw [if_neg (fun q : nI y = 30 => h30 ((nI_eq (b := 30) (by omega) (by decide)).mp q))]
        exact b86 _ (by rw [if_neg h30])
theorem s_bore : S_bore Inv := by
  intro σ p0 p1 hI
  obtain ⟨f, w, K, F, hX⟩ := Cx_Inv hI
  obtain ⟨hV, hS, hK, kk, -⟩ := id hX
  obtain ⟨z0, z1, z2, z3, z4, z5, z6, z7, z8⟩ := id hS
  obtain ⟨t, -, ht, et⟩ := id z5
  cases hwi : wi p0 (nI t) 30 with
  | false =>
    refine ⟨-1, σ, σ, ?_, ?_, hI⟩
    · unfold mX9_bore
      rw [et, w9, gb_some, hwi, if_neg (by decide)]
    · unfold mX10_bore
      rw [now_eq, gb_some, z4, et, w10, gb_some, hwi, if_neg (by decide)]
  | true =>
    obtain ⟨y, hy1, hy2, rfl⟩ := day_of (b := 30) (by omega) (by decide) hwi
    cases hw1 : wi p1 0 1 with
    | false =>
      refine ⟨-1, σ, σ, ?_, ?_, hI⟩
      · unfold mX9_bore
        rw [et, w9, gb_some, hwi, if_pos rfl, w9, gb_some, hw1, if_neg (by decide)]
      · unfold mX10_bore
        rw [now_eq, gb_some, z4, et, w10, gb_some, hwi, if_pos rfl, w10, gb_some, hw1, if_neg (by decide)]
    | true =>
      have hls : p1 = 0 ∨ p1 = 1 := by
        obtain ⟨q, -, hq, rfl⟩ := wi_rg (a := 0) (b := 1) (by decide) (by decide) hw1
        rcases (show q = 0 ∨ q = 1 by omega) with rfl | rfl
        · exact Or.inl rfl
        · exact Or.inr rfl
      have k1 : ks σ (gTk σ 9 8) := ks_gTk
      obtain ⟨S, hSd⟩ : ∃ S, S = (gTk σ 9 8).1 9 := ⟨_, rfl⟩
      have S0 : S 0 = σ.1 8 0 := by rw [hSd]; exact gTk_at (by decide)
      have S2 : S 2 = σ.1 8 2 := by rw [hSd]; exact gTk_at (by decide)
      have S3 : S 3 = σ.1 8 3 := by rw [hSd]; exact gTk_at (by decide)
      have S4 : S 4 = σ.1 8 4 := by rw [hSd]; exact gTk_at (by decide)
      have c1z : ∀ G : Nat → Bool, G 0 = false → cn G 1 = 0 := fun G h => by
        show 0 + (if G 0 = true then 1 else 0) = 0
        rw [h]; rfl
      obtain ⟨τ, r1, r2⟩ := bore9_loop (S := S) (F := F) (t := t) (y := y) (ls := p1) hls ht hy1 hy2 (by rw [S0]; exact not_neg_rg (by decide) z8) (by rw [S2]; exact z6) (by rw [S3]; exact z7) (by rw [S4]; exact et) 999 1 (gTk σ 9 8) 0 1100 (Cx_ks hX k1) (fun a _ => by rw [hSd]) (by omega) (by omega) (by omega) (fun _ => by rw [c1z _ rfl]; rfl)
      have kτ := ks_tr k1 r2
      have t59 : τ.1 59 = σ.1 59 := kτ.1 59 (by unfold kp; omega)
      obtain ⟨υ, v1, v2⟩ := bore10_loop (F := F) (σ0 := τ) (t := t) (y := y) (ls := p1) ht hy2 (Mx_ks hX kτ) (by rw [t59, z2]; exact z6) (by rw [t59, z3]; exact z7) (by rw [t59, z4]; exact et) 1000 τ _ 1100 (km_sy setb_id) (by omega) (by omega) (by omega)
      have eG : gkB F (τ.1 59) t y = gkB F S t y := by
        funext c
        unfold gkB
        rw [t59, show nxS F (sB (σ.1 59) c) = nxS F (sB S c) from nxS_eq rfl (by show σ.1 59 2 = S 2; rw [z2, S2]) (by show σ.1 59 3 = S 3; rw [z3, S3]), z0, S0]
      rw [eG] at v1
      refine ⟨(if p1 = 0 then nI (cn (gkB F S t y) 1000) else lsf (gkB F S t y) 999 1), τ, υ, ?_, ?_, Inv_ks hI (ks_tr kτ (ks_km v2))⟩
      · unfold mX9_bore
        rw [et, w9, gb_some, hwi, if_pos rfl, w9, gb_some, hw1, if_pos rfl, take5_eq rfl rfl (by decide), gb_some, gl_eq, gl_eq]
        exact r1
      · unfold mX10_bore
        rw [now_eq, gb_some, t59, z4, et, w10, gb_some, hwi, if_pos rfl, w10, gb_some, hw1, if_pos rfl, if_pos (by decide), gl_eq, gl_eq, gl_eq, gl_eq, show Int32.toNatClampNeg 1 = 1 from by decide]
        rw [Nat.sub_self, Nat.sub_self] at v1
        exact v1
