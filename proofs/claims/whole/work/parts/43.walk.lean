/-! ===== days in thought: one walk for both sides ===== -/
/-- COLD behind the dawn of a day up to 29 -/
def dw (b c : Int32) : Int32 := if c ≤ b then c else 0
/-- COLD ahead of the dawn of day t + i -/
def wkC (b : Int32) (N : Nat → Int32 → Int32 → Int32) (A : Nat → Int32) (t : Nat) (c0 : Int32) : Nat → Int32
  | 0 => c0
  | i + 1 => N (t + i) (dw b (wkC b N A t c0 i) - gMin (A (t + i)) (dw b (wkC b N A t c0 i))) (gMin (A (t + i)) (dw b (wkC b N A t c0 i)))
def CB (b : Int32) (N : Nat → Int32 → Int32 → Int32) (A : Nat → Int32) (t : Nat) (c0 : Int32) (y : Nat) : Int32 := if y < 30 then dw b (wkC b N A t c0 (y - t)) else wkC b N A t c0 (30 - t)
def OB (b : Int32) (N : Nat → Int32 → Int32 → Int32) (A : Nat → Int32) (t : Nat) (c0 : Int32) (y : Nat) : Int32 := gMin (A y) (dw b (wkC b N A t c0 (y - t)))
def fGv (b : Int32) (N : Nat → Int32 → Int32 → Int32) (A : Nat → Int32) (t : Nat) (c0 : Int32) (i : Nat) (g : Int32) : Int32 := if g = -2 ∧ ¬ wkC b N A t c0 i ≤ b then nI (t + i) else g
/-- the law's COLD of the next day, by a shed's numbers -/
def nxS (F : gLw) (S : Nat → Int32) (d : Nat) (c l : Int32) : Int32 := nx F (S 2) (S 3) (S 1) (nI d) c l
theorem gv_day {d : Nat} (h : d ≤ 29) (c b : Int32) : gvB (nI d) c b = !decide (c ≤ b) := by
  unfold gvB
  rw [decide_eq_false (show ¬ (29 : Int32) < nI d from nI_nlt (a := 29) h (by omega))]
  rfl
theorem dawn_day {σ : gS} {q d : Nat} (hq : gk q = 5) (h : d ≤ 29) (c : Int32) : mX5_atDawn σ q (nI d) c = some (dw (σ.1 q 1) c, σ) := by
  rw [dawn_eq hq, gv_day h]
  unfold dw
  by_cases h1 : c ≤ σ.1 q 1
  · rw [decide_eq_true h1, if_pos h1]; rfl
  · rw [decide_eq_false h1, if_neg h1]; rfl
theorem walk9_day {σ : gS} {f w K d : Nat} {F : gLw} {A : Nat → Int32} (hX : Cx σ f w K F) (hd : d < 30) (hA : ∀ j, j < 30 → σ.1 11 j = A j) (k : gS → Int32 → Int32 → Option (Unit × gS)) (c : Int32) :
    ∃ τ : gS, mX7_walk_b49 8 K k σ c (nI d) = k τ (nxS F (σ.1 8) d (dw (σ.1 8 1) c - gMin (A d) (dw (σ.1 8 1) c)) (gMin (A d) (dw (σ.1 8 1) c))) (nI (d + 1)) ∧ ks σ τ ∧ (∀ a, a < 18 → a ≠ 12 → a ≠ 13 → τ.1 a = σ.1 a) ∧ (∀ j, τ.1 12 j = if j = d then dw (σ.1 8 1) c else σ.1 12 j) ∧ ∀ j, τ.1 13 j = if j = d then gMin (A d) (dw (σ.1 8 1) c) else σ.1 13 j := by
  have k12 : ¬ kp 12 := by unfold kp; omega
  have k13 : ¬ kp 13 := by unfold kp; omega
  obtain ⟨s, hs⟩ : ∃ s, s = gUI (gUI σ 12 d (dw (σ.1 8 1) c)) 13 d (gMin (A d) (dw (σ.1 8 1) c)) := ⟨_, rfl⟩
  have e1 : ks σ s := by rw [hs]; exact ks_tr (ks_UI k12 (by decide) (by decide) (by decide)) (ks_UI k13 (by decide) (by decide) (by decide))
  have g1 : ∀ a, a ≠ 12 → a ≠ 13 → s.1 a = σ.1 a := fun a x y => by rw [hs, gUI_ne y, gUI_ne x]
  have hS := hX.2.1
  obtain ⟨τ, r1, r2, r3⟩ := nightC (Cx_ks hX e1) (q := 8) (Or.inl rfl) (by rw [g1 8 (by decide) (by decide)]; exact hS.2.2.2.2.2.2.1) (by rw [g1 8 (by decide) (by decide)]; exact hS.2.2.2.2.2.2.2.1) (nI d) (dw (σ.1 8 1) c - gMin (A d) (dw (σ.1 8 1) c)) (gMin (A d) (dw (σ.1 8 1) c))
  rw [g1 8 (by decide) (by decide)] at r1
  refine ⟨τ, ?_, ks_tr e1 r2, fun a x y z => by rw [r3 a x, g1 a y z], fun j => ?_, fun j => ?_⟩
  · unfold mX7_walk_b49
    rw [dawn_day rfl (by omega), gb_some, gl_eq, if_pos (inbB_nI hd (by decide)), nI_cl (by omega), hA d hd, gl_eq, if_pos (inbB_nI (show d < 31 by omega) (by decide)), gl_eq, if_pos (inbB_nI hd (by decide)), gl_eq, ← hs, r1, gb_some, gl_eq, gl_eq, nI_1]
    rfl
  · rw [r3 12 (by decide), hs, gUI_ne (by decide), gUI_same]
  · rw [r3 13 (by decide), hs, gUI_same, gUI_ne (by decide)]
theorem walk9_loop {f w K t : Nat} {F : gLw} {A S : Nat → Int32} {c0 : Int32} : ∀ (k i : Nat) (σ : gS) (n : Nat), Cx σ f w K F → σ.1 8 = S → (∀ j, j < 30 → σ.1 11 j = A j) → t + i + k = 30 → k < n →
    ∃ τ : gS, mX7_walk_b17 8 K n σ (wkC (S 1) (nxS F S) A t c0 i) (nI (t + i)) = some ((), τ) ∧ ks σ τ ∧ (∀ a, a < 18 → a ≠ 10 → a ≠ 12 → a ≠ 13 → τ.1 a = σ.1 a) ∧ (∀ j, j < t + i → τ.1 12 j = σ.1 12 j ∧ τ.1 13 j = σ.1 13 j) ∧ (∀ j, t + i ≤ j → j ≤ 30 → τ.1 12 j = CB (S 1) (nxS F S) A t c0 j) ∧ (∀ j, t + i ≤ j → j < 30 → τ.1 13 j = OB (S 1) (nxS F S) A t c0 j) ∧ τ.1 10 3 = lp (fGv (S 1) (nxS F S) A t c0) k i (σ.1 10 3) ∧ ∀ j, j ≠ 3 → τ.1 10 j = σ.1 10 j := by
  have k10 : ¬ kp 10 := by unfold kp; omega
  have k12 : ¬ kp 12 := by unfold kp; omega
  intro k
  induction k with
  | zero =>
    intro i σ n hX h8 hA hi hn
    obtain ⟨n, rfl⟩ : ∃ m, n = m + 1 := ⟨n - 1, by omega⟩
    refine ⟨gUI σ 12 30 (wkC (S 1) (nxS F S) A t c0 i), ?_, ks_UI k12 (by decide) (by decide) (by decide), fun a _ x y z => gUI_ne y, fun j hj => ⟨?_, by rw [gUI_ne (by decide)]⟩, fun j h1 h2 => ?_, fun j h1 h2 => absurd h2 (by omega), by rw [gUI_ne (by decide)]; rfl, fun j hj => by rw [gUI_ne (by decide)]⟩
    · conv => lhs; unfold mX7_walk_b17
      rw [if_pos (show (29 : Int32) < nI (t + i) from nI_lt (a := 29) (show 29 < t + i by omega) (by omega)), if_pos (by decide), show Int32.toNatClampNeg 30 = 30 from by decide, gl_eq]
    · rw [gUI_same]; exact if_neg (by omega)
    · obtain rfl : j = 30 := by omega
      rw [gUI_same]
      unfold CB
      rw [if_neg (by decide), show 30 - t = i by omega]
      exact if_pos rfl
  | succ k ih =>
    intro i σ n hX h8 hA hi hn
    obtain ⟨n, rfl⟩ : ∃ m, n = m + 1 := ⟨n - 1, by omega⟩
    have n29 : ¬ 29 < nI (t + i) := nI_nlt (a := 29) (by omega) (by omega)
    obtain ⟨c, hc⟩ : ∃ c, c = wkC (S 1) (nxS F S) A t c0 i := ⟨_, rfl⟩
    have main : ∀ s : gS, ks σ s → (∀ a, a < 18 → a ≠ 10 → s.1 a = σ.1 a) → (∀ j, j ≠ 3 → s.1 10 j = σ.1 10 j) → s.1 10 3 = fGv (S 1) (nxS F S) A t c0 i (σ.1 10 3) →
        ∃ τ : gS, mX7_walk_b49 8 K (mX7_walk_b17 8 K n) s c (nI (t + i)) = some ((), τ) ∧ ks σ τ ∧ (∀ a, a < 18 → a ≠ 10 → a ≠ 12 → a ≠ 13 → τ.1 a = σ.1 a) ∧ (∀ j, j < t + i → τ.1 12 j = σ.1 12 j ∧ τ.1 13 j = σ.1 13 j) ∧ (∀ j, t + i ≤ j → j ≤ 30 → τ.1 12 j = CB (S 1) (nxS F S) A t c0 j) ∧ (∀ j, t + i ≤ j → j < 30 → τ.1 13 j = OB (S 1) (nxS F S) A t c0 j) ∧ τ.1 10 3 = lp (fGv (S 1) (nxS F S) A t c0) (k + 1) i (σ.1 10 3) ∧ ∀ j, j ≠ 3 → τ.1 10 j = σ.1 10 j := by
      intro s e1 e2 e3 e4
      have s8 : s.1 8 = S := (e2 8 (by decide) (by decide)).trans h8
      have sA : ∀ j, j < 30 → s.1 11 j = A j := fun j hj => by rw [e2 11 (by decide) (by decide)]; exact hA j hj
      obtain ⟨u, r1, r2, r3, r4, r5⟩ := walk9_day (Cx_ks hX e1) (show t + i < 30 by omega) sA (mX7_walk_b17 8 K n) c
      rw [s8] at r1 r4 r5
      have uA : ∀ j, j < 30 → u.1 11 j = A j := fun j hj => by rw [r3 11 (by decide) (by decide) (by decide)]; exact sA j hj
      obtain ⟨τ, q1, q2, q3, q4, q5, q6, q7, q8⟩ := ih (i + 1) u n (Cx_ks (Cx_ks hX e1) r2) ((r3 8 (by decide) (by decide) (by decide)).trans s8) uA (by omega) (by omega)
      refine ⟨τ, ?_, ks_tr e1 (ks_tr r2 q2), fun a x1 x2 x3 x4 => by rw [q3 a x1 x2 x3 x4, r3 a x1 x3 x4, e2 a x1 x2], fun j hj => ?_, fun j h1 h2 => ?_, fun j h1 h2 => ?_, ?_, fun j hj => by rw [q8 j hj, r3 10 (by decide) (by decide) (by decide), e3 j hj]⟩
      · rw [r1, hc]
        exact q1
      · obtain ⟨p1, p2⟩ := q4 j (by omega)
        rw [p1, p2, r4, r5, if_neg (by omega), if_neg (by omega), e2 12 (by decide) (by decide), e2 13 (by decide) (by decide)]
        exact ⟨rfl, rfl⟩
      · by_cases hj : j = t + i
        · subst hj
          rw [(q4 (t + i) (by omega)).1, r4, if_pos rfl]
          unfold CB
          rw [if_pos (by omega), show t + i - t = i by omega, hc]
        · exact q5 j (by omega) h2
      · by_cases hj : j = t + i
        · subst hj
          rw [(q4 (t + i) (by omega)).2, r5, if_pos rfl]
          unfold OB
          rw [show t + i - t = i by omega, hc]
        · exact q6 j (by omega) h2
      · rw [q7, r3 10 (by decide) (by decide) (by decide), e4, lp_succ]
    conv =>
      enter [1, τ, 1, 1]
      unfold mX7_walk_b17
    rw [← hc, if_neg n29]
    by_cases hg : σ.1 10 3 = -2
    · rw [if_pos hg, gives_eq rfl, gb_some, gv_day (show t + i ≤ 29 by omega), h8]
      by_cases hb : c ≤ S 1
      · rw [decide_eq_true hb, Bool.not_true, if_neg (by decide)]
        refine main σ (ks_rf σ) (fun _ _ _ => rfl) (fun _ _ => rfl) ?_
        unfold fGv
        rw [← hc, if_neg (fun q => q.2 hb)]
      · rw [decide_eq_false hb, Bool.not_false, if_pos rfl, gl_eq]
        refine main _ (ks_UI k10 (by decide) (by decide) (by decide)) (fun a _ x => gUI_ne x) (fun j hj => ?_) ?_
        · rw [gUI_same]; exact if_neg hj
        · unfold fGv
          rw [← hc, if_pos ⟨hg, hb⟩, gUI_same]
          exact if_pos rfl
    · rw [if_neg hg]
      refine main σ (ks_rf σ) (fun _ _ _ => rfl) (fun _ _ => rfl) ?_
      unfold fGv
      rw [if_neg (fun q => hg q.1)]
theorem walk9_eq {σ : gS} {f w K t : Nat} {F : gLw} {A : Nat → Int32} (hX : Cx σ f w K F) (ht : σ.1 8 4 = nI t) (h29 : t ≤ 29) (hA : ∀ j, j < 30 → σ.1 11 j = A j) :
    ∃ τ : gS, mX7_walk σ 8 K = some ((), τ) ∧ ks σ τ ∧ (∀ a, a < 18 → a ≠ 10 → a ≠ 12 → a ≠ 13 → τ.1 a = σ.1 a) ∧ (∀ j, t ≤ j → j ≤ 30 → τ.1 12 j = CB (σ.1 8 1) (nxS F (σ.1 8)) A t (σ.1 8 0) j) ∧ (∀ j, t ≤ j → j < 30 → τ.1 13 j = OB (σ.1 8 1) (nxS F (σ.1 8)) A t (σ.1 8 0) j) ∧ τ.1 10 3 = lp (fGv (σ.1 8 1) (nxS F (σ.1 8)) A t (σ.1 8 0)) (30 - t) 0 (-2) := by
  have k10 : ¬ kp 10 := by unfold kp; omega
  have e1 : ks σ (gUI σ 10 3 (-2)) := ks_UI k10 (by decide) (by decide) (by decide)
  obtain ⟨τ, r1, r2, r3, r4, r5, r6, r7, r8⟩ := walk9_loop (A := A) (S := σ.1 8) (t := t) (c0 := σ.1 8 0) (30 - t) 0 (gUI σ 10 3 (-2)) 1100 (Cx_ks hX e1) (gUI_ne (by decide)) (fun j hj => by rw [gUI_ne (by decide)]; exact hA j hj) (by omega) (by omega)
  refine ⟨τ, ?_, ks_tr e1 r2, fun a x1 x2 x3 x4 => by rw [r3 a x1 x2 x3 x4, gUI_ne x2], fun j h1 h2 => r5 j (by omega) h2, fun j h1 h2 => r6 j (by omega) h2, ?_⟩
  · unfold mX7_walk
    rw [if_pos (by rfl), if_pos (by rcases hX.2.2.1 with rfl | rfl <;> rfl), gl_eq, gl_eq, gl_eq, gUI_ne (by decide), ht]
    exact r1
  · rw [r7, gUI_same]
    rfl
/-! the reference's -/
/-- what the reference's thinking may change -/
def km (σ τ : gS) : Prop := (∀ a, a ≠ 52 → a ≠ 69 → a ≠ 70 → a ≠ 79 → a ≠ 80 → a ≠ 81 → τ.1 a = σ.1 a) ∧ (∀ j, j ≠ 43 → τ.1 52 j = σ.1 52 j) ∧ τ.2 = σ.2
theorem km_rf (σ : gS) : km σ σ := ⟨fun _ _ _ _ _ _ _ => rfl, fun _ _ => rfl, rfl⟩
theorem km_tr {σ τ υ : gS} (h1 : km σ τ) (h2 : km τ υ) : km σ υ := ⟨fun a x1 x2 x3 x4 x5 x6 => (h2.1 a x1 x2 x3 x4 x5 x6).trans (h1.1 a x1 x2 x3 x4 x5 x6), fun j hj => (h2.2.1 j hj).trans (h1.2.1 j hj), h2.2.2.trans h1.2.2⟩
theorem ks_km {σ τ : gS} (h : km σ τ) : ks σ τ := by
  refine ⟨fun a ha => ?_, by rw [h.1 18 (by decide) (by decide) (by decide) (by decide) (by decide) (by decide)], by rw [h.1 23 (by decide) (by decide) (by decide) (by decide) (by decide) (by decide)], fun j hj => h.2.1 j (by unfold kq at hj; omega), h.2.2⟩
  unfold kp at ha
  exact h.1 a (by omega) (by omega) (by omega) (by omega) (by omega) (by omega)
theorem km_UI {σ : gS} {k j : Nat} {v : Int32} (h : k = 79 ∨ k = 80 ∨ k = 81) : km σ (gUI σ k j v) :=
  ⟨fun a x1 x2 x3 x4 x5 x6 => gUI_ne (by omega), fun j _ => by rw [gUI_ne (by omega)], rfl⟩
theorem km_52 {σ : gS} {v : Int32} : km σ (gUI σ 52 43 v) := ⟨fun a x1 _ _ _ _ _ => gUI_ne x1, fun j hj => by
  rw [gUI_same]
  exact if_neg hj, rfl⟩
def Mx (τ : gS) (F : gLw) : Prop := LawM (τ.1 52 11) (τ.1 52 12) (τ.1 61) (τ.1 62) (τ.1 63) (τ.1 64) F
theorem Mx_km {σ τ : gS} {F : gLw} (h : Mx σ F) (k : km σ τ) : Mx τ F := by
  unfold Mx
  rw [k.2.1 11 (by decide), k.2.1 12 (by decide), k.1 61 (by decide) (by decide) (by decide) (by decide) (by decide) (by decide), k.1 62 (by decide) (by decide) (by decide) (by decide) (by decide) (by decide), k.1 63 (by decide) (by decide) (by decide) (by decide) (by decide) (by decide), k.1 64 (by decide) (by decide) (by decide) (by decide) (by decide) (by decide)]
  exact h
theorem nightX {τ : gS} {F : gLw} (h : Mx τ F) (h2 : rg (τ.1 59 2) 0 9) (h3 : rg (τ.1 59 3) 0 9) (c l day : Int32) :
    ∃ υ : gS, mX10_nextCold τ c l day = some (nx F (τ.1 59 2) (τ.1 59 3) (τ.1 59 1) day c l, υ) ∧ km τ υ ∧ ∀ a, a ≠ 69 → a ≠ 70 → υ.1 a = τ.1 a := by
  obtain ⟨υ, r1, r2, r3⟩ := h τ c l day rfl rfl rfl rfl rfl rfl h2 h3
  exact ⟨υ, r1, ⟨fun a _ x y _ _ _ => (r2 a x y).1.symm, fun j _ => by rw [(r2 52 (by decide) (by decide)).1], r3⟩, fun a x y => (r2 a x y).1.symm⟩
theorem walk10_day {σ : gS} {d : Nat} {F : gLw} {A : Nat → Int32} (hX : Mx σ F) (h2 : rg (σ.1 59 2) 0 9) (h3 : rg (σ.1 59 3) 0 9) (hd : d < 30) (hA : ∀ j, j < 30 → σ.1 79 j = A j) (k : gS → Int32 → Int32 → Option (Unit × gS)) (c : Int32) :
    ∃ τ : gS, mX10_walks_b45 k σ c (nI d) = k τ (nxS F (σ.1 59) d (c - gMin (A d) c) (gMin (A d) c)) (nI (d + 1)) ∧ km σ τ ∧ τ.1 79 = σ.1 79 ∧ τ.1 52 = σ.1 52 ∧ (∀ j, τ.1 80 j = if j = d then c else σ.1 80 j) ∧ ∀ j, τ.1 81 j = if j = d then gMin (A d) c else σ.1 81 j := by
  obtain ⟨s, hs⟩ : ∃ s, s = gUI (gUI σ 80 d c) 81 d (gMin (A d) c) := ⟨_, rfl⟩
  have e1 : km σ s := by rw [hs]; exact km_tr (km_UI (Or.inr (Or.inl rfl))) (km_UI (Or.inr (Or.inr rfl)))
  have g1 : ∀ a, a ≠ 80 → a ≠ 81 → s.1 a = σ.1 a := fun a x y => by rw [hs, gUI_ne y, gUI_ne x]
  obtain ⟨τ, r1, r2, r3⟩ := nightX (Mx_km hX e1) (by rw [g1 59 (by decide) (by decide)]; exact h2) (by rw [g1 59 (by decide) (by decide)]; exact h3) (c - gMin (A d) c) (gMin (A d) c) (nI d)
  rw [g1 59 (by decide) (by decide)] at r1
  have s81 : s.1 81 d = gMin (A d) c := by rw [hs, gUI_same]; exact if_pos rfl
  refine ⟨τ, ?_, km_tr e1 r2, by rw [r3 79 (by decide) (by decide), g1 79 (by decide) (by decide)], by rw [r3 52 (by decide) (by decide), g1 52 (by decide) (by decide)], fun j => ?_, fun j => ?_⟩
  · have i30 := inbB_nI hd (show 30 ≤ 1000 by decide)
    unfold mX10_walks_b45
    rw [if_pos (inbB_nI (show d < 31 by omega) (by decide)), nI_cl (by omega), gl_eq, if_pos i30, if_pos i30, gUI_ne (show 79 ≠ 80 by decide), hA d hd, gMin_comm c, gl_eq, ← hs, if_pos i30, if_pos i30, s81, r1, gb_some, gl_eq, gl_eq, nI_1]
    rfl
  · rw [r3 80 (by decide) (by decide), hs, gUI_ne (by decide), gUI_same]
  · rw [r3 81 (by decide) (by decide), hs, gUI_same, gUI_ne (by decide)]
theorem walk10_loop {t : Nat} {F : gLw} {A S : Nat → Int32} {c0 : Int32} (h2 : rg (S 2) 0 9) (h3 : rg (S 3) 0 9) : ∀ (k i : Nat) (σ : gS) (n : Nat), Mx σ F → σ.1 59 = S → (∀ j, j < 30 → σ.1 79 j = A j) → t + i + k = 30 → k < n →
    ∃ τ : gS, mX10_walks_b13 n σ (wkC (S 1) (nxS F S) A t c0 i) (nI (t + i)) = some ((), τ) ∧ km σ τ ∧ τ.1 79 = σ.1 79 ∧ (∀ j, j < t + i → τ.1 80 j = σ.1 80 j ∧ τ.1 81 j = σ.1 81 j) ∧ (∀ j, t + i ≤ j → j ≤ 30 → τ.1 80 j = CB (S 1) (nxS F S) A t c0 j) ∧ (∀ j, t + i ≤ j → j < 30 → τ.1 81 j = OB (S 1) (nxS F S) A t c0 j) ∧ τ.1 52 43 = lp (fGv (S 1) (nxS F S) A t c0) k i (σ.1 52 43) := by
  intro k
  induction k with
  | zero =>
    intro i σ n hX h8 hA hi hn
    obtain ⟨n, rfl⟩ : ∃ m, n = m + 1 := ⟨n - 1, by omega⟩
    refine ⟨gUI σ 80 30 (wkC (S 1) (nxS F S) A t c0 i), ?_, km_UI (Or.inr (Or.inl rfl)), gUI_ne (by decide), fun j hj => ⟨?_, by rw [gUI_ne (by decide)]⟩, fun j h1 h2 => ?_, fun j h1 h2 => absurd h2 (by omega), by rw [gUI_ne (by decide)]; rfl⟩
    · conv => lhs; unfold mX10_walks_b13
      rw [if_pos (show (30 : Int32) ≤ nI (t + i) from nI_le (a := 30) (show 30 ≤ t + i by omega) (by omega)), if_pos (by decide), show Int32.toNatClampNeg 30 = 30 from by decide, gl_eq]
    · rw [gUI_same]; exact if_neg (by omega)
    · obtain rfl : j = 30 := by omega
      rw [gUI_same]
      unfold CB
      rw [if_neg (by decide), show 30 - t = i by omega]
      exact if_pos rfl
  | succ k ih =>
    intro i σ n hX h8 hA hi hn
    obtain ⟨n, rfl⟩ : ∃ m, n = m + 1 := ⟨n - 1, by omega⟩
    have n30 : ¬ 30 ≤ nI (t + i) := nI_ge (b := 30) (by omega) (by omega)
    obtain ⟨c, hc⟩ : ∃ c, c = wkC (S 1) (nxS F S) A t c0 i := ⟨_, rfl⟩
    have main : ∀ s : gS, km σ s → s.1 79 = σ.1 79 → s.1 80 = σ.1 80 → s.1 81 = σ.1 81 → s.1 52 43 = fGv (S 1) (nxS F S) A t c0 i (σ.1 52 43) →
        ∃ τ : gS, mX10_walks_b45 (mX10_walks_b13 n) s (dw (S 1) c) (nI (t + i)) = some ((), τ) ∧ km σ τ ∧ τ.1 79 = σ.1 79 ∧ (∀ j, j < t + i → τ.1 80 j = σ.1 80 j ∧ τ.1 81 j = σ.1 81 j) ∧ (∀ j, t + i ≤ j → j ≤ 30 → τ.1 80 j = CB (S 1) (nxS F S) A t c0 j) ∧ (∀ j, t + i ≤ j → j < 30 → τ.1 81 j = OB (S 1) (nxS F S) A t c0 j) ∧ τ.1 52 43 = lp (fGv (S 1) (nxS F S) A t c0) (k + 1) i (σ.1 52 43) := by
      intro s e1 e79 e80 e81 e4
      have s8 : s.1 59 = S := (e1.1 59 (by decide) (by decide) (by decide) (by decide) (by decide) (by decide)).trans h8
      have sA : ∀ j, j < 30 → s.1 79 j = A j := fun j hj => by rw [e79]; exact hA j hj
      obtain ⟨u, r1, r2, r3, r52, r4, r5⟩ := walk10_day (Mx_km hX e1) (by rw [s8]; exact h2) (by rw [s8]; exact h3) (show t + i < 30 by omega) sA (mX10_walks_b13 n) (dw (S 1) c)
      rw [s8] at r1
      obtain ⟨τ, q1, q2, q3, q4, q5, q6, q7⟩ := ih (i + 1) u n (Mx_km (Mx_km hX e1) r2) ((r2.1 59 (by decide) (by decide) (by decide) (by decide) (by decide) (by decide)).trans s8) (fun j hj => by rw [r3]; exact sA j hj) (by omega) (by omega)
      refine ⟨τ, ?_, km_tr e1 (km_tr r2 q2), q3.trans (r3.trans e79), fun j hj => ?_, fun j h1 h2 => ?_, fun j h1 h2 => ?_, ?_⟩
      · rw [r1, hc]
        exact q1
      · obtain ⟨p1, p2⟩ := q4 j (by omega)
        rw [p1, p2, r4, r5, if_neg (by omega), if_neg (by omega), e80, e81]
        exact ⟨rfl, rfl⟩
      · by_cases hj : j = t + i
        · subst hj
          rw [(q4 (t + i) (by omega)).1, r4, if_pos rfl]
          unfold CB
          rw [if_pos (by omega), show t + i - t = i by omega, hc]
        · exact q5 j (by omega) h2
      · by_cases hj : j = t + i
        · subst hj
          rw [(q4 (t + i) (by omega)).2, r5, if_pos rfl]
          unfold OB
          rw [show t + i - t = i by omega, hc]
        · exact q6 j (by omega) h2
      · rw [q7, r52, e4, lp_succ]
    conv =>
      enter [1, τ, 1, 1]
      unfold mX10_walks_b13
    rw [← hc, if_neg n30, if_pos (show inbB 1 5 = true from by decide), show Int32.toNatClampNeg 1 = 1 from by decide, h8]
    by_cases hb : c ≤ S 1
    · rw [if_pos hb]
      have hd : dw (S 1) c = c := if_pos hb
      rw [hd] at main
      refine main σ (km_rf σ) rfl rfl rfl ?_
      unfold fGv
      rw [← hc, if_neg (fun q => q.2 hb)]
    · have hd : dw (S 1) c = 0 := if_neg hb
      rw [hd] at main
      rw [if_neg hb, gl_eq]
      by_cases hg : σ.1 52 43 = -2
      · rw [if_pos hg, gl_eq]
        refine main _ km_52 (gUI_ne (by decide)) (gUI_ne (by decide)) (gUI_ne (by decide)) ?_
        unfold fGv
        rw [← hc, if_pos ⟨hg, hb⟩, gUI_same]
        exact if_pos rfl
      · rw [if_neg hg]
        refine main σ (km_rf σ) rfl rfl rfl ?_
        unfold fGv
        rw [if_neg (fun q => hg q.1)]
theorem walk10_eq {σ : gS} {t : Nat} {F : gLw} {A : Nat → Int32} (hX : Mx σ F) (h2 : rg (σ.1 59 2) 0 9) (h3 : rg (σ.1 59 3) 0 9) (ht : σ.1 59 4 = nI t) (h29 : t ≤ 29) (hA : ∀ j, j < 30 → σ.1 79 j = A j) (c0 : Int32) :
    ∃ τ : gS, mX10_walks σ c0 = some ((), τ) ∧ km σ τ ∧ τ.1 79 = σ.1 79 ∧ (∀ j, t ≤ j → j ≤ 30 → τ.1 80 j = CB (σ.1 59 1) (nxS F (σ.1 59)) A t c0 j) ∧ (∀ j, t ≤ j → j < 30 → τ.1 81 j = OB (σ.1 59 1) (nxS F (σ.1 59)) A t c0 j) ∧ τ.1 52 43 = lp (fGv (σ.1 59 1) (nxS F (σ.1 59)) A t c0) (30 - t) 0 (-2) := by
  obtain ⟨τ, r1, r2, r3, r4, r5, r6, r7⟩ := walk10_loop (A := A) (S := σ.1 59) (t := t) (c0 := c0) h2 h3 (30 - t) 0 (gUI σ 52 43 (-2)) 1100 (Mx_km hX km_52) (gUI_ne (by decide)) (fun j hj => by rw [gUI_ne (by decide)]; exact hA j hj) (by omega) (by omega)
  refine ⟨τ, ?_, km_tr km_52 r2, r3.trans (gUI_ne (by decide)), fun j x y => r5 j (by omega) y, fun j x y => r6 j (by omega) y, ?_⟩
  · unfold mX10_walks
    rw [gl_eq, gl_eq, now_eq, gb_some, gl_eq, gUI_ne (by decide), ht]
    exact r1
  · rw [r7, gUI_same]
    rfl
