/-! ===== knock: how much, how fast ===== -/
/-- how many below a number hold; the least one of k from i on -/
def cn (G : Nat → Bool) : Nat → Nat
  | 0 => 0
  | k + 1 => cn G k + (if G k = true then 1 else 0)
def lsf (G : Nat → Bool) : Nat → Nat → Int32
  | 0, _ => -2
  | k + 1, i => if G i = true then nI i else lsf G k (i + 1)
theorem cn_le (G : Nat → Bool) : ∀ k, cn G k ≤ k
  | 0 => Nat.le_refl 0
  | k + 1 => by
    have := cn_le G k
    show cn G k + (if G k = true then 1 else 0) ≤ k + 1
    split <;> omega
theorem cn_mono (G : Nat → Bool) {a b : Nat} (h : a ≤ b) : cn G a ≤ cn G b := by
  induction b with
  | zero =>
    have e : a = 0 := by omega
    rw [e]
    exact Nat.le_refl _
  | succ b ih =>
    rcases Nat.lt_or_ge a (b + 1) with q | q
    · have := ih (by omega)
      show cn G a ≤ cn G b + (if G b = true then 1 else 0)
      omega
    · have e : a = b + 1 := by omega
      rw [e]
      exact Nat.le_refl _
/-- the guess's numbers by COLD; by GROWS and LEAK -/
def sC (S : Nat → Int32) (c : Nat) : Nat → Int32 := fun j => if j = 0 then nI c else S j
def sG (S : Nat → Int32) (v : Nat) : Nat → Int32 := fun j => if j = 3 then nI (v % 10) else if j = 2 then nI (v / 10) else S j
def gkC (F : gLw) (S : Nat → Int32) (told : Nat → Int64) (t m c : Nat) : Bool := decide (ul told (CB (S 1) (nxS F S) Z0 t (nI c)) t m 0 = -2)
def gkG (F : gLw) (S : Nat → Int32) (told : Nat → Int64) (t m v : Nat) : Bool := decide (ul told (CB (S 1) (nxS F (sG S v)) Z0 t (S 0)) t m 0 = -2)
theorem k9n : ¬ kp 9 := by unfold kp; omega
theorem ks_9 {σ : gS} {j : Nat} {v : Int32} : ks σ (gUI σ 9 j v) := ks_UI k9n (by decide) (by decide) (by decide)
theorem much9_loop {f w K t m j : Nat} {F : gLw} {S : Nat → Int32} {told : Nat → Int64} {ls : Int32} (ht : t ≤ 29) (hm : m ≤ 60) (hj : j < 6) (hS2 : rg (S 2) 0 9) (hS3 : rg (S 3) 0 9) (hS4 : S 4 = nI t) (hto : ∀ i, i < 60 → (told i).toInt32.toInt64 = told i) : ∀ (k i : Nat) (σ : gS) (x : Int32) (n : Nat), Cx σ f w K F → (∀ a, a ≠ 0 → σ.1 9 a = S a) → σ.1 (40 + 2 * j) 3 = nI m → σ.2.1 (40 + 2 * j + 1) = told → i + k = 1000 → k < n → (ls = 0 → x = nI (cn (gkC F S told t m) i)) →
    ∃ τ : gS, mX9_howMuch_b16 (40 + 2 * j) n σ ls x (nI i) = some (if ls = 0 then nI (cn (gkC F S told t m) 1000) else lsf (gkC F S told t m) k i, τ) ∧ ks σ τ := by
  intro k
  induction k with
  | zero =>
    intro i σ x n hX h9 e3 e4 hi hn hx
    obtain ⟨n, rfl⟩ : ∃ m, n = m + 1 := ⟨n - 1, by omega⟩
    obtain rfl : i = 1000 := by omega
    refine ⟨σ, ?_, ks_rf σ⟩
    conv => lhs; unfold mX9_howMuch_b16
    rw [if_pos (by decide)]
    by_cases hl : ls = 0
    · rw [if_pos hl, if_pos hl, hx hl]
    · rw [if_neg hl, if_neg hl]
      rfl
  | succ k ih =>
    intro i σ x n hX h9 e3 e4 hi hn hx
    obtain ⟨n, rfl⟩ : ∃ m, n = m + 1 := ⟨n - 1, by omega⟩
    have e1 : ks σ (gUI σ 9 0 (nI i)) := ks_9
    have s9 : (gUI σ 9 0 (nI i)).1 9 = sC S i := by
      rw [gUI_same]
      funext a
      unfold sC
      by_cases ha : a = 0
      · rw [if_pos ha, if_pos ha]
      · rw [if_neg ha, if_neg ha, h9 a ha]
    obtain ⟨u, r1, r2, r3⟩ := unlike9 (q1 := 9) (σ := gUI σ 9 0 (nI i)) (t := t) (m := m) (j := j) (told := told) (Cx_ks hX e1) ht hm hj (Or.inr rfl) (by rw [s9]; exact nI_pos (show i < 2 ^ 31 by omega)) (by rw [s9]; exact hS2) (by rw [s9]; exact hS3) (by rw [s9]; exact hS4) hto (by rw [gUI_ne (by omega)]; exact e3) e4
    rw [s9, show nxS F (sC S i) = nxS F S from nxS_eq rfl rfl rfl, show sC S i 1 = S 1 from rfl, show sC S i 0 = nI i from rfl] at r1
    have n999 : ¬ (999 : Int32) < nI i := nI_nlt (a := 999) (by omega) (by omega)
    have u9 : ∀ a, a ≠ 0 → u.1 9 a = S a := fun a ha => by rw [r3 9 (by decide), gUI_same]; exact (if_neg ha).trans (h9 a ha)
    have u3 : u.1 (40 + 2 * j) 3 = nI m := by rw [r2.1 (40 + 2 * j) (by unfold kp; omega), gUI_ne (by omega)]; exact e3
    have u4 : u.2.1 (40 + 2 * j + 1) = told := by rw [r2.2.2.2.2]; exact e4
    have hXu := Cx_ks (Cx_ks hX e1) r2
    by_cases hu : ul told (CB (S 1) (nxS F S) Z0 t (nI i)) t m 0 = -2
    · have hg : gkC F S told t m i = true := decide_eq_true hu
      by_cases hl : ls = 0
      · obtain ⟨τ, q1, q2⟩ := ih (i + 1) u (x + 1) n hXu u9 u3 u4 (by omega) (by omega) (fun _ => by
          rw [hx hl, nI_1]
          show _ = nI (cn (gkC F S told t m) i + (if gkC F S told t m i = true then 1 else 0))
          rw [hg]
          rfl)
        refine ⟨τ, ?_, ks_tr e1 (ks_tr r2 q2)⟩
        conv => lhs; unfold mX9_howMuch_b16
        rw [if_neg n999, gl_eq, r1, gb_some, if_pos hu, if_pos hl, gl_eq]
        unfold mX9_howMuch_b57
        rw [gl_eq, nI_1, q1, if_pos hl, if_pos hl]
      · refine ⟨u, ?_, ks_tr e1 r2⟩
        conv => lhs; unfold mX9_howMuch_b16
        rw [if_neg n999, gl_eq, r1, gb_some, if_pos hu, if_neg hl, if_neg hl]
        show _ = some (if gkC F S told t m i = true then nI i else _, u)
        rw [hg, if_pos rfl]
    · have hg : gkC F S told t m i = false := decide_eq_false hu
      obtain ⟨τ, q1, q2⟩ := ih (i + 1) u x n hXu u9 u3 u4 (by omega) (by omega) (fun hl => by
        rw [hx hl]
        show _ = nI (cn (gkC F S told t m) i + (if gkC F S told t m i = true then 1 else 0))
        rw [hg]
        rfl)
      refine ⟨τ, ?_, ks_tr e1 (ks_tr r2 q2)⟩
      conv => lhs; unfold mX9_howMuch_b16
      rw [if_neg n999, gl_eq, r1, gb_some, if_neg hu]
      unfold mX9_howMuch_b57
      rw [gl_eq, nI_1, q1]
      show _ = some (if ls = 0 then _ else (if gkC F S told t m i = true then nI i else lsf (gkC F S told t m) k (i + 1)), τ)
      rw [hg, if_neg (show ¬ false = true by decide)]
theorem much10_loop {t m p : Nat} {F : gLw} {S : Nat → Int32} {told : Nat → Int64} {ls : Int32} (ht : t ≤ 29) (hm : m ≤ 60) (hp : p < 6) (hS2 : rg (S 2) 0 9) (hS3 : rg (S 3) 0 9) (hS4 : S 4 = nI t) : ∀ (v : Nat) (σ : gS) (n : Nat), Mx σ F → σ.1 59 = S → σ.1 77 p = nI m → (∀ i, i < 60 → σ.2.1 78 (60 * p + i) = told i) → v ≤ 1000 → v < n →
    ∃ τ : gS, mX10_knock_b48 n σ (nI p) ls (nI (cn (gkC F S told t m) 1000 - cn (gkC F S told t m) v)) (lsf (gkC F S told t m) (1000 - v) v) (nI v - 1) = some (if ls = 0 then nI (cn (gkC F S told t m) 1000) else lsf (gkC F S told t m) 1000 0, τ) ∧ km σ τ := by
  intro v
  induction v with
  | zero =>
    intro σ n hM h5 h7 h8 _ hn
    obtain ⟨n, rfl⟩ : ∃ m, n = m + 1 := ⟨n - 1, by omega⟩
    refine ⟨σ, ?_, km_rf σ⟩
    conv => lhs; unfold mX10_knock_b48
    rw [if_pos (by decide)]
    by_cases hl : ls = 0
    · rw [if_pos hl, if_pos hl]; rfl
    · rw [if_neg hl, if_neg hl]
  | succ v ih =>
    intro σ n hM h5 h7 h8 hv hn
    obtain ⟨n, rfl⟩ : ∃ m, n = m + 1 := ⟨n - 1, by omega⟩
    obtain ⟨u, r1, r2⟩ := unlike10 (t := t) (m := m) (p := p) (told := told) hM ht hm hp (by rw [h5]; exact hS2) (by rw [h5]; exact hS3) (by rw [h5]; exact hS4) h7 h8 (nI v)
    rw [h5] at r1
    obtain ⟨τ, q1, q2⟩ := ih u n (Mx_km hM r2) ((r2.1 59 (by decide) (by decide) (by decide) (by decide) (by decide) (by decide)).trans h5) (by rw [r2.1 77 (by decide) (by decide) (by decide) (by decide) (by decide) (by decide)]; exact h7) (fun i hi => by rw [r2.2.2]; exact h8 i hi) (by omega) (by omega)
    refine ⟨τ, ?_, km_tr r2 q2⟩
    have c1 := cn_mono (gkC F S told t m) (show v + 1 ≤ 1000 by omega)
    have c2 : cn (gkC F S told t m) (v + 1) = cn (gkC F S told t m) v + (if gkC F S told t m v = true then 1 else 0) := rfl
    have c3 : lsf (gkC F S told t m) (1000 - v) v = (if gkC F S told t m v = true then nI v else lsf (gkC F S told t m) (1000 - (v + 1)) (v + 1)) := by
      rw [show 1000 - v = (1000 - (v + 1)) + 1 by omega]
      rfl
    conv => lhs; unfold mX10_knock_b48
    rw [nI_pred, if_neg (nI_pos (by omega)), r1, gb_some]
    unfold mX10_knock_b75
    by_cases hu : ul told (CB (S 1) (nxS F S) Z0 t (nI v)) t m 0 = -2
    · have hg : gkC F S told t m v = true := decide_eq_true hu
      rw [hg, if_pos rfl] at c2 c3
      rw [if_pos hu, gl_eq, gl_eq, gl_eq, nI_1, show (nI v + -1 : Int32) = nI v - 1 from (Int32.sub_eq_add_neg _ _).symm]
      rw [show cn (gkC F S told t m) 1000 - cn (gkC F S told t m) (v + 1) + 1 = cn (gkC F S told t m) 1000 - cn (gkC F S told t m) v by omega]
      rw [c3] at q1
      exact q1
    · have hg : gkC F S told t m v = false := decide_eq_false hu
      rw [hg, if_neg (by decide)] at c2 c3
      rw [if_neg hu, gl_eq, show (nI v + -1 : Int32) = nI v - 1 from (Int32.sub_eq_add_neg _ _).symm, c2, ← c3]
      exact q1
theorem fast9_loop {f w K t m j : Nat} {F : gLw} {S : Nat → Int32} {told : Nat → Int64} {ls : Int32} (ht : t ≤ 29) (hm : m ≤ 60) (hj : j < 6) (hS0 : ¬ S 0 < 0) (hS4 : S 4 = nI t) (hto : ∀ i, i < 60 → (told i).toInt32.toInt64 = told i) : ∀ (k i : Nat) (σ : gS) (x : Int32) (n : Nat), Cx σ f w K F → (∀ a, a ≠ 2 → a ≠ 3 → σ.1 9 a = S a) → σ.1 (40 + 2 * j) 3 = nI m → σ.2.1 (40 + 2 * j + 1) = told → i + k = 100 → k < n → (ls = 0 → x = nI (cn (gkG F S told t m) i)) →
    ∃ τ : gS, mX9_howFast_b16 (40 + 2 * j) n σ ls x (nI i) = some (if ls = 0 then nI (cn (gkG F S told t m) 100) else lsf (gkG F S told t m) k i, τ) ∧ ks σ τ := by
  intro k
  induction k with
  | zero =>
    intro i σ x n hX h9 e3 e4 hi hn hx
    obtain ⟨n, rfl⟩ : ∃ m, n = m + 1 := ⟨n - 1, by omega⟩
    obtain rfl : i = 100 := by omega
    refine ⟨σ, ?_, ks_rf σ⟩
    conv => lhs; unfold mX9_howFast_b16
    rw [if_pos (by decide)]
    by_cases hl : ls = 0
    · rw [if_pos hl, if_pos hl, hx hl]
    · rw [if_neg hl, if_neg hl]
      rfl
  | succ k ih =>
    intro i σ x n hX h9 e3 e4 hi hn hx
    obtain ⟨n, rfl⟩ : ∃ m, n = m + 1 := ⟨n - 1, by omega⟩
    have ed : nI i / 10 = nI (i / 10) := pk_div (d := 10) (by omega) (by decide) (by decide)
    have er : gRem (nI i) 10 = nI (i % 10) := rem_n (d := 10) (by omega) (by decide) (by decide)
    have e1 : ks σ (gUI (gUI σ 9 2 (nI (i / 10))) 9 3 (nI (i % 10))) := ks_tr ks_9 ks_9
    have s9 : (gUI (gUI σ 9 2 (nI (i / 10))) 9 3 (nI (i % 10))).1 9 = sG S i := by
      rw [gUI_same]
      funext a
      unfold sG
      by_cases h3 : a = 3
      · rw [if_pos h3, if_pos h3]
      · rw [if_neg h3, if_neg h3, gUI_at]
        by_cases h2 : a = 2
        · rw [if_pos h2, if_pos h2]
        · rw [if_neg h2, if_neg h2, h9 a h2 h3]
    obtain ⟨u, r1, r2, r3⟩ := unlike9 (q1 := 9) (σ := gUI (gUI σ 9 2 (nI (i / 10))) 9 3 (nI (i % 10))) (t := t) (m := m) (j := j) (told := told) (Cx_ks hX e1) ht hm hj (Or.inr rfl) (by rw [s9]; exact hS0) (by rw [s9]; exact ⟨i / 10, by omega, by omega, rfl⟩) (by rw [s9]; exact ⟨i % 10, by omega, by omega, rfl⟩) (by rw [s9]; exact hS4) hto (by rw [gUI_ne (by omega), gUI_ne (by omega)]; exact e3) e4
    rw [s9, show sG S i 1 = S 1 from rfl, show sG S i 0 = S 0 from rfl] at r1
    have n100 : ¬ (100 : Int32) ≤ nI i := nI_ge (b := 100) (by omega) (by omega)
    have u9 : ∀ a, a ≠ 2 → a ≠ 3 → u.1 9 a = S a := fun a h2 h3 => by rw [r3 9 (by decide), gUI_at, if_neg h3, gUI_at, if_neg h2, h9 a h2 h3]
    have u3 : u.1 (40 + 2 * j) 3 = nI m := by rw [r2.1 (40 + 2 * j) (by unfold kp; omega), gUI_ne (by omega), gUI_ne (by omega)]; exact e3
    have u4 : u.2.1 (40 + 2 * j + 1) = told := by rw [r2.2.2.2.2]; exact e4
    have hXu := Cx_ks (Cx_ks hX e1) r2
    by_cases hu : ul told (CB (S 1) (nxS F (sG S i)) Z0 t (S 0)) t m 0 = -2
    · have hg : gkG F S told t m i = true := decide_eq_true hu
      by_cases hl : ls = 0
      · obtain ⟨τ, q1, q2⟩ := ih (i + 1) u (x + 1) n hXu u9 u3 u4 (by omega) (by omega) (fun _ => by
          rw [hx hl, nI_1]
          show _ = nI (cn (gkG F S told t m) i + (if gkG F S told t m i = true then 1 else 0))
          rw [hg]
          rfl)
        refine ⟨τ, ?_, ks_tr e1 (ks_tr r2 q2)⟩
        conv => lhs; unfold mX9_howFast_b16
        rw [if_neg n100, ed, er, gl_eq, gl_eq, r1, gb_some, if_pos hu, if_pos hl, gl_eq]
        unfold mX9_howFast_b71
        rw [gl_eq, nI_1, q1, if_pos hl, if_pos hl]
      · refine ⟨u, ?_, ks_tr e1 r2⟩
        conv => lhs; unfold mX9_howFast_b16
        rw [if_neg n100, ed, er, gl_eq, gl_eq, r1, gb_some, if_pos hu, if_neg hl, if_neg hl]
        show _ = some (if gkG F S told t m i = true then nI i else _, u)
        rw [hg, if_pos rfl]
    · have hg : gkG F S told t m i = false := decide_eq_false hu
      obtain ⟨τ, q1, q2⟩ := ih (i + 1) u x n hXu u9 u3 u4 (by omega) (by omega) (fun hl => by
        rw [hx hl]
        show _ = nI (cn (gkG F S told t m) i + (if gkG F S told t m i = true then 1 else 0))
        rw [hg]
        rfl)
      refine ⟨τ, ?_, ks_tr e1 (ks_tr r2 q2)⟩
      conv => lhs; unfold mX9_howFast_b16
      rw [if_neg n100, ed, er, gl_eq, gl_eq, r1, gb_some, if_neg hu]
      unfold mX9_howFast_b71
      rw [gl_eq, nI_1, q1]
      show _ = some (if ls = 0 then _ else (if gkG F S told t m i = true then nI i else lsf (gkG F S told t m) k (i + 1)), τ)
      rw [hg, if_neg (show ¬ false = true by decide)]
/-- the reference's shed with other numbers, for a while -/
def setw (σ : gS) (a b : Int32) : gS := gUI (gUI σ 59 2 a) 59 3 b
theorem setw_km {σ τ : gS} {a b x y : Int32} (h : km (setw σ a b) τ) : km (setw σ x y) (gUI (gUI τ 59 2 x) 59 3 y) := by
  refine ⟨fun q x1 x2 x3 x4 x5 x6 => ?_, fun j hj => ?_, h.2.2⟩
  · by_cases hq : q = 59
    · subst hq
      funext j
      have e := congrFun (h.1 59 (by decide) (by decide) (by decide) (by decide) (by decide) (by decide)) j
      unfold setw at e ⊢
      rw [gUI_at, gUI_at] at e
      rw [gUI_at, gUI_at, gUI_at, gUI_at]
      by_cases h3 : j = 3
      · rw [if_pos h3, if_pos h3]
      · rw [if_neg h3, if_neg h3]
        by_cases h2 : j = 2
        · rw [if_pos h2, if_pos h2]
        · rw [if_neg h2, if_neg h2, e, if_neg h3, if_neg h2]
    · have e := h.1 q x1 x2 x3 x4 x5 x6
      unfold setw at e ⊢
      rw [gUI_ne hq, gUI_ne hq] at e
      rw [gUI_ne hq, gUI_ne hq, gUI_ne hq, gUI_ne hq, e]
  · have e := h.2.1 j hj
    unfold setw at e ⊢
    rw [gUI_ne (by decide), gUI_ne (by decide)] at e
    rw [gUI_ne (by decide), gUI_ne (by decide), gUI_ne (by decide), gUI_ne (by decide), e]
theorem setw_id {σ : gS} : km σ (setw σ (σ.1 59 2) (σ.1 59 3)) := by
  refine ⟨fun q x1 x2 x3 x4 x5 x6 => ?_, fun j hj => ?_, rfl⟩
  · by_cases hq : q = 59
    · subst hq
      funext j
      unfold setw
      rw [gUI_at, gUI_at]
      by_cases h3 : j = 3
      · rw [if_pos h3, h3]
      · rw [if_neg h3]
        by_cases h2 : j = 2
        · rw [if_pos h2, h2]
        · rw [if_neg h2]
    · unfold setw
      rw [gUI_ne hq, gUI_ne hq]
  · unfold setw
    rw [gUI_ne (by decide), gUI_ne (by decide)]
theorem setw_59 {σ τ : gS} {v : Nat} (h : km (setw σ (nI (v / 10)) (nI (v % 10))) τ) : τ.1 59 = sG (σ.1 59) v := by
  funext j
  have e := congrFun (h.1 59 (by decide) (by decide) (by decide) (by decide) (by decide) (by decide)) j
  unfold setw at e
  rw [gUI_at, gUI_at] at e
  exact e
theorem setw_M {σ : gS} {F : gLw} {a b : Int32} (h : Mx σ F) : Mx (setw σ a b) F := h
theorem fast10_loop {t m p : Nat} {F : gLw} {σ0 : gS} {told : Nat → Int64} {ls : Int32} (ht : t ≤ 29) (hm : m ≤ 60) (hp : p < 6) (hM : Mx σ0 F) (hS4 : σ0.1 59 4 = nI t) (h7 : σ0.1 77 p = nI m) (h8 : ∀ i, i < 60 → σ0.2.1 78 (60 * p + i) = told i) : ∀ (v : Nat) (σ : gS) (a b : Int32) (n : Nat), km (setw σ0 a b) σ → v ≤ 100 → v < n →
    ∃ τ : gS, mX10_knock_b113 n σ (nI p) ls (nI (cn (gkG F (σ0.1 59) told t m) 100 - cn (gkG F (σ0.1 59) told t m) v)) (lsf (gkG F (σ0.1 59) told t m) (100 - v) v) (σ0.1 59 2) (σ0.1 59 3) (nI v - 1) = some (if ls = 2 then nI (cn (gkG F (σ0.1 59) told t m) 100) else lsf (gkG F (σ0.1 59) told t m) 100 0, τ) ∧ km σ0 τ := by
  have i2 : inbB 2 5 = true := by decide
  have i3 : inbB 3 5 = true := by decide
  have c2' : Int32.toNatClampNeg 2 = 2 := by decide
  have c3' : Int32.toNatClampNeg 3 = 3 := by decide
  intro v
  induction v with
  | zero =>
    intro σ a b n hk _ hn
    obtain ⟨n, rfl⟩ : ∃ m, n = m + 1 := ⟨n - 1, by omega⟩
    refine ⟨gUI (gUI σ 59 2 (σ0.1 59 2)) 59 3 (σ0.1 59 3), ?_, km_tr setw_id (setw_km hk)⟩
    conv => lhs; unfold mX10_knock_b113
    rw [if_pos (by decide), if_pos i2, gl_eq, if_pos i3, gl_eq, c2', c3']
    by_cases hl : ls = 2
    · rw [if_pos hl, if_pos hl]; rfl
    · rw [if_neg hl, if_neg hl]
  | succ v ih =>
    intro σ a b n hk hv hn
    obtain ⟨n, rfl⟩ : ∃ m, n = m + 1 := ⟨n - 1, by omega⟩
    have ed : nI v / 10 = nI (v / 10) := pk_div (d := 10) (by omega) (by decide) (by decide)
    have er : gRem (nI v) 10 = nI (v % 10) := rem_n (d := 10) (by omega) (by decide) (by decide)
    obtain ⟨s, hs⟩ : ∃ s, s = gUI (gUI σ 59 2 (nI (v / 10))) 59 3 (nI (v % 10)) := ⟨_, rfl⟩
    have k1 : km (setw σ0 (nI (v / 10)) (nI (v % 10))) s := by rw [hs]; exact setw_km hk
    have s59 := setw_59 k1
    obtain ⟨u, r1, r2⟩ := unlike10 (σ := s) (F := F) (t := t) (m := m) (p := p) (told := told) (Mx_km (setw_M hM) k1) ht hm hp (by rw [s59]; exact ⟨v / 10, by omega, by omega, rfl⟩) (by rw [s59]; exact ⟨v % 10, by omega, by omega, rfl⟩) (by rw [s59]; exact hS4) (by
      rw [k1.1 77 (by decide) (by decide) (by decide) (by decide) (by decide) (by decide)]
      exact h7) (fun i hi => by rw [k1.2.2]; exact h8 i hi) (s.1 59 0)
    rw [s59, show sG (σ0.1 59) v 1 = σ0.1 59 1 from rfl, show sG (σ0.1 59) v 0 = σ0.1 59 0 from rfl] at r1
    obtain ⟨τ, q1, q2⟩ := ih u _ _ n (km_tr k1 r2) (by omega) (by omega)
    refine ⟨τ, ?_, q2⟩
    have c1 := cn_mono (gkG F (σ0.1 59) told t m) (show v + 1 ≤ 100 by omega)
    have c2 : cn (gkG F (σ0.1 59) told t m) (v + 1) = cn (gkG F (σ0.1 59) told t m) v + (if gkG F (σ0.1 59) told t m v = true then 1 else 0) := rfl
    have c3 : lsf (gkG F (σ0.1 59) told t m) (100 - v) v = (if gkG F (σ0.1 59) told t m v = true then nI v else lsf (gkG F (σ0.1 59) told t m) (100 - (v + 1)) (v + 1)) := by
      rw [show 100 - v = (100 - (v + 1)) + 1 by omega]
      rfl
    conv => lhs; unfold mX10_knock_b113
    rw [nI_pred, if_neg (nI_pos (by omega)), if_pos i2, ed, er, c2', gl_eq, if_pos i3, c3', gl_eq, ← hs, if_pos (by decide), show Int32.toNatClampNeg 0 = 0 from by decide, s59, show sG (σ0.1 59) v 0 = σ0.1 59 0 from rfl, r1, gb_some]
    unfold mX10_knock_b166
    by_cases hu : ul told (CB (σ0.1 59 1) (nxS F (sG (σ0.1 59) v)) Z0 t (σ0.1 59 0)) t m 0 = -2
    · have hg : gkG F (σ0.1 59) told t m v = true := decide_eq_true hu
      rw [hg, if_pos rfl] at c2 c3
      rw [if_pos hu, gl_eq, gl_eq, gl_eq, nI_1, show (nI v + -1 : Int32) = nI v - 1 from (Int32.sub_eq_add_neg _ _).symm]
      rw [show cn (gkG F (σ0.1 59) told t m) 100 - cn (gkG F (σ0.1 59) told t m) (v + 1) + 1 = cn (gkG F (σ0.1 59) told t m) 100 - cn (gkG F (σ0.1 59) told t m) v by omega]
      rw [c3] at q1
      exact q1
    · have hg : gkG F (σ0.1 59) told t m v = false := decide_eq_false hu
      rw [hg, if_neg (by decide)] at c2 c3
      rw [if_neg hu, gl_eq, show (nI v + -1 : Int32) = nI v - 1 from (Int32.sub_eq_add_neg _ _).symm, c2, ← c3]
      exact q1
