/-! ===== pass ===== -/
/-- the BOARDS give -/
def gvB (day c b : Int32) : Bool := !decide (29 < day) && !decide (c ≤ b)
theorem gives_eq {σ : gS} {q : Nat} (hq : gk q = 5) (d c : Int32) : mX5_givesAt σ q d c = some (gvB d c (σ.1 q 1), σ) := by
  unfold mX5_givesAt gvB
  rw [if_pos hq]
  by_cases h1 : 29 < d
  · simp [h1]
  · by_cases h2 : c ≤ σ.1 q 1
    · simp [h1, h2]
    · simp [h1, h2]
theorem dawn_eq {σ : gS} {q : Nat} (hq : gk q = 5) (d c : Int32) : mX5_atDawn σ q d c = some (if gvB d c (σ.1 q 1) = true then 0 else c, σ) := by
  unfold mX5_atDawn
  rw [if_pos hq, gives_eq hq, gb_some]
  cases gvB d c (σ.1 q 1)
  · rw [if_neg (by decide), if_neg (by decide)]
  · rw [if_pos rfl, if_pos rfl]
theorem hold_rg (c m : Int32) : rg (gHold c m) 0 999 := by
  unfold gHold
  obtain ⟨x, hx⟩ : ∃ x, x = c + gMax (-99) (gMin m 99) := ⟨_, rfl⟩
  rw [← hx]
  unfold gMax gMin
  by_cases h : (999 : Int32) < x
  · rw [if_pos h, if_pos (by decide)]; exact ⟨999, by omega, by omega, rfl⟩
  · rw [if_neg h]
    by_cases h2 : 0 < x
    · rw [if_pos h2]
      have h3 : ¬ x < 0 := by
        intro q
        rw [Int32.lt_iff_toInt_lt] at h2 q
        omega
      obtain ⟨n, hn, rfl⟩ := nI_of h3
      refine ⟨n, by omega, ?_, rfl⟩
      rcases Nat.lt_or_ge 999 n with q | q
      · exact absurd (nI_lt (a := 999) q hn) h
      · exact q
    · rw [if_neg h2]; exact ⟨0, by omega, by omega, rfl⟩
theorem gainMet {w : Nat} {dy hr gn : Nat → Int32} {d l : Int32} (hw : w ≤ 12) : lp (fGainB gn (lp (fMet dy hr d l) w 0 0)) w 0 0 = lp (fGain dy hr gn d l) w 0 0 := by
  apply lp_congr
  intro j a _ hj
  unfold fGainB fGain
  rw [fMet_set, fSet_0 (by omega) (by omega)]
/-- states that differ in LED alone -/
def ld (σ τ : gS) : Prop := (∀ a, a ≠ 28 → a ≠ 71 → τ.1 a = σ.1 a) ∧ τ.2 = σ.2
theorem IV_ld {σ τ : gS} {f w : Nat} (h : IV σ f w) (k : ld σ τ) : IV τ f w := by
  have g := k.1
  exact IV_ag h (by rw [g 1 (by decide) (by decide)]) (by rw [g 52 (by decide) (by decide)]) (by rw [g 1 (by decide) (by decide)]) (by rw [g 52 (by decide) (by decide)]) (g 2 (by decide) (by decide)) (g 3 (by decide) (by decide)) (g 4 (by decide) (by decide)) (g 5 (by decide) (by decide)) (g 6 (by decide) (by decide)) (g 7 (by decide) (by decide)) (g 53 (by decide) (by decide)) (g 54 (by decide) (by decide)) (g 55 (by decide) (by decide)) (g 56 (by decide) (by decide)) (g 57 (by decide) (by decide)) (g 58 (by decide) (by decide))
theorem Cx_ld {σ τ : gS} {f w K : Nat} {F : gLw} (h : Cx σ f w K F) (k : ld σ τ) : Cx τ f w K F := by
  obtain ⟨hV, hS, hK, e1, e3, e4⟩ := h
  have g := k.1
  refine ⟨IV_ld hV k, IS_ag hS (fun _ => by rw [g 8 (by decide) (by decide)]) (fun _ => by rw [g 59 (by decide) (by decide)]), hK, by rw [k.2]; exact e1, ?_, ?_⟩
  · rcases hK with rfl | rfl
    · rw [g 18 (by decide) (by decide), g 19 (by decide) (by decide), g 20 (by decide) (by decide)]; exact e3
    · rw [g 23 (by decide) (by decide), g 24 (by decide) (by decide), g 25 (by decide) (by decide)]; exact e3
  · rw [g 52 (by decide) (by decide), g 61 (by decide) (by decide), g 62 (by decide) (by decide), g 63 (by decide) (by decide), g 64 (by decide) (by decide)]; exact e4
theorem ld_28 {σ : gS} {j : Nat} {v : Int32} : ld σ (gUI σ 28 j v) := ⟨fun a h1 _ => gUI_ne h1, rfl⟩
theorem ld_71 {σ : gS} {j : Nat} {v : Int32} : ld σ (gUI σ 71 j v) := ⟨fun a _ h2 => gUI_ne h2, rfl⟩
theorem ld_tr {σ τ υ : gS} (h1 : ld σ τ) (h2 : ld τ υ) : ld σ υ := ⟨fun a x y => (h2.1 a x y).trans (h1.1 a x y), h2.2.trans h1.2⟩
/-- GAIN and HARM of all of l hours on a day -/
def gnV (σ : gS) (w : Nat) (d l : Int32) : Int32 := lp (fGain (σ.1 5) (σ.1 6) (σ.1 7) d l) w 0 0
def haV (σ : gS) (f w : Nat) (d l : Int32) : Int32 := lp (fHarm w (σ.1 4) (σ.1 5) (σ.1 6) (σ.1 2) d l) f 0 0
theorem ld4 {σ : gS} {k : Nat} {a b c d : Int32} : ∀ j, (gUI (gUI (gUI (gUI σ k 0 a) k 1 b) k 2 c) k 3 d).1 k j = if j = 3 then d else if j = 2 then c else if j = 1 then b else if j = 0 then a else σ.1 k j := fun j => by
  simp only [gUI_same]
theorem pass9 {σ : gS} {f w K : Nat} {F : gLw} (hX : Cx σ f w K F) (l t : Int32) : ∃ τ : gS, mX9_pass_b94 σ l t = some (nx F (σ.1 8 2) (σ.1 8 3) (σ.1 8 1) (σ.1 8 4) (t - l) l, τ) ∧ (∀ a, kp a → a ≠ 8 → a ≠ 28 → τ.1 a = σ.1 a) ∧ τ.1 18 2 = σ.1 18 2 ∧ τ.1 23 2 = σ.1 23 2 ∧ (∀ j, kq j → τ.1 52 j = σ.1 52 j) ∧ τ.2 = σ.2 ∧ (∀ j, τ.1 8 j = if j = 4 then σ.1 8 4 + 1 else if j = 0 then nx F (σ.1 8 2) (σ.1 8 3) (σ.1 8 1) (σ.1 8 4) (t - l) l else σ.1 8 j) ∧ ∀ j, τ.1 28 j = if j = 3 then σ.1 28 3 + haV σ f w (σ.1 8 4) l else if j = 2 then σ.1 28 2 + gnV σ w (σ.1 8 4) l else if j = 1 then σ.1 28 1 + l else if j = 0 then σ.1 28 0 + 1 else σ.1 28 j := by
  obtain ⟨hV, hS, hK, e1, e3, e4⟩ := id hX
  obtain ⟨s2, hs2⟩ : ∃ s, s = gUI (gUI σ 28 0 (σ.1 28 0 + 1)) 28 1 (σ.1 28 1 + l) := ⟨_, rfl⟩
  obtain ⟨s3, hs3⟩ : ∃ s, s = gUI (gUI s2 28 2 (σ.1 28 2 + gnV σ w (σ.1 8 4) l)) 28 3 (σ.1 28 3 + haV σ f w (σ.1 8 4) l) := ⟨_, rfl⟩
  have l2 : ld σ s2 := by rw [hs2]; exact ld_tr ld_28 ld_28
  have l3 : ld σ s3 := by rw [hs3]; exact ld_tr l2 (ld_tr ld_28 ld_28)
  have l23 : ld σ (gUI s2 28 2 (σ.1 28 2 + gnV σ w (σ.1 8 4) l)) := ld_tr l2 ld_28
  have X3 := Cx_ld hX l3
  have b8 : s3.1 8 = σ.1 8 := l3.1 8 (by decide) (by decide)
  obtain ⟨s4, r1, r2, r3⟩ := nightC X3 (q := 8) (Or.inl rfl) (by rw [b8]; exact hS.2.2.2.2.2.2.1) (by rw [b8]; exact hS.2.2.2.2.2.2.2.1) (σ.1 8 4) (t - l) l
  have b28 : ∀ j, s3.1 28 j = if j = 3 then σ.1 28 3 + haV σ f w (σ.1 8 4) l else if j = 2 then σ.1 28 2 + gnV σ w (σ.1 8 4) l else if j = 1 then σ.1 28 1 + l else if j = 0 then σ.1 28 0 + 1 else σ.1 28 j := fun j => by
    rw [hs3, hs2]; exact ld4 j
  rw [b8] at r1
  refine ⟨gUI (gUI s4 8 0 (nx F (σ.1 8 2) (σ.1 8 3) (σ.1 8 1) (σ.1 8 4) (t - l) l)) 8 4 (σ.1 8 4 + 1), ?_, fun a h1 h2 h3 => ?_, ?_, ?_, fun j hj => ?_, ?_, fun j => ?_, fun j => ?_⟩
  · have V2 := IV_ld hV l2
    have V3 := IV_ld hV l23
    have g2 : ∀ a, a ≠ 28 → a ≠ 71 → s2.1 a = σ.1 a := l2.1
    have g3 : ∀ a, a ≠ 28 → a ≠ 71 → (gUI s2 28 2 (σ.1 28 2 + gnV σ w (σ.1 8 4) l)).1 a = σ.1 a := l23.1
    have q1 : (gUI σ 28 0 (σ.1 28 0 + 1)).1 28 1 = σ.1 28 1 := rfl
    have q2 : s2.1 28 2 = σ.1 28 2 := by rw [hs2]; rfl
    have q3 : (gUI s2 28 2 (σ.1 28 2 + gnV σ w (σ.1 8 4) l)).1 28 3 = σ.1 28 3 := by rw [hs2]; rfl
    have c4 : s4.1 8 = σ.1 8 := (r3 8 (by decide)).trans b8
    unfold mX9_pass_b94
    rw [gl_eq, q1, gl_eq, ← hs2, gain_eq V2.2.1 V2.2.2.2.2.1, gb_some, g2 8 (by decide) (by decide), g2 5 (by decide) (by decide), g2 6 (by decide) (by decide), g2 7 (by decide) (by decide), q2, gl_eq]
    show gBind (mX8_harmOfAll (gUI s2 28 2 (σ.1 28 2 + gnV σ w (σ.1 8 4) l)) ((gUI s2 28 2 (σ.1 28 2 + gnV σ w (σ.1 8 4) l)).1 8 4) l) _ = _
    rw [harmAll_eq V3.1 V3.2.1 V3.2.2.1 V3.2.2.2.2.1, gb_some, g3 8 (by decide) (by decide), g3 4 (by decide) (by decide), g3 5 (by decide) (by decide), g3 6 (by decide) (by decide), g3 2 (by decide) (by decide)]
    show gLet (gUI (gUI s2 28 2 (σ.1 28 2 + gnV σ w (σ.1 8 4) l)) 28 3 ((gUI s2 28 2 (σ.1 28 2 + gnV σ w (σ.1 8 4) l)).1 28 3 + haV σ f w (σ.1 8 4) l)) _ = _
    rw [q3, gl_eq, ← hs3, X3.2.2.2.1]
    show (if gk K = 3 then _ else _) = _
    rw [if_pos (by rcases hK with rfl | rfl <;> rfl), b8, r1, gb_some, gl_eq, gl_eq]
    have c5 : (gUI s4 8 0 (nx F (σ.1 8 2) (σ.1 8 3) (σ.1 8 1) (σ.1 8 4) (t - l) l)).1 8 4 = σ.1 8 4 := by
      rw [gUI_same]
      show s4.1 8 4 = _
      rw [c4]
    rw [c5]
    rfl
  · rw [gUI_ne h2, gUI_ne h2, r2.1 a h1]
    by_cases h71 : a = 71
    · subst h71
      rw [hs3, gUI_ne (by decide), gUI_ne (by decide), hs2, gUI_ne (by decide), gUI_ne (by decide)]
    · exact l3.1 a h3 h71
  · rw [gUI_ne (by decide), gUI_ne (by decide), r2.2.1, l3.1 18 (by decide) (by decide)]
  · rw [gUI_ne (by decide), gUI_ne (by decide), r2.2.2.1, l3.1 23 (by decide) (by decide)]
  · rw [gUI_ne (by decide), gUI_ne (by decide), r2.2.2.2.1 j hj, l3.1 52 (by decide) (by decide)]
  · show s4.2 = σ.2
    rw [r2.2.2.2.2]; exact l3.2
  · have c4 : s4.1 8 = σ.1 8 := (r3 8 (by decide)).trans b8
    simp only [gUI_same]
    rw [c4]
  · rw [gUI_ne (by decide), gUI_ne (by decide), r2.1 28 (by unfold kp; omega)]
    exact b28 j
theorem pass10 {σ τ : gS} {f w K : Nat} {F : gLw} (hX : Cx σ f w K F) (hV : IV τ f w) (h1 : ∀ a, 61 ≤ a → a < 65 → τ.1 a = σ.1 a) (h0 : τ.1 52 11 = σ.1 52 11) (h00 : τ.1 52 12 = σ.1 52 12) (e59 : τ.1 59 = σ.1 59) (l t : Int32) : ∃ υ : gS, mX10_pass_b82 τ l t = some (nx F (σ.1 59 2) (σ.1 59 3) (σ.1 59 1) (σ.1 59 4) (t - l) l, υ) ∧ (∀ a, a ≠ 69 → a ≠ 70 → a ≠ 71 → a ≠ 59 → υ.1 a = τ.1 a) ∧ υ.2 = τ.2 ∧ (∀ j, υ.1 59 j = if j = 4 then σ.1 59 4 + 1 else if j = 0 then nx F (σ.1 59 2) (σ.1 59 3) (σ.1 59 1) (σ.1 59 4) (t - l) l else σ.1 59 j) ∧ ∀ j, υ.1 71 j = if j = 3 then τ.1 71 3 + haV τ f w (σ.1 59 4) l else if j = 2 then τ.1 71 2 + gnV τ w (σ.1 59 4) l else if j = 1 then τ.1 71 1 + l else if j = 0 then τ.1 71 0 + 1 else τ.1 71 j := by
  obtain ⟨s2, hs2⟩ : ∃ s, s = gUI (gUI τ 71 0 (τ.1 71 0 + 1)) 71 1 (τ.1 71 1 + l) := ⟨_, rfl⟩
  obtain ⟨s3, hs3⟩ : ∃ s, s = gUI (gUI s2 71 2 (τ.1 71 2 + gnV τ w (σ.1 59 4) l)) 71 3 (τ.1 71 3 + haV τ f w (σ.1 59 4) l) := ⟨_, rfl⟩
  have l2 : ld τ s2 := by rw [hs2]; exact ld_tr ld_71 ld_71
  have l3 : ld τ s3 := by rw [hs3]; exact ld_tr l2 (ld_tr ld_71 ld_71)
  have l23 : ld τ (gUI s2 71 2 (τ.1 71 2 + gnV τ w (σ.1 59 4) l)) := ld_tr l2 ld_71
  have b59 : s3.1 59 = σ.1 59 := (l3.1 59 (by decide) (by decide)).trans e59
  have hS := hX.2.1
  obtain ⟨s4, r1, r2, r3⟩ := nightM (τ := s3) hX (fun a x y => (l3.1 a (by omega) (by omega)).trans (h1 a x y)) (by rw [l3.1 52 (by decide) (by decide)]; exact h0) (by rw [l3.1 52 (by decide) (by decide)]; exact h00) (by rw [b59, hS.2.2.1]; exact hS.2.2.2.2.2.2.1) (by rw [b59, hS.2.2.2.1]; exact hS.2.2.2.2.2.2.2.1) (t - l) l (σ.1 59 4)
  have b71 : ∀ j, s3.1 71 j = if j = 3 then τ.1 71 3 + haV τ f w (σ.1 59 4) l else if j = 2 then τ.1 71 2 + gnV τ w (σ.1 59 4) l else if j = 1 then τ.1 71 1 + l else if j = 0 then τ.1 71 0 + 1 else τ.1 71 j := fun j => by
    rw [hs3, hs2]; exact ld4 j
  have c4 : s4.1 59 = σ.1 59 := (r3 59 (by decide) (by decide)).trans b59
  rw [b59] at r1
  refine ⟨gUI (gUI s4 59 0 (nx F (σ.1 59 2) (σ.1 59 3) (σ.1 59 1) (σ.1 59 4) (t - l) l)) 59 4 (σ.1 59 4 + 1), ?_, fun a x1 x2 x3 x4 => ?_, ?_, fun j => ?_, fun j => ?_⟩
  · have V2 := IV_ld hV l2
    have V3 := IV_ld hV l23
    have g2 : ∀ a, a ≠ 28 → a ≠ 71 → s2.1 a = τ.1 a := l2.1
    have g3 : ∀ a, a ≠ 28 → a ≠ 71 → (gUI s2 71 2 (τ.1 71 2 + gnV τ w (σ.1 59 4) l)).1 a = τ.1 a := l23.1
    have q1 : (gUI τ 71 0 (τ.1 71 0 + 1)).1 71 1 = τ.1 71 1 := rfl
    have q2 : s2.1 71 2 = τ.1 71 2 := by rw [hs2]; rfl
    have q3 : (gUI s2 71 2 (τ.1 71 2 + gnV τ w (σ.1 59 4) l)).1 71 3 = τ.1 71 3 := by rw [hs2]; rfl
    have i0 : inbB 0 5 = true := by decide
    have i1 : inbB 1 5 = true := by decide
    have i2 : inbB 2 5 = true := by decide
    have i3 : inbB 3 5 = true := by decide
    have i4 : inbB 4 5 = true := by decide
    have n0 : Int32.toNatClampNeg 0 = 0 := by decide
    have n1 : Int32.toNatClampNeg 1 = 1 := by decide
    have n2 : Int32.toNatClampNeg 2 = 2 := by decide
    have n3 : Int32.toNatClampNeg 3 = 3 := by decide
    have n4 : Int32.toNatClampNeg 4 = 4 := by decide
    unfold mX10_pass_b82
    rw [if_pos i0, if_pos i0, n0, gl_eq, if_pos i1, if_pos i1, n1, q1, gl_eq, ← hs2, if_pos i2, now_eq, gb_some, g2 59 (by decide) (by decide), e59, metOn_eq V2.2.1 V2.2.2.2.2.2.1, gb_some, gainOf_eq V2.2.1 V2.2.2.2.2.2.1, gb_some, V2.2.2.2.2.2.2.2.2.2.1, V2.2.2.2.2.2.2.2.2.2.2.1, V2.2.2.2.2.2.2.2.2.2.2.2.1, gainMet V2.2.1, g2 5 (by decide) (by decide), g2 6 (by decide) (by decide), g2 7 (by decide) (by decide), if_pos i2, n2, q2, gl_eq]
    show (if inbB 3 5 = true then gBind (mX10_now (gUI s2 71 2 (τ.1 71 2 + gnV τ w (σ.1 59 4) l))) _ else _) = _
    rw [if_pos i3, now_eq, gb_some, g3 59 (by decide) (by decide), e59, allHarm_eq V3, gb_some, g3 4 (by decide) (by decide), g3 5 (by decide) (by decide), g3 6 (by decide) (by decide), g3 2 (by decide) (by decide), if_pos i3, n3]
    show gLet (gUI (gUI s2 71 2 (τ.1 71 2 + gnV τ w (σ.1 59 4) l)) 71 3 ((gUI s2 71 2 (τ.1 71 2 + gnV τ w (σ.1 59 4) l)).1 71 3 + haV τ f w (σ.1 59 4) l)) _ = _
    rw [q3, gl_eq, ← hs3, now_eq, gb_some, b59, r1, gb_some, if_pos i0, gl_eq, if_pos i4, if_pos i4, n4]
    have c5 : (gUI s4 59 0 (nx F (σ.1 59 2) (σ.1 59 3) (σ.1 59 1) (σ.1 59 4) (t - l) l)).1 59 4 = σ.1 59 4 := by
      rw [gUI_same]
      show s4.1 59 4 = _
      rw [c4]
    rw [c5, gl_eq, if_pos i0]
    rfl
  · rw [gUI_ne x4, gUI_ne x4, r3 a x1 x2]
    by_cases h28 : a = 28
    · subst h28
      rw [hs3, gUI_ne (by decide), gUI_ne (by decide), hs2, gUI_ne (by decide), gUI_ne (by decide)]
    · exact l3.1 a h28 x3
  · show s4.2 = τ.2
    rw [r2.2.2.2.2]; exact l3.2
  · simp only [gUI_same]
    rw [c4]
  · rw [gUI_ne (by decide), gUI_ne (by decide), r3 71 (by decide) (by decide)]
    exact b71 j
/-- Inv behind deeds: COLD, NOW, LED and scratch alone differ -/
theorem Inv_deed {σ τ : gS} {f w b : Nat} (hV : IV σ f w) (hT : IT σ) (hL : IL σ) (hM : IM σ) (hC : IC σ f w) (hF : IF σ b) (hH : IH σ b) (g : ∀ a, kp a → a ≠ 8 → a ≠ 59 → a ≠ 28 → a ≠ 71 → τ.1 a = σ.1 a) (h18 : τ.1 18 2 = σ.1 18 2) (h23 : τ.1 23 2 = σ.1 23 2) (q : ∀ j, kq j → τ.1 52 j = σ.1 52 j) (hr : τ.2 = σ.2) (hS : IS τ) (hB : IB τ) : Inv τ := by
  have g' : ∀ a, kp a ∧ a ≠ 8 ∧ a ≠ 59 ∧ a ≠ 28 ∧ a ≠ 71 → τ.1 a = σ.1 a := fun a ⟨x1, x2, x3, x4, x5⟩ => g a x1 x2 x3 x4 x5
  refine ⟨f, w, b, IV_ag hV (by rw [g' 1 (by unfold kp; omega)]) (q 0 (by unfold kq; omega)) (by rw [g' 1 (by unfold kp; omega)]) (q 3 (by unfold kq; omega)) (g' 2 (by unfold kp; omega)) (g' 3 (by unfold kp; omega)) (g' 4 (by unfold kp; omega)) (g' 5 (by unfold kp; omega)) (g' 6 (by unfold kp; omega)) (g' 7 (by unfold kp; omega)) (g' 53 (by unfold kp; omega)) (g' 54 (by unfold kp; omega)) (g' 55 (by unfold kp; omega)) (g' 56 (by unfold kp; omega)) (g' 57 (by unfold kp; omega)) (g' 58 (by unfold kp; omega)),
    hS, IT_ag hT (by rw [g' 0 (by unfold kp; omega)]) (q 9 (by unfold kq; omega)) (g' 17 (by unfold kp; omega)) (g' 60 (by unfold kp; omega)),
    IL_ag hL (by rw [hr]) (by rw [hr]) (fun x hx => ?_) (q 11 (by unfold kq; omega)) (q 12 (by unfold kq; omega)) (g' 61 (by unfold kp; omega)) (g' 62 (by unfold kp; omega)) (g' 63 (by unfold kp; omega)) (g' 64 (by unfold kp; omega)),
    hB, IM_ag hM (q 28 (by unfold kq; omega)) (by rw [g' 0 (by unfold kp; omega)]) (g' 72 (by unfold kp; omega)) (g' 30 (by unfold kp; omega)) (g' 29 (by unfold kp; omega)),
    IC_ag hC (by rw [g' 31 (by unfold kp; omega)]) (by rw [g' 31 (by unfold kp; omega)]) (q 31 (by unfold kq; omega)) (q 30 (by unfold kq; omega)) (g' 73 (by unfold kp; omega)) (g' 32 (by unfold kp; omega)) (g' 33 (by unfold kp; omega)) (g' 34 (by unfold kp; omega)) (g' 35 (by unfold kp; omega)),
    IF_ag hF (by rw [g' 36 (by unfold kp; omega)]) (q 33 (by unfold kq; omega)) (by rw [g' 36 (by unfold kp; omega)]) (q 35 (by unfold kq; omega)) (g' 74 (by unfold kp; omega)) (g' 37 (by unfold kp; omega)) (g' 75 (by unfold kp; omega)) (g' 38 (by unfold kp; omega)),
    IH_ag hH (fun k h1 h2 => ⟨g' k (by unfold kp; omega), by rw [hr]⟩) (g' 76 (by unfold kp; omega)) (g' 77 (by unfold kp; omega)) (by rw [hr])⟩
  rcases hx with rfl | rfl
  · exact ⟨h18, g' 19 (by unfold kp; omega), g' 20 (by unfold kp; omega)⟩
  · exact ⟨h23, g' 24 (by unfold kp; omega), g' 25 (by unfold kp; omega)⟩
