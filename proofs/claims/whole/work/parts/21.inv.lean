/-! ===== what holds between the class's cells and the reference's ===== -/
def IV (σ : gS) (f w : Nat) : Prop := f ≤ 6 ∧ w ≤ 12 ∧ σ.1 1 0 = nI f ∧ σ.1 52 0 = nI f ∧ σ.1 1 3 = nI w ∧ σ.1 52 3 = nI w ∧ σ.1 53 = σ.1 2 ∧ σ.1 54 = σ.1 3 ∧ σ.1 55 = σ.1 4 ∧ σ.1 56 = σ.1 5 ∧ σ.1 57 = σ.1 6 ∧ σ.1 58 = σ.1 7 ∧ (∀ j, rg (σ.1 3 j) 0 9) ∧ ∀ j, j < w → rg (σ.1 5 j) 0 29 ∧ rg (σ.1 6 j) 1 24
def IS (σ : gS) : Prop := σ.1 59 0 = σ.1 8 0 ∧ σ.1 59 1 = σ.1 8 1 ∧ σ.1 59 2 = σ.1 8 2 ∧ σ.1 59 3 = σ.1 8 3 ∧ σ.1 59 4 = σ.1 8 4 ∧ rg (σ.1 8 4) 0 29 ∧ rg (σ.1 8 2) 0 9 ∧ rg (σ.1 8 3) 0 9 ∧ rg (σ.1 8 0) 0 999
def IT (σ : gS) : Prop := ∃ t : Nat, t ≤ 120 ∧ σ.1 0 6 = nI t ∧ σ.1 52 9 = nI t ∧ σ.1 60 = σ.1 17 ∧ ∀ j, j < t → rg (σ.1 17 j) 0 255
/-- COLD as the next day begins -/
def gHold (c m : Int32) : Int32 := gMax 0 (gMin (c + gMax (-99) (gMin m 99)) 999)
/-- a law's meaning: by how much COLD is more, of c, l, g, k, d, b -/
abbrev gLw : Type := Int32 → Int32 → Int32 → Int32 → Int32 → Int32 → Int32
def LawC (sz : Int32) (st de : Nat → Int32) (K : Nat) (F : gLw) : Prop := ∀ (τ : gS) (q : Nat) (day c l : Int32), τ.1 K 2 = sz → τ.1 (K + 1) = st → τ.1 (K + 2) = de → gk q = 5 → rg (τ.1 q 2) 0 9 → rg (τ.1 q 3) 0 9 →
  ∃ τ' : gS, mX3_overnight τ K q day c l = some (gHold c (F c l (τ.1 q 2) (τ.1 q 3) day (τ.1 q 1)), τ') ∧ (∀ a, a ≠ K → a ≠ K + 3 → a ≠ K + 4 → ag τ τ' a) ∧ (∀ j, j ≠ 4 → τ'.1 K j = τ.1 K j) ∧ τ'.2 = τ.2
def LawM (told lines : Int32) (asks says ends code : Nat → Int32) (F : gLw) : Prop := ∀ (τ : gS) (c l day : Int32), τ.1 52 11 = told → τ.1 52 12 = lines → τ.1 61 = asks → τ.1 62 = says → τ.1 63 = ends → τ.1 64 = code → rg (τ.1 59 2) 0 9 → rg (τ.1 59 3) 0 9 →
  ∃ τ' : gS, mX10_nextCold τ c l day = some (gHold c (F c l (τ.1 59 2) (τ.1 59 3) day (τ.1 59 1)), τ') ∧ (∀ a, a ≠ 69 → a ≠ 70 → ag τ τ' a) ∧ τ'.2 = τ.2
def IL (σ : gS) : Prop := ∃ (K : Nat) (F : gLw), (K = 18 ∨ K = 23) ∧ σ.2.2 0 7 = some K ∧ σ.2.2 0 8 = some (41 - K) ∧ LawC (σ.1 K 2) (σ.1 (K + 1)) (σ.1 (K + 2)) K F ∧ LawM (σ.1 52 11) (σ.1 52 12) (σ.1 61) (σ.1 62) (σ.1 63) (σ.1 64) F
def IB (σ : gS) : Prop := ∀ j, j < 5 → σ.1 71 j = σ.1 28 j
def IM (σ : gS) : Prop := σ.1 52 28 = σ.1 0 12 ∧ (σ.1 0 12 = 0 ∨ (σ.1 0 12 = 1 ∧ σ.1 72 0 = σ.1 30 0 ∧ σ.1 72 1 = σ.1 30 1 ∧ σ.1 72 2 = σ.1 30 4 ∧ rg (σ.1 30 4) 0 29 ∧ rg (σ.1 30 0) 0 999 ∧ ∀ j, j < 5 → σ.1 72 (3 + j) = σ.1 29 j))
/-- a value that mend() may tell, in the words of a number of FARMS and WANTS -/
def okN (f w : Nat) (n q : Int32) : Prop := (q = 0 ∧ rg n 0 (f - 1) ∧ 0 < f) ∨ (q = 1 ∧ rg n 0 (f - 1) ∧ 0 < f) ∨ (q = 2 ∧ rg n 0 (w - 1) ∧ 0 < w) ∨ (q = 3 ∧ rg n 0 (w - 1) ∧ 0 < w) ∨ (q = 4 ∧ rg n 0 (w - 1) ∧ 0 < w) ∨ ((q = 5 ∨ q = 6 ∨ q = 7 ∨ q = 8 ∨ q = 9) ∧ n = 0)
def okV (q v : Int32) : Prop := (q = 2 → rg v 0 29) ∧ (q = 3 → rg v 1 24) ∧ (q = 7 → rg v 0 9) ∧ (q = 8 → rg v 0 9) ∧ (q = 9 → rg v 0 29) ∧ (q = 5 → rg v 0 999) ∧ (q = 1 → rg v 0 9)
def IC (σ : gS) (f w : Nat) : Prop := ∃ d u : Nat, d + u ≤ 40 ∧ σ.1 31 4 = nI d ∧ σ.1 31 5 = nI u ∧ σ.1 52 31 = nI d ∧ σ.1 52 30 = nI (d + u) ∧ ∀ j, j < d + u → σ.1 73 (4 * j) = σ.1 32 j ∧ σ.1 73 (4 * j + 1) = σ.1 33 j ∧ σ.1 73 (4 * j + 2) = σ.1 34 j ∧ σ.1 73 (4 * j + 3) = σ.1 35 j ∧ okN f w (σ.1 32 j) (σ.1 33 j) ∧ okV (σ.1 33 j) (σ.1 34 j) ∧ okV (σ.1 33 j) (σ.1 35 j)
def IF (σ : gS) (b : Nat) : Prop := b ≤ 50 ∧ σ.1 36 0 = nI b ∧ σ.1 52 33 = nI b ∧ σ.1 74 = σ.1 37 ∧ (∀ j, j < b → rg (σ.1 37 j) 0 7) ∧ ∃ r : Nat, r ≤ 1000 ∧ σ.1 36 3 = nI r ∧ σ.1 52 35 = nI r ∧ ∀ j, j < 24 → j < r → σ.1 75 j = σ.1 38 j
/-- what a shelf holds, in both -/
def IH1 (σ : gS) (b j : Nat) : Prop := (σ.1 (40 + 2 * j) 0 = 0 ∧ σ.1 76 j = -1) ∨ (σ.1 (40 + 2 * j) 0 = 1 ∧ ∃ n : Nat, n < b ∧ σ.1 (40 + 2 * j) 1 = nI n ∧ σ.1 76 j = nI (10 + n)) ∨
  (σ.1 (40 + 2 * j) 0 = 2 ∧ ∃ s n : Nat, s ≤ 4 ∧ n ≤ 60 ∧ σ.1 (40 + 2 * j) 2 = nI s ∧ σ.1 (40 + 2 * j) 3 = nI n ∧ σ.1 76 j = nI s ∧ σ.1 77 j = nI n ∧ ∀ i, i < 60 → σ.2.1 78 (60 * j + i) = σ.2.1 (41 + 2 * j) i ∧ (s ≤ 2 → (σ.2.1 (41 + 2 * j) i).toInt32.toInt64 = σ.2.1 (41 + 2 * j) i))
def IH (σ : gS) (b : Nat) : Prop := ∀ j, j < 6 → IH1 σ b j
def Inv (σ : gS) : Prop := ∃ f w b : Nat, IV σ f w ∧ IS σ ∧ IT σ ∧ IL σ ∧ IB σ ∧ IM σ ∧ IC σ f w ∧ IF σ b ∧ IH σ b
/-! each depends on its own cells alone -/
theorem IV_ag {σ τ : gS} {f w : Nat} (h : IV σ f w) (h0 : τ.1 1 0 = σ.1 1 0) (h1 : τ.1 52 0 = σ.1 52 0) (h2 : τ.1 1 3 = σ.1 1 3) (h3 : τ.1 52 3 = σ.1 52 3) (a2 : τ.1 2 = σ.1 2) (a3 : τ.1 3 = σ.1 3) (a4 : τ.1 4 = σ.1 4) (a5 : τ.1 5 = σ.1 5) (a6 : τ.1 6 = σ.1 6) (a7 : τ.1 7 = σ.1 7) (b2 : τ.1 53 = σ.1 53) (b3 : τ.1 54 = σ.1 54) (b4 : τ.1 55 = σ.1 55) (b5 : τ.1 56 = σ.1 56) (b6 : τ.1 57 = σ.1 57) (b7 : τ.1 58 = σ.1 58) : IV τ f w := by
  unfold IV at h ⊢
  rw [h0, h1, h2, h3, a2, a3, a4, a5, a6, a7, b2, b3, b4, b5, b6, b7]
  exact h
theorem IS_ag {σ τ : gS} (h : IS σ) (h0 : ∀ j, τ.1 8 j = σ.1 8 j) (h1 : ∀ j, τ.1 59 j = σ.1 59 j) : IS τ := by
  unfold IS at h ⊢
  simp only [h0, h1]
  exact h
theorem IT_ag {σ τ : gS} (h : IT σ) (h0 : τ.1 0 6 = σ.1 0 6) (h1 : τ.1 52 9 = σ.1 52 9) (h2 : τ.1 17 = σ.1 17) (h3 : τ.1 60 = σ.1 60) : IT τ := by
  unfold IT at h ⊢
  rw [h0, h1, h2, h3]
  exact h
theorem IL_ag {σ τ : gS} (h : IL σ) (h0 : τ.2.2 0 7 = σ.2.2 0 7) (h1 : τ.2.2 0 8 = σ.2.2 0 8) (ha : ∀ k, k = 18 ∨ k = 23 → τ.1 k 2 = σ.1 k 2 ∧ τ.1 (k + 1) = σ.1 (k + 1) ∧ τ.1 (k + 2) = σ.1 (k + 2)) (h2 : τ.1 52 11 = σ.1 52 11) (h3 : τ.1 52 12 = σ.1 52 12) (a1 : τ.1 61 = σ.1 61) (a2 : τ.1 62 = σ.1 62) (a3 : τ.1 63 = σ.1 63) (a4 : τ.1 64 = σ.1 64) : IL τ := by
  obtain ⟨K, F, hK, e1, e2, e3, e4⟩ := h
  obtain ⟨p1, p2, p3⟩ := ha K hK
  refine ⟨K, F, hK, h0.trans e1, h1.trans e2, ?_, ?_⟩
  · rw [p1, p2, p3]; exact e3
  · rw [h2, h3, a1, a2, a3, a4]; exact e4
theorem IB_ag {σ τ : gS} (h : IB σ) (h0 : ∀ j, τ.1 28 j = σ.1 28 j) (h1 : ∀ j, τ.1 71 j = σ.1 71 j) : IB τ := fun j hj => by rw [h0, h1]; exact h j hj
theorem IM_ag {σ τ : gS} (h : IM σ) (h0 : τ.1 52 28 = σ.1 52 28) (h1 : τ.1 0 12 = σ.1 0 12) (a1 : τ.1 72 = σ.1 72) (a2 : τ.1 30 = σ.1 30) (a3 : τ.1 29 = σ.1 29) : IM τ := by
  unfold IM at h ⊢
  rw [h0, h1, a1, a2, a3]
  exact h
theorem IC_ag {σ τ : gS} {f w : Nat} (h : IC σ f w) (h0 : τ.1 31 4 = σ.1 31 4) (h1 : τ.1 31 5 = σ.1 31 5) (h2 : τ.1 52 31 = σ.1 52 31) (h3 : τ.1 52 30 = σ.1 52 30) (a1 : τ.1 73 = σ.1 73) (a2 : τ.1 32 = σ.1 32) (a3 : τ.1 33 = σ.1 33) (a4 : τ.1 34 = σ.1 34) (a5 : τ.1 35 = σ.1 35) : IC τ f w := by
  unfold IC at h ⊢
  rw [h0, h1, h2, h3, a1, a2, a3, a4, a5]
  exact h
theorem okN_mono {f w f2 w2 : Nat} {n q : Int32} (hf : f ≤ f2) (hw : w ≤ w2) (h : okN f w n q) : okN f2 w2 n q := by
  have mono : ∀ {x : Int32} {a b : Nat}, rg x 0 a → a ≤ b → rg x 0 b := fun ⟨k, h1, h2, h3⟩ hab => ⟨k, h1, by omega, h3⟩
  rcases h with ⟨h1, h2, h3⟩ | ⟨h1, h2, h3⟩ | ⟨h1, h2, h3⟩ | ⟨h1, h2, h3⟩ | ⟨h1, h2, h3⟩ | h
  · exact Or.inl ⟨h1, mono h2 (by omega), by omega⟩
  · exact Or.inr (Or.inl ⟨h1, mono h2 (by omega), by omega⟩)
  · exact Or.inr (Or.inr (Or.inl ⟨h1, mono h2 (by omega), by omega⟩))
  · exact Or.inr (Or.inr (Or.inr (Or.inl ⟨h1, mono h2 (by omega), by omega⟩)))
  · exact Or.inr (Or.inr (Or.inr (Or.inr (Or.inl ⟨h1, mono h2 (by omega), by omega⟩))))
  · exact Or.inr (Or.inr (Or.inr (Or.inr (Or.inr h))))
theorem IC_mono {σ : gS} {f w f2 w2 : Nat} (hf : f ≤ f2) (hw : w ≤ w2) (h : IC σ f w) : IC σ f2 w2 := by
  obtain ⟨d, u, h1, h2, h3, h4, h5, h6⟩ := h
  exact ⟨d, u, h1, h2, h3, h4, h5, fun j hj => by
    obtain ⟨q1, q2, q3, q4, q5, q6⟩ := h6 j hj
    exact ⟨q1, q2, q3, q4, okN_mono hf hw q5, q6⟩⟩
theorem IF_ag {σ τ : gS} {b : Nat} (h : IF σ b) (h0 : τ.1 36 0 = σ.1 36 0) (h1 : τ.1 52 33 = σ.1 52 33) (h2 : τ.1 36 3 = σ.1 36 3) (h3 : τ.1 52 35 = σ.1 52 35) (a1 : τ.1 74 = σ.1 74) (a2 : τ.1 37 = σ.1 37) (a3 : τ.1 75 = σ.1 75) (a4 : τ.1 38 = σ.1 38) : IF τ b := by
  unfold IF at h ⊢
  rw [h0, h1, h2, h3, a1, a2, a3, a4]
  exact h
theorem IH_ag {σ τ : gS} {b : Nat} (h : IH σ b) (h0 : ∀ k, 40 ≤ k → k < 52 → τ.1 k = σ.1 k ∧ τ.2.1 k = σ.2.1 k) (a1 : τ.1 76 = σ.1 76) (a2 : τ.1 77 = σ.1 77) (a3 : τ.2.1 78 = σ.2.1 78) : IH τ b := by
  intro j hj
  have hx := h j hj
  unfold IH1 at hx ⊢
  rw [(h0 (40 + 2 * j) (by omega) (by omega)).1, (h0 (41 + 2 * j) (by omega) (by omega)).2, a1, a2, a3]
  exact hx
theorem IH_mono {σ : gS} {b c : Nat} (hb : b ≤ c) (h : IH σ b) : IH σ c := by
  intro j hj
  rcases h j hj with q | ⟨q, n, hn, q2⟩ | q
  · exact Or.inl q
  · exact Or.inr (Or.inl ⟨q, n, by omega, q2⟩)
  · exact Or.inr (Or.inr q)
