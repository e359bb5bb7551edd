/-! ===== numbers, loops, states: rows for the pure side ===== -/
/-- k rounds of a loop from i on -/
def lp {β : Type} (step : Nat → β → β) : Nat → Nat → β → β
  | 0, _, a => a
  | k + 1, i, a => lp step k (i + 1) (step i a)
theorem lp_congr {β : Type} {f g : Nat → β → β} : ∀ (k i : Nat) (a : β), (∀ j a, i ≤ j → j < i + k → f j a = g j a) → lp f k i a = lp g k i a := by
  intro k
  induction k with
  | zero => intro i a _; rfl
  | succ k ih =>
    intro i a h
    show lp f k (i + 1) (f i a) = lp g k (i + 1) (g i a)
    rw [h i a (Nat.le_refl i) (by omega)]
    exact ih (i + 1) _ (fun j b h1 h2 => h j b (by omega) (by omega))
theorem inbB_nI {i n : Nat} (h : i < n) (hn : n ≤ 1000) : inbB (nI i) n = true := by
  rw [inbB_iff]
  unfold inb
  rw [nI_toInt (by omega)]
  omega
theorem inbB_no {i n : Nat} (h : n ≤ i) (hi : i < 2 ^ 31) : inbB (nI i) n = false := by
  cases hq : inbB (nI i) n with
  | false => rfl
  | true =>
    rw [inbB_iff] at hq
    unfold inb at hq
    rw [nI_toInt hi] at hq
    omega
theorem nI_cl {i : Nat} (h : i < 2 ^ 31) : Int32.toNatClampNeg (nI i) = i := nI_clamp h
/-- a number between a and b -/
def rg (x : Int32) (a b : Nat) : Prop := ∃ n : Nat, a ≤ n ∧ n ≤ b ∧ x = nI n
theorem gb_some {β γ : Type} {r : β} {σ : gS} {k : β → gS → Option γ} : gBind (some (r, σ)) k = k r σ := rfl
theorem gl_eq {β γ : Type} {v : β} {k : β → γ} : gLet v k = k v := rfl
/-- within -/
def wi (a b c : Int32) : Bool := !decide (a < b) && !decide (c < a)
theorem w9 (σ : gS) (a b c : Int32) : mX9_within σ a b c = some (wi a b c, σ) := by
  unfold mX9_within wi
  by_cases h1 : a < b
  · simp [h1]
  · by_cases h2 : c < a
    · simp [h1, h2]
    · simp [h1, h2]
theorem w10 (σ : gS) (a b c : Int32) : mX10_within σ a b c = some (wi a b c, σ) := by
  unfold mX10_within wi
  by_cases h1 : a < b
  · simp [h1]
  · by_cases h2 : c < a
    · simp [h1, h2]
    · simp [h1, h2]
theorem wi_rg {x : Int32} {a b : Nat} (ha : a < 2 ^ 31) (hb : b < 2 ^ 31) (h : wi x (nI a) (nI b) = true) : rg x a b := by
  unfold wi at h
  simp only [Bool.and_eq_true, Bool.not_eq_true', decide_eq_false_iff_not] at h
  obtain ⟨h1, h2⟩ := h
  rw [Int32.lt_iff_toInt_lt, nI_toInt ha] at h1
  rw [Int32.lt_iff_toInt_lt, nI_toInt hb] at h2
  refine ⟨x.toInt.toNat, by omega, by omega, ?_⟩
  apply Int32.toInt_inj.mp
  rw [nI_toInt (by omega)]
  omega
theorem rg_wi {x : Int32} {a b : Nat} (hb : b < 2 ^ 31) (h : rg x a b) : wi x (nI a) (nI b) = true := by
  obtain ⟨n, h1, h2, rfl⟩ := h
  unfold wi
  simp only [Bool.and_eq_true, Bool.not_eq_true', decide_eq_false_iff_not]
  exact ⟨nI_nlt h1 (by omega), nI_nlt h2 hb⟩
theorem wi_no {n a b : Nat} (hn : n < 2 ^ 31) (h : n < a ∨ b < n) (ha : a < 2 ^ 31) : wi (nI n) (nI a) (nI b) = false := by
  unfold wi
  rcases h with h | h
  · simp [nI_lt h ha]
  · simp [nI_lt h hn]
/-! the tables' places -/
theorem tb_L0 : gTb 0 0 = 0 := rfl
/-- two states agree on a cell -/
def ag (σ τ : gS) (k : Nat) : Prop := σ.1 k = τ.1 k ∧ σ.2.1 k = τ.2.1 k ∧ σ.2.2 k = τ.2.2 k
theorem ag_rf {σ : gS} {k : Nat} : ag σ σ k := ⟨rfl, rfl, rfl⟩
theorem ag_tr {σ τ υ : gS} {k : Nat} (h1 : ag σ τ k) (h2 : ag τ υ k) : ag σ υ k := ⟨h1.1.trans h2.1, h1.2.1.trans h2.2.1, h1.2.2.trans h2.2.2⟩
theorem ag_sy {σ τ : gS} {k : Nat} (h : ag σ τ k) : ag τ σ k := ⟨h.1.symm, h.2.1.symm, h.2.2.symm⟩
theorem ag_UI {σ : gS} {a j k : Nat} {v : Int32} (h : k ≠ a) : ag σ (gUI σ a j v) k := ⟨by simp [gUI, h], rfl, rfl⟩
theorem ag_UJ {σ : gS} {a j k : Nat} {v : Int64} (h : k ≠ a) : ag σ (gUJ σ a j v) k := ⟨rfl, by simp [gUJ, h], rfl⟩
theorem ag_UR {σ : gS} {a j k : Nat} {v : Option Nat} (h : k ≠ a) : ag σ (gUR σ a j v) k := ⟨rfl, rfl, by simp [gUR, h]⟩
theorem ag_UA {σ : gS} {a k : Nat} {f : Nat → Int32} (h : k ≠ a) : ag σ (gUA σ a f) k := ⟨by simp [gUA, h], rfl, rfl⟩
theorem ag_UB {σ : gS} {a k : Nat} {f : Nat → Int64} (h : k ≠ a) : ag σ (gUB σ a f) k := ⟨rfl, by simp [gUB, h], rfl⟩
theorem gUI_ne {σ : gS} {k j a : Nat} {v : Int32} (h : a ≠ k) : (gUI σ k j v).1 a = σ.1 a := by simp [gUI, h]
theorem gUI_same {σ : gS} {k j : Nat} {v : Int32} : (gUI σ k j v).1 k = fun b => if b = j then v else σ.1 k b := by simp [gUI]
theorem gUI_2 {σ : gS} {k j : Nat} {v : Int32} : (gUI σ k j v).2 = σ.2 := rfl
theorem gMin_comm (x y : Int32) : gMin x y = gMin y x := by
  unfold gMin
  by_cases h1 : y < x
  · rw [if_pos h1, if_neg (fun h2 => by rw [Int32.lt_iff_toInt_lt] at h1 h2; omega)]
  · by_cases h2 : x < y
    · rw [if_neg h1, if_pos h2]
    · rw [if_neg h1, if_neg h2]
      apply Int32.toInt_inj.mp
      rw [Int32.lt_iff_toInt_lt] at h1 h2
      omega
theorem bind_id {β : Type} (o : Option (β × gS)) : gBind o (fun r s => some (r, s)) = o := by cases o <;> rfl
