/-! ===== THE LAW read: letters, steps, numbers, on both sides ===== -/
/-- the letter at a place -/
def chr (T : Nat) (tp : Nat → Int32) (p : Nat) : Int32 := if p < T then tp p else -1
/-- what stands fast while a text is read -/
def PT (K T : Nat) (tp : Nat → Int32) (σ υ : gS) : Prop := (K = 18 ∨ K = 23) ∧ T ≤ 120 ∧ (∀ j, j < T → rg (tp j) 0 255) ∧ σ.2.2 K 6 = some 17 ∧ σ.1 17 = tp ∧ υ.1 60 = tp ∧ σ.1 K 7 = nI T ∧ υ.1 52 9 = nI T
/-- and where both are: place p, z steps, c codes -/
def QB (K T : Nat) (tp : Nat → Int32) (p z c : Nat) (σ υ : gS) : Prop := PT K T tp σ υ ∧ p ≤ T ∧ z ≤ p ∧ c ≤ p ∧ σ.1 K 8 = nI p ∧ υ.1 52 17 = nI p ∧ σ.1 K 2 = nI z ∧ υ.1 52 19 = nI c
/-- frames: below z (c) nothing changes -/
def fP (K z : Nat) (σ τ : gS) : Prop := (∀ a, a ≠ K → a ≠ K + 1 → a ≠ K + 2 → τ.1 a = σ.1 a) ∧ (∀ j, j ≠ 2 → j ≠ 8 → τ.1 K j = σ.1 K j) ∧ τ.2 = σ.2 ∧ ∀ j, j < z → τ.1 (K + 1) j = σ.1 (K + 1) j ∧ τ.1 (K + 2) j = σ.1 (K + 2) j
def fQ (c : Nat) (σ τ : gS) : Prop := (∀ a, a ≠ 52 → a ≠ 68 → τ.1 a = σ.1 a) ∧ (∀ j, j ≠ 17 → j ≠ 18 → j ≠ 19 → τ.1 52 j = σ.1 52 j) ∧ τ.2 = σ.2 ∧ ∀ j, j < c → τ.1 68 j = σ.1 68 j
theorem fP_rf (K z : Nat) (σ : gS) : fP K z σ σ := ⟨fun _ _ _ _ => rfl, fun _ _ _ => rfl, rfl, fun _ _ => ⟨rfl, rfl⟩⟩
theorem fQ_rf (c : Nat) (σ : gS) : fQ c σ σ := ⟨fun _ _ _ => rfl, fun _ _ _ _ => rfl, rfl, fun _ _ => rfl⟩
theorem fP_tr {K z z' : Nat} {σ τ υ : gS} (h : fP K z σ τ) (k : fP K z' τ υ) (hz : z ≤ z') : fP K z σ υ := ⟨fun a x y w => (k.1 a x y w).trans (h.1 a x y w), fun j x y => (k.2.1 j x y).trans (h.2.1 j x y), k.2.2.1.trans h.2.2.1, fun j hj => ⟨(k.2.2.2 j (by omega)).1.trans (h.2.2.2 j hj).1, (k.2.2.2 j (by omega)).2.trans (h.2.2.2 j hj).2⟩⟩
theorem fQ_tr {c c' : Nat} {σ τ υ : gS} (h : fQ c σ τ) (k : fQ c' τ υ) (hc : c ≤ c') : fQ c σ υ := ⟨fun a x y => (k.1 a x y).trans (h.1 a x y), fun j x y w => (k.2.1 j x y w).trans (h.2.1 j x y w), k.2.2.1.trans h.2.2.1, fun j hj => (k.2.2.2 j (by omega)).trans (h.2.2.2 j hj)⟩
theorem PT_fr {K T z c : Nat} {tp : Nat → Int32} {σ υ σ' υ' : gS} (h : PT K T tp σ υ) (hp : fP K z σ σ') (hq : fQ c υ υ') : PT K T tp σ' υ' := by
  obtain ⟨h1, h2, h3, h4, h5, h6, h7, h8⟩ := h
  exact ⟨h1, h2, h3, by rw [hp.2.2.1]; exact h4, by rw [hp.1 17 (by omega) (by omega) (by omega)]; exact h5, by rw [hq.1 60 (by decide) (by decide)]; exact h6, by rw [hp.2.1 7 (by decide) (by decide)]; exact h7, by rw [hq.2.1 9 (by decide) (by decide) (by decide)]; exact h8⟩
theorem gK_of {K T : Nat} {tp : Nat → Int32} {σ υ : gS} (h : PT K T tp σ υ) : gk K = 3 := by rcases h.1 with rfl | rfl <;> rfl
theorem letter_eq {K T p z c : Nat} {tp : Nat → Int32} {σ υ : gS} (h : QB K T tp p z c σ υ) : mX3_letter σ K = some (chr T tp p, σ) := by
  obtain ⟨ht, hp, -, -, h8, -⟩ := h
  obtain ⟨h1, h2, h3, h4, h5, h6, h7, -⟩ := id ht
  unfold mX3_letter chr
  rw [if_pos (gK_of ht), h4]
  show (if gk 17 = 1120 then (if σ.1 K 8 < 0 then some ((-1 : Int32), σ) else if σ.1 K 7 ≤ σ.1 K 8 then some (-1, σ) else (if gk 17 = 1120 then (if inbB (σ.1 K 8) 120 = true then some (σ.1 17 (Int32.toNatClampNeg (σ.1 K 8)), σ) else none) else none)) else none) = _
  rw [if_pos (show gk 17 = 1120 from rfl), if_pos (show gk 17 = 1120 from rfl), h8, if_neg (nI_pos (by omega)), h7]
  by_cases hlt : p < T
  · rw [if_neg (nI_ge hlt (by omega)), if_pos hlt, if_pos (inbB_nI (show p < 120 by omega) (by decide)), nI_cl (by omega), h5]
  · rw [if_pos (nI_le (show T ≤ p by omega) (by omega)), if_neg hlt]
theorem sign_eq {K T p z c : Nat} {tp : Nat → Int32} {σ υ : gS} (h : QB K T tp p z c σ υ) : mX10_sign υ = some (chr T tp p, υ) := by
  obtain ⟨ht, hp, -, -, -, h8, -⟩ := h
  obtain ⟨h1, h2, h3, h4, h5, h6, h7, h9⟩ := id ht
  unfold mX10_sign chr
  rw [h9, h8]
  by_cases hlt : p < T
  · rw [if_neg (nI_ge hlt (by omega)), if_pos hlt, if_pos (inbB_nI (show p < 120 by omega) (by decide)), nI_cl (by omega), h6]
  · rw [if_pos (nI_le (show T ≤ p by omega) (by omega)), if_neg hlt]
/-- one place on, in the class and in the reference -/
def adC (K p : Nat) (σ : gS) : gS := gUI σ K 8 (nI (p + 1))
def adM (p : Nat) (υ : gS) : gS := gUI υ 52 17 (nI (p + 1))
theorem ad_fP {K p z : Nat} {σ : gS} : fP K z σ (adC K p σ) := ⟨fun a x _ _ => gUI_ne x, fun j _ y => by unfold adC; rw [gUI_at, if_neg y], rfl, fun j _ => by unfold adC; rw [gUI_ne (by omega), gUI_ne (by omega)]; exact ⟨rfl, rfl⟩⟩
theorem ad_fQ {p c : Nat} {υ : gS} : fQ c υ (adM p υ) := ⟨fun a x _ => gUI_ne x, fun j x _ _ => by unfold adM; rw [gUI_at, if_neg x], rfl, fun j _ => by unfold adM; rw [gUI_ne (by decide)]⟩
theorem ad_QB {K T p z c : Nat} {tp : Nat → Int32} {σ υ : gS} (h : QB K T tp p z c σ υ) (hlt : p < T) : QB K T tp (p + 1) z c (adC K p σ) (adM p υ) := by
  obtain ⟨ht, hp, hz, hc, h1, h2, h3, h4⟩ := h
  refine ⟨PT_fr ht (ad_fP (z := z)) (ad_fQ (c := c)), by omega, by omega, by omega, ?_, ?_, ?_, ?_⟩
  · unfold adC; rw [gUI_at, if_pos rfl]
  · unfold adM; rw [gUI_at, if_pos rfl]
  · unfold adC; rw [gUI_at, if_neg (by decide)]; exact h3
  · unfold adM; rw [gUI_at, if_neg (by decide)]; exact h4
theorem adM_o {p : Nat} {υ : gS} : (adM p υ).1 52 18 = υ.1 52 18 := by unfold adM; rw [gUI_at, if_neg (by decide)]
theorem chr_lt {T p : Nat} {tp : Nat → Int32} {w : Int32} (h : chr T tp p = w) (hw : w ≠ -1) : p < T := by
  unfold chr at h
  by_cases hlt : p < T
  · exact hlt
  · rw [if_neg hlt] at h
    exact absurd h.symm hw
theorem skip_eq {K T p z c : Nat} {tp : Nat → Int32} {σ υ : gS} (h : QB K T tp p z c σ υ) (w : Int32) : mX3_skip σ K w = if chr T tp p = w then some (true, adC K p σ) else some (false, σ) := by
  unfold mX3_skip
  rw [if_pos (gK_of h.1), letter_eq h, gb_some, h.2.2.2.2.1, nI_1]
  rfl
theorem is_eq {K T p z c : Nat} {tp : Nat → Int32} {σ υ : gS} (h : QB K T tp p z c σ υ) (w : Int32) : mX10_is υ w = if chr T tp p = w then some (true, adM p υ) else some (false, υ) := by
  unfold mX10_is
  rw [sign_eq h, gb_some, h.2.2.2.2.2.1, nI_1]
  rfl
/-- a step more, a code more -/
def stC (K z : Nat) (s d : Int32) (σ : gS) : gS := gUI (gUI (gUI σ (K + 1) z s) (K + 2) z d) K 2 (nI (z + 1))
def cdM (c : Nat) (x : Int32) (υ : gS) : gS := gUI (gUI υ 52 19 (nI (c + 1))) 68 c x
theorem stC_fP {K z : Nat} {s d : Int32} {σ : gS} : fP K z σ (stC K z s d σ) := by
  refine ⟨fun a x y w => by unfold stC; rw [gUI_ne x, gUI_ne w, gUI_ne y], fun j x y => by unfold stC; rw [gUI_at, if_neg x, gUI_ne (by omega), gUI_ne (by omega)], rfl, fun j hj => ⟨?_, ?_⟩⟩
  · unfold stC; rw [gUI_ne (by omega), gUI_ne (by omega), gUI_at, if_neg (by omega)]
  · unfold stC; rw [gUI_ne (by omega), gUI_at, if_neg (by omega), gUI_ne (by omega)]
theorem cdM_fQ {c : Nat} {x : Int32} {υ : gS} : fQ c υ (cdM c x υ) := by
  refine ⟨fun a x y => by unfold cdM; rw [gUI_ne y, gUI_ne x], fun j x y w => by unfold cdM; rw [gUI_ne (by decide), gUI_at, if_neg w], rfl, fun j hj => ?_⟩
  unfold cdM; rw [gUI_at, if_neg (by omega), gUI_ne (by decide)]
theorem addStep_eq {K z : Nat} (hK : gk K = 3) {σ : gS} (h2 : σ.1 K 2 = nI z) (hz : z ≤ 120) (s d : Int32) : mX3_addStep σ K s d = some ((), stC K z s d σ) := by
  have i : inbB (nI z) 121 = true := inbB_nI (by omega) (by decide)
  unfold mX3_addStep
  rw [if_pos hK, h2, if_neg (show ¬ (121 : Int32) ≤ nI z from nI_ge (b := 121) (by omega) (by decide)), if_pos i, nI_cl (by omega), gl_eq, gUI_ne (show K ≠ K + 1 by omega), h2, if_pos i, nI_cl (by omega), gl_eq, gl_eq, gUI_ne (show K ≠ K + 2 by omega), gUI_ne (show K ≠ K + 1 by omega), h2, nI_1]
  rfl
theorem codes_eq {c : Nat} {υ : gS} (h : υ.1 52 19 = nI c) (hc : c ≤ 120) (x : Int32) : mX10_codes υ x = some (true, cdM c x υ) := by
  unfold mX10_codes
  rw [h, nI_1, gl_eq, if_pos (inbB_nI (show c < 200 by omega) (by decide)), nI_cl (by omega), gl_eq]
  rfl
theorem st_QB {K T p z c : Nat} {tp : Nat → Int32} {σ υ : gS} (h : QB K T tp p z c σ υ) (hz : z + 1 ≤ p) (hc : c + 1 ≤ p) (s d x : Int32) : QB K T tp p (z + 1) (c + 1) (stC K z s d σ) (cdM c x υ) := by
  obtain ⟨ht, hp, -, -, h1, h2, h3, h4⟩ := h
  refine ⟨PT_fr ht stC_fP cdM_fQ, hp, hz, hc, ?_, ?_, ?_, ?_⟩
  · unfold stC; rw [gUI_at, if_neg (by decide), gUI_ne (by omega), gUI_ne (by omega)]; exact h1
  · unfold cdM; rw [gUI_ne (by decide), gUI_at, if_neg (by decide)]; exact h2
  · unfold stC; rw [gUI_at, if_pos rfl]
  · unfold cdM; rw [gUI_ne (by decide), gUI_at, if_pos rfl]
theorem cdM_o {c : Nat} {x : Int32} {υ : gS} : (cdM c x υ).1 52 18 = υ.1 52 18 := by unfold cdM; rw [gUI_ne (by decide), gUI_at, if_neg (by decide)]
theorem st_RepC {K z n : Nat} {σ : gS} : RepC ((stC K z (oC n) (eC n) σ).1 (K + 1)) ((stC K z (oC n) (eC n) σ).1 (K + 2)) z [n] := by
  refine ⟨?_, ?_, trivial⟩
  · unfold stC; rw [gUI_ne (by omega), gUI_ne (by omega), gUI_at, if_pos rfl]
  · unfold stC; rw [gUI_ne (by omega), gUI_at, if_pos rfl]
theorem cd_RepM {c n : Nat} (hn : n < 20000) {υ : gS} : RepM ((cdM c (nI n) υ).1 68) c [n] := by
  refine ⟨?_, hn, trivial⟩
  unfold cdM; rw [gUI_at, if_pos rfl]
/-- both readers of a piece: a code read on both, or a fault at one place -/
def RE (K T : Nat) (tp : Nat → Int32) (o p z c : Nat) (σ υ : gS) (X Y : Option (Bool × gS)) : Prop :=
  (∃ (σ' υ' : gS) (p' : Nat) (code : List Nat), X = some (true, σ') ∧ Y = some (true, υ') ∧ QB K T tp p' (z + code.length) (c + code.length) σ' υ' ∧ υ'.1 52 18 = nI o ∧ p + code.length ≤ p' ∧ 0 < code.length ∧ fP K z σ σ' ∧ fQ c υ υ' ∧ RepC (σ'.1 (K + 1)) (σ'.1 (K + 2)) z code ∧ RepM (υ'.1 68) c code ∧ Ex code) ∨
  (∃ (σ' υ' : gS) (p' : Nat), X = some (false, σ') ∧ Y = some (false, υ') ∧ σ'.1 K 8 = nI p' ∧ υ'.1 52 17 = nI p' ∧ p' ≤ T ∧ fP K z σ σ' ∧ fQ c υ υ')
def dgB (x : Int32) : Bool := !decide (x < 48) && !decide (57 < x)
theorem isDigit9 (σ : gS) (x : Int32) : mX3_isDigit σ x = some (dgB x, σ) := by
  unfold mX3_isDigit dgB
  by_cases h1 : x < 48
  · simp [h1]
  · by_cases h2 : 57 < x
    · simp [h1, h2]
    · simp [h1, h2]
theorem isDigit10 {K T p z c : Nat} {tp : Nat → Int32} {σ υ : gS} (h : QB K T tp p z c σ υ) : mX10_isDigit υ = some (dgB (chr T tp p), υ) := by
  unfold mX10_isDigit dgB
  rw [sign_eq h, gb_some]
  by_cases h1 : chr T tp p < 48
  · rw [if_pos h1, decide_eq_true h1]; rfl
  · rw [if_neg h1, sign_eq h, gb_some, decide_eq_false h1]
    by_cases h2 : 57 < chr T tp p
    · rw [if_pos h2, decide_eq_true h2]; rfl
    · rw [if_neg h2, decide_eq_false h2]; rfl
theorem dg_of {x : Int32} (h : dgB x = true) : ∃ d : Nat, d ≤ 9 ∧ x = nI (48 + d) := by
  unfold dgB at h
  simp only [Bool.and_eq_true, Bool.not_eq_true', decide_eq_false_iff_not] at h
  obtain ⟨n, h1, h2, h3⟩ := wi_rg (x := x) (a := 48) (b := 57) (by decide) (by decide) (by unfold wi; rw [decide_eq_false (show ¬ x < nI 48 from h.1), decide_eq_false (show ¬ nI 57 < x from h.2)]; rfl)
  exact ⟨n - 48, by omega, by rw [h3]; congr 1; omega⟩
theorem num_loop {K T z c o p0 : Nat} {tp : Nat → Int32} {rec : ((gS → Option (Bool × gS)) × (gS → Option (Bool × gS)) × (gS → Option (Bool × gS)) × (gS → Option (Bool × gS)) × (gS → Option (Bool × gS)) × (gS → Option (Bool × gS)))} (hz : z ≤ p0) (hc : c ≤ p0) : ∀ (k i v n m : Nat) (σ υ : gS), QB K T tp (p0 + i) z c σ υ → υ.1 52 18 = nI o → i + k = 4 → v < 10 ^ i → (0 < i ∨ dgB (chr T tp (p0 + i)) = true) → k < n → k < m →
    ∃ (σ' υ' : gS) (p' w : Nat), mX3_readNumber_b4 K n σ (nI v) (nI i) = some ((), σ') ∧ mX10_isO_b11 rec m υ (nI v) (nI i) = some (true, υ') ∧ QB K T tp p' (z + 1) (c + 1) σ' υ' ∧ υ'.1 52 18 = nI o ∧ p0 + 1 ≤ p' ∧ fP K z σ σ' ∧ fQ c υ υ' ∧ w < 10000 ∧ RepC (σ'.1 (K + 1)) (σ'.1 (K + 2)) z [18 + w] ∧ RepM (υ'.1 68) c [18 + w] := by
  have stop : ∀ (i v : Nat) (σ υ : gS), QB K T tp (p0 + i) z c σ υ → υ.1 52 18 = nI o → 0 < i → v < 10000 → ∃ (σ' υ' : gS) (p' w : Nat), mX3_readNumber_b48 K σ (nI v) = some ((), σ') ∧ mX10_isO_b57 rec υ (nI v) = some (true, υ') ∧ QB K T tp p' (z + 1) (c + 1) σ' υ' ∧ υ'.1 52 18 = nI o ∧ p0 + 1 ≤ p' ∧ fP K z σ σ' ∧ fQ c υ υ' ∧ w < 10000 ∧ RepC (σ'.1 (K + 1)) (σ'.1 (K + 2)) z [18 + w] ∧ RepM (υ'.1 68) c [18 + w] := fun i v σ υ h ho hi hv => by
    have hT := h.1.2.1
    have hpT := h.2.1
    refine ⟨stC K z (oC (18 + v)) (eC (18 + v)) σ, cdM c (nI (18 + v)) υ, p0 + i, v, ?_, ?_, st_QB h (by omega) (by omega) _ _ _, cdM_o.trans ho, by omega, stC_fP, cdM_fQ, hv, st_RepC, cd_RepM (by omega)⟩
    · unfold mX3_readNumber_b48
      have e1 : oC (18 + v) = 110 := (if_neg (by omega)).trans (if_pos (by omega))
      have e2 : eC (18 + v) = nI v := (if_neg (by omega)).trans ((if_pos (by omega)).trans (by rw [show 18 + v - 18 = v by omega]))
      rw [addStep_eq (gK_of h.1) h.2.2.2.2.2.2.1 (by omega), gb_some, e1, e2]
    · unfold mX10_isO_b57
      rw [show (18 + nI v : Int32) = nI (18 + v) from nI_add 18 v, codes_eq h.2.2.2.2.2.2.2 (by omega), gb_some]
  have pw : ∀ i, i ≤ 4 → 10 ^ i ≤ 10000 := fun i hi => Nat.le_trans (Nat.pow_le_pow_right (by decide) hi) (by decide)
  intro k
  induction k with
  | zero =>
    intro i v n m σ υ h ho hi hv hdg hn hm
    obtain ⟨n, rfl⟩ : ∃ q, n = q + 1 := ⟨n - 1, by omega⟩
    obtain ⟨m, rfl⟩ : ∃ q, m = q + 1 := ⟨m - 1, by omega⟩
    have := pw i (by omega)
    obtain ⟨σ', υ', p', w, r1, r2, r3⟩ := stop i v σ υ h ho (by omega) (by omega)
    refine ⟨σ', υ', p', w, ?_, ?_, r3⟩
    · conv => lhs; unfold mX3_readNumber_b4
      rw [if_pos (show (4 : Int32) ≤ nI i from nI_le (a := 4) (by omega) (by omega))]
      exact r1
    · conv => lhs; unfold mX10_isO_b11
      rw [if_pos (show (4 : Int32) ≤ nI i from nI_le (a := 4) (by omega) (by omega))]
      exact r2
  | succ k ih =>
    intro i v n m σ υ h ho hi hv hdg hn hm
    obtain ⟨n, rfl⟩ : ∃ q, n = q + 1 := ⟨n - 1, by omega⟩
    obtain ⟨m, rfl⟩ : ∃ q, m = q + 1 := ⟨m - 1, by omega⟩
    have hvb := pw i (by omega)
    have n4 : ¬ (4 : Int32) ≤ nI i := nI_ge (b := 4) (by omega) (by omega)
    cases hd : dgB (chr T tp (p0 + i)) with
    | true =>
      obtain ⟨d, hd9, ed⟩ := dg_of hd
      have hlt : p0 + i < T := chr_lt ed (nI_n1 (by omega))
      have hpow : 10 ^ (i + 1) = 10 * 10 ^ i := by rw [Nat.pow_succ, Nat.mul_comm]
      obtain ⟨σ', υ', p', w, r1, r2, r3, r4, r5, r6, r7, r8, r9, r10⟩ := ih (i + 1) (10 * v + d) n m (adC K (p0 + i) σ) (adM (p0 + i) υ) (ad_QB h hlt) (adM_o.trans ho) (by omega) (by omega) (Or.inl (by omega)) (by omega) (by omega)
      refine ⟨σ', υ', p', w, ?_, ?_, r3, r4, r5, fP_tr ad_fP r6 (Nat.le_refl z), fQ_tr ad_fQ r7 (Nat.le_refl c), r8, r9, r10⟩
      · conv => lhs; unfold mX3_readNumber_b4
        have e : (nI v * 10 + nI (48 + d) - 48 : Int32) = nI (10 * v + d) := by
          rw [show (10 : Int32) = nI 10 from rfl, pk_mul, nI_add, show (48 : Int32) = nI 48 from rfl, nI_sub (by omega)]
          congr 1
          omega
        rw [if_neg n4, letter_eq h, gb_some, isDigit9, gb_some, hd, if_pos rfl, letter_eq h, gb_some, ed, e, gl_eq, h.2.2.2.2.1, nI_1, gl_eq, gl_eq, nI_1]
        exact r1
      · conv => lhs; unfold mX10_isO_b11
        have e : (10 * nI v + nI (48 + d) - 48 : Int32) = nI (10 * v + d) := by
          rw [show (10 : Int32) = nI 10 from rfl, pk_mul, nI_add, show (48 : Int32) = nI 48 from rfl, nI_sub (by omega)]
          congr 1
          omega
        have et : υ.1 60 (p0 + i) = nI (48 + d) := by
          rw [h.1.2.2.2.2.2.1, ← ed]
          unfold chr
          rw [if_pos hlt]
        have hT := h.1.2.1
        rw [if_neg n4, isDigit10 h, gb_some, hd, if_pos rfl, h.2.2.2.2.2.1, if_pos (inbB_nI (show p0 + i < 120 by omega) (by decide)), nI_cl (show p0 + i < 2 ^ 31 by omega), et, e, gl_eq, nI_1, gl_eq, gl_eq, nI_1]
        exact r2
    | false =>
      have hi0 : 0 < i := by
        rcases hdg with q | q
        · exact q
        · rw [hd] at q; cases q
      obtain ⟨σ', υ', p', w, r1, r2, r3⟩ := stop i v σ υ h ho hi0 (by omega)
      refine ⟨σ', υ', p', w, ?_, ?_, r3⟩
      · conv => lhs; unfold mX3_readNumber_b4
        rw [if_neg n4, letter_eq h, gb_some, isDigit9, gb_some, hd, if_neg (by decide)]
        exact r1
      · conv => lhs; unfold mX10_isO_b11
        rw [if_neg n4, isDigit10 h, gb_some, hd, if_neg (by decide)]
        exact r2
