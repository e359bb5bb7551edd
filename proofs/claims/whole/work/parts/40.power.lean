/-! ===== power ===== -/
def fVN (u : Nat → Nat) (x : Int32) (j a : Nat) : Nat := if bt x j = true then a + u j else a
theorem vn_eq {vo : Nat → Int32} {u : Nat → Nat} (h : ∀ j, vo j = nI (u j)) (x : Int32) : ∀ (k i a : Nat), lp (fVo vo x) k i (nI a) = nI (lp (fVN u x) k i a) := by
  intro k
  induction k with
  | zero => intro i a; rfl
  | succ k ih =>
    intro i a
    rw [lp_succ, lp_succ, ← ih]
    unfold fVo fVN
    cases bt x i
    · rw [if_neg (by decide), if_neg (by decide)]
    · rw [if_pos rfl, if_pos rfl, h, nI_add]
theorem vn_le {u : Nat → Nat} (h : ∀ j, u j ≤ 9) (x : Int32) : ∀ (k i a : Nat), lp (fVN u x) k i a ≤ a + 9 * k := by
  intro k
  induction k with
  | zero => intro i a; exact Nat.le_refl a
  | succ k ih =>
    intro i a
    rw [lp_succ]
    have h1 := ih (i + 1) (fVN u x i a)
    have h2 : fVN u x i a ≤ a + 9 := by
      unfold fVN
      have := h i
      split <;> omega
    omega
theorem vn_mono {u : Nat → Nat} {x y : Int32} (h : ∀ j, j < 31 → bt x j = true → bt y j = true) : ∀ (k i a b : Nat), i + k ≤ 31 → a ≤ b → lp (fVN u x) k i a ≤ lp (fVN u y) k i b := by
  intro k
  induction k with
  | zero => intro i a b _ hab; exact hab
  | succ k ih =>
    intro i a b hk hab
    rw [lp_succ, lp_succ]
    apply ih (i + 1) _ _ (by omega)
    unfold fVN
    cases hx : bt x i
    · rw [if_neg (by decide)]
      split <;> omega
    · rw [if_pos rfl, if_pos (h i (by omega) hx)]
      omega
theorem cr_mono {f : Nat} {vo : Nat → Int32} (hf : f ≤ 6) (hv : ∀ j, rg (vo j) 0 9) {x y : Int32} (h : ∀ j, j < 31 → bt x j = true → bt y j = true) (hc : crB f vo x = true) : crB f vo y = true := by
  have hu : ∀ j, vo j = nI ((vo j).toInt.toNat) ∧ (vo j).toInt.toNat ≤ 9 := fun j => by
    obtain ⟨n, h1, h2, h3⟩ := hv j
    have e : (vo j).toInt.toNat = n := by rw [h3, nI_toInt (by omega)]; rfl
    rw [e]
    exact ⟨h3, h2⟩
  have key : ∀ z, crB f vo z = !decide (2 * lp (fVN (fun j => (vo j).toInt.toNat) z) f 0 0 ≤ lp (fVN (fun j => (vo j).toInt.toNat) (-1)) f 0 0) := fun z => by
    unfold crB
    have e1 := vn_eq (fun j => (hu j).1) z f 0 0
    have e2 := vn_eq (fun j => (hu j).1) (-1) f 0 0
    have l1 := vn_le (fun j => (hu j).2) z f 0 0
    have l2 := vn_le (fun j => (hu j).2) (-1) f 0 0
    rw [show (0 : Int32) = nI 0 from rfl, e1, e2, show (2 : Int32) = nI 2 from rfl, pk_mul]
    congr 1
    exact decide_eq_decide.mpr (nI_leI (by omega) (by omega))
  rw [key] at hc ⊢
  have hm := vn_mono (u := fun j => (vo j).toInt.toNat) h f 0 0 0 (by omega) (Nat.le_refl 0)
  simp only [Bool.not_eq_true', decide_eq_false_iff_not] at hc ⊢
  omega
/-- a set of farms in which farm fi says no, and decides -/
def fDec (f : Nat) (vo : Nat → Int32) (fi : Nat) (s c : Nat) : Nat := if bt (nI s) fi = true then c else if crB f vo (nI s ||| (1 <<< (nI fi &&& 31))) = true then (if crB f vo (nI s) = true then c else c + 1) else c
theorem dec_le {f : Nat} {vo : Nat → Int32} {fi : Nat} : ∀ (k s c : Nat), lp (fDec f vo fi) k s c ≤ c + k := by
  intro k
  induction k with
  | zero => intro s c; exact Nat.le_refl c
  | succ k ih =>
    intro s c
    rw [lp_succ]
    have h1 := ih (s + 1) (fDec f vo fi s c)
    have h2 : fDec f vo fi s c ≤ c + 1 := by
      unfold fDec
      split
      · omega
      · split
        · split <;> omega
        · omega
    omega
theorem own_bit : ∀ fi, fi < 6 → ∀ s, s < 64 → (decide (nI s &&& (1 <<< (nI fi &&& 31)) = 0) = !bt (nI s) fi) ∧ (decide ((nI s >>> (nI fi &&& 31)) &&& 1 = 0) = !bt (nI s) fi) := by decide +kernel
theorem pow_sh : ∀ f, f < 7 → (1 <<< (nI f &&& 31) : Int32) = nI (2 ^ f) := by decide +kernel
theorem or_sub {x y : Int32} (j : Nat) (hj : j < 31) (h : bt x j = true) : bt (x ||| y) j = true := by
  rw [bt_xb hj] at h ⊢
  rw [xb_or, h, Bool.true_or]
theorem p2_le {f : Nat} (hf : f ≤ 6) : 2 ^ f ≤ 64 := Nat.pow_le_pow_right (by decide) hf
theorem dec_loop {σ : gS} {f w fi : Nat} (hV : IV σ f w) (hfi : fi < 6) : ∀ (k s c n : Nat), s + k = 2 ^ f → k < n → mX8_decides_b9 n σ (1 <<< (nI fi &&& 31)) (nI c) (nI s) = some (nI (lp (fDec f (σ.1 3) fi) k s c), σ) := by
  have e0 : σ.1 1 0 = nI f := hV.2.2.1
  have hf : f ≤ 6 := hV.1
  have hp := p2_le hf
  intro k
  induction k with
  | zero =>
    intro s c n hs hn
    obtain ⟨n, rfl⟩ : ∃ m, n = m + 1 := ⟨n - 1, by omega⟩
    conv => lhs; unfold mX8_decides_b9
    rw [e0, pow_sh f (by omega), if_pos (nI_le (show 2 ^ f ≤ s by omega) (by omega))]
    rfl
  | succ k ih =>
    intro s c n hs hn
    obtain ⟨n, rfl⟩ : ∃ m, n = m + 1 := ⟨n - 1, by omega⟩
    have ob1 := (own_bit fi hfi s (by omega)).1
    conv => lhs; unfold mX8_decides_b9
    rw [e0, pow_sh f (by omega), if_neg (nI_ge (show s < 2 ^ f by omega) (by omega)), lp_succ]
    unfold mX8_decides_b50
    have step : ∀ c2 : Nat, fDec f (σ.1 3) fi s c = c2 → mX8_decides_b9 n σ (1 <<< (nI fi &&& 31)) (nI c2) (nI (s + 1)) = some (nI (lp (fDec f (σ.1 3) fi) k (s + 1) (fDec f (σ.1 3) fi s c)), σ) := fun c2 h3 => by
      rw [h3]
      exact ih (s + 1) c2 n (by omega) (by omega)
    cases hb : bt (nI s) fi with
    | true =>
      rw [hb, Bool.not_true, decide_eq_false_iff_not] at ob1
      have hs2 : fDec f (σ.1 3) fi s c = c := by unfold fDec; rw [hb, if_pos rfl]
      rw [if_neg ob1, gl_eq, nI_1]
      exact step c hs2
    | false =>
      rw [hb, Bool.not_false, decide_eq_true_iff] at ob1
      rw [if_pos ob1, cr9 hV, gb_some]
      cases h1 : crB f (σ.1 3) (nI s ||| (1 <<< (nI fi &&& 31))) with
      | false =>
        have hs2 : fDec f (σ.1 3) fi s c = c := by unfold fDec; rw [hb, if_neg (by decide), h1, if_neg (by decide)]
        rw [if_neg (by decide), gl_eq, nI_1]
        exact step c hs2
      | true =>
        rw [if_pos rfl, cr9 hV, gb_some]
        cases h2 : crB f (σ.1 3) (nI s) with
        | true =>
          have hs2 : fDec f (σ.1 3) fi s c = c := by unfold fDec; rw [hb, if_neg (by decide), h1, if_pos rfl, h2, if_pos rfl]
          rw [if_pos rfl, gl_eq, nI_1]
          exact step c hs2
        | false =>
          have hs2 : fDec f (σ.1 3) fi s c = c + 1 := by unfold fDec; rw [hb, if_neg (by decide), h1, if_pos rfl, h2, if_neg (by decide)]
          rw [if_neg (by decide), gl_eq, gl_eq, nI_1, nI_1]
          exact step (c + 1) hs2
theorem dec10_loop {σ : gS} {f w fi : Nat} (hV : IV σ f w) (hfi : fi < 6) (p : Int32) : ∀ (k s c n : Nat), s + k = 2 ^ f → k < n → mX10_power_b26 n σ (nI fi) p (nI c) (nI s) = mX10_power_b87 1100 σ p (nI (lp (fDec f (σ.1 3) fi) k s c)) (nI (lp (fDec f (σ.1 3) fi) k s c)) (1 <<< (((nI f) - 1) &&& 31)) := by
  have e0 : σ.1 52 0 = nI f := hV.2.2.2.1
  have hf : f ≤ 6 := hV.1
  have hv := hV.2.2.2.2.2.2.2.2.2.2.2.2.1
  have hp := p2_le hf
  intro k
  induction k with
  | zero =>
    intro s c n hs hn
    obtain ⟨n, rfl⟩ : ∃ m, n = m + 1 := ⟨n - 1, by omega⟩
    conv => lhs; unfold mX10_power_b26
    rw [e0, pow_sh f (by omega), if_pos (nI_le (show 2 ^ f ≤ s by omega) (by omega)), gl_eq, gl_eq]
    rfl
  | succ k ih =>
    intro s c n hs hn
    obtain ⟨n, rfl⟩ : ∃ m, n = m + 1 := ⟨n - 1, by omega⟩
    have ob1 := (own_bit fi hfi s (by omega)).2
    conv => lhs; unfold mX10_power_b26
    rw [e0, pow_sh f (by omega), if_neg (nI_ge (show s < 2 ^ f by omega) (by omega)), lp_succ]
    unfold mX10_power_b68
    have step : ∀ c2 : Nat, fDec f (σ.1 3) fi s c = c2 → mX10_power_b26 n σ (nI fi) p (nI c2) (nI (s + 1)) = mX10_power_b87 1100 σ p (nI (lp (fDec f (σ.1 3) fi) k (s + 1) (fDec f (σ.1 3) fi s c))) (nI (lp (fDec f (σ.1 3) fi) k (s + 1) (fDec f (σ.1 3) fi s c))) (1 <<< (((nI f) - 1) &&& 31)) := fun c2 h3 => by
      rw [h3]
      exact ih (s + 1) c2 n (by omega) (by omega)
    cases hb : bt (nI s) fi with
    | true =>
      rw [hb, Bool.not_true, decide_eq_false_iff_not] at ob1
      have hs2 : fDec f (σ.1 3) fi s c = c := by unfold fDec; rw [hb, if_pos rfl]
      rw [if_neg ob1, gl_eq, nI_1]
      exact step c hs2
    | false =>
      rw [hb, Bool.not_false, decide_eq_true_iff] at ob1
      rw [if_pos ob1, cr10 hV, gb_some, cr10 hV, gb_some]
      cases h2 : crB f (σ.1 3) (nI s) with
      | true =>
        have h1 : crB f (σ.1 3) (nI s ||| (1 <<< (nI fi &&& 31))) = true := cr_mono hf hv (fun j hj h => or_sub j hj h) h2
        have hs2 : fDec f (σ.1 3) fi s c = c := by unfold fDec; rw [hb, if_neg (by decide), h1, if_pos rfl, h2, if_pos rfl]
        rw [h1, if_pos rfl, gl_eq, nI_1]
        exact step c hs2
      | false =>
        cases h1 : crB f (σ.1 3) (nI s ||| (1 <<< (nI fi &&& 31))) with
        | false =>
          have hs2 : fDec f (σ.1 3) fi s c = c := by unfold fDec; rw [hb, if_neg (by decide), h1, if_neg (by decide)]
          rw [if_pos rfl, gl_eq, nI_1]
          exact step c hs2
        | true =>
          have hs2 : fDec f (σ.1 3) fi s c = c + 1 := by unfold fDec; rw [hb, if_neg (by decide), h1, if_pos rfl, h2, if_neg (by decide)]
          rw [if_neg (by decide), gl_eq, gl_eq, nI_1, nI_1]
          exact step (c + 1) hs2
theorem gcd_st (a b : Nat) : Nat.gcd a b = Nat.gcd b (a % b) := by rw [Nat.gcd_comm a b, Nat.gcd_rec b a, Nat.gcd_comm]
theorem gcd9 {σ : gS} : ∀ (m b a i n : Nat), b ≤ m → a < 2 ^ 31 → i + b ≤ 64 → b < n → mX9_commonDivisor_b7 n σ (nI a) (nI b) (nI i) = mX9_commonDivisor_b34 σ (nI (Nat.gcd a b)) := by
  intro m
  induction m with
  | zero =>
    intro b a i n hb ha hi hn
    obtain rfl : b = 0 := by omega
    obtain ⟨n, rfl⟩ : ∃ m, n = m + 1 := ⟨n - 1, by omega⟩
    conv => lhs; unfold mX9_commonDivisor_b7
    rw [Nat.gcd_zero_right]
    by_cases h : (64 : Int32) ≤ nI i
    · rw [if_pos h]
    · rw [if_neg h, if_pos nI_0]
  | succ m ih =>
    intro b a i n hb ha hi hn
    obtain ⟨n, rfl⟩ : ∃ m, n = m + 1 := ⟨n - 1, by omega⟩
    rcases Nat.eq_zero_or_pos b with rfl | hp
    · conv => lhs; unfold mX9_commonDivisor_b7
      rw [Nat.gcd_zero_right]
      by_cases h : (64 : Int32) ≤ nI i
      · rw [if_pos h]
      · rw [if_neg h, if_pos nI_0]
    · have hlt := Nat.mod_lt a hp
      conv => lhs; unfold mX9_commonDivisor_b7
      rw [if_neg (show ¬ (64 : Int32) ≤ nI (i) from nI_ge (b := 64) (show i < 64 by omega) (by omega)), if_neg (nI_ne0 hp (by omega)), if_neg (nI_ne0 hp (by omega)), gl_eq, gl_eq, gl_eq, gl_eq, rem_n ha hp (by omega), nI_1, gcd_st]
      exact ih (a % b) b (i + 1) n (by omega) (by omega) (by omega) (by omega)
theorem gcd10 {σ : gS} {p q : Int32} : ∀ (m b a n : Nat), b ≤ m → a < 2 ^ 31 → b < 2 ^ 31 → b < n → mX10_power_b87 n σ p q (nI a) (nI b) = mX10_power_b87 1 σ p q (nI (Nat.gcd a b)) (nI 0) := by
  intro m
  induction m with
  | zero =>
    intro b a n hb ha hb2 hn
    obtain rfl : b = 0 := by omega
    obtain ⟨n, rfl⟩ : ∃ m, n = m + 1 := ⟨n - 1, by omega⟩
    rw [Nat.gcd_zero_right]
    unfold mX10_power_b87
    rw [if_pos nI_0, if_pos nI_0]
  | succ m ih =>
    intro b a n hb ha hb2 hn
    obtain ⟨n, rfl⟩ : ∃ m, n = m + 1 := ⟨n - 1, by omega⟩
    rcases Nat.eq_zero_or_pos b with rfl | hp
    · rw [Nat.gcd_zero_right]
      unfold mX10_power_b87
      rw [if_pos nI_0, if_pos nI_0]
    · have hlt := Nat.mod_lt a hp
      conv => lhs; unfold mX10_power_b87
      rw [if_neg (nI_ne0 hp (by omega)), if_neg (nI_ne0 hp (by omega)), gl_eq, gl_eq, gl_eq, rem_n ha hp (by omega), gcd_st]
      exact ih (a % b) b n (by omega) (by omega) (by omega) (by omega)
theorem s_power : S_power Inv := by
  intro σ p0 p1 hI
  have hI0 := hI
  obtain ⟨f, w, b, hV, hS, hT, hL, hB, hM, hC, hF, hH⟩ := hI
  obtain ⟨hf, hw, e1, e2, -⟩ := id hV
  cases hi : inN p0 f with
  | false =>
    refine ⟨-9223372036854775808, σ, σ, ?_, ?_, hI0⟩
    · unfold mX9_power
      rw [hasFarm_eq e1, gb_some, hi, if_neg (by decide)]
    · unfold mX10_power
      rw [isFarm_eq (by omega) e2, gb_some, hi, if_neg (by decide)]
  | true =>
    cases hp : wi p1 0 1 with
    | false =>
      refine ⟨-9223372036854775808, σ, σ, ?_, ?_, hI0⟩
      · unfold mX9_power
        rw [hasFarm_eq e1, gb_some, hi, if_pos rfl, w9, gb_some, hp, if_neg (by decide)]
      · unfold mX10_power
        rw [isFarm_eq (by omega) e2, gb_some, hi, if_pos rfl, w10, gb_some, hp, if_neg (by decide)]
    | true =>
      obtain ⟨fi, hfi, rfl⟩ := inN_of (by omega) hi
      have e31 : (1 <<< ((nI f - 1) &&& 31) : Int32) = nI (2 ^ (f - 1)) := by
        rw [show f = (f - 1) + 1 by omega, nI_pred]
        exact pow_sh (f - 1) (by omega)
      obtain ⟨D, hD⟩ : ∃ D, D = lp (fDec f (σ.1 3) fi) (2 ^ f) 0 0 := ⟨_, rfl⟩
      have hDl : D ≤ 64 := by
        have h1 : D ≤ 0 + 2 ^ f := by rw [hD]; exact dec_le _ _ _
        have h2 := p2_le hf
        omega
      have hW0 : 0 < 2 ^ (f - 1) := Nat.pow_pos (by decide)
      have hW1 := p2_le (show f - 1 ≤ 6 by omega)
      have hg0 : 0 < Nat.gcd (2 ^ (f - 1)) D := Nat.gcd_pos_of_pos_left D hW0
      have hg1 : Nat.gcd (2 ^ (f - 1)) D ≤ 64 := Nat.le_trans (Nat.gcd_le_left D hW0) hW1
      have hgz : ¬ nI (Nat.gcd (2 ^ (f - 1)) D) = 0 := nI_ne0 hg0 (by omega)
      have A9 : ∀ x, (if p1 = 0 then (some ((Int32.toInt64 (nI D / nI (Nat.gcd (2 ^ (f - 1)) D))), σ)) else (some ((Int32.toInt64 (nI (2 ^ (f - 1)) / nI (Nat.gcd (2 ^ (f - 1)) D))), σ))) = x → mX9_power σ (nI fi) p1 = x := fun x h => by
        unfold mX9_power mX8_decides mX9_commonDivisor
        rw [hasFarm_eq e1, gb_some, hi, if_pos rfl, w9, gb_some, hp, if_pos rfl, e1, e31, gl_eq, gl_eq, gl_eq, gl_eq]
        have hdl := dec_loop hV (show fi < 6 by omega) (2 ^ f) 0 0 1100 (by omega) (by have := p2_le hf; omega)
        have hg9 := gcd9 (σ := σ) 64 D (2 ^ (f - 1)) 0 1100 hDl (by omega) (by omega) (by omega)
        rw [nI_0] at hdl hg9
        rw [hdl, gb_some, ← hD, gl_eq, gl_eq, gl_eq, gl_eq, hg9]
        unfold mX9_commonDivisor_b34
        rw [if_neg hgz, gb_some, gl_eq, if_neg hgz, if_neg hgz]
        exact h
      have A10 : ∀ x, (if p1 = 0 then (some ((Int32.toInt64 (nI D / nI (Nat.gcd (2 ^ (f - 1)) D))), σ)) else (some ((Int32.toInt64 (nI (2 ^ (f - 1)) / nI (Nat.gcd (2 ^ (f - 1)) D))), σ))) = x → mX10_power σ (nI fi) p1 = x := fun x h => by
        unfold mX10_power
        rw [isFarm_eq (by omega) e2, gb_some, hi, if_pos rfl, w10, gb_some, hp, if_pos rfl, gl_eq, gl_eq]
        refine (dec10_loop hV (show fi < 6 by omega) p1 (2 ^ f) 0 0 1100 (by omega) (by have := p2_le hf; omega)).trans ?_
        rw [← hD, e31, gcd10 64 (2 ^ (f - 1)) D 1100 hW1 (by omega) (by omega) (by omega), Nat.gcd_comm D]
        unfold mX10_power_b87
        rw [if_pos nI_0, if_neg hgz, if_neg hgz, e2, e31]
        exact h
      by_cases h0 : p1 = 0
      · exact ⟨_, σ, σ, A9 _ (if_pos h0), A10 _ (if_pos h0), hI0⟩
      · exact ⟨_, σ, σ, A9 _ (if_neg h0), A10 _ (if_neg h0), hI0⟩
