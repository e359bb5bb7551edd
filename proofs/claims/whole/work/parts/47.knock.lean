/-! ===== judge, knock ===== -/
theorem cmp0 {x y : Int64} : lg_cmp x y = 0 ↔ x = y := by
  unfold lg_cmp
  by_cases h1 : x > y
  · rw [if_pos h1]
    constructor
    · intro q; exact absurd q (by decide)
    · intro q; subst q; exact absurd h1 (by simp)
  · rw [if_neg h1]
    by_cases h2 : x = y
    · rw [if_pos h2]; exact ⟨fun _ => h2, fun _ => rfl⟩
    · rw [if_neg h2]
      constructor
      · intro q; exact absurd q (by decide)
      · intro q; exact absurd q h2
theorem told_eq {x : Int64} {c : Int32} (h : x.toInt32.toInt64 = x) : x = c.toInt64 ↔ c = x.toInt32 := by
  constructor
  · intro q; rw [q]; simp
  · intro q; rw [q]; exact h.symm
/-- the first day that is not as told, from the i-th on; k are left -/
def ul (told : Nat → Int64) (C : Nat → Int32) (t : Nat) : Nat → Nat → Int32
  | 0, _ => -2
  | k + 1, i => if 30 < t + i then nI (t + i) else if C (t + i) = (told i).toInt32 then ul told C t k (i + 1) else nI (t + i)
def Z0 : Nat → Int32 := fun _ => 0
theorem not_neg_rg {x : Int32} {a b : Nat} (hb : b < 2 ^ 31) (h : rg x a b) : ¬ x < 0 := by
  obtain ⟨n, h1, h2, rfl⟩ := h
  exact nI_pos (by omega)
theorem wk_pos {F : gLw} {S : Nat → Int32} {A : Nat → Int32} {t : Nat} {c0 : Int32} (h0 : ¬ c0 < 0) : ∀ i, ¬ wkC (S 1) (nxS F S) A t c0 i < 0
  | 0 => h0
  | i + 1 => not_neg_rg (b := 999) (by decide) (hold_rg _ _)
theorem dw_pos {b c : Int32} (h : ¬ c < 0) : ¬ dw b c < 0 := by
  unfold dw
  split
  · exact h
  · decide
theorem min0 {c : Int32} (h : ¬ c < 0) : gMin 0 c = 0 := if_neg h
theorem wk_0 {F : gLw} {S : Nat → Int32} {t : Nat} {c0 : Int32} (h0 : ¬ c0 < 0) (i : Nat) : wkC (S 1) (nxS F S) Z0 t c0 (i + 1) = nxS F S (t + i) (dw (S 1) (wkC (S 1) (nxS F S) Z0 t c0 i)) 0 := by
  show nxS F S (t + i) (dw (S 1) (wkC (S 1) (nxS F S) Z0 t c0 i) - gMin 0 (dw (S 1) (wkC (S 1) (nxS F S) Z0 t c0 i))) (gMin 0 (dw (S 1) (wkC (S 1) (nxS F S) Z0 t c0 i))) = _
  rw [min0 (dw_pos (wk_pos h0 i)), Int32.sub_zero]
theorem unlike9_loop {f w K t m q0 q1 : Nat} {F : gLw} {S : Nat → Int32} {c0 : Int32} {told : Nat → Int64} (ht : t ≤ 29) (hm : m ≤ 60) (hq0 : gk q0 = 6) (hq0b : q0 ≠ 9 ∧ kp q0) (hq : q1 = 8 ∨ q1 = 9) (h0 : ¬ c0 < 0) (hS2 : rg (S 2) 0 9) (hS3 : rg (S 3) 0 9) (hS4 : S 4 = nI t) (hto : ∀ i, i < 60 → (told i).toInt32.toInt64 = told i) : ∀ (k i : Nat) (σ : gS) (c : Int32) (n : Nat), Cx σ f w K F → σ.1 q1 = S → σ.1 q0 3 = nI m → σ.2.1 (q0 + 1) = told → i + k = m → k < n → (t + i ≤ 30 → c = wkC (S 1) (nxS F S) Z0 t c0 i) →
    ∃ τ : gS, mX9_firstUnlike_b8 q0 q1 n σ c (nI i) = some (ul told (CB (S 1) (nxS F S) Z0 t c0) t k i, τ) ∧ ks σ τ ∧ ∀ a, a < 18 → τ.1 a = σ.1 a := by
  have gq : gk q1 = 5 := by rcases hq with rfl | rfl <;> rfl
  have lq : q1 < 18 := by omega
  intro k
  induction k with
  | zero =>
    intro i σ c n hX h1 e3 e4 hi hn _
    obtain ⟨n, rfl⟩ : ∃ m, n = m + 1 := ⟨n - 1, by omega⟩
    refine ⟨σ, ?_, ks_rf σ, fun _ _ => rfl⟩
    conv => lhs; unfold mX9_firstUnlike_b8
    rw [e3, if_pos (nI_le (show m ≤ i by omega) (by omega))]
    rfl
  | succ k ih =>
    intro i σ c n hX h1 e3 e4 hi hn hc
    obtain ⟨n, rfl⟩ : ∃ m, n = m + 1 := ⟨n - 1, by omega⟩
    have ev : σ.1 q1 4 + nI i = nI (t + i) := by rw [h1, hS4, nI_add]
    by_cases h30 : 30 < t + i
    · refine ⟨σ, ?_, ks_rf σ, fun _ _ => rfl⟩
      conv => lhs; unfold mX9_firstUnlike_b8
      rw [e3, if_neg (nI_ge (show i < m by omega) (by omega)), ev, gl_eq, if_neg (show ¬ nI (t + i) ≤ 30 from nI_ge (a := 30) h30 (by omega))]
      unfold ul
      rw [if_pos h30]
    · have hcz := hc (by omega)
      obtain ⟨D, hD⟩ : ∃ D, D = CB (S 1) (nxS F S) Z0 t c0 (t + i) := ⟨_, rfl⟩
      have dE : mX5_atDawn σ q1 (nI (t + i)) c = some (D, σ) := by
        rw [hD]
        unfold CB
        by_cases h29 : t + i < 30
        · rw [dawn_day gq (by omega), h1, if_pos h29, show t + i - t = i by omega, hcz]
        · rw [dawn_eq gq, if_neg h29, show 30 - t = i by omega, hcz]
          unfold gvB
          rw [decide_eq_true (show (29 : Int32) < nI (t + i) from nI_lt (a := 29) (by omega) (by omega))]
          rfl
      have i60 := inbB_nI (show i < 60 by omega) (show 60 ≤ 1000 by decide)
      by_cases he : told i = D.toInt64
      · obtain ⟨u, r1, r2, r3⟩ := nightC hX hq (by rw [h1]; exact hS2) (by rw [h1]; exact hS3) (nI (t + i)) D 0
        rw [h1] at r1
        obtain ⟨τ, q1', q2, q3⟩ := ih (i + 1) u (nx F (S 2) (S 3) (S 1) (nI (t + i)) D 0) n (Cx_ks hX r2) ((r3 q1 lq).trans h1) (by rw [r2.1 q0 hq0b.2]; exact e3) (by rw [r2.2.2.2.2]; exact e4) (by omega) (by omega) (fun hle => by
          rw [show t + (i + 1) = t + i + 1 by omega] at hle
          rw [wk_0 h0 i, hD]
          unfold CB
          rw [if_pos (by omega), show t + i - t = i by omega]
          rfl)
        refine ⟨τ, ?_, ks_tr r2 q2, fun a ha => (q3 a ha).trans (r3 a ha)⟩
        conv => lhs; unfold mX9_firstUnlike_b8
        rw [e3, if_neg (nI_ge (show i < m by omega) (by omega)), ev, gl_eq, if_pos (show nI (t + i) ≤ 30 from nI_le (b := 30) (by omega) (by decide)), dE, gb_some, gl_eq, if_pos i60, nI_cl (by omega), e4, if_pos (cmp0.mpr he), hX.2.2.2.1]
        show (if gk K = 3 then _ else _) = _
        rw [if_pos (by rcases hX.2.2.1 with rfl | rfl <;> rfl), r1, gb_some, gl_eq, gl_eq, nI_1, q1']
        have hu : ul told (CB (S 1) (nxS F S) Z0 t c0) t (k + 1) i = ul told (CB (S 1) (nxS F S) Z0 t c0) t k (i + 1) := by
          show (if 30 < t + i then _ else _) = _
          rw [if_neg h30, ← hD, if_pos ((told_eq (hto i (by omega))).mp he)]
        rw [hu]
      · refine ⟨σ, ?_, ks_rf σ, fun _ _ => rfl⟩
        conv => lhs; unfold mX9_firstUnlike_b8
        rw [e3, if_neg (nI_ge (show i < m by omega) (by omega)), ev, gl_eq, if_pos (show nI (t + i) ≤ 30 from nI_le (b := 30) (by omega) (by decide)), dE, gb_some, gl_eq, if_pos i60, nI_cl (by omega), e4, if_neg (fun q => he (cmp0.mp q))]
        have hu : ul told (CB (S 1) (nxS F S) Z0 t c0) t (k + 1) i = nI (t + i) := by
          show (if 30 < t + i then _ else _) = _
          rw [if_neg h30, ← hD, if_neg (fun q => he ((told_eq (hto i (by omega))).mpr q))]
        rw [hu]
theorem unlike9 {f w K t m j q1 : Nat} {F : gLw} {told : Nat → Int64} {σ : gS} (hX : Cx σ f w K F) (ht : t ≤ 29) (hm : m ≤ 60) (hj : j < 6) (hq : q1 = 8 ∨ q1 = 9) (h0 : ¬ σ.1 q1 0 < 0) (hS2 : rg (σ.1 q1 2) 0 9) (hS3 : rg (σ.1 q1 3) 0 9) (hS4 : σ.1 q1 4 = nI t) (hto : ∀ i, i < 60 → (told i).toInt32.toInt64 = told i) (e3 : σ.1 (40 + 2 * j) 3 = nI m) (e4 : σ.2.1 (40 + 2 * j + 1) = told) :
    ∃ τ : gS, mX9_firstUnlike σ (40 + 2 * j) q1 = some (ul told (CB (σ.1 q1 1) (nxS F (σ.1 q1)) Z0 t (σ.1 q1 0)) t m 0, τ) ∧ ks σ τ ∧ ∀ a, a < 18 → τ.1 a = σ.1 a := by
  obtain ⟨τ, h⟩ := unlike9_loop (q0 := 40 + 2 * j) (c0 := σ.1 q1 0) ht hm (gk_sh hj) ⟨by omega, by unfold kp; omega⟩ hq h0 hS2 hS3 hS4 hto m 0 σ (σ.1 q1 0) 1100 hX rfl e3 e4 (by omega) (by omega) (fun _ => rfl)
  refine ⟨τ, ?_, h.2⟩
  unfold mX9_firstUnlike
  rw [if_pos (gk_sh hj), if_pos (by rcases hq with rfl | rfl <;> rfl), gl_eq, gl_eq]
  exact h.1
theorem unlike10_loop {t m p : Nat} {C : Nat → Int32} {told : Nat → Int64} (ht : t ≤ 29) (hm : m ≤ 60) (hp : p < 6) : ∀ (k i : Nat) (σ : gS) (n : Nat), σ.1 77 p = nI m → σ.1 59 4 = nI t → (∀ i, i < 60 → σ.2.1 78 (60 * p + i) = told i) → (∀ y, t ≤ y → y ≤ 30 → σ.1 80 y = C y) → i + k = m → k < n →
    mX10_unlike_b11 n σ (nI p) (nI i) = some (ul told C t k i, σ) := by
  intro k
  induction k with
  | zero =>
    intro i σ n e7 e4 hc h8 hi hn
    obtain ⟨n, rfl⟩ : ∃ m, n = m + 1 := ⟨n - 1, by omega⟩
    conv => lhs; unfold mX10_unlike_b11
    rw [if_pos (inbB_nI hp (by decide)), nI_cl (by omega), e7, if_pos (nI_le (show m ≤ i by omega) (by omega))]
    rfl
  | succ k ih =>
    intro i σ n e7 e4 hc h8 hi hn
    obtain ⟨n, rfl⟩ : ∃ m, n = m + 1 := ⟨n - 1, by omega⟩
    conv => lhs; unfold mX10_unlike_b11
    rw [if_pos (inbB_nI hp (by decide)), nI_cl (show p < 2 ^ 31 by omega), e7, if_neg (nI_ge (show i < m by omega) (by omega)), now_eq, gb_some, e4, nI_add, gl_eq]
    unfold ul
    by_cases h30 : 30 < t + i
    · rw [if_pos (show (30 : Int32) < nI (t + i) from nI_lt (a := 30) h30 (by omega)), if_pos h30]
    · rw [if_neg (show ¬ (30 : Int32) < nI (t + i) from nI_nlt (a := 30) (by omega) (by omega)), if_neg h30, if_pos (inbB_nI (show t + i < 31 by omega) (by decide)), nI_cl (show t + i < 2 ^ 31 by omega), toldAt_eq (by omega), gb_some, hc i (by omega), h8 (t + i) (by omega) (by omega)]
      by_cases he : C (t + i) = (told i).toInt32
      · rw [if_pos he, if_pos he, gl_eq, nI_1]
        exact ih (i + 1) σ n e7 e4 hc h8 (by omega) (by omega)
      · rw [if_neg he, if_neg he]
theorem unlike10 {t m p : Nat} {F : gLw} {told : Nat → Int64} {σ : gS} (hM : Mx σ F) (ht : t ≤ 29) (hm : m ≤ 60) (hp : p < 6) (h2 : rg (σ.1 59 2) 0 9) (h3 : rg (σ.1 59 3) 0 9) (h4 : σ.1 59 4 = nI t) (e7 : σ.1 77 p = nI m) (hc : ∀ i, i < 60 → σ.2.1 78 (60 * p + i) = told i) (c0 : Int32) :
    ∃ τ : gS, mX10_unlike σ (nI p) c0 = some (ul told (CB (σ.1 59 1) (nxS F (σ.1 59)) Z0 t c0) t m 0, τ) ∧ km σ τ := by
  obtain ⟨s, u1, u2, u3, u4⟩ := idles_eq σ
  have k1 : km σ s := km_79 u2 u3
  have s59 : s.1 59 = σ.1 59 := u2 59 (by decide)
  obtain ⟨τ, r1, r2, r3, r4, r5, r6⟩ := walk10_eq (A := Z0) (Mx_km hM k1) (by rw [s59]; exact h2) (by rw [s59]; exact h3) (by rw [s59]; exact h4) ht u4 c0
  rw [s59] at r4
  have k2 := km_tr k1 r2
  refine ⟨τ, ?_, k2⟩
  unfold mX10_unlike
  rw [u1, gb_some, r1, gb_some, gl_eq]
  exact unlike10_loop ht hm hp m 0 τ 1100 (by rw [k2.1 77 (by decide) (by decide) (by decide) (by decide) (by decide) (by decide)]; exact e7) (by rw [k2.1 59 (by decide) (by decide) (by decide) (by decide) (by decide) (by decide)]; exact h4) (fun i hi => by rw [k2.2.2]; exact hc i hi) r4 (by omega) (by omega)
theorem s_judge : S_judge Inv := by
  intro σ p0 hI
  obtain ⟨f, w, K, F, hX⟩ := Cx_Inv hI
  obtain ⟨hV, hS, hK, kk, -⟩ := id hX
  obtain ⟨f', w', b, -, -, -, -, -, -, -, hF, hH⟩ := id hI
  obtain ⟨z0, z1, z2, z3, z4, z5, z6, z7, z8⟩ := id hS
  obtain ⟨t, -, ht, et⟩ := id z5
  rcases shelf_cases p0 with hno | ⟨j, hj, rfl, hyes⟩
  · refine ⟨-1, σ, σ, ?_, ?_, hI⟩
    · unfold mX9_judge
      rw [refuse_no hno, gb_some, gl_eq, if_neg (by decide)]
    · unfold mX10_judge
      rw [isShelf_eq, gb_some, hno, if_neg (by decide)]
  · rcases refuse_cases (s0 := 1) hF.1 hj (by omega) (hH j hj) with ⟨h1, h2⟩ | ⟨h1, h2⟩ | ⟨h1, h2, n, hn, e3, e77, e76, hc⟩
    · refine ⟨-11, σ, σ, ?_, ?_, hI⟩
      · unfold mX9_judge
        rw [show mX9_refuseRow σ (nI j) 1 = some (-11, σ) from h1, gb_some, gl_eq, if_neg (by decide)]
      · unfold mX10_judge
        rw [isShelf_eq, gb_some, hyes, if_pos rfl, show mX10_noRow σ (nI j) 1 = some (-11, σ) from h2, gb_some, gl_eq, if_neg (by decide)]
    · refine ⟨-12, σ, σ, ?_, ?_, hI⟩
      · unfold mX9_judge
        rw [show mX9_refuseRow σ (nI j) 1 = some (-12, σ) from h1, gb_some, gl_eq, if_neg (by decide)]
      · unfold mX10_judge
        rw [isShelf_eq, gb_some, hyes, if_pos rfl, show mX10_noRow σ (nI j) 1 = some (-12, σ) from h2, gb_some, gl_eq, if_neg (by decide)]
    · obtain ⟨τ, r1, r2, r3⟩ := unlike9 (t := t) hX ht hn hj (Or.inl rfl) (not_neg_rg (by decide) z8) z6 z7 et (fun i hi => (hc i hi).2) e3 rfl
      have t59 : τ.1 59 = σ.1 59 := r2.1 59 (by unfold kp; omega)
      obtain ⟨υ, v1, v2⟩ := unlike10 (t := t) (m := n) (p := j) (told := σ.2.1 (40 + 2 * j + 1)) (Mx_ks hX r2) ht hn hj (by rw [t59, z2]; exact z6) (by rw [t59, z3]; exact z7) (by rw [t59, z4]; exact et) (by rw [r2.1 77 (by unfold kp; omega)]; exact e77) (fun i hi => by rw [r2.2.2.2.2]; exact (hc i hi).1) (τ.1 59 0)
      have en : nxS F (τ.1 59) = nxS F (σ.1 8) := nxS_eq (by rw [t59, z1]) (by rw [t59, z2]) (by rw [t59, z3])
      rw [en, t59, z0, z1] at v1
      have hnr : mX10_noRow τ (nI j) 1 = some (0, τ) := by
        unfold mX10_noRow
        rw [if_pos (inbB_nI hj (by decide)), if_pos (inbB_nI hj (by decide)), nI_cl (by omega), r2.1 76 (by unfold kp; omega), e76, if_neg (by decide), if_pos (by rfl)]
      refine ⟨ul (σ.2.1 (40 + 2 * j + 1)) (CB (σ.1 8 1) (nxS F (σ.1 8)) Z0 t (σ.1 8 0)) t n 0, τ, υ, ?_, ?_, Inv_ks hI (ks_tr r2 (ks_km v2))⟩
      · unfold mX9_judge
        rw [show mX9_refuseRow σ (nI j) 1 = some (1, σ) from h1, gb_some, gl_eq, if_pos rfl, if_pos (inbB_nI hj (by decide)), nI_cl (by omega), if_pos (gk_sh hj), bind_id]
        exact r1
      · unfold mX10_judge
        rw [isShelf_eq, gb_some, hyes, if_pos rfl, hnr, gb_some, gl_eq, if_pos (by decide), if_pos (by decide), show Int32.toNatClampNeg 0 = 0 from by decide, bind_id, t59, z0]
        exact v1
