/-! ===== a PLAN read on both sides ===== -/
theorem gUI_at {σ : gS} {k j b : Nat} {v : Int32} : (gUI σ k j v).1 k b = if b = j then v else σ.1 k b := by simp [gUI]
theorem fill_loop : ∀ (k i : Nat) (σ : gS) (n : Nat), i + k = 30 → k < n → ∃ τ : gS, mJ7_fill_53178_b5 11 n σ 0 (nI i) 30 = some ((), τ) ∧ (∀ a, a ≠ 11 → τ.1 a = σ.1 a) ∧ τ.2 = σ.2 ∧ ∀ j, τ.1 11 j = if i ≤ j ∧ j < 30 then 0 else σ.1 11 j := by
  intro k
  induction k with
  | zero =>
    intro i σ n hi hn
    obtain ⟨n, rfl⟩ : ∃ m, n = m + 1 := ⟨n - 1, by omega⟩
    refine ⟨σ, ?_, fun _ _ => rfl, rfl, fun j => by rw [if_neg (by omega)]⟩
    conv => lhs; unfold mJ7_fill_53178_b5
    rw [if_pos (show (30 : Int32) ≤ nI (i) from nI_le (a := 30) (show 30 ≤ i by omega) (by omega))]
  | succ k ih =>
    intro i σ n hi hn
    obtain ⟨n, rfl⟩ : ∃ m, n = m + 1 := ⟨n - 1, by omega⟩
    obtain ⟨τ, h1, h2, h3, h4⟩ := ih (i + 1) (gUI σ 11 i 0) n (by omega) (by omega)
    refine ⟨τ, ?_, fun a ha => by rw [h2 a ha, gUI_ne ha], h3, fun j => ?_⟩
    · conv => lhs; unfold mJ7_fill_53178_b5
      rw [if_neg (show ¬ (30 : Int32) ≤ nI (i) from nI_ge (b := 30) (show i < 30 by omega) (by omega)), if_pos (inbB_nI (show i < 30 by omega) (by decide)), nI_cl (by omega), gl_eq, gl_eq, nI_1]
      exact h1
    · rw [h4, gUI_at]
      by_cases hj : j = i
      · subst hj; rw [if_neg (by omega), if_pos rfl, if_pos (by omega)]
      · rw [if_neg hj]
        by_cases h : i ≤ j ∧ j < 30
        · rw [if_pos h, if_pos (by omega)]
        · rw [if_neg h, if_neg (by omega)]
theorem askNothing_eq (σ : gS) : ∃ τ : gS, mX7_askNothing σ = some ((), τ) ∧ (∀ a, a ≠ 11 → τ.1 a = σ.1 a) ∧ τ.2 = σ.2 ∧ ∀ j, j < 30 → τ.1 11 j = 0 := by
  obtain ⟨τ, h1, h2, h3, h4⟩ := fill_loop 30 0 σ 1100 (by omega) (by omega)
  refine ⟨τ, ?_, h2, h3, fun j hj => by rw [h4, if_pos (by omega)]⟩
  unfold mX7_askNothing mJ7_fill_53178
  rw [if_pos (by rfl), gl_eq, gl_eq]
  show gBind (mJ7_fill_53178_b5 11 1100 σ 0 (nI 0) 30) _ = _
  rw [h1]
  rfl
theorem idles_loop : ∀ (k i : Nat) (σ : gS) (n : Nat), i + k = 30 → k < n → ∃ τ : gS, mX10_idles_b2 n σ (nI i) = some ((), τ) ∧ (∀ a, a ≠ 79 → τ.1 a = σ.1 a) ∧ τ.2 = σ.2 ∧ ∀ j, τ.1 79 j = if i ≤ j ∧ j < 30 then 0 else σ.1 79 j := by
  intro k
  induction k with
  | zero =>
    intro i σ n hi hn
    obtain ⟨n, rfl⟩ : ∃ m, n = m + 1 := ⟨n - 1, by omega⟩
    refine ⟨σ, ?_, fun _ _ => rfl, rfl, fun j => by rw [if_neg (by omega)]⟩
    conv => lhs; unfold mX10_idles_b2
    rw [if_pos (show (30 : Int32) ≤ nI (i) from nI_le (a := 30) (show 30 ≤ i by omega) (by omega))]
  | succ k ih =>
    intro i σ n hi hn
    obtain ⟨n, rfl⟩ : ∃ m, n = m + 1 := ⟨n - 1, by omega⟩
    obtain ⟨τ, h1, h2, h3, h4⟩ := ih (i + 1) (gUI σ 79 i 0) n (by omega) (by omega)
    refine ⟨τ, ?_, fun a ha => by rw [h2 a ha, gUI_ne ha], h3, fun j => ?_⟩
    · conv => lhs; unfold mX10_idles_b2
      rw [if_neg (show ¬ (30 : Int32) ≤ nI (i) from nI_ge (b := 30) (show i < 30 by omega) (by omega)), if_pos (inbB_nI (show i < 30 by omega) (by decide)), nI_cl (by omega), gl_eq, gl_eq, nI_1]
      exact h1
    · rw [h4, gUI_at]
      by_cases hj : j = i
      · subst hj; rw [if_neg (by omega), if_pos rfl, if_pos (by omega)]
      · rw [if_neg hj]
        by_cases h : i ≤ j ∧ j < 30
        · rw [if_pos h, if_pos (by omega)]
        · rw [if_neg h, if_neg (by omega)]
theorem idles_eq (σ : gS) : ∃ τ : gS, mX10_idles σ = some ((), τ) ∧ (∀ a, a ≠ 79 → τ.1 a = σ.1 a) ∧ τ.2 = σ.2 ∧ ∀ j, j < 30 → τ.1 79 j = 0 := by
  obtain ⟨τ, h1, h2, h3, h4⟩ := idles_loop 30 0 σ 1100 (by omega) (by omega)
  refine ⟨τ, ?_, h2, h3, fun j hj => by rw [h4, if_pos (by omega)]⟩
  unfold mX10_idles
  rw [gl_eq]
  exact h1
theorem km_79 {σ τ : gS} (h1 : ∀ a, a ≠ 79 → τ.1 a = σ.1 a) (h2 : τ.2 = σ.2) : km σ τ := ⟨fun a _ _ _ x _ _ => h1 a x, fun j _ => by rw [h1 52 (by decide)], h2⟩
theorem ks_11 {σ τ : gS} (h1 : ∀ a, a ≠ 11 → τ.1 a = σ.1 a) (h2 : τ.2 = σ.2) : ks σ τ := ks_ag (fun a ha => h1 a (by unfold kp at ha; omega)) h2
/-- what a PLAN asks on day j: told from day t on -/
def AP (told : Nat → Int64) (n t j : Nat) : Int32 := if t ≤ j ∧ j - t < n then gMax 0 (gMin (told (j - t)).toInt32 24) else 0
theorem askRow_loop {q t m : Nat} (hq : gk q = 6) (ht : t ≤ 29) (hm : m ≤ 60) : ∀ (k i : Nat) (σ : gS) (n : Nat), σ.1 q 3 = nI m → q ≠ 11 → i + k = 61 → i ≤ m → k < n →
    ∃ τ : gS, mX7_askRow_b6 q n σ (nI t) (nI i) = some ((), τ) ∧ (∀ a, a ≠ 11 → τ.1 a = σ.1 a) ∧ τ.2 = σ.2 ∧ ∀ j, j < 30 → τ.1 11 j = if t + i ≤ j ∧ j - t < m then gMax 0 (gMin (σ.2.1 (q + 1) (j - t)).toInt32 24) else σ.1 11 j := by
  intro k
  induction k with
  | zero => intro i σ n _ _ hi hm2 _; omega
  | succ k ih =>
    intro i σ n e hne hi him hn
    obtain ⟨n, rfl⟩ : ∃ m, n = m + 1 := ⟨n - 1, by omega⟩
    by_cases h1 : m = i
    · subst h1
      refine ⟨σ, ?_, fun _ _ => rfl, rfl, fun j hj => by rw [if_neg (by omega)]⟩
      conv => lhs; unfold mX7_askRow_b6
      rw [e, if_pos (nI_le (Nat.le_refl m) (by omega))]
    · by_cases h2 : 29 < t + i
      · refine ⟨σ, ?_, fun _ _ => rfl, rfl, fun j hj => by rw [if_neg (by omega)]⟩
        conv => lhs; unfold mX7_askRow_b6
        rw [e, if_neg (nI_ge (show i < m by omega) (by omega)), nI_add, if_pos (show (29 : Int32) < nI (t + i) from nI_lt (a := 29) h2 (by omega))]
      · obtain ⟨τ, r1, r2, r3, r4⟩ := ih (i + 1) (gUI σ 11 (t + i) (gMax 0 (gMin (σ.2.1 (q + 1) i).toInt32 24))) n (by rw [gUI_ne hne]; exact e) hne (by omega) (by omega) (by omega)
        refine ⟨τ, ?_, fun a ha => by rw [r2 a ha, gUI_ne ha], r3, fun j hj => ?_⟩
        · conv => lhs; unfold mX7_askRow_b6
          rw [e, if_neg (nI_ge (show i < m by omega) (by omega)), nI_add, if_neg (show ¬ (29 : Int32) < nI (t + i) from nI_nlt (a := 29) (by omega) (by omega)), if_pos (inbB_nI (show i < 60 by omega) (by decide)), nI_cl (show i < 2 ^ 31 by omega), gl_eq, if_pos (inbB_nI (show t + i < 30 by omega) (by decide)), nI_cl (by omega), gl_eq, gl_eq, nI_1]
          exact r1
        · rw [r4 j hj, gUI_same]
          show (if t + (i + 1) ≤ j ∧ j - t < m then gMax 0 (gMin (σ.2.1 (q + 1) (j - t)).toInt32 24) else (if j = t + i then gMax 0 (gMin (σ.2.1 (q + 1) i).toInt32 24) else σ.1 11 j)) = _
          by_cases hj2 : j = t + i
          · subst hj2
            rw [if_neg (by omega), if_pos rfl, if_pos (by omega), show t + i - t = i by omega]
          · rw [if_neg hj2]
            by_cases h : t + i ≤ j ∧ j - t < m
            · rw [if_pos h, if_pos (by omega)]
            · rw [if_neg h, if_neg (by omega)]
theorem askRow_eq {σ : gS} {q t m : Nat} (hq : gk q = 6) (hne : q ≠ 11) (ht : t ≤ 29) (hm : m ≤ 60) (e : σ.1 q 3 = nI m) : ∃ τ : gS, mX7_askRow σ q (nI t) = some ((), τ) ∧ (∀ a, a ≠ 11 → τ.1 a = σ.1 a) ∧ τ.2 = σ.2 ∧ ∀ j, j < 30 → τ.1 11 j = AP (σ.2.1 (q + 1)) m t j := by
  obtain ⟨s, h1, h2, h3, h4⟩ := askNothing_eq σ
  obtain ⟨τ, r1, r2, r3, r4⟩ := askRow_loop (q := q) (t := t) hq ht hm 61 0 s 1100 (by rw [h2 q hne]; exact e) hne (by omega) (by omega) (by omega)
  refine ⟨τ, ?_, fun a ha => by rw [r2 a ha, h2 a ha], by rw [r3, h3], fun j hj => ?_⟩
  · unfold mX7_askRow
    rw [if_pos hq, h1, gb_some, gl_eq]
    exact r1
  · rw [r4 j hj, h4 j hj, h3]
    unfold AP
    by_cases h : t ≤ j ∧ j - t < m
    · rw [if_pos h, if_pos (by omega)]
    · rw [if_neg h, if_neg (by omega)]
theorem toldAt_eq {σ : gS} {p i : Nat} (h : 60 * p + i < 360) : mX10_toldAt σ (nI p) (nI i) = some ((σ.2.1 78 (60 * p + i)).toInt32, σ) := by
  unfold mX10_toldAt
  rw [e60, if_pos (inbB_nI h (by decide)), nI_cl (by omega)]
theorem nI_sub {a b : Nat} (h : b ≤ a) : nI a - nI b = nI (a - b) := pk_sub h
theorem reads_loop {p t m : Nat} (hp : p < 6) (ht : t ≤ 29) (hm : m ≤ 60) : ∀ (k i : Nat) (σ : gS) (n : Nat), σ.1 77 p = nI m → σ.1 59 4 = nI t → t + i + k = 30 → k < n →
    ∃ τ : gS, mX10_reads_b9 n σ (nI p) (nI (t + i)) = some ((), τ) ∧ (∀ a, a ≠ 79 → τ.1 a = σ.1 a) ∧ τ.2 = σ.2 ∧ ∀ j, j < 30 → τ.1 79 j = if t + i ≤ j ∧ j - t < m then gMax 0 (gMin (σ.2.1 78 (60 * p + (j - t))).toInt32 24) else σ.1 79 j := by
  intro k
  induction k with
  | zero =>
    intro i σ n e e4 hi hn
    obtain ⟨n, rfl⟩ : ∃ m, n = m + 1 := ⟨n - 1, by omega⟩
    refine ⟨σ, ?_, fun _ _ => rfl, rfl, fun j hj => by rw [if_neg (by omega)]⟩
    conv => lhs; unfold mX10_reads_b9
    rw [if_pos (show (30 : Int32) ≤ nI (t + i) from nI_le (a := 30) (show 30 ≤ t + i by omega) (by omega))]
  | succ k ih =>
    intro i σ n e e4 hi hn
    obtain ⟨n, rfl⟩ : ∃ m, n = m + 1 := ⟨n - 1, by omega⟩
    by_cases h1 : m ≤ i
    · obtain ⟨τ, r1, r2, r3, r4⟩ := ih (i + 1) σ n e e4 (by omega) (by omega)
      refine ⟨τ, ?_, r2, r3, fun j hj => ?_⟩
      · conv => lhs; unfold mX10_reads_b9
        rw [if_neg (show ¬ (30 : Int32) ≤ nI (t + i) from nI_ge (b := 30) (show t + i < 30 by omega) (by omega)), now_eq, gb_some, if_pos (inbB_nI hp (by decide)), nI_cl (show p < 2 ^ 31 by omega), e, e4, nI_sub (by omega), show t + i - t = i by omega, if_pos (nI_le h1 (by omega))]
        unfold mX10_reads_b56
        rw [gl_eq, nI_1]
        exact r1
      · rw [r4 j hj, if_neg (by omega), if_neg (by omega)]
    · obtain ⟨τ, r1, r2, r3, r4⟩ := ih (i + 1) (gUI σ 79 (t + i) (gMax 0 (gMin (σ.2.1 78 (60 * p + i)).toInt32 24))) n (by rw [gUI_ne (by decide)]; exact e) (by rw [gUI_ne (by decide)]; exact e4) (by omega) (by omega)
      refine ⟨τ, ?_, fun a ha => by rw [r2 a ha, gUI_ne ha], r3, fun j hj => ?_⟩
      · conv => lhs; unfold mX10_reads_b9
        rw [if_neg (show ¬ (30 : Int32) ≤ nI (t + i) from nI_ge (b := 30) (show t + i < 30 by omega) (by omega)), now_eq, gb_some, if_pos (inbB_nI hp (by decide)), nI_cl (show p < 2 ^ 31 by omega), e, e4, nI_sub (by omega), show t + i - t = i by omega, if_neg (nI_ge (show i < m by omega) (by omega)), now_eq, gb_some, e4, nI_sub (by omega), show t + i - t = i by omega, toldAt_eq (by omega), gb_some, if_pos (inbB_nI (show t + i < 30 by omega) (by decide)), nI_cl (by omega), gMin_comm, gl_eq]
        unfold mX10_reads_b56
        rw [gl_eq, nI_1]
        exact r1
      · rw [r4 j hj, gUI_same]
        show (if t + (i + 1) ≤ j ∧ j - t < m then gMax 0 (gMin (σ.2.1 78 (60 * p + (j - t))).toInt32 24) else (if j = t + i then gMax 0 (gMin (σ.2.1 78 (60 * p + i)).toInt32 24) else σ.1 79 j)) = _
        by_cases hj2 : j = t + i
        · subst hj2
          rw [if_neg (by omega), if_pos rfl, if_pos (by omega), show t + i - t = i by omega]
        · rw [if_neg hj2]
          by_cases h : t + i ≤ j ∧ j - t < m
          · rw [if_pos h, if_pos (by omega)]
          · rw [if_neg h, if_neg (by omega)]
theorem reads_eq {σ : gS} {p t m : Nat} (hp : p < 6) (ht : t ≤ 29) (hm : m ≤ 60) (e : σ.1 77 p = nI m) (e4 : σ.1 59 4 = nI t) {told : Nat → Int64} (hc : ∀ i, i < 60 → σ.2.1 78 (60 * p + i) = told i) : ∃ τ : gS, mX10_reads σ (nI p) = some ((), τ) ∧ (∀ a, a ≠ 79 → τ.1 a = σ.1 a) ∧ τ.2 = σ.2 ∧ ∀ j, j < 30 → τ.1 79 j = AP told m t j := by
  obtain ⟨s, h1, h2, h3, h4⟩ := idles_eq σ
  have s4 : s.1 59 4 = nI t := by rw [h2 59 (by decide)]; exact e4
  obtain ⟨τ, r1, r2, r3, r4⟩ := reads_loop (p := p) (t := t) hp ht hm (30 - t) 0 s 1100 (by rw [h2 77 (by decide)]; exact e) s4 (by omega) (by omega)
  refine ⟨τ, ?_, fun a ha => by rw [r2 a ha, h2 a ha], by rw [r3, h3], fun j hj => ?_⟩
  · unfold mX10_reads
    rw [h1, gb_some, now_eq, gb_some, gl_eq, s4]
    exact r1
  · rw [r4 j hj, h4 j hj, h3]
    unfold AP
    by_cases h : t ≤ j ∧ j - t < m
    · rw [if_pos h, if_pos (by omega), hc _ (by omega)]
    · rw [if_neg h, if_neg (by omega)]
/-- whether a shelf holds a row of that sort, on both sides -/
theorem refuse_cases {σ : gS} {b j s0 : Nat} (hb : b ≤ 50) (hj : j < 6) (hs : s0 ≤ 1) (h : IH1 σ b j) :
    (mX9_refuseRow σ (nI j) (nI s0) = some (-11, σ) ∧ mX10_noRow σ (nI j) (nI s0) = some (-11, σ)) ∨ (mX9_refuseRow σ (nI j) (nI s0) = some (-12, σ) ∧ mX10_noRow σ (nI j) (nI s0) = some (-12, σ)) ∨
    (mX9_refuseRow σ (nI j) (nI s0) = some (1, σ) ∧ mX10_noRow σ (nI j) (nI s0) = some (0, σ) ∧ ∃ n : Nat, n ≤ 60 ∧ σ.1 (40 + 2 * j) 3 = nI n ∧ σ.1 77 j = nI n ∧ σ.1 76 j = nI s0 ∧ ∀ i, i < 60 → σ.2.1 78 (60 * j + i) = σ.2.1 (40 + 2 * j + 1) i ∧ (σ.2.1 (40 + 2 * j + 1) i).toInt32.toInt64 = σ.2.1 (40 + 2 * j + 1) i) := by
  have i6 : inbB (nI j) 6 = true := inbB_nI hj (by decide)
  have c6 : Int32.toNatClampNeg (nI j) = j := nI_cl (by omega)
  have k6 := gk_sh hj
  have A9 : ∀ x, (if (σ.1 (40 + 2 * j) 0) = 0 then (some ((-11), σ)) else (gBind (mX6_isRowOf σ (40 + 2 * j) (nI s0)) (fun r4 s5 => if r4 = true then (some (1, s5)) else (some ((-12), s5))))) = x → mX9_refuseRow σ (nI j) (nI s0) = x := fun x hx => by
    unfold mX9_refuseRow
    rw [shelfAt_yes hj, gb_some]
    show (if gk (40 + 2 * j) = 6 then _ else _) = _
    rw [if_pos k6]
    exact hx
  have A10 : ∀ x, (if σ.1 76 j = -1 then some ((-11 : Int32), σ) else if σ.1 76 j = nI s0 then some (0, σ) else some (-12, σ)) = x → mX10_noRow σ (nI j) (nI s0) = x := fun x hx => by
    unfold mX10_noRow
    rw [if_pos i6, if_pos i6, c6]
    exact hx
  rcases h with ⟨h1, h2⟩ | ⟨h1, n, h2, h3, h4⟩ | ⟨h1, s, n, h2, h3, h4, h5, h6, h7, h8⟩
  · exact Or.inl ⟨A9 _ (if_pos h1), A10 _ (if_pos h2)⟩
  · refine Or.inr (Or.inl ⟨A9 _ ?_, A10 _ ?_⟩)
    · rw [if_neg (by rw [h1]; decide)]
      unfold mX6_isRowOf
      rw [if_pos k6, if_neg (by rw [h1]; decide), gb_some, if_neg (by decide)]
    · rw [h4, if_neg (nI_n1 (by omega)), if_neg (fun q => by have := (nI_eq (by omega) (by omega)).mp q; omega)]
  · by_cases hss : s = s0
    · subst hss
      refine Or.inr (Or.inr ⟨A9 _ ?_, A10 _ ?_, n, h3, h5, h7, h6, fun i hi => ⟨?_, ?_⟩⟩)
      · rw [if_neg (by rw [h1]; decide)]
        unfold mX6_isRowOf
        rw [if_pos k6, if_pos h1, if_pos h4, gb_some, if_pos rfl]
      · rw [h6, if_neg (nI_n1 (by omega)), if_pos rfl]
      · rw [(h8 i hi).1, show 41 + 2 * j = 40 + 2 * j + 1 by omega]
      · have := (h8 i hi).2 (by omega)
        rw [show 41 + 2 * j = 40 + 2 * j + 1 by omega] at this
        exact this
    · refine Or.inr (Or.inl ⟨A9 _ ?_, A10 _ ?_⟩)
      · rw [if_neg (by rw [h1]; decide)]
        unfold mX6_isRowOf
        rw [if_pos k6, if_pos h1, if_neg (by rw [h4]; exact fun q => hss ((nI_eq (by omega) (by omega)).mp q)), gb_some, if_neg (by decide)]
      · rw [h6, if_neg (nI_n1 (by omega)), if_neg (fun q => hss ((nI_eq (by omega) (by omega)).mp q))]
theorem refuse_no {σ : gS} {x s0 : Int32} (h : wi x 0 5 = false) : mX9_refuseRow σ x s0 = some (-1, σ) := by
  unfold mX9_refuseRow
  rw [shelfAt_no h, gb_some]
  rfl
