/-! ===== drawn ===== -/
def dz (z : Int32) : Int32 := z * 1103515245 + 12345
def dl (A : Nat → Int32) (op z : Int32) (d : Nat) : Int32 := if op ≤ gRem (gUsr (dz z) 8) 12 then A d else 1 + gRem (gUsr (dz z) 16) 24
/-- a drawn day: seed, HARM, COLD, whether the BOARDS gave -/
def drS (σ : gS) (f w : Nat) (F : gLw) (S A : Nat → Int32) (op : Int32) (d : Nat) (s : Int32 × Int32 × Int32 × Int32) : Int32 × Int32 × Int32 × Int32 :=
  (dz s.1, s.2.1 + haV σ f w (nI d) (gMin (dl A op s.1 d) (dw (S 1) s.2.2.1)), nxS F S d (dw (S 1) s.2.2.1 - gMin (dl A op s.1 d) (dw (S 1) s.2.2.1)) (gMin (dl A op s.1 d) (dw (S 1) s.2.2.1)), if s.2.2.1 ≤ S 1 then s.2.2.2 else 1)
def inc (G g : Int32) : Int32 := if g = 0 then G else G + 1
theorem drS_g {σ : gS} {f w : Nat} {F : gLw} {S A : Nat → Int32} {op : Int32} {d : Nat} {s : Int32 × Int32 × Int32 × Int32} (h : s.2.2.2 = 0 ∨ s.2.2.2 = 1) : (drS σ f w F S A op d s).2.2.2 = 0 ∨ (drS σ f w F S A op d s).2.2.2 = 1 := by
  unfold drS
  show (if s.2.2.1 ≤ S 1 then s.2.2.2 else 1) = 0 ∨ (if s.2.2.1 ≤ S 1 then s.2.2.2 else 1) = 1
  split
  · exact h
  · exact Or.inr rfl
theorem draw9_loop {f w K last op : Nat} {F : gLw} {S A : Nat → Int32} {σ0 : gS} {o : Int32} (hl : last ≤ 29) (hS2 : rg (S 2) 0 9) (hS3 : rg (S 3) 0 9) : ∀ (k d : Nat) (σ : gS) (c g : Int32) (n : Nat), Cx σ f w K F → σ.1 8 = S → (∀ j, j < 30 → σ.1 11 j = A j) → (∀ a, 2 ≤ a → a ≤ 7 → σ.1 a = σ0.1 a) → σ.1 10 7 = o → (g = 0 ∨ g = 1) → d + k = last + 1 → k < n →
    ∃ τ : gS, mX9_drawSummer_b19 n σ (nI last) c g (nI d) = some ((), τ) ∧ ks σ τ ∧ (∀ a, a < 18 → a ≠ 10 → τ.1 a = σ.1 a) ∧ τ.1 10 6 = (lp (drS σ0 f w F S A o) k d (σ.1 10 6, σ.1 10 4, c, g)).1 ∧ τ.1 10 4 = (lp (drS σ0 f w F S A o) k d (σ.1 10 6, σ.1 10 4, c, g)).2.1 ∧ τ.1 10 5 = inc (σ.1 10 5) (lp (drS σ0 f w F S A o) k d (σ.1 10 6, σ.1 10 4, c, g)).2.2.2 ∧ τ.1 10 7 = o := by
  have k10 : ¬ kp 10 := by unfold kp; omega
  intro k
  induction k with
  | zero =>
    intro d σ c g n hX h8 hA hR ho hg hd hn
    obtain ⟨n, rfl⟩ : ∃ m, n = m + 1 := ⟨n - 1, by omega⟩
    have hlt : nI last < nI d := nI_lt (show last < d by omega) (by omega)
    by_cases h0 : g = 0
    · refine ⟨σ, ?_, ks_rf σ, fun _ _ _ => rfl, rfl, rfl, (if_pos h0).symm, ho⟩
      conv => lhs; unfold mX9_drawSummer_b19
      rw [if_pos hlt, if_pos h0]
    · refine ⟨gUI σ 10 5 (σ.1 10 5 + 1), ?_, ks_UI k10 (by decide) (by decide) (by decide), fun a _ h => gUI_ne h, by rw [gUI_at]; rfl, by rw [gUI_at]; rfl, ?_, by rw [gUI_at]; exact ho⟩
      · conv => lhs; unfold mX9_drawSummer_b19
        rw [if_pos hlt, if_neg h0, gl_eq]
      · rw [gUI_at, if_pos rfl]
        exact (if_neg h0).symm
  | succ k ih =>
    intro d σ c g n hX h8 hA hR ho hg hd hn
    obtain ⟨n, rfl⟩ : ∃ m, n = m + 1 := ⟨n - 1, by omega⟩
    obtain ⟨out, hout⟩ : ∃ out, out = gMin (dl A o (σ.1 10 6) d) (dw (S 1) c) := ⟨_, rfl⟩
    obtain ⟨H, hH⟩ : ∃ H, H = haV σ0 f w (nI d) out := ⟨_, rfl⟩
    obtain ⟨s1, hs1⟩ : ∃ s, s = gUI σ 10 6 (dz (σ.1 10 6)) := ⟨_, rfl⟩
    obtain ⟨s2, hs2⟩ : ∃ s, s = gUI s1 10 4 (s1.1 10 4 + H) := ⟨_, rfl⟩
    have e1 : ks σ s1 := by rw [hs1]; exact ks_UI k10 (by decide) (by decide) (by decide)
    have e2 : ks σ s2 := by rw [hs2]; exact ks_tr e1 (ks_UI k10 (by decide) (by decide) (by decide))
    have n1 : ∀ a, a ≠ 10 → s1.1 a = σ.1 a := fun a h => by rw [hs1, gUI_ne h]
    have n2 : ∀ a, a ≠ 10 → s2.1 a = σ.1 a := fun a h => by rw [hs2, gUI_ne h, n1 a h]
    have a7 : s1.1 10 7 = o := by rw [hs1, gUI_at]; exact ho
    have a6 : s1.1 10 6 = dz (σ.1 10 6) := by rw [hs1, gUI_at]; rfl
    have a4 : s1.1 10 4 = σ.1 10 4 := by rw [hs1, gUI_at]; rfl
    have a5 : s1.1 10 5 = σ.1 10 5 := by rw [hs1, gUI_at]; rfl
    have hDH : mX7_drawHours σ (nI d) = some (dl A o (σ.1 10 6) d, s1) := by
      unfold mX7_drawHours
      rw [show σ.1 10 6 * 1103515245 + 12345 = dz (σ.1 10 6) from rfl, gl_eq, ← hs1, a7, a6]
      unfold dl
      by_cases h : o ≤ gRem (gUsr (dz (σ.1 10 6)) 8) 12
      · rw [if_pos h, if_pos h, if_pos (inbB_nI (show d < 30 by omega) (by decide)), nI_cl (by omega), n1 11 (by decide), hA d (by omega)]
      · rw [if_neg h, if_neg h]
    have hV1 := IV_ks hX.1 e1
    have hHA : mX8_harmOfAll s1 (nI d) out = some (H, s1) := by
      rw [harmAll_eq hV1.1 hV1.2.1 hV1.2.2.1 hV1.2.2.2.2.1, n1 4 (by decide), n1 5 (by decide), n1 6 (by decide), n1 2 (by decide), hR 4 (by omega) (by omega), hR 5 (by omega) (by omega), hR 6 (by omega) (by omega), hR 2 (by omega) (by omega), hH]
      rfl
    obtain ⟨u, r1, r2, r3⟩ := nightC (Cx_ks hX e2) (q := 8) (Or.inl rfl) (by rw [n2 8 (by decide), h8]; exact hS2) (by rw [n2 8 (by decide), h8]; exact hS3) (nI d) (dw (S 1) c - out) out
    rw [n2 8 (by decide), h8] at r1
    obtain ⟨g', hg'⟩ : ∃ g', g' = (if c ≤ S 1 then g else 1) := ⟨_, rfl⟩
    have hg2 : g' = 0 ∨ g' = 1 := by
      rw [hg']
      split
      · exact hg
      · exact Or.inr rfl
    have u10 : ∀ j, u.1 10 j = s2.1 10 j := fun j => by rw [r3 10 (by decide)]
    have b7 : u.1 10 7 = o := by rw [u10, hs2, gUI_at]; exact a7
    have b6 : u.1 10 6 = dz (σ.1 10 6) := by rw [u10, hs2, gUI_at]; exact a6
    have b4 : u.1 10 4 = σ.1 10 4 + H := by rw [u10, hs2, gUI_at, if_pos rfl, a4]
    have b5 : u.1 10 5 = σ.1 10 5 := by rw [u10, hs2, gUI_at]; exact a5
    obtain ⟨τ, q1, q2, q3, q4, q5, q6, q7⟩ := ih (d + 1) u (nx F (S 2) (S 3) (S 1) (nI d) (dw (S 1) c - out) out) g' n (Cx_ks (Cx_ks hX e2) r2) (by rw [r3 8 (by decide), n2 8 (by decide)]; exact h8) (fun j hj => by rw [r3 11 (by decide), n2 11 (by decide)]; exact hA j hj) (fun a x y => by rw [r3 a (by omega), n2 a (by omega)]; exact hR a x y) b7 hg2 (by omega) (by omega)
    have step : lp (drS σ0 f w F S A o) (k + 1) d (σ.1 10 6, σ.1 10 4, c, g) = lp (drS σ0 f w F S A o) k (d + 1) (u.1 10 6, u.1 10 4, nx F (S 2) (S 3) (S 1) (nI d) (dw (S 1) c - out) out, g') := by
      rw [lp_succ, b6, b4, hH, hg', hout]
      rfl
    rw [step]
    rw [b5] at q6
    refine ⟨τ, ?_, ks_tr e2 (ks_tr r2 q2), fun a x y => by rw [q3 a x y, r3 a x, n2 a y], q4, q5, q6, q7⟩
    have gx : g ||| b2i (gvB (nI d) c (S 1)) = g' := by
      rw [hg', gv_day (show d ≤ 29 by omega)]
      by_cases h : c ≤ S 1
      · rw [decide_eq_true h, if_pos h]
        rcases hg with rfl | rfl <;> decide
      · rw [decide_eq_false h, if_neg h]
        rcases hg with rfl | rfl <;> decide
    conv => lhs; unfold mX9_drawSummer_b19
    rw [if_neg (nI_nlt (show d ≤ last by omega) (by omega)), gives_eq rfl, gb_some, h8, gx, gl_eq, dawn_day rfl (by omega), gb_some, gl_eq, h8, hDH, gb_some, ← hout, gl_eq, hHA, gb_some, ← hs2, gl_eq, e2.2.2.2.2, hX.2.2.2.1]
    show (if gk K = 3 then _ else _) = _
    rw [if_pos (by rcases hX.2.2.1 with rfl | rfl <;> rfl), r1, gb_some, gl_eq, gl_eq, nI_1]
    exact q1
theorem draw10_loop {f w last : Nat} {F : gLw} {W A : Nat → Int32} {σ0 : gS} {nmo what s : Int32} {Kc : gS → Int32 → Int32 → Int32 → Int32 → Int32 → Int32 → Int32 → Option (Int32 × gS)} (hl : last ≤ 29) (hS2 : rg (W 2) 0 9) (hS3 : rg (W 3) 0 9) : ∀ (k d : Nat) (σ : gS) (z H G c g : Int32) (n : Nat), Mx σ F → IV σ f w → σ.1 59 = W → (∀ j, j < 30 → σ.1 79 j = A j) → (∀ a, 2 ≤ a → a ≤ 7 → σ.1 a = σ0.1 a) → d + k = last + 1 → k < n →
    ∃ τ : gS, mX10_drawn_b138 Kc n σ nmo what z H G (nI last) s c g (nI d) = mX10_drawn_b262 Kc τ nmo what (lp (drS σ0 f w F W A (gRem nmo 100)) k d (z, H, c, g)).1 (lp (drS σ0 f w F W A (gRem nmo 100)) k d (z, H, c, g)).2.1 (inc G (lp (drS σ0 f w F W A (gRem nmo 100)) k d (z, H, c, g)).2.2.2) (nI last) s ∧ km σ τ ∧ τ.1 79 = σ.1 79 := by
  intro k
  induction k with
  | zero =>
    intro d σ z H G c g n hM hV h5 hA hR hd hn
    obtain ⟨n, rfl⟩ : ∃ m, n = m + 1 := ⟨n - 1, by omega⟩
    have hlt : nI last < nI d := nI_lt (show last < d by omega) (by omega)
    refine ⟨σ, ?_, km_rf σ, rfl⟩
    conv => lhs; unfold mX10_drawn_b138
    rw [if_pos hlt]
    show _ = mX10_drawn_b262 Kc σ nmo what z H (inc G g) (nI last) s
    unfold inc
    by_cases h0 : g = 0
    · rw [if_pos h0, if_pos h0]
    · rw [if_neg h0, if_neg h0, gl_eq]
  | succ k ih =>
    intro d σ z H G c g n hM hV h5 hA hR hd hn
    obtain ⟨n, rfl⟩ : ∃ m, n = m + 1 := ⟨n - 1, by omega⟩
    obtain ⟨out, hout⟩ : ∃ out, out = gMin (dl A (gRem nmo 100) z d) (dw (W 1) c) := ⟨_, rfl⟩
    obtain ⟨Ha, hH⟩ : ∃ H, H = haV σ0 f w (nI d) out := ⟨_, rfl⟩
    obtain ⟨u, r1, r2, r3⟩ := nightX hM (by rw [h5]; exact hS2) (by rw [h5]; exact hS3) (dw (W 1) c - out) out (nI d)
    rw [h5] at r1
    obtain ⟨τ, q1, q2, q3⟩ := ih (d + 1) u (dz z) (H + Ha) G (nx F (W 2) (W 3) (W 1) (nI d) (dw (W 1) c - out) out) (if c ≤ W 1 then g else 1) n (Mx_km hM r2) (IV_ks hV (ks_km r2)) (by rw [r3 59 (by decide) (by decide)]; exact h5) (fun j hj => by rw [r3 79 (by decide) (by decide)]; exact hA j hj) (fun a x y => by rw [r3 a (by omega) (by omega)]; exact hR a x y) (by omega) (by omega)
    have step : lp (drS σ0 f w F W A (gRem nmo 100)) (k + 1) d (z, H, c, g) = lp (drS σ0 f w F W A (gRem nmo 100)) k (d + 1) (dz z, H + Ha, nx F (W 2) (W 3) (W 1) (nI d) (dw (W 1) c - out) out, if c ≤ W 1 then g else 1) := by
      rw [lp_succ, hH, hout]
      rfl
    rw [step]
    refine ⟨τ, ?_, km_tr r2 q2, by rw [q3, r3 79 (by decide) (by decide)]⟩
    have hHA : mX10_allHarm σ (nI d) out = some (Ha, σ) := by
      rw [allHarm_eq hV, hR 4 (by omega) (by omega), hR 5 (by omega) (by omega), hR 6 (by omega) (by omega), hR 2 (by omega) (by omega), hH]
      rfl
    have tail : ∀ x70 : Int32, x70 = dl A (gRem nmo 100) z d → ∀ g2 : Int32, g2 = (if c ≤ W 1 then g else 1) → mX10_drawn_b209 Kc (mX10_drawn_b138 Kc n) σ nmo what (dz z) H G (nI last) s (dw (W 1) c) g2 (nI d) x70 = mX10_drawn_b262 Kc τ nmo what (lp (drS σ0 f w F W A (gRem nmo 100)) k (d + 1) (dz z, H + Ha, nx F (W 2) (W 3) (W 1) (nI d) (dw (W 1) c - out) out, if c ≤ W 1 then g else 1)).1 (lp (drS σ0 f w F W A (gRem nmo 100)) k (d + 1) (dz z, H + Ha, nx F (W 2) (W 3) (W 1) (nI d) (dw (W 1) c - out) out, if c ≤ W 1 then g else 1)).2.1 (inc G (lp (drS σ0 f w F W A (gRem nmo 100)) k (d + 1) (dz z, H + Ha, nx F (W 2) (W 3) (W 1) (nI d) (dw (W 1) c - out) out, if c ≤ W 1 then g else 1)).2.2.2) (nI last) s := fun x70 hx g2 hg2 => by
      unfold mX10_drawn_b209
      rw [gl_eq, hx, gMin_comm, ← hout, gl_eq, hHA, gb_some, gl_eq, r1, gb_some, gl_eq, gl_eq, nI_1, hg2]
      exact q1
    have mid : ∀ c2 g2 : Int32, c2 = dw (W 1) c → g2 = (if c ≤ W 1 then g else 1) → mX10_drawn_b174 Kc (mX10_drawn_b138 Kc n) σ nmo what (dz z) H G (nI last) s c2 g2 (nI d) = mX10_drawn_b262 Kc τ nmo what (lp (drS σ0 f w F W A (gRem nmo 100)) k (d + 1) (dz z, H + Ha, nx F (W 2) (W 3) (W 1) (nI d) (dw (W 1) c - out) out, if c ≤ W 1 then g else 1)).1 (lp (drS σ0 f w F W A (gRem nmo 100)) k (d + 1) (dz z, H + Ha, nx F (W 2) (W 3) (W 1) (nI d) (dw (W 1) c - out) out, if c ≤ W 1 then g else 1)).2.1 (inc G (lp (drS σ0 f w F W A (gRem nmo 100)) k (d + 1) (dz z, H + Ha, nx F (W 2) (W 3) (W 1) (nI d) (dw (W 1) c - out) out, if c ≤ W 1 then g else 1)).2.2.2) (nI last) s := fun c2 g2 hc2 hg2 => by
      rw [hc2]
      unfold mX10_drawn_b174
      by_cases h : gRem nmo 100 ≤ gRem (gUsr (dz z) 8) 12
      · rw [if_pos h, if_pos (inbB_nI (show d < 30 by omega) (by decide)), nI_cl (by omega)]
        exact tail _ (by rw [hA d (by omega)]; exact (if_pos h).symm) g2 hg2
      · rw [if_neg h]
        exact tail _ (if_neg h).symm g2 hg2
    conv => lhs; unfold mX10_drawn_b138
    rw [if_neg (nI_nlt (show d ≤ last by omega) (by omega)), show z * 1103515245 + 12345 = dz z from rfl, gl_eq, if_pos (by decide), show Int32.toNatClampNeg 1 = 1 from by decide, h5]
    by_cases hb : c ≤ W 1
    · have hd2 : dw (W 1) c = c := if_pos hb
      rw [if_pos hb]
      exact mid c g hd2.symm (if_pos hb).symm
    · have hd2 : dw (W 1) c = 0 := if_neg hb
      rw [if_neg hb, gl_eq, gl_eq]
      exact mid 0 1 hd2.symm (if_neg hb).symm
/-- a drawn summer: seed, HARM, how often the BOARDS gave -/
def smS (σ : gS) (f w : Nat) (F : gLw) (S A : Nat → Int32) (op c0 : Int32) (t kk : Nat) (_ : Nat) (q : Int32 × Int32 × Int32) : Int32 × Int32 × Int32 :=
  ((lp (drS σ f w F S A op) kk t (q.1, q.2.1, c0, 0)).1, (lp (drS σ f w F S A op) kk t (q.1, q.2.1, c0, 0)).2.1, inc q.2.2 (lp (drS σ f w F S A op) kk t (q.1, q.2.1, c0, 0)).2.2.2)
theorem sum9_loop {f w K last t N : Nat} {F : gLw} {S A : Nat → Int32} {σ0 : gS} {o what : Int32} (hl : last ≤ 29) (htl : t ≤ last) (hN : N ≤ 30) (hS2 : rg (S 2) 0 9) (hS3 : rg (S 3) 0 9) (hS4 : S 4 = nI t) : ∀ (k s : Nat) (σ : gS) (n : Nat), Cx σ f w K F → σ.1 8 = S → (∀ j, j < 30 → σ.1 11 j = A j) → (∀ a, 2 ≤ a → a ≤ 7 → σ.1 a = σ0.1 a) → σ.1 10 7 = o → s + k = N → k < n →
    ∃ τ : gS, mX9_drawn_b134 n σ what (nI N) (nI last) (nI s) = some (if what = 0 then (lp (smS σ0 f w F S A o (S 0) t (last + 1 - t)) k s (σ.1 10 6, σ.1 10 4, σ.1 10 5)).2.1 else (lp (smS σ0 f w F S A o (S 0) t (last + 1 - t)) k s (σ.1 10 6, σ.1 10 4, σ.1 10 5)).2.2, τ) ∧ ks σ τ := by
  intro k
  induction k with
  | zero =>
    intro s σ n hX h8 hA hR ho hs hn
    obtain ⟨n, rfl⟩ : ∃ m, n = m + 1 := ⟨n - 1, by omega⟩
    refine ⟨σ, ?_, ks_rf σ⟩
    conv => lhs; unfold mX9_drawn_b134
    rw [if_pos (nI_le (show N ≤ s by omega) (by omega))]
    by_cases h : what = 0
    · rw [if_pos h, if_pos h]; rfl
    · rw [if_neg h, if_neg h]; rfl
  | succ k ih =>
    intro s σ n hX h8 hA hR ho hs hn
    obtain ⟨n, rfl⟩ : ∃ m, n = m + 1 := ⟨n - 1, by omega⟩
    obtain ⟨u, r1, r2, r3, r4, r5, r6, r7⟩ := draw9_loop (op := 0) (σ0 := σ0) hl hS2 hS3 (last + 1 - t) t σ (S 0) 0 1100 hX h8 hA hR ho (Or.inl rfl) (by omega) (by omega)
    obtain ⟨τ, q1, q2⟩ := ih (s + 1) u n (Cx_ks hX r2) ((r3 8 (by decide) (by decide)).trans h8) (fun j hj => by rw [r3 11 (by decide) (by decide)]; exact hA j hj) (fun a x y => by rw [r3 a (by omega) (by omega)]; exact hR a x y) r7 (by omega) (by omega)
    refine ⟨τ, ?_, ks_tr r2 q2⟩
    have e : lp (smS σ0 f w F S A o (S 0) t (last + 1 - t)) (k + 1) s (σ.1 10 6, σ.1 10 4, σ.1 10 5) = lp (smS σ0 f w F S A o (S 0) t (last + 1 - t)) k (s + 1) (u.1 10 6, u.1 10 4, u.1 10 5) := by
      rw [lp_succ, r4, r5, r6]
      rfl
    rw [e]
    conv => lhs; unfold mX9_drawn_b134
    unfold mX9_drawSummer
    rw [if_neg (nI_ge (show s < N by omega) (by omega)), gl_eq, gl_eq, gl_eq, h8, hS4, r1, gb_some, gl_eq, nI_1]
    exact q1
theorem sum10_loop {f w last t N : Nat} {F : gLw} {W A : Nat → Int32} {σ0 : gS} {nmo what : Int32} (hl : last ≤ 29) (htl : t ≤ last) (hN : N ≤ 30) (hno : nmo / 10000 = nI N) (hS2 : rg (W 2) 0 9) (hS3 : rg (W 3) 0 9) (hS4 : W 4 = nI t) : ∀ (k s : Nat) (σ : gS) (z H G : Int32) (n : Nat), Mx σ F → IV σ f w → σ.1 59 = W → (∀ j, j < 30 → σ.1 79 j = A j) → (∀ a, 2 ≤ a → a ≤ 7 → σ.1 a = σ0.1 a) → s + k = N → k < n →
    ∃ τ : gS, mX10_drawn_b111 n σ nmo what z H G (nI last) (nI s) = some (if what = 0 then (lp (smS σ0 f w F W A (gRem nmo 100) (W 0) t (last + 1 - t)) k s (z, H, G)).2.1 else (lp (smS σ0 f w F W A (gRem nmo 100) (W 0) t (last + 1 - t)) k s (z, H, G)).2.2, τ) ∧ km σ τ := by
  intro k
  induction k with
  | zero =>
    intro s σ z H G n hM hV h5 hA hR hs hn
    obtain ⟨n, rfl⟩ : ∃ m, n = m + 1 := ⟨n - 1, by omega⟩
    refine ⟨σ, ?_, km_rf σ⟩
    conv => lhs; unfold mX10_drawn_b111
    rw [hno, if_pos (nI_le (show N ≤ s by omega) (by omega))]
    by_cases h : what = 0
    · rw [if_pos h, if_pos h]; rfl
    · rw [if_neg h, if_neg h]; rfl
  | succ k ih =>
    intro s σ z H G n hM hV h5 hA hR hs hn
    obtain ⟨n, rfl⟩ : ∃ m, n = m + 1 := ⟨n - 1, by omega⟩
    obtain ⟨u, r1, r2, r3⟩ := draw10_loop (σ0 := σ0) (nmo := nmo) (what := what) (s := nI s) (Kc := mX10_drawn_b111 n) hl hS2 hS3 (last + 1 - t) t σ z H G (W 0) 0 1100 hM hV h5 hA hR (by omega) (by omega)
    have row : ∀ a, 2 ≤ a → a ≤ 7 → u.1 a = σ.1 a := fun a x y => r2.1 a (by omega) (by omega) (by omega) (by omega) (by omega) (by omega)
    obtain ⟨τ, q1, q2⟩ := ih (s + 1) u _ _ _ n (Mx_km hM r2) (IV_ks hV (ks_km r2)) ((r2.1 59 (by decide) (by decide) (by decide) (by decide) (by decide) (by decide)).trans h5) (fun j hj => by rw [r3]; exact hA j hj) (fun a x y => by rw [row a x y]; exact hR a x y) (by omega) (by omega)
    refine ⟨τ, ?_, km_tr r2 q2⟩
    rw [lp_succ]
    conv => lhs; unfold mX10_drawn_b111
    rw [hno, if_neg (nI_ge (show s < N by omega) (by omega)), if_pos (by decide), show Int32.toNatClampNeg 0 = 0 from by decide, h5, gl_eq, gl_eq, now_eq, gb_some, gl_eq, h5, hS4, r1]
    unfold mX10_drawn_b262
    rw [gl_eq, nI_1]
    exact q1
