/-! ===== act: both recursions side by side ===== -/
abbrev gFr : Type := ((gS → Int32 → Int32 → Int32 → Option (Int32 × gS)) × (gS → Int32 → Int32 → Int32 → Int32 → Option (Int32 × gS)) × (gS → Int32 → Int32 → Int32 → Int32 → Option (Int32 × gS)) × (gS → Int32 → Int32 → Int32 → Int32 → Option (Int32 × gS)))
def ow (k a : Nat) : Nat := ([1, 10, 11, 2, 20, 0, 0, 0, 0, 30, 0, 0, 0, 41, 40, 0, 0, 0, 50, 0, 0, 0, 0, 60, 70, 0, 0, 0, 0, 80, 0, 81] : List Nat).getD (4 * k + a) 0
def ab (k : Nat) : Nat := ([0, 0, 0, 2, 1, 3, 0, 4] : List Nat).getD k 0
theorem ow_tb : ∀ k, k < 8 → ∀ a, a < 4 → gTb 3 (4 * k + a) = nI (ow k a) ∧ ow k a < 100 := by decide +kernel
theorem ab_tb : ∀ k, k < 8 → k ≠ 0 → gTb 2 k = nI (ab k) ∧ ab k < 8 := by decide +kernel
theorem ow_0 : ∀ a, a < 4 → ow 0 a ≠ 0 := by decide
/-- the body that runs, and its kind -/
def fnd : Nat → Nat → Nat → Nat × Nat
  | 0, k, a => (ow k a, k)
  | f + 1, k, a => if ow k a = 0 then fnd f (ab k) a else (ow k a, k)
def hh (k : Nat) : Nat := ([0, 1, 1, 2, 2, 3, 1, 3] : List Nat).getD k 0
theorem hh_ab : ∀ k, k < 8 → k ≠ 0 → hh (ab k) + 1 ≤ hh k := by decide
theorem hh_0 : ∀ k, k < 8 → hh k = 0 → k = 0 := by decide
theorem from_gen {rec : gFr} {a dep : Nat} (ha : a < 4) (hdep : dep < 40) {x : Int32} : ∀ (f k i m : Nat) (σ : gS), k < 8 → hh k ≤ f → i + f < 8 → f < m → mX2_from_b6 rec m σ (nI a) x (nI dep) (nI k) (nI i) = rec.2.2.2 σ (nI (fnd f k a).1) (nI (fnd f k a).2) x (nI (dep + 1)) := by
  intro f
  induction f with
  | zero =>
    intro k i m σ hk hh1 hi hm
    obtain ⟨m, rfl⟩ : ∃ q, m = q + 1 := ⟨m - 1, by omega⟩
    obtain ⟨t1, t2⟩ := ow_tb k hk a ha
    have k0 := hh_0 k hk (by omega)
    have nz : ow k a ≠ 0 := by rw [k0]; exact ow_0 a ha
    conv => lhs; unfold mX2_from_b6
    rw [if_neg (show ¬ (8 : Int32) ≤ nI i from nI_ge (b := 8) (by omega) (by omega)), if_neg (nI_pos (by omega)), show (nI k * 4 + nI a : Int32) = nI (4 * k + a) by rw [show (4 : Int32) = nI 4 from rfl, pk_mul, nI_add, Nat.mul_comm], if_pos (inbB_nI (show 4 * k + a < 32 by omega) (by decide)), nI_cl (by omega), t1, gl_eq, if_neg (nI_ne0 (by omega) (by omega)), if_neg (show ¬ (40 : Int32) ≤ nI dep from nI_ge (b := 40) hdep (by decide)), bind_id, nI_1]
    rfl
  | succ f ih =>
    intro k i m σ hk hh1 hi hm
    obtain ⟨m, rfl⟩ : ∃ q, m = q + 1 := ⟨m - 1, by omega⟩
    obtain ⟨t1, t2⟩ := ow_tb k hk a ha
    conv => lhs; unfold mX2_from_b6
    rw [if_neg (show ¬ (8 : Int32) ≤ nI i from nI_ge (b := 8) (by omega) (by omega)), if_neg (nI_pos (by omega)), show (nI k * 4 + nI a : Int32) = nI (4 * k + a) by rw [show (4 : Int32) = nI 4 from rfl, pk_mul, nI_add, Nat.mul_comm], if_pos (inbB_nI (show 4 * k + a < 32 by omega) (by decide)), nI_cl (show 4 * k + a < 2 ^ 31 by omega), t1, gl_eq]
    have ef : fnd (f + 1) k a = if ow k a = 0 then fnd f (ab k) a else (ow k a, k) := rfl
    by_cases hz : ow k a = 0
    · have hk0 : k ≠ 0 := fun q => by rw [q] at hz; exact ow_0 a ha hz
      obtain ⟨b1, b2⟩ := ab_tb k hk hk0
      have h3 := hh_ab k hk hk0
      rw [hz, if_pos nI_0, if_pos (inbB_nI hk (by decide)), nI_cl (by omega), b1, gl_eq, gl_eq, nI_1, ef, if_pos hz]
      exact ih (ab k) (i + 1) m σ b2 (by omega) (by omega) (by omega)
    · rw [if_neg (nI_ne0 (by omega) (by omega)), if_neg (show ¬ (40 : Int32) ≤ nI dep from nI_ge (b := 40) hdep (by decide)), bind_id, nI_1, ef, if_neg hz]
theorem hh_4 : ∀ k, k < 8 → hh k ≤ 4 := by decide
theorem from_eq {D a k dep : Nat} {σ : gS} {x : Int32} (ha : a < 4) (hk : k < 8) (hdep : dep < 40) : (mgfrost (D + 1)).2.2.1 σ (nI k) (nI a) x (nI dep) = (mgfrost D).2.2.2 σ (nI (fnd 4 k a).1) (nI (fnd 4 k a).2) x (nI (dep + 1)) := by
  show mrX2_from (mgfrost D) σ (nI k) (nI a) x (nI dep) = _
  unfold mrX2_from
  rw [gl_eq, gl_eq]
  exact from_gen ha hdep 4 k 0 1100 σ hk (hh_4 k hk) (by omega) (by omega)
theorem perf_1 (rec : gFr) (σ : gS) (p1 p2 p3 : Int32) : mrX2_perform rec σ (nI 1) p1 p2 p3 = gBind (mX2_leaveTrace σ (nI 1)) (fun _ s2 => some (p2 + (s2.1 36 4), s2)) := by
  unfold mrX2_perform
  simp only [eq_true (show nI 1 = 1 by decide), if_true, if_false]
theorem perf_2 (rec : gFr) (σ : gS) (p1 p2 p3 : Int32) : mrX2_perform rec σ (nI 2) p1 p2 p3 = gBind (mX2_leaveTrace σ (nI 2)) (fun _ s2 => gBind (rec.1 s2 1 p2 p3) (fun r3 s4 => gBind (rec.1 s4 2 1 p3) (fun r5 s6 => some ((r3 - r5), s6)))) := by
  unfold mrX2_perform
  simp only [eq_false (show ¬ nI 2 = 1 by decide), eq_true (show nI 2 = 2 by decide), if_true, if_false]
theorem perf_10 (rec : gFr) (σ : gS) (p1 p2 p3 : Int32) : mrX2_perform rec σ (nI 10) p1 p2 p3 = gBind (mX2_leaveTrace σ (nI 10)) (fun _ s2 => gBind (rec.1 s2 0 p2 p3) (fun r7 s8 => some ((r7 * 2), s8))) := by
  unfold mrX2_perform
  simp only [eq_false (show ¬ nI 10 = 1 by decide), eq_false (show ¬ nI 10 = 2 by decide), eq_true (show nI 10 = 10 by decide), if_true, if_false]
theorem perf_11 (rec : gFr) (σ : gS) (p1 p2 p3 : Int32) : mrX2_perform rec σ (nI 11) p1 p2 p3 = gBind (mX2_leaveTrace σ (nI 11)) (fun _ s2 => some ((p2 ^^^ (s2.1 36 4)), s2)) := by
  unfold mrX2_perform
  simp only [eq_false (show ¬ nI 11 = 1 by decide), eq_false (show ¬ nI 11 = 2 by decide), eq_false (show ¬ nI 11 = 10 by decide), eq_true (show nI 11 = 11 by decide), if_true, if_false]
theorem perf_20 (rec : gFr) (σ : gS) (p1 p2 p3 : Int32) : mrX2_perform rec σ (nI 20) p1 p2 p3 = gBind (mX2_leaveTrace σ (nI 20)) (fun _ s2 => gBind (rec.2.1 s2 p1 0 p2 p3) (fun r9 s10 => some ((r9 + 3), s10))) := by
  unfold mrX2_perform
  simp only [eq_false (show ¬ nI 20 = 1 by decide), eq_false (show ¬ nI 20 = 2 by decide), eq_false (show ¬ nI 20 = 10 by decide), eq_false (show ¬ nI 20 = 11 by decide), eq_true (show nI 20 = 20 by decide), if_true, if_false]
theorem perf_30 (rec : gFr) (σ : gS) (p1 p2 p3 : Int32) : mrX2_perform rec σ (nI 30) p1 p2 p3 = gBind (mX2_leaveTrace σ (nI 30)) (fun _ s2 => gBind (rec.2.1 s2 p1 1 p2 p3) (fun r11 s12 => some ((-r11), s12))) := by
  unfold mrX2_perform
  simp only [eq_false (show ¬ nI 30 = 1 by decide), eq_false (show ¬ nI 30 = 2 by decide), eq_false (show ¬ nI 30 = 10 by decide), eq_false (show ¬ nI 30 = 11 by decide), eq_false (show ¬ nI 30 = 20 by decide), eq_true (show nI 30 = 30 by decide), if_true, if_false]
theorem perf_40 (rec : gFr) (σ : gS) (p1 p2 p3 : Int32) : mrX2_perform rec σ (nI 40) p1 p2 p3 = gBind (mX2_leaveTrace σ (nI 40)) (fun _ s2 => gBind (rec.2.1 s2 p1 2 p2 p3) (fun r13 s14 => some ((r13 * 3), s14))) := by
  unfold mrX2_perform
  simp only [eq_false (show ¬ nI 40 = 1 by decide), eq_false (show ¬ nI 40 = 2 by decide), eq_false (show ¬ nI 40 = 10 by decide), eq_false (show ¬ nI 40 = 11 by decide), eq_false (show ¬ nI 40 = 20 by decide), eq_false (show ¬ nI 40 = 30 by decide), eq_true (show nI 40 = 40 by decide), if_true, if_false]
theorem perf_41 (rec : gFr) (σ : gS) (p1 p2 p3 : Int32) : mrX2_perform rec σ (nI 41) p1 p2 p3 = gBind (mX2_leaveTrace σ (nI 41)) (fun _ s2 => gBind (rec.2.1 s2 p1 1 (p2 + 1) p3) (fun r15 s16 => some (r15, s16))) := by
  unfold mrX2_perform
  simp only [eq_false (show ¬ nI 41 = 1 by decide), eq_false (show ¬ nI 41 = 2 by decide), eq_false (show ¬ nI 41 = 10 by decide), eq_false (show ¬ nI 41 = 11 by decide), eq_false (show ¬ nI 41 = 20 by decide), eq_false (show ¬ nI 41 = 30 by decide), eq_false (show ¬ nI 41 = 40 by decide), eq_true (show nI 41 = 41 by decide), if_true, if_false]
theorem perf_50 (rec : gFr) (σ : gS) (p1 p2 p3 : Int32) : mrX2_perform rec σ (nI 50) p1 p2 p3 = gBind (mX2_leaveTrace σ (nI 50)) (fun _ s2 => gBind (rec.2.1 s2 p1 2 p2 p3) (fun r17 s18 => gBind (rec.1 s18 0 2 p3) (fun r19 s20 => some ((r17 - r19), s20)))) := by
  unfold mrX2_perform
  simp only [eq_false (show ¬ nI 50 = 1 by decide), eq_false (show ¬ nI 50 = 2 by decide), eq_false (show ¬ nI 50 = 10 by decide), eq_false (show ¬ nI 50 = 11 by decide), eq_false (show ¬ nI 50 = 20 by decide), eq_false (show ¬ nI 50 = 30 by decide), eq_false (show ¬ nI 50 = 40 by decide), eq_false (show ¬ nI 50 = 41 by decide), eq_true (show nI 50 = 50 by decide), if_true, if_false]
theorem perf_60 (rec : gFr) (σ : gS) (p1 p2 p3 : Int32) : mrX2_perform rec σ (nI 60) p1 p2 p3 = gBind (mX2_leaveTrace σ (nI 60)) (fun _ s2 => gBind (rec.2.1 s2 p1 3 p2 p3) (fun r21 s22 => some ((r21 ^^^ 5), s22))) := by
  unfold mrX2_perform
  simp only [eq_false (show ¬ nI 60 = 1 by decide), eq_false (show ¬ nI 60 = 2 by decide), eq_false (show ¬ nI 60 = 10 by decide), eq_false (show ¬ nI 60 = 11 by decide), eq_false (show ¬ nI 60 = 20 by decide), eq_false (show ¬ nI 60 = 30 by decide), eq_false (show ¬ nI 60 = 40 by decide), eq_false (show ¬ nI 60 = 41 by decide), eq_false (show ¬ nI 60 = 50 by decide), eq_true (show nI 60 = 60 by decide), if_true, if_false]
theorem perf_70 (rec : gFr) (σ : gS) (p1 p2 p3 : Int32) : mrX2_perform rec σ (nI 70) p1 p2 p3 = gBind (mX2_leaveTrace σ (nI 70)) (fun _ s2 => gBind (rec.2.1 s2 p1 0 p2 p3) (fun r23 s24 => some ((r23 * 2), s24))) := by
  unfold mrX2_perform
  simp only [eq_false (show ¬ nI 70 = 1 by decide), eq_false (show ¬ nI 70 = 2 by decide), eq_false (show ¬ nI 70 = 10 by decide), eq_false (show ¬ nI 70 = 11 by decide), eq_false (show ¬ nI 70 = 20 by decide), eq_false (show ¬ nI 70 = 30 by decide), eq_false (show ¬ nI 70 = 40 by decide), eq_false (show ¬ nI 70 = 41 by decide), eq_false (show ¬ nI 70 = 50 by decide), eq_false (show ¬ nI 70 = 60 by decide), eq_true (show nI 70 = 70 by decide), if_true, if_false]
theorem perf_80 (rec : gFr) (σ : gS) (p1 p2 p3 : Int32) : mrX2_perform rec σ (nI 80) p1 p2 p3 = gBind (mX2_leaveTrace σ (nI 80)) (fun _ s2 => gBind (rec.2.1 s2 p1 1 p2 p3) (fun r25 s26 => gBind (rec.1 s26 2 2 p3) (fun r27 s28 => some ((r25 + r27), s28)))) := by
  unfold mrX2_perform
  simp only [eq_false (show ¬ nI 80 = 1 by decide), eq_false (show ¬ nI 80 = 2 by decide), eq_false (show ¬ nI 80 = 10 by decide), eq_false (show ¬ nI 80 = 11 by decide), eq_false (show ¬ nI 80 = 20 by decide), eq_false (show ¬ nI 80 = 30 by decide), eq_false (show ¬ nI 80 = 40 by decide), eq_false (show ¬ nI 80 = 41 by decide), eq_false (show ¬ nI 80 = 50 by decide), eq_false (show ¬ nI 80 = 60 by decide), eq_false (show ¬ nI 80 = 70 by decide), eq_true (show nI 80 = 80 by decide), if_true, if_false]
theorem perf_81 (rec : gFr) (σ : gS) (p1 p2 p3 : Int32) : mrX2_perform rec σ (nI 81) p1 p2 p3 = gBind (mX2_leaveTrace σ (nI 81)) (fun _ s2 => gBind (rec.2.1 s2 p1 3 p2 p3) (fun r29 s30 => some ((r29 - 1), s30))) := by
  unfold mrX2_perform
  simp only [eq_false (show ¬ nI 81 = 1 by decide), eq_false (show ¬ nI 81 = 2 by decide), eq_false (show ¬ nI 81 = 10 by decide), eq_false (show ¬ nI 81 = 11 by decide), eq_false (show ¬ nI 81 = 20 by decide), eq_false (show ¬ nI 81 = 30 by decide), eq_false (show ¬ nI 81 = 40 by decide), eq_false (show ¬ nI 81 = 41 by decide), eq_false (show ¬ nI 81 = 50 by decide), eq_false (show ¬ nI 81 = 60 by decide), eq_false (show ¬ nI 81 = 70 by decide), eq_false (show ¬ nI 81 = 80 by decide), eq_true (show nI 81 = 81 by decide), if_true, if_false]
/-- both sides of an act under way: body n of kind q, r bodies ran -/
def AR (b n q r : Nat) (σ υ : gS) : Prop := b ≤ 50 ∧ n < b ∧ q < 8 ∧ σ.1 36 0 = nI b ∧ σ.1 36 4 = nI n ∧ σ.1 37 n = nI q ∧ υ.1 74 n = nI q ∧ σ.1 36 3 = nI r ∧ υ.1 52 35 = nI r ∧ ∀ j, j < 24 → j < r → υ.1 75 j = σ.1 38 j
def fA (σ τ : gS) : Prop := (∀ a, a ≠ 36 → a ≠ 38 → τ.1 a = σ.1 a) ∧ (∀ j, j ≠ 3 → τ.1 36 j = σ.1 36 j) ∧ τ.2 = σ.2
def fB (σ τ : gS) : Prop := (∀ a, a ≠ 52 → a ≠ 75 → τ.1 a = σ.1 a) ∧ (∀ j, j ≠ 35 → τ.1 52 j = σ.1 52 j) ∧ τ.2 = σ.2
theorem fA_tr {σ τ υ : gS} (h : fA σ τ) (k : fA τ υ) : fA σ υ := ⟨fun a x1 x2 => (k.1 a x1 x2).trans (h.1 a x1 x2), fun j hj => (k.2.1 j hj).trans (h.2.1 j hj), k.2.2.trans h.2.2⟩
theorem fB_tr {σ τ υ : gS} (h : fB σ τ) (k : fB τ υ) : fB σ υ := ⟨fun a x1 x2 => (k.1 a x1 x2).trans (h.1 a x1 x2), fun j hj => (k.2.1 j hj).trans (h.2.1 j hj), k.2.2.trans h.2.2⟩
theorem fA_rf (σ : gS) : fA σ σ := ⟨fun _ _ _ => rfl, fun _ _ => rfl, rfl⟩
theorem fB_rf (σ : gS) : fB σ σ := ⟨fun _ _ _ => rfl, fun _ _ => rfl, rfl⟩
theorem tr_both {b n q r : Nat} {σ υ : gS} (h : AR b n q r σ υ) (hr : r < 1000) (t : Int32) : ∃ σ' υ' : gS, mX2_leaveTrace σ t = some ((), σ') ∧ mX10_ran υ t = some ((), υ') ∧ AR b n q (r + 1) σ' υ' ∧ fA σ σ' ∧ fB υ υ' := by
  obtain ⟨h1, h2, h3, h4, h5, h6, h7, h8, h9, h10⟩ := h
  by_cases h24 : 24 ≤ r
  · have l : (24 : Int32) ≤ nI r := nI_le (a := 24) h24 (by omega)
    refine ⟨gUI σ 36 3 (nI (r + 1)), gUI υ 52 35 (nI (r + 1)), ?_, ?_, ⟨h1, h2, h3, ?_, ?_, ?_, ?_, ?_, ?_, fun j x y => ?_⟩, ⟨fun a x1 x2 => gUI_ne x1, fun j hj => by rw [gUI_at, if_neg hj], rfl⟩, ⟨fun a x1 x2 => gUI_ne x1, fun j hj => by rw [gUI_at, if_neg hj], rfl⟩⟩
    · unfold mX2_leaveTrace mX2_leaveTrace_b19
      rw [h8, if_pos l, gl_eq, nI_1]
    · unfold mX10_ran mX10_ran_b19
      rw [h9, if_pos l, gl_eq, nI_1]
    · rw [gUI_at, if_neg (by decide)]; exact h4
    · rw [gUI_at, if_neg (by decide)]; exact h5
    · rw [gUI_ne (by decide)]; exact h6
    · rw [gUI_ne (by decide)]; exact h7
    · rw [gUI_at, if_pos rfl]
    · rw [gUI_at, if_pos rfl]
    · rw [gUI_ne (by decide), gUI_ne (by decide)]; exact h10 j x (by omega)
  · have l : ¬ (24 : Int32) ≤ nI r := nI_ge (b := 24) (by omega) (by omega)
    have ir : inbB (nI r) 24 = true := inbB_nI (by omega) (by decide)
    refine ⟨gUI (gUI σ 38 r t) 36 3 (nI (r + 1)), gUI (gUI υ 75 r t) 52 35 (nI (r + 1)), ?_, ?_, ⟨h1, h2, h3, ?_, ?_, ?_, ?_, ?_, ?_, fun j x y => ?_⟩, ⟨fun a x1 x2 => by rw [gUI_ne x1, gUI_ne x2], fun j hj => by rw [gUI_at, if_neg hj, gUI_ne (by decide)], rfl⟩, ⟨fun a x1 x2 => by rw [gUI_ne x1, gUI_ne x2], fun j hj => by rw [gUI_at, if_neg hj, gUI_ne (by decide)], rfl⟩⟩
    · unfold mX2_leaveTrace mX2_leaveTrace_b19
      rw [h8, if_neg l, if_pos ir, nI_cl (by omega), gl_eq, gl_eq, gUI_ne (show 36 ≠ 38 by decide), h8, nI_1]
    · unfold mX10_ran mX10_ran_b19
      rw [h9, if_neg l, if_pos ir, nI_cl (by omega), gl_eq, gl_eq, gUI_ne (show 52 ≠ 75 by decide), h9, nI_1]
    · rw [gUI_at, if_neg (by decide), gUI_ne (by decide)]; exact h4
    · rw [gUI_at, if_neg (by decide), gUI_ne (by decide)]; exact h5
    · rw [gUI_ne (by decide), gUI_ne (by decide)]; exact h6
    · rw [gUI_ne (by decide), gUI_ne (by decide)]; exact h7
    · rw [gUI_at, if_pos rfl]
    · rw [gUI_at, if_pos rfl]
    · rw [gUI_ne (by decide), gUI_at, gUI_ne (by decide), gUI_at]
      by_cases hj : j = r
      · rw [if_pos hj, if_pos hj]
      · rw [if_neg hj, if_neg hj]; exact h10 j x (by omega)
/-- both calls answer alike from any two such states, and at most so many bodies run -/
def PF (b n q cost : Nat) (c9 c10 : gS → Option (Int32 × gS)) : Prop := ∀ (σ υ : gS) (r : Nat), AR b n q r σ υ → r + cost ≤ 900 → ∃ (v : Int32) (r' : Nat) (σ' υ' : gS), c9 σ = some (v, σ') ∧ c10 υ = some (v, υ') ∧ AR b n q r' σ' υ' ∧ r' ≤ r + cost ∧ fA σ σ' ∧ fB υ υ'
theorem PF_conv {b n q c c' : Nat} {c9 c10 d9 d10 : gS → Option (Int32 × gS)} (h : PF b n q c c9 c10) (hc : c ≤ c') (h9 : ∀ σ υ r, AR b n q r σ υ → d9 σ = c9 σ) (h10 : ∀ σ υ r, AR b n q r σ υ → d10 υ = c10 υ) : PF b n q c' d9 d10 := by
  intro σ υ r hA hr
  obtain ⟨v, r', σ', υ', p1, p2, p3, p4, p5, p6⟩ := h σ υ r hA (by omega)
  exact ⟨v, r', σ', υ', (h9 σ υ r hA).trans p1, (h10 σ υ r hA).trans p2, p3, by omega, p5, p6⟩
theorem PF_self {b n q : Nat} (g : Int32 → Int32) : PF b n q 0 (fun s => some (g (s.1 36 4), s)) (fun s => some (g (nI n), s)) := by
  intro σ υ r hA hr
  refine ⟨g (nI n), r, σ, υ, ?_, rfl, hA, Nat.le_refl r, fA_rf σ, fB_rf υ⟩
  show some (g (σ.1 36 4), σ) = _
  rw [hA.2.2.2.2.1]
theorem PF_tr {b n q c : Nat} {c9 c10 : gS → Option (Int32 × gS)} (t : Int32) (h : PF b n q c c9 c10) : PF b n q (c + 1) (fun σ => gBind (mX2_leaveTrace σ t) (fun _ s => c9 s)) (fun υ => gBind (mX10_ran υ t) (fun _ s => c10 s)) := by
  intro σ υ r hA hr
  obtain ⟨σ1, υ1, t1, t2, t3, t4, t5⟩ := tr_both hA (by omega) t
  obtain ⟨v, r', σ', υ', p1, p2, p3, p4, p5, p6⟩ := h σ1 υ1 (r + 1) t3 (by omega)
  refine ⟨v, r', σ', υ', ?_, ?_, p3, by omega, fA_tr t4 p5, fB_tr t5 p6⟩
  · show gBind (mX2_leaveTrace σ t) _ = _
    rw [t1, gb_some]; exact p1
  · show gBind (mX10_ran υ t) _ = _
    rw [t2, gb_some]; exact p2
theorem PF_map {b n q c : Nat} {c9 c10 : gS → Option (Int32 × gS)} (g : Int32 → Int32) (h : PF b n q c c9 c10) : PF b n q c (fun σ => gBind (c9 σ) (fun r s => some (g r, s))) (fun υ => gBind (c10 υ) (fun r s => some (g r, s))) := by
  intro σ υ r hA hr
  obtain ⟨v, r', σ', υ', p1, p2, p3, p4, p5, p6⟩ := h σ υ r hA hr
  refine ⟨g v, r', σ', υ', ?_, ?_, p3, p4, p5, p6⟩
  · show gBind (c9 σ) _ = _
    rw [p1, gb_some]
  · show gBind (c10 υ) _ = _
    rw [p2, gb_some]
theorem PF_two {b n q c e : Nat} {c9 c10 e9 e10 : gS → Option (Int32 × gS)} (g : Int32 → Int32 → Int32) (h : PF b n q c c9 c10) (k : PF b n q e e9 e10) : PF b n q (c + e) (fun σ => gBind (c9 σ) (fun r s => gBind (e9 s) (fun r2 s2 => some (g r r2, s2)))) (fun υ => gBind (c10 υ) (fun r s => gBind (e10 s) (fun r2 s2 => some (g r r2, s2)))) := by
  intro σ υ r hA hr
  obtain ⟨v, r', σ', υ', p1, p2, p3, p4, p5, p6⟩ := h σ υ r hA (by omega)
  obtain ⟨v2, r2, σ2, υ2, q1, q2, q3, q4, q5, q6⟩ := k σ' υ' r' p3 (by omega)
  refine ⟨g v v2, r2, σ2, υ2, ?_, ?_, q3, by omega, fA_tr p5 q5, fB_tr p6 q6⟩
  · show gBind (c9 σ) _ = _
    rw [p1, gb_some]
    show gBind (e9 σ') _ = _
    rw [q1, gb_some]
  · show gBind (c10 υ) _ = _
    rw [p2, gb_some]
    show gBind (e10 υ') _ = _
    rw [q2, gb_some]
theorem own9 {b n q r D : Nat} {σ υ : gS} (hA : AR b n q r σ υ) (a y dep : Int32) : (mgfrost (D + 1)).1 σ a y dep = (mgfrost D).2.2.1 σ (nI q) a y dep := by
  obtain ⟨h1, h2, h3, h4, h5, h6, -⟩ := hA
  show mrX2_own (mgfrost D) σ a y dep = _
  unfold mrX2_own
  rw [h5, kindOf_eq h1 h4 h2, gb_some, h6, bind_id]
theorem above9 {D k : Nat} (hk : k < 8) (h0 : k ≠ 0) (σ : gS) (a y dep : Int32) : (mgfrost (D + 1)).2.1 σ (nI k) a y dep = (mgfrost D).2.2.1 σ (nI (ab k)) a y dep := by
  show mrX2_above (mgfrost D) σ (nI k) a y dep = _
  unfold mrX2_above
  rw [if_neg (nI_pos (by omega)), if_neg (show ¬ (8 : Int32) ≤ nI k from nI_ge (b := 8) hk (by decide)), if_pos (inbB_nI hk (by decide)), nI_cl (by omega), (ab_tb k hk h0).1, bind_id]
theorem above10 {k : Nat} (hk : k < 8) (h0 : k ≠ 0) (σ : gS) : mX10_above σ (nI k) = some (nI (ab k), σ) := by
  rw [above_eq σ (by omega) h0, (ab_tb k hk h0).1]
