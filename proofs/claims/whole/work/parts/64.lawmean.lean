/-! ===== THE LAW worked out by the reference; no text ===== -/
theorem worked_eq {env : Nat → Int32} {code : List Nat} {p : Nat} {σ : gS} (hx : Ex code) (hr : RepM (σ.1 64) p code) (hn : ∀ j, j < 6 → σ.1 70 j = env j) (hp : p + code.length ≤ 200) : ∃ τ : gS, mX10_worked σ (nI p) (nI (p + code.length)) = some (val env code, τ) ∧ (∀ a, a ≠ 69 → τ.1 a = σ.1 a) ∧ τ.2 = σ.2 := by
  obtain ⟨τ, q1, q2, q3, q4⟩ := wM_run (to := p + code.length) hp code p (1100 - code.length) [] _ σ hr trivial hn (hx env []) (by show 0 + code.length ≤ 200; omega) (Nat.le_refl _)
  refine ⟨τ, ?_, q3, q4⟩
  unfold mX10_worked
  rw [gl_eq, gl_eq]
  rw [show 1100 - code.length + code.length = 1100 by omega] at q1
  refine Eq.trans q1 ?_
  obtain ⟨m, hm⟩ : ∃ m, 1100 - code.length = m + 1 := ⟨1100 - code.length - 1, by omega⟩
  rw [hm]
  conv => lhs; unfold mX10_worked_b5
  rw [if_pos (nI_le (Nat.le_refl _) (by omega)), if_pos (by decide), show Int32.toNatClampNeg 0 = 0 from by decide, show τ.1 69 0 = val env code from q2.1]
theorem change_loop {env : Nat → Int32} {as sa en cd : Nat → Int32} {Q P : Nat} (hQ : Q ≤ 60) (hP : P ≤ 200) : ∀ (ls : List (List Nat × List Nat)) (q p m : Nat) (σ : gS), LinM as sa en cd q p ls Q P → WFl ls → σ.1 61 = as → σ.1 62 = sa → σ.1 63 = en → σ.1 64 = cd → σ.1 52 12 = nI Q → (∀ j, j < 6 → σ.1 70 j = env j) → Q + 1 ≤ m + q →
    ∃ τ : gS, mX10_change_b91 m σ (nI q) = some (gMax (-99) (gMin 99 (lvE env ls)), τ) ∧ (∀ a, a ≠ 69 → τ.1 a = σ.1 a) ∧ τ.2 = σ.2 := by
  intro ls
  induction ls with
  | nil =>
    intro q p m σ h _ e1 e2 e3 e4 e5 hn hm
    obtain ⟨h1, -⟩ := h
    obtain ⟨m, rfl⟩ : ∃ k, m = k + 1 := ⟨m - 1, by omega⟩
    refine ⟨σ, ?_, fun _ _ => rfl, rfl⟩
    conv => lhs; unfold mX10_change_b91
    rw [e5, if_pos (nI_le (show Q ≤ q by omega) (by omega))]
    rfl
  | cons l r ih =>
    intro q p m σ h hW e1 e2 e3 e4 e5 hn hm
    obtain ⟨k1, k2, k3, k4, k5⟩ := h
    obtain ⟨w1, w2⟩ := hW l (List.mem_cons_self ..)
    have hWr : WFl r := fun x hx => hW x (List.mem_cons_of_mem _ hx)
    obtain ⟨hq, hp⟩ := LinM_le r _ _ Q P k5
    obtain ⟨m, rfl⟩ : ∃ k, m = k + 1 := ⟨m - 1, by omega⟩
    have iq : inbB (nI q) 60 = true := inbB_nI (by omega) (by decide)
    have cq : Int32.toNatClampNeg (nI q) = q := nI_cl (by omega)
    obtain ⟨k4a, k4b⟩ := (RepM_app l.1 l.2 p).mp k4
    have fin : ∀ σ2 : gS, σ2.1 62 = sa → σ2.1 63 = en → σ2.1 64 = cd → (∀ j, j < 6 → σ2.1 70 j = env j) → ∃ τ : gS, mX10_change_b141 σ2 (nI q) = some (gMax (-99) (gMin 99 (val env l.2)), τ) ∧ (∀ a, a ≠ 69 → τ.1 a = σ2.1 a) ∧ τ.2 = σ2.2 := fun σ2 y2 y3 y4 yn => by
      obtain ⟨τ, r1, r2, r3⟩ := worked_eq (σ := σ2) (p := p + l.1.length) w2 (by rw [y4]; exact k4b) yn (by omega)
      refine ⟨τ, ?_, r2, r3⟩
      unfold mX10_change_b141
      rw [if_pos iq, if_pos iq, cq, y2, y3, k2, k3, r1, gb_some]
    by_cases hc : l.1 = []
    · obtain ⟨τ, r1, r2, r3⟩ := fin σ e2 e3 e4 hn
      refine ⟨τ, ?_, r2, r3⟩
      conv => lhs; unfold mX10_change_b91
      rw [e5, if_neg (nI_ge (show q < Q by omega) (by omega)), if_pos iq, if_pos iq, cq, e2, e1, k2, k1, if_pos (nI_le (show p + l.1.length ≤ p by rw [hc]; exact Nat.le_refl p) (by omega)), r1]
      show _ = some (gMax (-99) (gMin 99 (if l.1 = [] then val env l.2 else _)), τ)
      rw [if_pos hc]
    · have hex : Ex l.1 := by
        rcases w1 with w1 | w1
        · exact absurd w1 hc
        · exact w1
      have hlen : 0 < l.1.length := by
        cases h : l.1 with
        | nil => exact absurd h hc
        | cons x y => exact Nat.succ_pos _
      obtain ⟨σ2, y1, y2, y3⟩ := worked_eq (σ := σ) (env := env) (p := p) hex (by rw [e4]; exact k4a) hn (by omega)
      have head : ∀ X, (if val env l.1 = 0 then mX10_change_b91 m σ2 (nI (q + 1)) else mX10_change_b141 σ2 (nI q)) = X → mX10_change_b91 (m + 1) σ (nI q) = X := fun X hX => by
        conv => lhs; unfold mX10_change_b91
        rw [e5, if_neg (nI_ge (show q < Q by omega) (by omega)), if_pos iq, if_pos iq, if_pos iq, if_pos iq, cq, e2, e1, k2, k1, if_neg (nI_ge (show p < p + l.1.length by omega) (by omega)), y1, gb_some, gl_eq, nI_1]
        exact hX
      by_cases hv : val env l.1 = 0
      · obtain ⟨τ, r1, r2, r3⟩ := ih (q + 1) _ m σ2 k5 hWr (by rw [y2 61 (by decide)]; exact e1) (by rw [y2 62 (by decide)]; exact e2) (by rw [y2 63 (by decide)]; exact e3) (by rw [y2 64 (by decide)]; exact e4) (by rw [y2 52 (by decide)]; exact e5) (fun j hj => by rw [y2 70 (by decide)]; exact hn j hj) (by omega)
        refine ⟨τ, head _ ?_, fun a ha => by rw [r2 a ha, y2 a ha], by rw [r3, y3]⟩
        rw [if_pos hv, r1]
        show _ = some (gMax (-99) (gMin 99 (if l.1 = [] then _ else if val env l.1 = 0 then lvE env r else _)), τ)
        rw [if_neg hc, if_pos hv]
      · obtain ⟨τ, r1, r2, r3⟩ := fin σ2 (by rw [y2 62 (by decide)]; exact e2) (by rw [y2 63 (by decide)]; exact e3) (by rw [y2 64 (by decide)]; exact e4) (fun j hj => by rw [y2 70 (by decide)]; exact hn j hj)
        refine ⟨τ, head _ ?_, fun a ha => by rw [r2 a ha, y2 a ha], by rw [r3, y3]⟩
        rw [if_neg hv, r1]
        show _ = some (gMax (-99) (gMin 99 (if l.1 = [] then _ else if val env l.1 = 0 then lvE env r else val env l.2)), τ)
        rw [if_neg hc, if_neg hv]
theorem hold_eq (c v : Int32) : gMax 0 (gMin 999 (c + gMax (-99) (gMin 99 v))) = gHold c v := by
  unfold gHold
  rw [gMin_comm 999, gMin_comm 99]
theorem LawM_of {as sa en cd : Nat → Int32} {Q P : Nat} {ls : List (List Nat × List Nat)} (hQ : Q ≤ 60) (hP : P ≤ 200) (h : LinM as sa en cd 0 0 ls Q P) (hW : WFl ls) : LawM 1 (nI Q) as sa en cd (FT ls) := by
  intro τ c l day e1 e2 e3 e4 e5 e6 _ _
  obtain ⟨s, hs⟩ : ∃ s, s = gUI (gUI (gUI (gUI (gUI (gUI τ 70 0 c) 70 1 l) 70 2 (τ.1 59 2)) 70 3 (τ.1 59 3)) 70 4 day) 70 5 (τ.1 59 1) := ⟨_, rfl⟩
  have ne : ∀ a, a ≠ 70 → s.1 a = τ.1 a := fun a ha => by rw [hs, gUI_ne ha, gUI_ne ha, gUI_ne ha, gUI_ne ha, gUI_ne ha, gUI_ne ha]
  have en' : ∀ j, j < 6 → s.1 70 j = env6 c l (τ.1 59 2) (τ.1 59 3) day (τ.1 59 1) j := fun j hj => by
    rw [hs]
    simp only [gUI_at]
    rcases (show j = 0 ∨ j = 1 ∨ j = 2 ∨ j = 3 ∨ j = 4 ∨ j = 5 by omega) with rfl | rfl | rfl | rfl | rfl | rfl <;> rfl
  obtain ⟨υ, r1, r2, r3⟩ := change_loop (env := env6 c l (τ.1 59 2) (τ.1 59 3) day (τ.1 59 1)) hQ hP ls 0 0 1100 s h hW (by rw [ne 61 (by decide)]; exact e3) (by rw [ne 62 (by decide)]; exact e4) (by rw [ne 63 (by decide)]; exact e5) (by rw [ne 64 (by decide)]; exact e6) (by rw [ne 52 (by decide)]; exact e2) en' (by omega)
  refine ⟨υ, ?_, fun a x y => ?_, ?_⟩
  · have hch : mX10_change τ c l day = some (gMax (-99) (gMin 99 (lvE (env6 c l (τ.1 59 2) (τ.1 59 3) day (τ.1 59 1)) ls)), υ) := by
      unfold mX10_change
      rw [e1, if_neg (by decide), if_pos (by decide), gl_eq, if_pos (by decide), gl_eq, if_pos (by decide), if_pos (by decide), gl_eq, if_pos (by decide), if_pos (by decide), gl_eq, if_pos (by decide), gl_eq, if_pos (by decide), if_pos (by decide), gl_eq, gl_eq]
      rw [gUI_ne (show 59 ≠ 70 by decide), gUI_ne (show 59 ≠ 70 by decide), gUI_ne (show 59 ≠ 70 by decide), gUI_ne (show 59 ≠ 70 by decide), gUI_ne (show 59 ≠ 70 by decide), gUI_ne (show 59 ≠ 70 by decide), gUI_ne (show 59 ≠ 70 by decide), gUI_ne (show 59 ≠ 70 by decide), gUI_ne (show 59 ≠ 70 by decide), gUI_ne (show 59 ≠ 70 by decide)]
      refine Eq.trans ?_ r1
      rw [hs]
      rfl
    unfold mX10_nextCold
    rw [hch, gb_some, hold_eq]
    rfl
  · have e : υ.1 a = τ.1 a := by rw [r2 a x, ne a y]
    have e' : υ.2 = τ.2 := by
      rw [r3, hs]; rfl
    exact ⟨e.symm, by rw [e'], by rw [e']⟩
  · rw [r3, hs]; rfl
/-! without a text -/
def FN : gLw := fun _ l g k _ _ => (if l = 0 then g else 0) - k / 2
theorem small : ∀ g, g < 10 → ∀ k, k < 10 → gMax (-99) (gMin (nI g - nI k / 2) 99) = nI g - nI k / 2 ∧ gMax (-99) (gMin (0 - nI k / 2) 99) = 0 - nI k / 2 := by decide +kernel
theorem FN_hold {c l g k d b : Int32} (hg : rg g 0 9) (hk : rg k 0 9) : gHold c (FN c l g k d b) = gMax 0 (gMin (c + FN c l g k d b) 999) := by
  obtain ⟨a, -, ha, rfl⟩ := hg
  obtain ⟨e, -, he, rfl⟩ := hk
  obtain ⟨s1, s2⟩ := small a (by omega) e (by omega)
  unfold gHold FN
  by_cases hl : l = 0
  · rw [if_pos hl, s1]
  · rw [if_neg hl, s2]
theorem LawC_0 {K : Nat} {st de : Nat → Int32} (hK : K = 18 ∨ K = 23) : LawC 0 st de K FN := by
  intro τ q day c l e1 _ _ hq h2 h3
  have gK : gk K = 3 := by rcases hK with rfl | rfl <;> rfl
  refine ⟨τ, ?_, fun a _ _ _ => ag_rf, fun _ _ => rfl, rfl⟩
  unfold mX3_overnight mX3_overnight_b20 mX3_overnight_b47
  rw [if_pos gK, if_pos hq, e1, if_pos rfl, gl_eq, gl_eq, gl_eq, gl_eq]
  unfold gHold FN
  by_cases hl : l = 0
  · rw [if_pos hl, if_pos hl]
  · rw [if_neg hl, if_neg hl]
theorem LawM_0 {ln : Int32} {as sa en cd : Nat → Int32} : LawM 0 ln as sa en cd FN := by
  intro τ c l day e1 _ _ _ _ _ h2 h3
  refine ⟨τ, ?_, fun a _ _ => ag_rf, rfl⟩
  have hh := FN_hold (c := c) (l := l) (d := day) (b := τ.1 59 1) h2 h3
  unfold mX10_nextCold mX10_change mX10_change_b21
  rw [e1, if_pos rfl, hh]
  unfold FN
  by_cases hl : l = 0
  · rw [if_pos hl, if_pos hl, if_pos (by decide), if_pos (by decide), show Int32.toNatClampNeg 2 = 2 from by decide, show Int32.toNatClampNeg 3 = 3 from by decide, gb_some, gMin_comm 999]
  · rw [if_neg hl, if_neg hl, if_pos (by decide), show Int32.toNatClampNeg 3 = 3 from by decide, gb_some, gMin_comm 999]
