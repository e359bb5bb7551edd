/-! ===== THE LAW worked out: whole codes, lines, texts ===== -/
theorem op1_len {env : Nat → Int32} {c : Nat} {s t : List Int32} (h : op1 env c s = some t) : t.length ≤ s.length + 1 := by
  unfold op1 at h
  by_cases h6 : c < 6
  · rw [if_pos h6] at h
    rw [← Option.some.inj h]
    exact Nat.le_refl _
  · rw [if_neg h6] at h
    by_cases h18 : 18 ≤ c
    · rw [if_pos h18] at h
      rw [← Option.some.inj h]
      exact Nat.le_refl _
    · rw [if_neg h18] at h
      by_cases h16 : c = 16
      · rw [if_pos h16] at h
        cases s with
        | nil => cases h
        | cons x r =>
          rw [← Option.some.inj h]
          show r.length + 1 ≤ r.length + 1 + 1
          omega
      · rw [if_neg h16] at h
        by_cases h17 : c = 17
        · rw [if_pos h17] at h
          cases s with
          | nil => cases h
          | cons x r =>
            rw [← Option.some.inj h]
            show r.length + 1 ≤ r.length + 1 + 1
            omega
        · rw [if_neg h17] at h
          cases s with
          | nil => cases h
          | cons y r0 =>
            cases r0 with
            | nil => cases h
            | cons x r =>
              rw [← Option.some.inj h]
              show r.length + 1 ≤ r.length + 1 + 1 + 1
              omega
theorem wC_run {K z : Nat} (hK : gk K = 3) (hz : z ≤ 121) {env : Nat → Int32} : ∀ (code : List Nat) (i m : Nat) (s s' : List Int32) (σ : gS) (x4 : Int32), RepC (σ.1 (K + 1)) (σ.1 (K + 2)) i code → σ.1 K 2 = nI z → i + code.length ≤ z → StC K s σ → (∀ j, j < 6 → σ.1 (K + 4) j = env j) → ev env code s = some s' → s.length + code.length ≤ 120 →
    ∃ τ : gS, mX3_workOut_b9 K (m + code.length) σ x4 (nI i) = mX3_workOut_b9 K m τ x4 (nI (i + code.length)) ∧ StC K s' τ ∧ fW K σ τ := by
  intro code
  induction code with
  | nil =>
    intro i m s s' σ x4 _ _ _ hs _ he _
    obtain rfl := Option.some.inj he
    exact ⟨σ, rfl, hs, fW_rf K σ⟩
  | cons c r ih =>
    intro i m s s' σ x4 hr h2 hi hs hn he hl
    have hll : (c :: r).length = r.length + 1 := rfl
    obtain ⟨k1, k2, k3⟩ := hr
    cases ho : op1 env c s with
    | none =>
      have : ev env (c :: r) s = none := by
        show (op1 env c s).bind _ = none
        rw [ho]; rfl
      rw [this] at he
      cases he
    | some t =>
      have he' : ev env r t = some s' := by
        have e : ev env (c :: r) s = ev env r t := by
          show (op1 env c s).bind _ = _
          rw [ho]; rfl
        rw [← e]; exact he
      have hlen := op1_len ho
      obtain ⟨σ1, p1, p2, p3⟩ := step_eq hK hs (by omega) hn ho
      obtain ⟨τ, q1, q2, q3⟩ := ih (i + 1) m t s' σ1 x4 (by rw [p3.1 (K + 1) (by omega) (by omega), p3.1 (K + 2) (by omega) (by omega)]; exact k3) ((p3.2.1 2 (by decide)).trans h2) (by omega) p2 (fun j hj => by rw [p3.1 (K + 4) (by omega) (by omega)]; exact hn j hj) he' (by omega)
      refine ⟨τ, ?_, q2, fW_tr p3 q3⟩
      have i121 : inbB (nI i) 121 = true := inbB_nI (by omega) (by decide)
      rw [hll, show m + (r.length + 1) = (m + r.length) + 1 by omega]
      conv => lhs; unfold mX3_workOut_b9
      rw [h2, if_neg (nI_ge (show i < z by omega) (by omega)), if_pos i121, nI_cl (by omega), k1, gl_eq, if_neg (oC_ne c).1, if_neg (oC_ne c).2, if_pos i121, k2, p1, gb_some]
      unfold mX3_workOut_b81
      rw [gl_eq, nI_1, q1, show i + (r.length + 1) = i + 1 + r.length by omega]
def LinC (st de : Nat → Int32) : Nat → List (List Nat × List Nat) → Nat → Prop
  | i, [], z => i = z
  | i, l :: r, z => (l.1 = [] ∧ RepC st de i l.2 ∧ st (i + l.2.length) = 59 ∧ LinC st de (i + l.2.length + 1) r z) ∨ (l.1 ≠ [] ∧ RepC st de i l.1 ∧ st (i + l.1.length) = 63 ∧ RepC st de (i + l.1.length + 1) l.2 ∧ st (i + l.1.length + 1 + l.2.length) = 59 ∧ LinC st de (i + l.1.length + 1 + l.2.length + 1) r z)
theorem LinC_le {st de : Nat → Int32} : ∀ (ls : List (List Nat × List Nat)) (i z : Nat), LinC st de i ls z → i ≤ z
  | [], i, z, h => Nat.le_of_eq h
  | l :: r, i, z, h => by
    rcases h with ⟨_, _, _, h⟩ | ⟨_, _, _, _, _, h⟩
    · have := LinC_le r _ z h
      omega
    · have := LinC_le r _ z h
      omega
def LinM (as sa en cd : Nat → Int32) : Nat → Nat → List (List Nat × List Nat) → Nat → Nat → Prop
  | q, p, [], Q, P => q = Q ∧ p = P
  | q, p, l :: r, Q, P => as q = nI p ∧ sa q = nI (p + l.1.length) ∧ en q = nI (p + l.1.length + l.2.length) ∧ RepM cd p (l.1 ++ l.2) ∧ LinM as sa en cd (q + 1) (p + l.1.length + l.2.length) r Q P
theorem LinM_le {as sa en cd : Nat → Int32} : ∀ (ls : List (List Nat × List Nat)) (q p Q P : Nat), LinM as sa en cd q p ls Q P → q ≤ Q ∧ p ≤ P
  | [], q, p, Q, P, h => ⟨Nat.le_of_eq h.1, Nat.le_of_eq h.2⟩
  | l :: r, q, p, Q, P, h => by
    have := LinM_le r _ _ Q P h.2.2.2.2
    omega
def lvE (env : Nat → Int32) : List (List Nat × List Nat) → Int32
  | [] => 0
  | l :: r => if l.1 = [] then val env l.2 else if val env l.1 = 0 then lvE env r else val env l.2
def WFl (ls : List (List Nat × List Nat)) : Prop := ∀ l, l ∈ ls → (l.1 = [] ∨ Ex l.1) ∧ Ex l.2
theorem wC_lines {K z : Nat} (hK : gk K = 3) (hz : z ≤ 121) {env : Nat → Int32} : ∀ (ls : List (List Nat × List Nat)) (i m : Nat) (σ : gS), LinC (σ.1 (K + 1)) (σ.1 (K + 2)) i ls z → WFl ls → σ.1 K 2 = nI z → StC K [] σ → (∀ j, j < 6 → σ.1 (K + 4) j = env j) → z + 1 ≤ m + i →
    ∃ τ : gS, mX3_workOut_b9 K m σ 1 (nI i) = some (lvE env ls, τ) ∧ fW K σ τ := by
  intro ls
  induction ls with
  | nil =>
    intro i m σ h _ h2 _ _ hm
    have hiz : i = z := h
    obtain ⟨m, rfl⟩ : ∃ q, m = q + 1 := ⟨m - 1, by omega⟩
    refine ⟨σ, ?_, fW_rf K σ⟩
    conv => lhs; unfold mX3_workOut_b9
    rw [h2, if_pos (nI_le (show z ≤ i by omega) (by omega))]
    rfl
  | cons l r ih =>
    intro i m σ h hW h2 hs hn hm
    obtain ⟨w1, w2⟩ := hW l (List.mem_cons_self ..)
    have hWr : WFl r := fun x hx => hW x (List.mem_cons_of_mem _ hx)
    rcases h with ⟨c0, k1, k2, k3⟩ | ⟨c0, k0, k1, k2, k3, k4⟩
    · have hle := LinC_le r _ z k3
      obtain ⟨m', rfl⟩ : ∃ q, m = q + 1 + l.2.length := ⟨m - l.2.length - 1, by omega⟩
      obtain ⟨σ1, p1, p2, p3⟩ := wC_run hK (show z ≤ 121 by omega) l.2 i (m' + 1) [] _ σ 1 k1 h2 (by omega) hs hn (w2 env []) (by show 0 + l.2.length ≤ 120; omega)
      obtain ⟨τ, q1, q2, q3⟩ := pop_eq hK p2 (by decide)
      refine ⟨τ, ?_, fW_tr p3 q3⟩
      have iz : inbB (nI (i + l.2.length)) 121 = true := inbB_nI (by omega) (by decide)
      rw [p1]
      conv => lhs; unfold mX3_workOut_b9
      rw [p3.2.1 2 (by decide), h2, if_neg (nI_ge (show i + l.2.length < z by omega) (by omega)), if_pos iz, nI_cl (by omega), p3.1 (K + 1) (by omega) (by omega), k2, gl_eq, if_neg (by decide), if_pos rfl, q1, gb_some, gl_eq, if_neg (by decide)]
      show _ = some (if l.1 = [] then val env l.2 else _, τ)
      rw [if_pos c0]
    · have hle := LinC_le r _ z k4
      have hex : Ex l.1 := by
        rcases w1 with w1 | w1
        · exact absurd w1 c0
        · exact w1
      obtain ⟨m', rfl⟩ : ∃ q, m = ((q + 1) + l.2.length + 1) + l.1.length := ⟨m - l.1.length - 1 - l.2.length - 1, by omega⟩
      obtain ⟨σ1, p1, p2, p3⟩ := wC_run hK (show z ≤ 121 by omega) l.1 i ((m' + 1) + l.2.length + 1) [] _ σ 1 k0 h2 (by omega) hs hn (hex env []) (by show 0 + l.1.length ≤ 120; omega)
      obtain ⟨σ2, q1, q2, q3⟩ := pop_eq hK p2 (by decide)
      have f2 := fW_tr p3 q3
      have iz : inbB (nI (i + l.1.length)) 121 = true := inbB_nI (by omega) (by decide)
      have iz2 : inbB (nI (i + l.1.length + 1 + l.2.length)) 121 = true := inbB_nI (by omega) (by decide)
      have mid : ∀ x4 : Int32, ∃ σ4 : gS, mX3_workOut_b9 K ((m' + 1) + l.2.length) σ2 x4 (nI (i + l.1.length + 1)) = (if x4 = 0 then mX3_workOut_b9 K m' σ4 1 (nI (i + l.1.length + 1 + l.2.length + 1)) else some (val env l.2, σ4)) ∧ StC K [] σ4 ∧ fW K σ σ4 := fun x4 => by
        obtain ⟨σ3, y1, y2, y3⟩ := wC_run hK (show z ≤ 121 by omega) l.2 (i + l.1.length + 1) (m' + 1) [] _ σ2 x4 (by rw [f2.1 (K + 1) (by omega) (by omega), f2.1 (K + 2) (by omega) (by omega)]; exact k2) ((f2.2.1 2 (by decide)).trans h2) (by omega) q2 (fun j hj => by rw [f2.1 (K + 4) (by omega) (by omega)]; exact hn j hj) (w2 env []) (by show 0 + l.2.length ≤ 120; omega)
        obtain ⟨σ4, x1, x2, x3⟩ := pop_eq hK y2 (by decide)
        have f3 := fW_tr f2 y3
        refine ⟨σ4, ?_, x2, fW_tr f3 x3⟩
        rw [y1]
        conv => lhs; unfold mX3_workOut_b9
        rw [f3.2.1 2 (by decide), h2, if_neg (nI_ge (show i + l.1.length + 1 + l.2.length < z by omega) (by omega)), if_pos iz2, nI_cl (by omega), f3.1 (K + 1) (by omega) (by omega), k3, gl_eq, if_neg (by decide), if_pos rfl, x1, gb_some, gl_eq]
        by_cases hx : x4 = 0
        · rw [if_pos hx, if_pos hx, gl_eq]
          unfold mX3_workOut_b81
          rw [gl_eq, nI_1]
        · rw [if_neg hx, if_neg hx]
      have head : ∀ X, (if val env l.1 = 0 then mX3_workOut_b9 K ((m' + 1) + l.2.length) σ2 0 (nI (i + l.1.length + 1)) else mX3_workOut_b9 K ((m' + 1) + l.2.length) σ2 1 (nI (i + l.1.length + 1))) = X → mX3_workOut_b9 K (((m' + 1) + l.2.length + 1) + l.1.length) σ 1 (nI i) = X := fun X hX => by
        rw [p1]
        conv => lhs; unfold mX3_workOut_b9
        rw [p3.2.1 2 (by decide), h2, if_neg (nI_ge (show i + l.1.length < z by omega) (by omega)), if_pos iz, nI_cl (by omega), p3.1 (K + 1) (by omega) (by omega), k1, gl_eq, if_pos rfl, q1, gb_some]
        unfold mX3_workOut_b42 mX3_workOut_b81
        rw [gl_eq, gl_eq, gl_eq, gl_eq, nI_1]
        exact hX
      by_cases hv : val env l.1 = 0
      · obtain ⟨σ4, y1, y2, y3⟩ := mid 0
        obtain ⟨τ, x1, x2⟩ := ih (i + l.1.length + 1 + l.2.length + 1) m' σ4 (by rw [y3.1 (K + 1) (by omega) (by omega), y3.1 (K + 2) (by omega) (by omega)]; exact k4) hWr ((y3.2.1 2 (by decide)).trans h2) y2 (fun j hj => by rw [y3.1 (K + 4) (by omega) (by omega)]; exact hn j hj) (by omega)
        refine ⟨τ, head _ ?_, fW_tr y3 x2⟩
        rw [if_pos hv, y1, if_pos rfl, x1]
        show _ = some (if l.1 = [] then _ else if val env l.1 = 0 then lvE env r else _, τ)
        rw [if_neg c0, if_pos hv]
      · obtain ⟨σ4, y1, y2, y3⟩ := mid 1
        refine ⟨σ4, head _ ?_, y3⟩
        rw [if_neg hv, y1, if_neg (by decide)]
        show _ = some (if l.1 = [] then _ else if val env l.1 = 0 then lvE env r else val env l.2, σ4)
        rw [if_neg c0, if_neg hv]
def env6 (c l g k d b : Int32) (j : Nat) : Int32 := ([c, l, g, k, d, b] : List Int32).getD j 0
def FT (ls : List (List Nat × List Nat)) : gLw := fun c l g k d b => lvE (env6 c l g k d b) ls
theorem LawC_of {K z : Nat} {st de : Nat → Int32} {ls : List (List Nat × List Nat)} (hK : K = 18 ∨ K = 23) (hz : z ≤ 121) (hz0 : 0 < z) (h : LinC st de 0 ls z) (hW : WFl ls) : LawC (nI z) st de K (FT ls) := by
  intro τ q day c l e1 e2 e3 hq _ _
  have gK : gk K = 3 := by rcases hK with rfl | rfl <;> rfl
  have qK : q ≠ K ∧ q ≠ K + 4 := by
    constructor
    · intro e; rw [e, gK] at hq; cases hq
    · intro e
      rw [e] at hq
      rcases hK with rfl | rfl <;> cases hq
  obtain ⟨s, hs⟩ : ∃ s, s = gUI (gUI (gUI (gUI (gUI (gUI τ (K + 4) 0 c) (K + 4) 1 l) (K + 4) 2 (τ.1 q 2)) (K + 4) 3 (τ.1 q 3)) (K + 4) 4 day) (K + 4) 5 (τ.1 q 1) := ⟨_, rfl⟩
  have tn : mX3_tellNames τ K q day c l = some ((), s) := by
    unfold mX3_tellNames
    rw [if_pos gK, if_pos hq, if_pos (by decide), gl_eq, if_pos (by decide), gl_eq, if_pos (by decide), gl_eq, if_pos (by decide), gl_eq, if_pos (by decide), gl_eq, if_pos (by decide), gl_eq]
    rw [gUI_ne qK.2, gUI_ne qK.2, gUI_ne qK.2, gUI_ne qK.2, gUI_ne qK.2, gUI_ne qK.2, gUI_ne qK.2, gUI_ne qK.2, gUI_ne qK.2, gUI_ne qK.2, hs]
    rfl
  have ne4 : ∀ a, a ≠ K + 4 → s.1 a = τ.1 a := fun a ha => by rw [hs, gUI_ne ha, gUI_ne ha, gUI_ne ha, gUI_ne ha, gUI_ne ha, gUI_ne ha]
  have en : ∀ j, j < 6 → s.1 (K + 4) j = env6 c l (τ.1 q 2) (τ.1 q 3) day (τ.1 q 1) j := fun j hj => by
    rw [hs]
    simp only [gUI_at]
    rcases (show j = 0 ∨ j = 1 ∨ j = 2 ∨ j = 3 ∨ j = 4 ∨ j = 5 by omega) with rfl | rfl | rfl | rfl | rfl | rfl <;> rfl
  have s2 : (gUI s K 4 0).1 K 2 = nI z := by rw [gUI_at, if_neg (by decide), ne4 K (by omega)]; exact e1
  obtain ⟨υ, r1, r2⟩ := wC_lines (env := env6 c l (τ.1 q 2) (τ.1 q 3) day (τ.1 q 1)) gK hz ls 0 1100 (gUI s K 4 0) (by rw [gUI_ne (by omega), gUI_ne (by omega), ne4 _ (by omega), ne4 _ (by omega), e2, e3]; exact h) hW s2 ⟨by rw [gUI_at, if_pos rfl]; rfl, trivial⟩ (fun j hj => by rw [gUI_ne (by omega)]; exact en j hj) (by omega)
  refine ⟨υ, ?_, fun a x1 x2 x3 => ?_, fun j hj => ?_, ?_⟩
  · unfold mX3_overnight mX3_workOut mX3_overnight_b47
    rw [if_pos gK, if_pos hq, e1, if_neg (nI_ne0 hz0 (by omega)), tn, gb_some, if_pos gK, gl_eq, gl_eq, gl_eq, show mX3_workOut_b9 K 1100 (gUI s K 4 0) 1 0 = _ from r1, gb_some, gl_eq, gl_eq]
    rfl
  · have e : υ.1 a = τ.1 a := by rw [r2.1 a x1 x2, gUI_ne x1, ne4 a x3]
    have e' : υ.2 = τ.2 := by
      rw [r2.2.2]
      show s.2 = τ.2
      rw [hs]; rfl
    exact ⟨e.symm, by rw [e'], by rw [e']⟩
  · rw [r2.2.1 j hj, gUI_at, if_neg hj, ne4 K (by omega)]
  · rw [r2.2.2]
    show s.2 = τ.2
    rw [hs]; rfl
/-! the reference's -/
theorem wM_run {to : Nat} (hto : to ≤ 200) {env : Nat → Int32} : ∀ (code : List Nat) (i m : Nat) (s s' : List Int32) (σ : gS), RepM (σ.1 64) i code → StR (σ.1 69) s → (∀ j, j < 6 → σ.1 70 j = env j) → ev env code s = some s' → s.length + code.length ≤ 200 → i + code.length ≤ to →
    ∃ τ : gS, mX10_worked_b5 (m + code.length) σ (nI to) (nI s.length) (nI i) = mX10_worked_b5 m τ (nI to) (nI s'.length) (nI (i + code.length)) ∧ StR (τ.1 69) s' ∧ (∀ a, a ≠ 69 → τ.1 a = σ.1 a) ∧ τ.2 = σ.2 := by
  intro code
  induction code with
  | nil =>
    intro i m s s' σ _ hs _ he _ _
    obtain rfl := Option.some.inj he
    exact ⟨σ, rfl, hs, fun _ _ => rfl, rfl⟩
  | cons c r ih =>
    intro i m s s' σ hr hs hn he hl hi
    have hll : (c :: r).length = r.length + 1 := rfl
    obtain ⟨k1, k2, k3⟩ := hr
    cases ho : op1 env c s with
    | none =>
      have : ev env (c :: r) s = none := by
        show (op1 env c s).bind _ = none
        rw [ho]; rfl
      rw [this] at he
      cases he
    | some t =>
      have he' : ev env r t = some s' := by
        have e : ev env (c :: r) s = ev env r t := by
          show (op1 env c s).bind _ = _
          rw [ho]; rfl
        rw [← e]; exact he
      have hlen := op1_len ho
      have i200 : inbB (nI i) 200 = true := inbB_nI (by omega) (by decide)
      have next : ∀ (x : Nat) (v : Int32), StR ((gUI σ 69 x v).1 69) t → ∃ τ : gS, mX10_worked_b5 (m + r.length) (gUI σ 69 x v) (nI to) (nI t.length) (nI (i + 1)) = mX10_worked_b5 m τ (nI to) (nI s'.length) (nI (i + (r.length + 1))) ∧ StR (τ.1 69) s' ∧ (∀ a, a ≠ 69 → τ.1 a = σ.1 a) ∧ τ.2 = σ.2 := fun x v hst => by
        obtain ⟨τ, q1, q2, q3, q4⟩ := ih (i + 1) m t s' (gUI σ 69 x v) (by rw [gUI_ne (by decide)]; exact k3) hst (fun j hj => by rw [gUI_ne (by decide)]; exact hn j hj) he' (by omega) (by omega)
        exact ⟨τ, by rw [q1, show i + (r.length + 1) = i + 1 + r.length by omega], q2, fun a ha => by rw [q3 a ha, gUI_ne ha], q4⟩
      have open_ : ∀ X, (if 18 ≤ nI c then ((mX10_worked_b33 (mX10_worked_b5 (m + r.length)) σ (nI to) (nI s.length) (nI i) (nI c))) else (if 5 < nI c then (if nI c = 16 then ((mX10_worked_b81 (mX10_worked_b5 (m + r.length)) σ (nI to) (nI s.length) (nI i) (nI c))) else (if nI c = 17 then ((mX10_worked_b81 (mX10_worked_b5 (m + r.length)) σ (nI to) (nI s.length) (nI i) (nI c))) else (gLet (nI s.length + (-1)) (fun v32 => if inbB (v32 - 1) 200 = true then (if inbB v32 200 = true then (gBind (mX10_both σ (nI c) (σ.1 69 (Int32.toNatClampNeg (v32 - 1))) (σ.1 69 (Int32.toNatClampNeg v32))) (fun r33 s34 => if inbB (v32 - 1) 200 = true then gLet (gUI s34 69 (Int32.toNatClampNeg (v32 - 1)) r33) (fun s35 => (mX10_worked_b157 (mX10_worked_b5 (m + r.length)) s35 (nI to) v32 (nI i))) else none)) else none) else none)))) else ((mX10_worked_b33 (mX10_worked_b5 (m + r.length)) σ (nI to) (nI s.length) (nI i) (nI c))))) = X → mX10_worked_b5 (m + (c :: r).length) σ (nI to) (nI s.length) (nI i) = X := fun X hX => by
        rw [hll, show m + (r.length + 1) = (m + r.length) + 1 by omega]
        conv => lhs; unfold mX10_worked_b5
        rw [if_neg (nI_ge (show i < to by omega) (by omega)), if_pos i200, nI_cl (by omega), k1, gl_eq]
        exact hX
      rw [hll] at hl hi ⊢
      unfold op1 at ho
      by_cases h6 : c < 6
      · rw [if_pos h6] at ho
        obtain rfl := Option.some.inj ho
        have hst : StR ((gUI σ 69 s.length (env c)).1 69) (env c :: s) := ⟨by rw [gUI_at, if_pos rfl], StR_ag s (fun j hj => by rw [gUI_at, if_neg (by omega)]) hs⟩
        obtain ⟨τ, q1, q2⟩ := next s.length (env c) hst
        refine ⟨τ, open_ _ ?_, q2⟩
        rw [if_neg (show ¬ (18 : Int32) ≤ nI c from nI_ge (b := 18) (by omega) (by decide)), if_neg (show ¬ (5 : Int32) < nI c from nI_nlt (a := 5) (by omega) (by decide))]
        unfold mX10_worked_b33 mX10_worked_b63 mX10_worked_b157
        rw [gl_eq, if_pos (show nI c < 18 from nI_lt (b := 18) (by omega) (by decide)), if_pos (inbB_nI h6 (by decide)), if_pos (inbB_nI (show s.length < 200 by omega) (by decide)), nI_cl (show s.length < 2 ^ 31 by omega), nI_cl (show c < 2 ^ 31 by omega), hn c h6, gl_eq, gl_eq, nI_1, nI_1]
        exact q1
      · rw [if_neg h6] at ho
        by_cases h18 : 18 ≤ c
        · rw [if_pos h18] at ho
          obtain rfl := Option.some.inj ho
          have hst : StR ((gUI σ 69 s.length (nI (c - 18))).1 69) (nI (c - 18) :: s) := ⟨by rw [gUI_at, if_pos rfl], StR_ag s (fun j hj => by rw [gUI_at, if_neg (by omega)]) hs⟩
          obtain ⟨τ, q1, q2⟩ := next s.length (nI (c - 18)) hst
          refine ⟨τ, open_ _ ?_, q2⟩
          rw [if_pos (show (18 : Int32) ≤ nI c from nI_le (a := 18) h18 (by omega))]
          unfold mX10_worked_b33 mX10_worked_b63 mX10_worked_b157
          rw [gl_eq, if_neg (show ¬ nI c < 18 from nI_nlt (b := 18) h18 (by omega)), if_pos (inbB_nI (show s.length < 200 by omega) (by decide)), nI_cl (show s.length < 2 ^ 31 by omega), show (nI c - 18 : Int32) = nI (c - 18) from nI_sub h18, gl_eq, gl_eq, nI_1, nI_1]
          exact q1
        · rw [if_neg h18] at ho
          have n18 : ¬ (18 : Int32) ≤ nI c := nI_ge (b := 18) (by omega) (by decide)
          have n5 : (5 : Int32) < nI c := nI_lt (a := 5) (by omega) (by omega)
          by_cases h16 : c = 16
          · rw [if_pos h16] at ho
            cases s with
            | nil => cases ho
            | cons x s0 =>
              obtain rfl := Option.some.inj ho
              have hl0 : (x :: s0).length = s0.length + 1 := rfl
              have hst : StR ((gUI σ 69 s0.length (if x = 0 then 1 else 0)).1 69) ((if x = 0 then 1 else 0) :: s0) := ⟨by rw [gUI_at, if_pos rfl], StR_ag s0 (fun j hj => by rw [gUI_at, if_neg (by omega)]) hs.2⟩
              obtain ⟨τ, q1, q2⟩ := next s0.length (if x = 0 then 1 else 0) hst
              refine ⟨τ, open_ _ ?_, q2⟩
              have is0 : inbB (nI s0.length) 200 = true := inbB_nI (by omega) (by decide)
              rw [if_neg n18, if_pos n5, if_pos (show nI c = 16 by rw [h16]; rfl)]
              unfold mX10_worked_b81 mX10_worked_b123 mX10_worked_b157
              rw [if_neg (show ¬ nI c = 17 by rw [h16]; decide), hl0, nI_pred, if_pos is0, if_pos is0, nI_cl (show s0.length < 2 ^ 31 by omega), hs.1, gl_eq, gl_eq, gl_eq, gl_eq, nI_1]
              by_cases hx : x = 0
              · rw [if_pos hx] at q1 ⊢
                exact q1
              · rw [if_neg hx] at q1 ⊢
                rw [if_pos is0]
                exact q1
          · rw [if_neg h16] at ho
            by_cases h17 : c = 17
            · rw [if_pos h17] at ho
              cases s with
              | nil => cases ho
              | cons x s0 =>
                obtain rfl := Option.some.inj ho
                have hl0 : (x :: s0).length = s0.length + 1 := rfl
                have hst : StR ((gUI σ 69 s0.length (-x)).1 69) (-x :: s0) := ⟨by rw [gUI_at, if_pos rfl], StR_ag s0 (fun j hj => by rw [gUI_at, if_neg (by omega)]) hs.2⟩
                obtain ⟨τ, q1, q2⟩ := next s0.length (-x) hst
                refine ⟨τ, open_ _ ?_, q2⟩
                have is0 : inbB (nI s0.length) 200 = true := inbB_nI (by omega) (by decide)
                rw [if_neg n18, if_pos n5, if_neg (show ¬ nI c = 16 by rw [h17]; decide), if_pos (show nI c = 17 by rw [h17]; rfl)]
                unfold mX10_worked_b81 mX10_worked_b123 mX10_worked_b157
                rw [if_pos (show nI c = 17 by rw [h17]; rfl), hl0, nI_pred, if_pos is0, if_pos is0, nI_cl (show s0.length < 2 ^ 31 by omega), hs.1, gl_eq, gl_eq, nI_1]
                exact q1
            · rw [if_neg h17] at ho
              cases s with
              | nil => cases ho
              | cons y r0 =>
                cases r0 with
                | nil => cases ho
                | cons x s0 =>
                  obtain rfl := Option.some.inj ho
                  have hl0 : (y :: x :: s0).length = s0.length + 1 + 1 := rfl
                  have hx1 : σ.1 69 (s0.length + 1) = y := hs.1
                  have hx0 : σ.1 69 s0.length = x := hs.2.1
                  have hst : StR ((gUI σ 69 s0.length (bin c x y)).1 69) (bin c x y :: s0) := ⟨by rw [gUI_at, if_pos rfl], StR_ag s0 (fun j hj => by rw [gUI_at, if_neg (by omega)]) hs.2.2⟩
                  obtain ⟨τ, q1, q2⟩ := next s0.length (bin c x y) hst
                  refine ⟨τ, open_ _ ?_, q2⟩
                  have is0 : inbB (nI s0.length) 200 = true := inbB_nI (by omega) (by decide)
                  have is1 : inbB (nI (s0.length + 1)) 200 = true := inbB_nI (by omega) (by decide)
                  rw [if_neg n18, if_pos n5, if_neg (fun q : nI c = 16 => h16 ((nI_eq (b := 16) (by omega) (by decide)).mp q)), if_neg (fun q : nI c = 17 => h17 ((nI_eq (b := 17) (by omega) (by decide)).mp q)), hl0, pk_m1, gl_eq, nI_pred, if_pos is0, if_pos is1, nI_cl (show s0.length < 2 ^ 31 by omega), nI_cl (show s0.length + 1 < 2 ^ 31 by omega), hx1, hx0, both_eq (by omega) (by omega), gb_some, if_pos is0, gl_eq]
                  unfold mX10_worked_b157
                  rw [gl_eq, nI_1]
                  exact q1
