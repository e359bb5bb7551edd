/-! ===== THE LAW: what a text means, and how both sides work it out ===== -/
def bin (c : Nat) (x y : Int32) : Int32 := if c = 6 then (if x = 0 then (if y = 0 then 0 else 1) else 1) else if c = 7 then (if x = 0 then 0 else if y = 0 then 0 else 1) else if c = 8 then (if y ≤ x then 0 else 1) else if c = 9 then (if x = y then 1 else 0) else if c = 10 then (if x ≤ y then 0 else 1) else if c = 11 then x + y else if c = 12 then x - y else if c = 13 then x * y else if c = 14 then (if y = 0 then 0 else x / y) else (if y = 0 then 0 else gRem x y)
/-- one op on a stack (its head is the top): 0 to 5 names, 6 to 15 two, 16 and 17 one, from 18 on numbers -/
def op1 (env : Nat → Int32) (c : Nat) (s : List Int32) : Option (List Int32) :=
  if c < 6 then some (env c :: s) else if 18 ≤ c then some (nI (c - 18) :: s) else
  if c = 16 then (match s with | [] => none | x :: r => some ((if x = 0 then 1 else 0) :: r)) else
  if c = 17 then (match s with | [] => none | x :: r => some (-x :: r)) else
  (match s with | [] => none | [_] => none | y :: x :: r => some (bin c x y :: r))
def ev (env : Nat → Int32) : List Nat → List Int32 → Option (List Int32)
  | [], s => some s
  | c :: r, s => (op1 env c s).bind (ev env r)
theorem ev_app (env : Nat → Int32) : ∀ (a b : List Nat) (s : List Int32), ev env (a ++ b) s = (ev env a s).bind (ev env b)
  | [], b, s => rfl
  | c :: r, b, s => by
    show (op1 env c s).bind (ev env (r ++ b)) = ((op1 env c s).bind (ev env r)).bind (ev env b)
    cases op1 env c s with
    | none => rfl
    | some t => exact ev_app env r b t
def val (env : Nat → Int32) (code : List Nat) : Int32 := match ev env code [] with | none => 0 | some [] => 0 | some (v :: _) => v
/-- a code that leaves one value, whatever lies below -/
def Ex (code : List Nat) : Prop := ∀ env s, ev env code s = some (val env code :: s)
theorem Ex_of {code : List Nat} (h : ∀ env, ∃ v, ∀ s, ev env code s = some (v :: s)) : Ex code := fun env s => by
  obtain ⟨v, hv⟩ := h env
  have e : val env code = v := by
    unfold val
    rw [hv []]
  rw [e]
  exact hv s
theorem Ex_1 {c : Nat} (h : c < 6 ∨ 18 ≤ c) : Ex [c] := Ex_of fun env => by
  by_cases h6 : c < 6
  · refine ⟨env c, fun s => ?_⟩
    show (op1 env c s).bind _ = _
    unfold op1
    rw [if_pos h6]
    rfl
  · refine ⟨nI (c - 18), fun s => ?_⟩
    show (op1 env c s).bind _ = _
    unfold op1
    rw [if_neg h6, if_pos (by omega)]
    rfl
theorem Ex_un {a : List Nat} {c : Nat} (h : Ex a) (hc : c = 16 ∨ c = 17) : Ex (a ++ [c]) := Ex_of fun env => by
  rcases hc with rfl | rfl
  · refine ⟨if val env a = 0 then 1 else 0, fun s => ?_⟩
    rw [ev_app, h env s]
    rfl
  · refine ⟨-val env a, fun s => ?_⟩
    rw [ev_app, h env s]
    rfl
theorem Ex_bin {a b : List Nat} {c : Nat} (h : Ex a) (k : Ex b) (h1 : 6 ≤ c) (h2 : c ≤ 15) : Ex (a ++ (b ++ [c])) := Ex_of fun env => by
  refine ⟨bin c (val env a) (val env b), fun s => ?_⟩
  rw [ev_app, h env s]
  show ev env (b ++ [c]) (val env a :: s) = _
  rw [ev_app, k env _]
  show (op1 env c (val env b :: val env a :: s)).bind _ = _
  unfold op1
  rw [if_neg (by omega), if_neg (by omega), if_neg (by omega), if_neg (by omega)]
  rfl
/-- the class's steps for an op -/
def oC (c : Nat) : Int32 := if c < 6 then 118 else if 18 ≤ c then 110 else ([124, 38, 60, 61, 62, 43, 45, 42, 47, 37, 33, 126] : List Int32).getD (c - 6) 0
def eC (c : Nat) : Int32 := if c < 6 then nI c else if 18 ≤ c then nI (c - 18) else 0
def RepC (st de : Nat → Int32) : Nat → List Nat → Prop
  | _, [] => True
  | i, c :: r => st i = oC c ∧ de i = eC c ∧ RepC st de (i + 1) r
def RepM (cd : Nat → Int32) : Nat → List Nat → Prop
  | _, [] => True
  | i, c :: r => cd i = nI c ∧ c < 20000 ∧ RepM cd (i + 1) r
theorem RepC_app {st de : Nat → Int32} : ∀ (a b : List Nat) (i : Nat), RepC st de i (a ++ b) ↔ RepC st de i a ∧ RepC st de (i + a.length) b
  | [], b, i => ⟨fun h => ⟨trivial, h⟩, fun h => h.2⟩
  | c :: r, b, i => by
    show (st i = oC c ∧ de i = eC c ∧ RepC st de (i + 1) (r ++ b)) ↔ (st i = oC c ∧ de i = eC c ∧ RepC st de (i + 1) r) ∧ RepC st de (i + (r.length + 1)) b
    rw [RepC_app r b (i + 1), show i + 1 + r.length = i + (r.length + 1) by omega]
    constructor
    · rintro ⟨h1, h2, h3, h4⟩; exact ⟨⟨h1, h2, h3⟩, h4⟩
    · rintro ⟨⟨h1, h2, h3⟩, h4⟩; exact ⟨h1, h2, h3, h4⟩
theorem RepM_app {cd : Nat → Int32} : ∀ (a b : List Nat) (i : Nat), RepM cd i (a ++ b) ↔ RepM cd i a ∧ RepM cd (i + a.length) b
  | [], b, i => ⟨fun h => ⟨trivial, h⟩, fun h => h.2⟩
  | c :: r, b, i => by
    show (cd i = nI c ∧ c < 20000 ∧ RepM cd (i + 1) (r ++ b)) ↔ (cd i = nI c ∧ c < 20000 ∧ RepM cd (i + 1) r) ∧ RepM cd (i + (r.length + 1)) b
    rw [RepM_app r b (i + 1), show i + 1 + r.length = i + (r.length + 1) by omega]
    constructor
    · rintro ⟨h1, h2, h3, h4⟩; exact ⟨⟨h1, h2, h3⟩, h4⟩
    · rintro ⟨⟨h1, h2, h3⟩, h4⟩; exact ⟨h1, h2, h3, h4⟩
theorem RepC_ag {st de st2 de2 : Nat → Int32} : ∀ (a : List Nat) (i : Nat), (∀ j, i ≤ j → j < i + a.length → st2 j = st j ∧ de2 j = de j) → RepC st de i a → RepC st2 de2 i a
  | [], i, _, _ => trivial
  | c :: r, i, h, k => by
    obtain ⟨k1, k2, k3⟩ := k
    have hl : (c :: r).length = r.length + 1 := rfl
    obtain ⟨h1, h2⟩ := h i (Nat.le_refl i) (by omega)
    exact ⟨h1.trans k1, h2.trans k2, RepC_ag r (i + 1) (fun j x y => h j (by omega) (by omega)) k3⟩
theorem RepM_ag {cd cd2 : Nat → Int32} : ∀ (a : List Nat) (i : Nat), (∀ j, i ≤ j → j < i + a.length → cd2 j = cd j) → RepM cd i a → RepM cd2 i a
  | [], i, _, _ => trivial
  | c :: r, i, h, k => by
    obtain ⟨k1, k2, k3⟩ := k
    have hl : (c :: r).length = r.length + 1 := rfl
    exact ⟨(h i (Nat.le_refl i) (by omega)).trans k1, k2, RepM_ag r (i + 1) (fun j x y => h j (by omega) (by omega)) k3⟩
theorem joined_eq {c : Nat} (h1 : 6 ≤ c) (h2 : c ≤ 15) (σ : gS) (x y : Int32) : mX3_joined σ (oC c) x y = some (bin c x y, σ) := by
  rcases (show c = 6 ∨ c = 7 ∨ c = 8 ∨ c = 9 ∨ c = 10 ∨ c = 11 ∨ c = 12 ∨ c = 13 ∨ c = 14 ∨ c = 15 by omega) with rfl | rfl | rfl | rfl | rfl | rfl | rfl | rfl | rfl | rfl
  · by_cases hx : x = 0 <;> by_cases hy : y = 0 <;> simp [mX3_joined, mX3_joined_b100, oC, bin, hx, hy]
  · by_cases hx : x = 0 <;> by_cases hy : y = 0 <;> simp [mX3_joined, oC, bin, hx, hy]
  · by_cases hx : y ≤ x <;> simp [mX3_joined, oC, bin, hx]
  · by_cases hx : x = y <;> simp [mX3_joined, oC, bin, hx]
  · by_cases hx : x ≤ y <;> simp [mX3_joined, oC, bin, hx]
  · simp [mX3_joined, oC, bin]
  · simp [mX3_joined, oC, bin]
  · simp [mX3_joined, oC, bin]
  · by_cases hy : y = 0 <;> simp [mX3_joined, oC, bin, hy]
  · by_cases hy : y = 0 <;> simp [mX3_joined, oC, bin, hy]
theorem both_eq {c : Nat} (h1 : 6 ≤ c) (h2 : c ≤ 15) (σ : gS) (x y : Int32) : mX10_both σ (nI c) x y = some (bin c x y, σ) := by
  have ne : ∀ k : Nat, k ≤ 15 → (nI c = nI k ↔ c = k) := fun k hk => nI_eq (by omega) (by omega)
  have e6 : (nI c = 6) = (c = 6) := propext (ne 6 (by omega))
  have e7 : (nI c = 7) = (c = 7) := propext (ne 7 (by omega))
  have e8 : (nI c = 8) = (c = 8) := propext (ne 8 (by omega))
  have e9 : (nI c = 9) = (c = 9) := propext (ne 9 (by omega))
  have e10 : (nI c = 10) = (c = 10) := propext (ne 10 (by omega))
  have e11 : (nI c = 11) = (c = 11) := propext (ne 11 (by omega))
  have e12 : (nI c = 12) = (c = 12) := propext (ne 12 (by omega))
  have e13 : (nI c = 13) = (c = 13) := propext (ne 13 (by omega))
  have e14 : (nI c = 14) = (c = 14) := propext (ne 14 (by omega))
  rcases (show c = 6 ∨ c = 7 ∨ c = 8 ∨ c = 9 ∨ c = 10 ∨ c = 11 ∨ c = 12 ∨ c = 13 ∨ c = 14 ∨ c = 15 by omega) with rfl | rfl | rfl | rfl | rfl | rfl | rfl | rfl | rfl | rfl
  · by_cases hx : x = 0 <;> by_cases hy : y = 0 <;> simp [mX10_both, mX10_both_b60, e6, e7, e8, e9, e10, e11, e12, e13, e14, bin, hx, hy]
  · by_cases hx : x = 0 <;> by_cases hy : y = 0 <;> simp [mX10_both, e6, e7, e8, e9, e10, e11, e12, e13, e14, bin, hx, hy]
  · by_cases hx : y ≤ x <;> simp [mX10_both, e6, e7, e8, e9, e10, e11, e12, e13, e14, bin, hx]
  · by_cases hx : x = y <;> simp [mX10_both, e6, e7, e8, e9, e10, e11, e12, e13, e14, bin, hx]
  · by_cases hx : x ≤ y <;> simp [mX10_both, e6, e7, e8, e9, e10, e11, e12, e13, e14, bin, hx]
  · simp [mX10_both, e6, e7, e8, e9, e10, e11, e12, e13, e14, bin]
  · simp [mX10_both, e6, e7, e8, e9, e10, e11, e12, e13, e14, bin]
  · simp [mX10_both, e6, e7, e8, e9, e10, e11, e12, e13, e14, bin]
  · by_cases hy : y = 0 <;> simp [mX10_both, e6, e7, e8, e9, e10, e11, e12, e13, e14, bin, hy]
  · by_cases hy : y = 0 <;> simp [mX10_both, e6, e7, e8, e9, e10, e11, e12, e13, e14, bin, hy]
/-- a stack in a row: the head lies highest -/
def StR (row : Nat → Int32) : List Int32 → Prop
  | [] => True
  | x :: r => row r.length = x ∧ StR row r
theorem StR_ag {row row2 : Nat → Int32} : ∀ (s : List Int32), (∀ j, j < s.length → row2 j = row j) → StR row s → StR row2 s
  | [], _, _ => trivial
  | x :: r, h, k => by
    have hl : (x :: r).length = r.length + 1 := rfl
    exact ⟨(h r.length (by omega)).trans k.1, StR_ag r (fun j hj => h j (by omega)) k.2⟩
def StC (K : Nat) (s : List Int32) (σ : gS) : Prop := σ.1 K 4 = nI s.length ∧ StR (σ.1 (K + 3)) s
def fW (K : Nat) (σ τ : gS) : Prop := (∀ a, a ≠ K → a ≠ K + 3 → τ.1 a = σ.1 a) ∧ (∀ j, j ≠ 4 → τ.1 K j = σ.1 K j) ∧ τ.2 = σ.2
theorem fW_tr {K : Nat} {σ τ υ : gS} (h : fW K σ τ) (k : fW K τ υ) : fW K σ υ := ⟨fun a x y => (k.1 a x y).trans (h.1 a x y), fun j hj => (k.2.1 j hj).trans (h.2.1 j hj), k.2.2.trans h.2.2⟩
theorem fW_rf (K : Nat) (σ : gS) : fW K σ σ := ⟨fun _ _ _ => rfl, fun _ _ => rfl, rfl⟩
theorem push_eq {K : Nat} (hK : gk K = 3) {s : List Int32} {σ : gS} (h : StC K s σ) (hl : s.length < 121) (x : Int32) : ∃ τ : gS, mX3_push σ K x = some ((), τ) ∧ StC K (x :: s) τ ∧ fW K σ τ := by
  obtain ⟨h1, h2⟩ := h
  refine ⟨gUI (gUI σ (K + 3) s.length x) K 4 (nI (s.length + 1)), ?_, ⟨?_, ?_⟩, ⟨fun a x1 x2 => by rw [gUI_ne x1, gUI_ne x2], fun j hj => by rw [gUI_at, if_neg hj, gUI_ne (by omega)], rfl⟩⟩
  · unfold mX3_push
    rw [if_pos hK, h1, if_neg (show ¬ (121 : Int32) ≤ nI s.length from nI_ge (b := 121) hl (by decide)), if_pos (inbB_nI hl (by decide)), nI_cl (by omega), gl_eq, gl_eq, gUI_ne (show K ≠ K + 3 by omega), h1, nI_1]
  · rw [gUI_at, if_pos rfl]
    rfl
  · refine ⟨?_, ?_⟩
    · rw [gUI_ne (by omega), gUI_at, if_pos rfl]
    · refine StR_ag s (fun j hj => ?_) h2
      rw [gUI_ne (by omega), gUI_at, if_neg (by omega)]
theorem pop_eq {K : Nat} (hK : gk K = 3) {s : List Int32} {x : Int32} {σ : gS} (h : StC K (x :: s) σ) (hl : s.length < 121) : ∃ τ : gS, mX3_pop σ K = some (x, τ) ∧ StC K s τ ∧ fW K σ τ := by
  obtain ⟨h1, h2, h3⟩ := h
  have h1' : σ.1 K 4 = nI (s.length + 1) := h1
  refine ⟨gUI σ K 4 (nI s.length), ?_, ⟨?_, ?_⟩, ⟨fun a x1 x2 => by rw [gUI_ne x1], fun j hj => by rw [gUI_at, if_neg hj], rfl⟩⟩
  · unfold mX3_pop
    rw [if_pos hK, h1', if_pos (show (0 : Int32) < nI (s.length + 1) from nI_lt (a := 0) (by omega) (by omega)), nI_pred, gl_eq, gUI_at, if_pos rfl, if_pos (inbB_nI hl (by decide)), nI_cl (by omega), gUI_ne (show K + 3 ≠ K by omega), h2]
  · rw [gUI_at, if_pos rfl]
  · rw [gUI_ne (by omega)]; exact h3
theorem oC_ne (c : Nat) : oC c ≠ 63 ∧ oC c ≠ 59 := by
  unfold oC
  by_cases h : c < 6
  · rw [if_pos h]; decide
  · rw [if_neg h]
    by_cases h2 : 18 ≤ c
    · rw [if_pos h2]; decide
    · rw [if_neg h2]
      rcases (show c = 6 ∨ c = 7 ∨ c = 8 ∨ c = 9 ∨ c = 10 ∨ c = 11 ∨ c = 12 ∨ c = 13 ∨ c = 14 ∨ c = 15 ∨ c = 16 ∨ c = 17 by omega) with rfl | rfl | rfl | rfl | rfl | rfl | rfl | rfl | rfl | rfl | rfl | rfl <;> decide
theorem oC_bin {c : Nat} (h1 : 6 ≤ c) (h2 : c ≤ 15) : ¬ oC c = 110 ∧ ¬ oC c = 118 ∧ ¬ oC c = 126 ∧ ¬ oC c = 33 := by
  rcases (show c = 6 ∨ c = 7 ∨ c = 8 ∨ c = 9 ∨ c = 10 ∨ c = 11 ∨ c = 12 ∨ c = 13 ∨ c = 14 ∨ c = 15 by omega) with rfl | rfl | rfl | rfl | rfl | rfl | rfl | rfl | rfl | rfl <;> decide
/-- one step of the class's machine -/
theorem step_eq {K : Nat} (hK : gk K = 3) {env : Nat → Int32} {s s' : List Int32} {σ : gS} {c : Nat} (h : StC K s σ) (hl : s.length < 120) (hn : ∀ j, j < 6 → σ.1 (K + 4) j = env j) (ho : op1 env c s = some s') : ∃ τ : gS, mX3_workStep σ K (oC c) (eC c) = some ((), τ) ∧ StC K s' τ ∧ fW K σ τ := by
  unfold op1 at ho
  by_cases h6 : c < 6
  · rw [if_pos h6] at ho
    obtain rfl := Option.some.inj ho
    obtain ⟨τ, r1, r2, r3⟩ := push_eq hK h (by omega) (env c)
    refine ⟨τ, ?_, r2, r3⟩
    unfold mX3_workStep
    rw [if_pos hK, show oC c = 118 from if_pos h6, show eC c = nI c from if_pos h6, if_neg (by decide), if_pos rfl, if_neg (nI_pos (by omega)), if_neg (show ¬ (6 : Int32) ≤ nI c from nI_ge (b := 6) h6 (by decide)), if_pos (inbB_nI h6 (by decide)), nI_cl (by omega), hn c h6]
    unfold mX3_workStep_b44
    rw [r1, gb_some]
  · rw [if_neg h6] at ho
    by_cases h18 : 18 ≤ c
    · rw [if_pos h18] at ho
      obtain rfl := Option.some.inj ho
      obtain ⟨τ, r1, r2, r3⟩ := push_eq hK h (by omega) (nI (c - 18))
      refine ⟨τ, ?_, r2, r3⟩
      unfold mX3_workStep
      rw [if_pos hK, show oC c = 110 from (if_neg h6).trans (if_pos h18), show eC c = nI (c - 18) from (if_neg h6).trans (if_pos h18), if_pos rfl, r1, gb_some]
    · rw [if_neg h18] at ho
      by_cases h16 : c = 16
      · subst h16
        rw [if_pos rfl] at ho
        cases s with
        | nil => cases ho
        | cons x r =>
          obtain rfl := Option.some.inj ho
          have hll : (x :: r).length = r.length + 1 := rfl
          obtain ⟨σ1, p1, p2, p3⟩ := pop_eq hK h (by omega)
          obtain ⟨τ, r1, r2, r3⟩ := push_eq hK p2 (by omega) (if x = 0 then 1 else 0)
          refine ⟨τ, ?_, r2, fW_tr p3 r3⟩
          unfold mX3_workStep mX3_workStep_b87
          rw [if_pos hK, show oC 16 = 33 from rfl, if_neg (by decide), if_neg (by decide), if_neg (by decide), if_pos rfl, p1, gb_some]
          by_cases hx : x = 0
          · rw [if_pos hx] at r1
            rw [if_pos hx, r1, gb_some]
          · rw [if_neg hx] at r1
            rw [if_neg hx, r1, gb_some]
      · rw [if_neg h16] at ho
        by_cases h17 : c = 17
        · subst h17
          rw [if_pos rfl] at ho
          cases s with
          | nil => cases ho
          | cons x r =>
            obtain rfl := Option.some.inj ho
            have hll : (x :: r).length = r.length + 1 := rfl
            obtain ⟨σ1, p1, p2, p3⟩ := pop_eq hK h (by omega)
            obtain ⟨τ, r1, r2, r3⟩ := push_eq hK p2 (by omega) (-x)
            refine ⟨τ, ?_, r2, fW_tr p3 r3⟩
            unfold mX3_workStep
            rw [if_pos hK, show oC 17 = 126 from rfl, if_neg (by decide), if_neg (by decide), if_pos rfl, p1, gb_some, r1, gb_some]
        · rw [if_neg h17] at ho
          cases s with
          | nil => cases ho
          | cons y r0 =>
            cases r0 with
            | nil => cases ho
            | cons x r =>
              obtain rfl := Option.some.inj ho
              have hll : (y :: x :: r).length = r.length + 2 := rfl
              have hll2 : (x :: r).length = r.length + 1 := rfl
              obtain ⟨σ1, p1, p2, p3⟩ := pop_eq hK h (by omega)
              obtain ⟨σ2, q1, q2, q3⟩ := pop_eq hK p2 (by omega)
              obtain ⟨τ, r1, r2, r3⟩ := push_eq hK q2 (by omega) (bin c x y)
              obtain ⟨n1, n2, n3, n4⟩ := oC_bin (show 6 ≤ c by omega) (by omega)
              refine ⟨τ, ?_, r2, fW_tr p3 (fW_tr q3 r3)⟩
              unfold mX3_workStep
              rw [if_pos hK, if_neg n1, if_neg n2, if_neg n3, if_neg n4, p1, gb_some, gl_eq, q1, gb_some, gl_eq, joined_eq (by omega) (by omega), gb_some, r1, gb_some]
