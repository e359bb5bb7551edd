/-! ===== act: each act of each kind ===== -/
theorem ab_PF {b n q c D k p a dep : Nat} {x : Int32} {c10 : gS → Option (Int32 × gS)} (hk : k < 8) (h0 : k ≠ 0) (hp : ab k = p) (h : PF b n q c (fun s => (mgfrost D).2.2.1 s (nI p) (nI a) x (nI dep)) c10) : PF b n q c (fun s => (mgfrost (D + 1)).2.1 s (nI k) (nI a) x (nI dep)) c10 :=
  PF_conv h (Nat.le_refl c) (fun σ υ r hA => by
    show (mgfrost (D + 1)).2.1 σ (nI k) (nI a) x (nI dep) = _
    rw [above9 hk h0, hp]) (fun _ _ _ _ => rfl)
theorem own_PF {b n q c D a dep : Nat} {x : Int32} {c10 d10 : gS → Option (Int32 × gS)} (h : PF b n q c (fun s => (mgfrost D).2.2.1 s (nI q) (nI a) x (nI dep)) c10) (h10 : ∀ σ υ r, AR b n q r σ υ → d10 υ = c10 υ) : PF b n q c (fun s => (mgfrost (D + 1)).1 s (nI a) x (nI dep)) d10 :=
  PF_conv h (Nat.le_refl c) (fun σ υ r hA => own9 hA _ _ _) h10
theorem le_0 {b n q : Nat} : ∀ (x : Int32) (dep D d : Nat), q < 8 → dep + 1 ≤ 40 → 3 ≤ D → 1 ≤ d → PF b n q 1 (fun σ => (mgfrost D).2.2.1 σ (nI 0) (nI 0) x (nI dep)) (fun υ => mglets d υ (nI n) (nI 0) x) := by
  intro x dep D d hq h1 h2 h3
  obtain ⟨D, rfl⟩ : ∃ m, D = m + 2 := ⟨D - 2, by omega⟩
  obtain ⟨d, rfl⟩ : ∃ m, d = m + 1 := ⟨d - 1, by omega⟩
  refine PF_conv (PF_tr (nI 1) (PF_self (fun z => x + z))) (by decide) (fun σ υ r hA => ?_) (fun σ υ r hA => ?_)
  · show (mgfrost (D + 1 + 1)).2.2.1 σ (nI 0) (nI 0) x (nI dep) = _
    rw [from_eq (by decide) (by decide) (by omega)]
    show mrX2_perform (mgfrost (D + 0)) σ (nI 1) (nI 0) x (nI (dep + 1)) = _
    rw [perf_1]
    try rfl
  · show mrX10_letsBy (mglets d) υ (nI n) (nI 0) x = _
    unfold mrX10_letsBy
    rw [if_pos (show nI 0 = 0 by decide)]
    try rfl
theorem le_1 {b n q : Nat} : ∀ (x : Int32) (dep D d : Nat), q < 8 → dep + 2 ≤ 40 → 6 ≤ D → 2 ≤ d → PF b n q 2 (fun σ => (mgfrost D).2.2.1 σ (nI 1) (nI 0) x (nI dep)) (fun υ => mglets d υ (nI n) (nI 1) x) := by
  intro x dep D d hq h1 h2 h3
  obtain ⟨D, rfl⟩ : ∃ m, D = m + 3 := ⟨D - 3, by omega⟩
  obtain ⟨d, rfl⟩ : ∃ m, d = m + 1 := ⟨d - 1, by omega⟩
  refine PF_conv (PF_tr (nI 20) (PF_map (fun v => v + 3) (ab_PF (k := 1) (p := 0) (a := 0) (by decide) (by decide) rfl (le_0 x (dep + 1) D d hq (by omega) (by omega) (by omega))))) (by decide) (fun σ υ r hA => ?_) (fun σ υ r hA => ?_)
  · show (mgfrost (D + 2 + 1)).2.2.1 σ (nI 1) (nI 0) x (nI dep) = _
    rw [from_eq (by decide) (by decide) (by omega)]
    show mrX2_perform (mgfrost (D + 1)) σ (nI 20) (nI 1) x (nI (dep + 1)) = _
    rw [perf_20]
    try rfl
  · show mrX10_letsBy (mglets d) υ (nI n) (nI 1) x = _
    unfold mrX10_letsBy
    rw [if_neg (show ¬ nI 1 = 0 by decide), if_pos (show nI 1 = 1 by decide)]
    try rfl
theorem le_2 {b n q : Nat} : ∀ (x : Int32) (dep D d : Nat), q < 8 → dep + 1 ≤ 40 → 3 ≤ D → 2 ≤ d → PF b n q 1 (fun σ => (mgfrost D).2.2.1 σ (nI 2) (nI 0) x (nI dep)) (fun υ => mglets d υ (nI n) (nI 2) x) := by
  intro x dep D d hq h1 h2 h3
  obtain ⟨D, rfl⟩ : ∃ m, D = m + 1 := ⟨D - 1, by omega⟩
  obtain ⟨d, rfl⟩ : ∃ m, d = m + 1 := ⟨d - 1, by omega⟩
  refine PF_conv (le_0 x dep (D + 1) d hq (by omega) (by omega) (by omega)) (by decide) (fun σ υ r hA => ?_) (fun σ υ r hA => ?_)
  · show (mgfrost (D + 1)).2.2.1 σ (nI 2) (nI 0) x (nI dep) = (mgfrost (D + 1)).2.2.1 σ (nI 0) (nI 0) x (nI dep)
    rw [from_eq (by decide) (by decide) (by omega), from_eq (by decide) (by decide) (by omega), show fnd 4 2 0 = fnd 4 0 0 by decide]
  · have e : mX10_above υ (nI 2) = some (nI 0, υ) := above10 (by decide) (by decide) υ
    show mrX10_letsBy (mglets d) υ (nI n) (nI 2) x = mglets d υ (nI n) (nI 0) x
    unfold mrX10_letsBy
    rw [if_neg (show ¬ nI 2 = 0 by decide), if_neg (show ¬ nI 2 = 1 by decide), if_neg (show ¬ nI 2 = 6 by decide), e, gb_some, bind_id]
theorem le_6 {b n q : Nat} : ∀ (x : Int32) (dep D d : Nat), q < 8 → dep + 2 ≤ 40 → 6 ≤ D → 2 ≤ d → PF b n q 2 (fun σ => (mgfrost D).2.2.1 σ (nI 6) (nI 0) x (nI dep)) (fun υ => mglets d υ (nI n) (nI 6) x) := by
  intro x dep D d hq h1 h2 h3
  obtain ⟨D, rfl⟩ : ∃ m, D = m + 3 := ⟨D - 3, by omega⟩
  obtain ⟨d, rfl⟩ : ∃ m, d = m + 1 := ⟨d - 1, by omega⟩
  refine PF_conv (PF_tr (nI 70) (PF_map (fun v => v * 2) (ab_PF (k := 6) (p := 0) (a := 0) (by decide) (by decide) rfl (le_0 x (dep + 1) D d hq (by omega) (by omega) (by omega))))) (by decide) (fun σ υ r hA => ?_) (fun σ υ r hA => ?_)
  · show (mgfrost (D + 2 + 1)).2.2.1 σ (nI 6) (nI 0) x (nI dep) = _
    rw [from_eq (by decide) (by decide) (by omega)]
    show mrX2_perform (mgfrost (D + 1)) σ (nI 70) (nI 6) x (nI (dep + 1)) = _
    rw [perf_70]
    try rfl
  · show mrX10_letsBy (mglets d) υ (nI n) (nI 6) x = _
    unfold mrX10_letsBy
    rw [if_neg (show ¬ nI 6 = 0 by decide), if_neg (show ¬ nI 6 = 1 by decide), if_pos (show nI 6 = 6 by decide)]
    try rfl
theorem le_3 {b n q : Nat} : ∀ (x : Int32) (dep D d : Nat), q < 8 → dep + 1 ≤ 40 → 3 ≤ D → 3 ≤ d → PF b n q 1 (fun σ => (mgfrost D).2.2.1 σ (nI 3) (nI 0) x (nI dep)) (fun υ => mglets d υ (nI n) (nI 3) x) := by
  intro x dep D d hq h1 h2 h3
  obtain ⟨D, rfl⟩ : ∃ m, D = m + 1 := ⟨D - 1, by omega⟩
  obtain ⟨d, rfl⟩ : ∃ m, d = m + 1 := ⟨d - 1, by omega⟩
  refine PF_conv (le_2 x dep (D + 1) d hq (by omega) (by omega) (by omega)) (by decide) (fun σ υ r hA => ?_) (fun σ υ r hA => ?_)
  · show (mgfrost (D + 1)).2.2.1 σ (nI 3) (nI 0) x (nI dep) = (mgfrost (D + 1)).2.2.1 σ (nI 2) (nI 0) x (nI dep)
    rw [from_eq (by decide) (by decide) (by omega), from_eq (by decide) (by decide) (by omega), show fnd 4 3 0 = fnd 4 2 0 by decide]
  · have e : mX10_above υ (nI 3) = some (nI 2, υ) := above10 (by decide) (by decide) υ
    show mrX10_letsBy (mglets d) υ (nI n) (nI 3) x = mglets d υ (nI n) (nI 2) x
    unfold mrX10_letsBy
    rw [if_neg (show ¬ nI 3 = 0 by decide), if_neg (show ¬ nI 3 = 1 by decide), if_neg (show ¬ nI 3 = 6 by decide), e, gb_some, bind_id]
theorem le_4 {b n q : Nat} : ∀ (x : Int32) (dep D d : Nat), q < 8 → dep + 2 ≤ 40 → 6 ≤ D → 3 ≤ d → PF b n q 2 (fun σ => (mgfrost D).2.2.1 σ (nI 4) (nI 0) x (nI dep)) (fun υ => mglets d υ (nI n) (nI 4) x) := by
  intro x dep D d hq h1 h2 h3
  obtain ⟨D, rfl⟩ : ∃ m, D = m + 1 := ⟨D - 1, by omega⟩
  obtain ⟨d, rfl⟩ : ∃ m, d = m + 1 := ⟨d - 1, by omega⟩
  refine PF_conv (le_1 x dep (D + 1) d hq (by omega) (by omega) (by omega)) (by decide) (fun σ υ r hA => ?_) (fun σ υ r hA => ?_)
  · show (mgfrost (D + 1)).2.2.1 σ (nI 4) (nI 0) x (nI dep) = (mgfrost (D + 1)).2.2.1 σ (nI 1) (nI 0) x (nI dep)
    rw [from_eq (by decide) (by decide) (by omega), from_eq (by decide) (by decide) (by omega), show fnd 4 4 0 = fnd 4 1 0 by decide]
  · have e : mX10_above υ (nI 4) = some (nI 1, υ) := above10 (by decide) (by decide) υ
    show mrX10_letsBy (mglets d) υ (nI n) (nI 4) x = mglets d υ (nI n) (nI 1) x
    unfold mrX10_letsBy
    rw [if_neg (show ¬ nI 4 = 0 by decide), if_neg (show ¬ nI 4 = 1 by decide), if_neg (show ¬ nI 4 = 6 by decide), e, gb_some, bind_id]
theorem le_5 {b n q : Nat} : ∀ (x : Int32) (dep D d : Nat), q < 8 → dep + 1 ≤ 40 → 3 ≤ D → 4 ≤ d → PF b n q 1 (fun σ => (mgfrost D).2.2.1 σ (nI 5) (nI 0) x (nI dep)) (fun υ => mglets d υ (nI n) (nI 5) x) := by
  intro x dep D d hq h1 h2 h3
  obtain ⟨D, rfl⟩ : ∃ m, D = m + 1 := ⟨D - 1, by omega⟩
  obtain ⟨d, rfl⟩ : ∃ m, d = m + 1 := ⟨d - 1, by omega⟩
  refine PF_conv (le_3 x dep (D + 1) d hq (by omega) (by omega) (by omega)) (by decide) (fun σ υ r hA => ?_) (fun σ υ r hA => ?_)
  · show (mgfrost (D + 1)).2.2.1 σ (nI 5) (nI 0) x (nI dep) = (mgfrost (D + 1)).2.2.1 σ (nI 3) (nI 0) x (nI dep)
    rw [from_eq (by decide) (by decide) (by omega), from_eq (by decide) (by decide) (by omega), show fnd 4 5 0 = fnd 4 3 0 by decide]
  · have e : mX10_above υ (nI 5) = some (nI 3, υ) := above10 (by decide) (by decide) υ
    show mrX10_letsBy (mglets d) υ (nI n) (nI 5) x = mglets d υ (nI n) (nI 3) x
    unfold mrX10_letsBy
    rw [if_neg (show ¬ nI 5 = 0 by decide), if_neg (show ¬ nI 5 = 1 by decide), if_neg (show ¬ nI 5 = 6 by decide), e, gb_some, bind_id]
theorem le_7 {b n q : Nat} : ∀ (x : Int32) (dep D d : Nat), q < 8 → dep + 2 ≤ 40 → 6 ≤ D → 4 ≤ d → PF b n q 2 (fun σ => (mgfrost D).2.2.1 σ (nI 7) (nI 0) x (nI dep)) (fun υ => mglets d υ (nI n) (nI 7) x) := by
  intro x dep D d hq h1 h2 h3
  obtain ⟨D, rfl⟩ : ∃ m, D = m + 1 := ⟨D - 1, by omega⟩
  obtain ⟨d, rfl⟩ : ∃ m, d = m + 1 := ⟨d - 1, by omega⟩
  refine PF_conv (le_4 x dep (D + 1) d hq (by omega) (by omega) (by omega)) (by decide) (fun σ υ r hA => ?_) (fun σ υ r hA => ?_)
  · show (mgfrost (D + 1)).2.2.1 σ (nI 7) (nI 0) x (nI dep) = (mgfrost (D + 1)).2.2.1 σ (nI 4) (nI 0) x (nI dep)
    rw [from_eq (by decide) (by decide) (by omega), from_eq (by decide) (by decide) (by omega), show fnd 4 7 0 = fnd 4 4 0 by decide]
  · have e : mX10_above υ (nI 7) = some (nI 4, υ) := above10 (by decide) (by decide) υ
    show mrX10_letsBy (mglets d) υ (nI n) (nI 7) x = mglets d υ (nI n) (nI 4) x
    unfold mrX10_letsBy
    rw [if_neg (show ¬ nI 7 = 0 by decide), if_neg (show ¬ nI 7 = 1 by decide), if_neg (show ¬ nI 7 = 6 by decide), e, gb_some, bind_id]
theorem le_all {b n q : Nat} (x : Int32) (dep D d : Nat) (hq : q < 8) (h1 : dep + 2 ≤ 40) (h2 : 6 ≤ D) (h3 : 4 ≤ d) : PF b n q 2 (fun σ => (mgfrost D).2.2.1 σ (nI q) (nI 0) x (nI dep)) (fun υ => mglets d υ (nI n) (nI q) x) := by
  rcases (show q = 0 ∨ q = 1 ∨ q = 2 ∨ q = 3 ∨ q = 4 ∨ q = 5 ∨ q = 6 ∨ q = 7 by omega) with rfl | rfl | rfl | rfl | rfl | rfl | rfl | rfl
  · exact PF_conv (le_0 x dep D d hq (by omega) (by omega) (by omega)) (by decide) (fun _ _ _ _ => rfl) (fun _ _ _ _ => rfl)
  · exact PF_conv (le_1 x dep D d hq (by omega) (by omega) (by omega)) (by decide) (fun _ _ _ _ => rfl) (fun _ _ _ _ => rfl)
  · exact PF_conv (le_2 x dep D d hq (by omega) (by omega) (by omega)) (by decide) (fun _ _ _ _ => rfl) (fun _ _ _ _ => rfl)
  · exact PF_conv (le_3 x dep D d hq (by omega) (by omega) (by omega)) (by decide) (fun _ _ _ _ => rfl) (fun _ _ _ _ => rfl)
  · exact PF_conv (le_4 x dep D d hq (by omega) (by omega) (by omega)) (by decide) (fun _ _ _ _ => rfl) (fun _ _ _ _ => rfl)
  · exact PF_conv (le_5 x dep D d hq (by omega) (by omega) (by omega)) (by decide) (fun _ _ _ _ => rfl) (fun _ _ _ _ => rfl)
  · exact PF_conv (le_6 x dep D d hq (by omega) (by omega) (by omega)) (by decide) (fun _ _ _ _ => rfl) (fun _ _ _ _ => rfl)
  · exact PF_conv (le_7 x dep D d hq (by omega) (by omega) (by omega)) (by decide) (fun _ _ _ _ => rfl) (fun _ _ _ _ => rfl)
theorem lk_0 {b n q : Nat} : ∀ (x : Int32) (dep D d : Nat), q < 8 → dep + 1 ≤ 40 → 3 ≤ D → 1 ≤ d → PF b n q 1 (fun σ => (mgfrost D).2.2.1 σ (nI 0) (nI 2) x (nI dep)) (fun υ => mgleaks d υ (nI n) (nI 0) x) := by
  intro x dep D d hq h1 h2 h3
  obtain ⟨D, rfl⟩ : ∃ m, D = m + 2 := ⟨D - 2, by omega⟩
  obtain ⟨d, rfl⟩ : ∃ m, d = m + 1 := ⟨d - 1, by omega⟩
  refine PF_conv (PF_tr (nI 11) (PF_self (fun z => x ^^^ z))) (by decide) (fun σ υ r hA => ?_) (fun σ υ r hA => ?_)
  · show (mgfrost (D + 1 + 1)).2.2.1 σ (nI 0) (nI 2) x (nI dep) = _
    rw [from_eq (by decide) (by decide) (by omega)]
    show mrX2_perform (mgfrost (D + 0)) σ (nI 11) (nI 0) x (nI (dep + 1)) = _
    rw [perf_11]
    try rfl
  · show mrX10_leaksBy (mgleaks d) υ (nI n) (nI 0) x = _
    unfold mrX10_leaksBy
    rw [if_pos (show nI 0 = 0 by decide)]
    try rfl
theorem lk_1 {b n q : Nat} : ∀ (x : Int32) (dep D d : Nat), q < 8 → dep + 1 ≤ 40 → 3 ≤ D → 2 ≤ d → PF b n q 1 (fun σ => (mgfrost D).2.2.1 σ (nI 1) (nI 2) x (nI dep)) (fun υ => mgleaks d υ (nI n) (nI 1) x) := by
  intro x dep D d hq h1 h2 h3
  obtain ⟨D, rfl⟩ : ∃ m, D = m + 1 := ⟨D - 1, by omega⟩
  obtain ⟨d, rfl⟩ : ∃ m, d = m + 1 := ⟨d - 1, by omega⟩
  refine PF_conv (lk_0 x dep (D + 1) d hq (by omega) (by omega) (by omega)) (by decide) (fun σ υ r hA => ?_) (fun σ υ r hA => ?_)
  · show (mgfrost (D + 1)).2.2.1 σ (nI 1) (nI 2) x (nI dep) = (mgfrost (D + 1)).2.2.1 σ (nI 0) (nI 2) x (nI dep)
    rw [from_eq (by decide) (by decide) (by omega), from_eq (by decide) (by decide) (by omega), show fnd 4 1 2 = fnd 4 0 2 by decide]
  · have e : mX10_above υ (nI 1) = some (nI 0, υ) := above10 (by decide) (by decide) υ
    show mrX10_leaksBy (mgleaks d) υ (nI n) (nI 1) x = mgleaks d υ (nI n) (nI 0) x
    unfold mrX10_leaksBy
    rw [if_neg (show ¬ nI 1 = 0 by decide), if_pos (show nI 1 = 1 by decide), e, gb_some, bind_id]
theorem lk_2 {b n q : Nat} : ∀ (x : Int32) (dep D d : Nat), q < 8 → dep + 1 ≤ 40 → 3 ≤ D → 2 ≤ d → PF b n q 1 (fun σ => (mgfrost D).2.2.1 σ (nI 2) (nI 2) x (nI dep)) (fun υ => mgleaks d υ (nI n) (nI 2) x) := by
  intro x dep D d hq h1 h2 h3
  obtain ⟨D, rfl⟩ : ∃ m, D = m + 1 := ⟨D - 1, by omega⟩
  obtain ⟨d, rfl⟩ : ∃ m, d = m + 1 := ⟨d - 1, by omega⟩
  refine PF_conv (lk_0 x dep (D + 1) d hq (by omega) (by omega) (by omega)) (by decide) (fun σ υ r hA => ?_) (fun σ υ r hA => ?_)
  · show (mgfrost (D + 1)).2.2.1 σ (nI 2) (nI 2) x (nI dep) = (mgfrost (D + 1)).2.2.1 σ (nI 0) (nI 2) x (nI dep)
    rw [from_eq (by decide) (by decide) (by omega), from_eq (by decide) (by decide) (by omega), show fnd 4 2 2 = fnd 4 0 2 by decide]
  · have e : mX10_above υ (nI 2) = some (nI 0, υ) := above10 (by decide) (by decide) υ
    show mrX10_leaksBy (mgleaks d) υ (nI n) (nI 2) x = mgleaks d υ (nI n) (nI 0) x
    unfold mrX10_leaksBy
    rw [if_neg (show ¬ nI 2 = 0 by decide), if_neg (show ¬ nI 2 = 1 by decide), if_pos (show nI 2 = 2 by decide), e, gb_some, bind_id]
theorem lk_6 {b n q : Nat} : ∀ (x : Int32) (dep D d : Nat), q < 8 → dep + 1 ≤ 40 → 3 ≤ D → 2 ≤ d → PF b n q 1 (fun σ => (mgfrost D).2.2.1 σ (nI 6) (nI 2) x (nI dep)) (fun υ => mgleaks d υ (nI n) (nI 6) x) := by
  intro x dep D d hq h1 h2 h3
  obtain ⟨D, rfl⟩ : ∃ m, D = m + 1 := ⟨D - 1, by omega⟩
  obtain ⟨d, rfl⟩ : ∃ m, d = m + 1 := ⟨d - 1, by omega⟩
  refine PF_conv (lk_0 x dep (D + 1) d hq (by omega) (by omega) (by omega)) (by decide) (fun σ υ r hA => ?_) (fun σ υ r hA => ?_)
  · show (mgfrost (D + 1)).2.2.1 σ (nI 6) (nI 2) x (nI dep) = (mgfrost (D + 1)).2.2.1 σ (nI 0) (nI 2) x (nI dep)
    rw [from_eq (by decide) (by decide) (by omega), from_eq (by decide) (by decide) (by omega), show fnd 4 6 2 = fnd 4 0 2 by decide]
  · have e : mX10_above υ (nI 6) = some (nI 0, υ) := above10 (by decide) (by decide) υ
    show mrX10_leaksBy (mgleaks d) υ (nI n) (nI 6) x = mgleaks d υ (nI n) (nI 0) x
    unfold mrX10_leaksBy
    rw [if_neg (show ¬ nI 6 = 0 by decide), if_neg (show ¬ nI 6 = 1 by decide), if_neg (show ¬ nI 6 = 2 by decide), if_neg (show ¬ nI 6 = 3 by decide), if_neg (show ¬ nI 6 = 4 by decide), e, gb_some, bind_id]
theorem lk_3 {b n q : Nat} : ∀ (x : Int32) (dep D d : Nat), q < 8 → dep + 2 ≤ 40 → 6 ≤ D → 3 ≤ d → PF b n q 2 (fun σ => (mgfrost D).2.2.1 σ (nI 3) (nI 2) x (nI dep)) (fun υ => mgleaks d υ (nI n) (nI 3) x) := by
  intro x dep D d hq h1 h2 h3
  obtain ⟨D, rfl⟩ : ∃ m, D = m + 3 := ⟨D - 3, by omega⟩
  obtain ⟨d, rfl⟩ : ∃ m, d = m + 1 := ⟨d - 1, by omega⟩
  refine PF_conv (PF_tr (nI 40) (PF_map (fun v => v * 3) (ab_PF (k := 3) (p := 2) (a := 2) (by decide) (by decide) rfl (lk_2 x (dep + 1) D d hq (by omega) (by omega) (by omega))))) (by decide) (fun σ υ r hA => ?_) (fun σ υ r hA => ?_)
  · show (mgfrost (D + 2 + 1)).2.2.1 σ (nI 3) (nI 2) x (nI dep) = _
    rw [from_eq (by decide) (by decide) (by omega)]
    show mrX2_perform (mgfrost (D + 1)) σ (nI 40) (nI 3) x (nI (dep + 1)) = _
    rw [perf_40]
    try rfl
  · show mrX10_leaksBy (mgleaks d) υ (nI n) (nI 3) x = _
    unfold mrX10_leaksBy
    rw [if_neg (show ¬ nI 3 = 0 by decide), if_neg (show ¬ nI 3 = 1 by decide), if_neg (show ¬ nI 3 = 2 by decide), if_pos (show nI 3 = 3 by decide)]
    try rfl
theorem lk_4 {b n q : Nat} : ∀ (x : Int32) (dep D d : Nat), q < 8 → dep + 3 ≤ 40 → 9 ≤ D → 3 ≤ d → PF b n q 4 (fun σ => (mgfrost D).2.2.1 σ (nI 4) (nI 2) x (nI dep)) (fun υ => mgleaks d υ (nI n) (nI 4) x) := by
  intro x dep D d hq h1 h2 h3
  obtain ⟨D, rfl⟩ : ∃ m, D = m + 3 := ⟨D - 3, by omega⟩
  obtain ⟨d, rfl⟩ : ∃ m, d = m + 1 := ⟨d - 1, by omega⟩
  refine PF_conv (PF_tr (nI 50) (PF_two (fun v u => v - u) (ab_PF (k := 4) (p := 1) (a := 2) (by decide) (by decide) rfl (lk_1 x (dep + 1) D d hq (by omega) (by omega) (by omega))) (own_PF (a := 0) (d10 := fun s => mX10_letsBy s (nI n) (s.1 74 n) 2) (le_all 2 (dep + 1) D 16 hq (by omega) (by omega) (by omega)) (fun σ υ r hA => by show mX10_letsBy υ (nI n) (υ.1 74 n) 2 = _; rw [hA.2.2.2.2.2.2.1]; rfl)))) (by decide) (fun σ υ r hA => ?_) (fun σ υ r hA => ?_)
  · show (mgfrost (D + 2 + 1)).2.2.1 σ (nI 4) (nI 2) x (nI dep) = _
    rw [from_eq (by decide) (by decide) (by omega)]
    show mrX2_perform (mgfrost (D + 1)) σ (nI 50) (nI 4) x (nI (dep + 1)) = _
    rw [perf_50]
    try rfl
  · show mrX10_leaksBy (mgleaks d) υ (nI n) (nI 4) x = _
    unfold mrX10_leaksBy
    rw [if_neg (show ¬ nI 4 = 0 by decide), if_neg (show ¬ nI 4 = 1 by decide), if_neg (show ¬ nI 4 = 2 by decide), if_neg (show ¬ nI 4 = 3 by decide), if_pos (show nI 4 = 4 by decide)]
    have ib : inbB (nI n) 50 = true := inbB_nI (by have := hA.1; have := hA.2.1; omega) (by decide)
    have cl : Int32.toNatClampNeg (nI n) = n := nI_cl (by have := hA.1; have := hA.2.1; omega)
    simp only [ib, cl, if_true]
    try rfl
theorem lk_5 {b n q : Nat} : ∀ (x : Int32) (dep D d : Nat), q < 8 → dep + 2 ≤ 40 → 6 ≤ D → 4 ≤ d → PF b n q 2 (fun σ => (mgfrost D).2.2.1 σ (nI 5) (nI 2) x (nI dep)) (fun υ => mgleaks d υ (nI n) (nI 5) x) := by
  intro x dep D d hq h1 h2 h3
  obtain ⟨D, rfl⟩ : ∃ m, D = m + 1 := ⟨D - 1, by omega⟩
  obtain ⟨d, rfl⟩ : ∃ m, d = m + 1 := ⟨d - 1, by omega⟩
  refine PF_conv (lk_3 x dep (D + 1) d hq (by omega) (by omega) (by omega)) (by decide) (fun σ υ r hA => ?_) (fun σ υ r hA => ?_)
  · show (mgfrost (D + 1)).2.2.1 σ (nI 5) (nI 2) x (nI dep) = (mgfrost (D + 1)).2.2.1 σ (nI 3) (nI 2) x (nI dep)
    rw [from_eq (by decide) (by decide) (by omega), from_eq (by decide) (by decide) (by omega), show fnd 4 5 2 = fnd 4 3 2 by decide]
  · have e : mX10_above υ (nI 5) = some (nI 3, υ) := above10 (by decide) (by decide) υ
    show mrX10_leaksBy (mgleaks d) υ (nI n) (nI 5) x = mgleaks d υ (nI n) (nI 3) x
    unfold mrX10_leaksBy
    rw [if_neg (show ¬ nI 5 = 0 by decide), if_neg (show ¬ nI 5 = 1 by decide), if_neg (show ¬ nI 5 = 2 by decide), if_neg (show ¬ nI 5 = 3 by decide), if_neg (show ¬ nI 5 = 4 by decide), e, gb_some, bind_id]
theorem lk_7 {b n q : Nat} : ∀ (x : Int32) (dep D d : Nat), q < 8 → dep + 3 ≤ 40 → 9 ≤ D → 4 ≤ d → PF b n q 4 (fun σ => (mgfrost D).2.2.1 σ (nI 7) (nI 2) x (nI dep)) (fun υ => mgleaks d υ (nI n) (nI 7) x) := by
  intro x dep D d hq h1 h2 h3
  obtain ⟨D, rfl⟩ : ∃ m, D = m + 1 := ⟨D - 1, by omega⟩
  obtain ⟨d, rfl⟩ : ∃ m, d = m + 1 := ⟨d - 1, by omega⟩
  refine PF_conv (lk_4 x dep (D + 1) d hq (by omega) (by omega) (by omega)) (by decide) (fun σ υ r hA => ?_) (fun σ υ r hA => ?_)
  · show (mgfrost (D + 1)).2.2.1 σ (nI 7) (nI 2) x (nI dep) = (mgfrost (D + 1)).2.2.1 σ (nI 4) (nI 2) x (nI dep)
    rw [from_eq (by decide) (by decide) (by omega), from_eq (by decide) (by decide) (by omega), show fnd 4 7 2 = fnd 4 4 2 by decide]
  · have e : mX10_above υ (nI 7) = some (nI 4, υ) := above10 (by decide) (by decide) υ
    show mrX10_leaksBy (mgleaks d) υ (nI n) (nI 7) x = mgleaks d υ (nI n) (nI 4) x
    unfold mrX10_leaksBy
    rw [if_neg (show ¬ nI 7 = 0 by decide), if_neg (show ¬ nI 7 = 1 by decide), if_neg (show ¬ nI 7 = 2 by decide), if_neg (show ¬ nI 7 = 3 by decide), if_neg (show ¬ nI 7 = 4 by decide), e, gb_some, bind_id]
theorem lk_all {b n q : Nat} (x : Int32) (dep D d : Nat) (hq : q < 8) (h1 : dep + 3 ≤ 40) (h2 : 9 ≤ D) (h3 : 4 ≤ d) : PF b n q 4 (fun σ => (mgfrost D).2.2.1 σ (nI q) (nI 2) x (nI dep)) (fun υ => mgleaks d υ (nI n) (nI q) x) := by
  rcases (show q = 0 ∨ q = 1 ∨ q = 2 ∨ q = 3 ∨ q = 4 ∨ q = 5 ∨ q = 6 ∨ q = 7 by omega) with rfl | rfl | rfl | rfl | rfl | rfl | rfl | rfl
  · exact PF_conv (lk_0 x dep D d hq (by omega) (by omega) (by omega)) (by decide) (fun _ _ _ _ => rfl) (fun _ _ _ _ => rfl)
  · exact PF_conv (lk_1 x dep D d hq (by omega) (by omega) (by omega)) (by decide) (fun _ _ _ _ => rfl) (fun _ _ _ _ => rfl)
  · exact PF_conv (lk_2 x dep D d hq (by omega) (by omega) (by omega)) (by decide) (fun _ _ _ _ => rfl) (fun _ _ _ _ => rfl)
  · exact PF_conv (lk_3 x dep D d hq (by omega) (by omega) (by omega)) (by decide) (fun _ _ _ _ => rfl) (fun _ _ _ _ => rfl)
  · exact PF_conv (lk_4 x dep D d hq (by omega) (by omega) (by omega)) (by decide) (fun _ _ _ _ => rfl) (fun _ _ _ _ => rfl)
  · exact PF_conv (lk_5 x dep D d hq (by omega) (by omega) (by omega)) (by decide) (fun _ _ _ _ => rfl) (fun _ _ _ _ => rfl)
  · exact PF_conv (lk_6 x dep D d hq (by omega) (by omega) (by omega)) (by decide) (fun _ _ _ _ => rfl) (fun _ _ _ _ => rfl)
  · exact PF_conv (lk_7 x dep D d hq (by omega) (by omega) (by omega)) (by decide) (fun _ _ _ _ => rfl) (fun _ _ _ _ => rfl)
theorem gw_0 {b n q : Nat} : ∀ (x : Int32) (dep D d : Nat), q < 8 → dep + 3 ≤ 40 → 9 ≤ D → 1 ≤ d → PF b n q 3 (fun σ => (mgfrost D).2.2.1 σ (nI 0) (nI 1) x (nI dep)) (fun υ => mggrows d υ (nI n) (nI 0) x) := by
  intro x dep D d hq h1 h2 h3
  obtain ⟨D, rfl⟩ : ∃ m, D = m + 3 := ⟨D - 3, by omega⟩
  obtain ⟨d, rfl⟩ : ∃ m, d = m + 1 := ⟨d - 1, by omega⟩
  refine PF_conv (PF_tr (nI 10) (PF_map (fun v => v * 2) (own_PF (a := 0) (d10 := fun s => mX10_letsBy s (nI n) (s.1 74 n) x) (le_all x (dep + 1) D 16 hq (by omega) (by omega) (by omega)) (fun σ υ r hA => by show mX10_letsBy υ (nI n) (υ.1 74 n) x = _; rw [hA.2.2.2.2.2.2.1]; rfl)))) (by decide) (fun σ υ r hA => ?_) (fun σ υ r hA => ?_)
  · show (mgfrost (D + 2 + 1)).2.2.1 σ (nI 0) (nI 1) x (nI dep) = _
    rw [from_eq (by decide) (by decide) (by omega)]
    show mrX2_perform (mgfrost (D + 1)) σ (nI 10) (nI 0) x (nI (dep + 1)) = _
    rw [perf_10]
    try rfl
  · show mrX10_growsBy (mggrows d) υ (nI n) (nI 0) x = _
    unfold mrX10_growsBy
    rw [if_pos (show nI 0 = 0 by decide)]
    have ib : inbB (nI n) 50 = true := inbB_nI (by have := hA.1; have := hA.2.1; omega) (by decide)
    have cl : Int32.toNatClampNeg (nI n) = n := nI_cl (by have := hA.1; have := hA.2.1; omega)
    simp only [ib, cl, if_true]
    try rfl
theorem gw_1 {b n q : Nat} : ∀ (x : Int32) (dep D d : Nat), q < 8 → dep + 3 ≤ 40 → 9 ≤ D → 2 ≤ d → PF b n q 3 (fun σ => (mgfrost D).2.2.1 σ (nI 1) (nI 1) x (nI dep)) (fun υ => mggrows d υ (nI n) (nI 1) x) := by
  intro x dep D d hq h1 h2 h3
  obtain ⟨D, rfl⟩ : ∃ m, D = m + 1 := ⟨D - 1, by omega⟩
  obtain ⟨d, rfl⟩ : ∃ m, d = m + 1 := ⟨d - 1, by omega⟩
  refine PF_conv (gw_0 x dep (D + 1) d hq (by omega) (by omega) (by omega)) (by decide) (fun σ υ r hA => ?_) (fun σ υ r hA => ?_)
  · show (mgfrost (D + 1)).2.2.1 σ (nI 1) (nI 1) x (nI dep) = (mgfrost (D + 1)).2.2.1 σ (nI 0) (nI 1) x (nI dep)
    rw [from_eq (by decide) (by decide) (by omega), from_eq (by decide) (by decide) (by omega), show fnd 4 1 1 = fnd 4 0 1 by decide]
  · have e : mX10_above υ (nI 1) = some (nI 0, υ) := above10 (by decide) (by decide) υ
    show mrX10_growsBy (mggrows d) υ (nI n) (nI 1) x = mggrows d υ (nI n) (nI 0) x
    unfold mrX10_growsBy
    rw [if_neg (show ¬ nI 1 = 0 by decide), if_pos (show nI 1 = 1 by decide), e, gb_some, bind_id]
theorem gw_2 {b n q : Nat} : ∀ (x : Int32) (dep D d : Nat), q < 8 → dep + 4 ≤ 40 → 12 ≤ D → 2 ≤ d → PF b n q 4 (fun σ => (mgfrost D).2.2.1 σ (nI 2) (nI 1) x (nI dep)) (fun υ => mggrows d υ (nI n) (nI 2) x) := by
  intro x dep D d hq h1 h2 h3
  obtain ⟨D, rfl⟩ : ∃ m, D = m + 3 := ⟨D - 3, by omega⟩
  obtain ⟨d, rfl⟩ : ∃ m, d = m + 1 := ⟨d - 1, by omega⟩
  refine PF_conv (PF_tr (nI 30) (PF_map (fun v => -v) (ab_PF (k := 2) (p := 0) (a := 1) (by decide) (by decide) rfl (gw_0 x (dep + 1) D d hq (by omega) (by omega) (by omega))))) (by decide) (fun σ υ r hA => ?_) (fun σ υ r hA => ?_)
  · show (mgfrost (D + 2 + 1)).2.2.1 σ (nI 2) (nI 1) x (nI dep) = _
    rw [from_eq (by decide) (by decide) (by omega)]
    show mrX2_perform (mgfrost (D + 1)) σ (nI 30) (nI 2) x (nI (dep + 1)) = _
    rw [perf_30]
    try rfl
  · show mrX10_growsBy (mggrows d) υ (nI n) (nI 2) x = _
    unfold mrX10_growsBy
    rw [if_neg (show ¬ nI 2 = 0 by decide), if_neg (show ¬ nI 2 = 1 by decide), if_pos (show nI 2 = 2 by decide)]
    try rfl
theorem gw_6 {b n q : Nat} : ∀ (x : Int32) (dep D d : Nat), q < 8 → dep + 3 ≤ 40 → 9 ≤ D → 2 ≤ d → PF b n q 3 (fun σ => (mgfrost D).2.2.1 σ (nI 6) (nI 1) x (nI dep)) (fun υ => mggrows d υ (nI n) (nI 6) x) := by
  intro x dep D d hq h1 h2 h3
  obtain ⟨D, rfl⟩ : ∃ m, D = m + 1 := ⟨D - 1, by omega⟩
  obtain ⟨d, rfl⟩ : ∃ m, d = m + 1 := ⟨d - 1, by omega⟩
  refine PF_conv (gw_0 x dep (D + 1) d hq (by omega) (by omega) (by omega)) (by decide) (fun σ υ r hA => ?_) (fun σ υ r hA => ?_)
  · show (mgfrost (D + 1)).2.2.1 σ (nI 6) (nI 1) x (nI dep) = (mgfrost (D + 1)).2.2.1 σ (nI 0) (nI 1) x (nI dep)
    rw [from_eq (by decide) (by decide) (by omega), from_eq (by decide) (by decide) (by omega), show fnd 4 6 1 = fnd 4 0 1 by decide]
  · have e : mX10_above υ (nI 6) = some (nI 0, υ) := above10 (by decide) (by decide) υ
    show mrX10_growsBy (mggrows d) υ (nI n) (nI 6) x = mggrows d υ (nI n) (nI 0) x
    unfold mrX10_growsBy
    rw [if_neg (show ¬ nI 6 = 0 by decide), if_neg (show ¬ nI 6 = 1 by decide), if_neg (show ¬ nI 6 = 2 by decide), if_neg (show ¬ nI 6 = 3 by decide), if_neg (show ¬ nI 6 = 4 by decide), if_neg (show ¬ nI 6 = 5 by decide), if_pos (show nI 6 = 6 by decide), e, gb_some, bind_id]
theorem gw_3 {b n q : Nat} : ∀ (x : Int32) (dep D d : Nat), q < 8 → dep + 5 ≤ 40 → 15 ≤ D → 3 ≤ d → PF b n q 5 (fun σ => (mgfrost D).2.2.1 σ (nI 3) (nI 1) x (nI dep)) (fun υ => mggrows d υ (nI n) (nI 3) x) := by
  intro x dep D d hq h1 h2 h3
  obtain ⟨D, rfl⟩ : ∃ m, D = m + 3 := ⟨D - 3, by omega⟩
  obtain ⟨d, rfl⟩ : ∃ m, d = m + 1 := ⟨d - 1, by omega⟩
  refine PF_conv (PF_tr (nI 41) (PF_map (fun v => v) (ab_PF (k := 3) (p := 2) (a := 1) (by decide) (by decide) rfl (gw_2 (x + 1) (dep + 1) D d hq (by omega) (by omega) (by omega))))) (by decide) (fun σ υ r hA => ?_) (fun σ υ r hA => ?_)
  · show (mgfrost (D + 2 + 1)).2.2.1 σ (nI 3) (nI 1) x (nI dep) = _
    rw [from_eq (by decide) (by decide) (by omega)]
    show mrX2_perform (mgfrost (D + 1)) σ (nI 41) (nI 3) x (nI (dep + 1)) = _
    rw [perf_41]
    try rfl
  · show mrX10_growsBy (mggrows d) υ (nI n) (nI 3) x = _
    unfold mrX10_growsBy
    rw [if_neg (show ¬ nI 3 = 0 by decide), if_neg (show ¬ nI 3 = 1 by decide), if_neg (show ¬ nI 3 = 2 by decide), if_pos (show nI 3 = 3 by decide)]
    try rfl
theorem gw_4 {b n q : Nat} : ∀ (x : Int32) (dep D d : Nat), q < 8 → dep + 3 ≤ 40 → 9 ≤ D → 3 ≤ d → PF b n q 3 (fun σ => (mgfrost D).2.2.1 σ (nI 4) (nI 1) x (nI dep)) (fun υ => mggrows d υ (nI n) (nI 4) x) := by
  intro x dep D d hq h1 h2 h3
  obtain ⟨D, rfl⟩ : ∃ m, D = m + 1 := ⟨D - 1, by omega⟩
  obtain ⟨d, rfl⟩ : ∃ m, d = m + 1 := ⟨d - 1, by omega⟩
  refine PF_conv (gw_1 x dep (D + 1) d hq (by omega) (by omega) (by omega)) (by decide) (fun σ υ r hA => ?_) (fun σ υ r hA => ?_)
  · show (mgfrost (D + 1)).2.2.1 σ (nI 4) (nI 1) x (nI dep) = (mgfrost (D + 1)).2.2.1 σ (nI 1) (nI 1) x (nI dep)
    rw [from_eq (by decide) (by decide) (by omega), from_eq (by decide) (by decide) (by omega), show fnd 4 4 1 = fnd 4 1 1 by decide]
  · have e : mX10_above υ (nI 4) = some (nI 1, υ) := above10 (by decide) (by decide) υ
    show mrX10_growsBy (mggrows d) υ (nI n) (nI 4) x = mggrows d υ (nI n) (nI 1) x
    unfold mrX10_growsBy
    rw [if_neg (show ¬ nI 4 = 0 by decide), if_neg (show ¬ nI 4 = 1 by decide), if_neg (show ¬ nI 4 = 2 by decide), if_neg (show ¬ nI 4 = 3 by decide), if_pos (show nI 4 = 4 by decide), e, gb_some, bind_id]
theorem gw_5 {b n q : Nat} : ∀ (x : Int32) (dep D d : Nat), q < 8 → dep + 5 ≤ 40 → 15 ≤ D → 4 ≤ d → PF b n q 5 (fun σ => (mgfrost D).2.2.1 σ (nI 5) (nI 1) x (nI dep)) (fun υ => mggrows d υ (nI n) (nI 5) x) := by
  intro x dep D d hq h1 h2 h3
  obtain ⟨D, rfl⟩ : ∃ m, D = m + 1 := ⟨D - 1, by omega⟩
  obtain ⟨d, rfl⟩ : ∃ m, d = m + 1 := ⟨d - 1, by omega⟩
  refine PF_conv (gw_3 x dep (D + 1) d hq (by omega) (by omega) (by omega)) (by decide) (fun σ υ r hA => ?_) (fun σ υ r hA => ?_)
  · show (mgfrost (D + 1)).2.2.1 σ (nI 5) (nI 1) x (nI dep) = (mgfrost (D + 1)).2.2.1 σ (nI 3) (nI 1) x (nI dep)
    rw [from_eq (by decide) (by decide) (by omega), from_eq (by decide) (by decide) (by omega), show fnd 4 5 1 = fnd 4 3 1 by decide]
  · have e : mX10_above υ (nI 5) = some (nI 3, υ) := above10 (by decide) (by decide) υ
    show mrX10_growsBy (mggrows d) υ (nI n) (nI 5) x = mggrows d υ (nI n) (nI 3) x
    unfold mrX10_growsBy
    rw [if_neg (show ¬ nI 5 = 0 by decide), if_neg (show ¬ nI 5 = 1 by decide), if_neg (show ¬ nI 5 = 2 by decide), if_neg (show ¬ nI 5 = 3 by decide), if_neg (show ¬ nI 5 = 4 by decide), if_pos (show nI 5 = 5 by decide), e, gb_some, bind_id]
theorem gw_7 {b n q : Nat} : ∀ (x : Int32) (dep D d : Nat), q < 8 → dep + 4 ≤ 40 → 12 ≤ D → 4 ≤ d → PF b n q 8 (fun σ => (mgfrost D).2.2.1 σ (nI 7) (nI 1) x (nI dep)) (fun υ => mggrows d υ (nI n) (nI 7) x) := by
  intro x dep D d hq h1 h2 h3
  obtain ⟨D, rfl⟩ : ∃ m, D = m + 3 := ⟨D - 3, by omega⟩
  obtain ⟨d, rfl⟩ : ∃ m, d = m + 1 := ⟨d - 1, by omega⟩
  refine PF_conv (PF_tr (nI 80) (PF_two (fun v u => v + u) (ab_PF (k := 7) (p := 4) (a := 1) (by decide) (by decide) rfl (gw_4 x (dep + 1) D d hq (by omega) (by omega) (by omega))) (own_PF (a := 2) (d10 := fun s => mX10_leaksBy s (nI n) (s.1 74 n) 2) (lk_all 2 (dep + 1) D 16 hq (by omega) (by omega) (by omega)) (fun σ υ r hA => by show mX10_leaksBy υ (nI n) (υ.1 74 n) 2 = _; rw [hA.2.2.2.2.2.2.1]; rfl)))) (by decide) (fun σ υ r hA => ?_) (fun σ υ r hA => ?_)
  · show (mgfrost (D + 2 + 1)).2.2.1 σ (nI 7) (nI 1) x (nI dep) = _
    rw [from_eq (by decide) (by decide) (by omega)]
    show mrX2_perform (mgfrost (D + 1)) σ (nI 80) (nI 7) x (nI (dep + 1)) = _
    rw [perf_80]
    try rfl
  · show mrX10_growsBy (mggrows d) υ (nI n) (nI 7) x = _
    unfold mrX10_growsBy
    rw [if_neg (show ¬ nI 7 = 0 by decide), if_neg (show ¬ nI 7 = 1 by decide), if_neg (show ¬ nI 7 = 2 by decide), if_neg (show ¬ nI 7 = 3 by decide), if_neg (show ¬ nI 7 = 4 by decide), if_neg (show ¬ nI 7 = 5 by decide), if_neg (show ¬ nI 7 = 6 by decide), if_pos (show nI 7 = 7 by decide)]
    have ib : inbB (nI n) 50 = true := inbB_nI (by have := hA.1; have := hA.2.1; omega) (by decide)
    have cl : Int32.toNatClampNeg (nI n) = n := nI_cl (by have := hA.1; have := hA.2.1; omega)
    simp only [ib, cl, if_true]
    try rfl
theorem gw_all {b n q : Nat} (x : Int32) (dep D d : Nat) (hq : q < 8) (h1 : dep + 5 ≤ 40) (h2 : 15 ≤ D) (h3 : 4 ≤ d) : PF b n q 8 (fun σ => (mgfrost D).2.2.1 σ (nI q) (nI 1) x (nI dep)) (fun υ => mggrows d υ (nI n) (nI q) x) := by
  rcases (show q = 0 ∨ q = 1 ∨ q = 2 ∨ q = 3 ∨ q = 4 ∨ q = 5 ∨ q = 6 ∨ q = 7 by omega) with rfl | rfl | rfl | rfl | rfl | rfl | rfl | rfl
  · exact PF_conv (gw_0 x dep D d hq (by omega) (by omega) (by omega)) (by decide) (fun _ _ _ _ => rfl) (fun _ _ _ _ => rfl)
  · exact PF_conv (gw_1 x dep D d hq (by omega) (by omega) (by omega)) (by decide) (fun _ _ _ _ => rfl) (fun _ _ _ _ => rfl)
  · exact PF_conv (gw_2 x dep D d hq (by omega) (by omega) (by omega)) (by decide) (fun _ _ _ _ => rfl) (fun _ _ _ _ => rfl)
  · exact PF_conv (gw_3 x dep D d hq (by omega) (by omega) (by omega)) (by decide) (fun _ _ _ _ => rfl) (fun _ _ _ _ => rfl)
  · exact PF_conv (gw_4 x dep D d hq (by omega) (by omega) (by omega)) (by decide) (fun _ _ _ _ => rfl) (fun _ _ _ _ => rfl)
  · exact PF_conv (gw_5 x dep D d hq (by omega) (by omega) (by omega)) (by decide) (fun _ _ _ _ => rfl) (fun _ _ _ _ => rfl)
  · exact PF_conv (gw_6 x dep D d hq (by omega) (by omega) (by omega)) (by decide) (fun _ _ _ _ => rfl) (fun _ _ _ _ => rfl)
  · exact PF_conv (gw_7 x dep D d hq (by omega) (by omega) (by omega)) (by decide) (fun _ _ _ _ => rfl) (fun _ _ _ _ => rfl)
theorem te_0 {b n q : Nat} : ∀ (x : Int32) (dep D d : Nat), q < 8 → dep + 6 ≤ 40 → 18 ≤ D → 1 ≤ d → PF b n q 13 (fun σ => (mgfrost D).2.2.1 σ (nI 0) (nI 3) x (nI dep)) (fun υ => mgtells d υ (nI n) (nI 0) x) := by
  intro x dep D d hq h1 h2 h3
  obtain ⟨D, rfl⟩ : ∃ m, D = m + 3 := ⟨D - 3, by omega⟩
  obtain ⟨d, rfl⟩ : ∃ m, d = m + 1 := ⟨d - 1, by omega⟩
  refine PF_conv (PF_tr (nI 2) (PF_two (fun v u => v - u) (own_PF (a := 1) (d10 := fun s => mX10_growsBy s (nI n) (s.1 74 n) x) (gw_all x (dep + 1) D 16 hq (by omega) (by omega) (by omega)) (fun σ υ r hA => by show mX10_growsBy υ (nI n) (υ.1 74 n) x = _; rw [hA.2.2.2.2.2.2.1]; rfl)) (own_PF (a := 2) (d10 := fun s => mX10_leaksBy s (nI n) (s.1 74 n) 1) (lk_all 1 (dep + 1) D 16 hq (by omega) (by omega) (by omega)) (fun σ υ r hA => by show mX10_leaksBy υ (nI n) (υ.1 74 n) 1 = _; rw [hA.2.2.2.2.2.2.1]; rfl)))) (by decide) (fun σ υ r hA => ?_) (fun σ υ r hA => ?_)
  · show (mgfrost (D + 2 + 1)).2.2.1 σ (nI 0) (nI 3) x (nI dep) = _
    rw [from_eq (by decide) (by decide) (by omega)]
    show mrX2_perform (mgfrost (D + 1)) σ (nI 2) (nI 0) x (nI (dep + 1)) = _
    rw [perf_2]
    try rfl
  · show mrX10_tells (mgtells d) υ (nI n) (nI 0) x = _
    unfold mrX10_tells
    rw [if_pos (show nI 0 = 0 by decide)]
    have ib : inbB (nI n) 50 = true := inbB_nI (by have := hA.1; have := hA.2.1; omega) (by decide)
    have cl : Int32.toNatClampNeg (nI n) = n := nI_cl (by have := hA.1; have := hA.2.1; omega)
    simp only [ib, cl, if_true]
    try rfl
theorem te_1 {b n q : Nat} : ∀ (x : Int32) (dep D d : Nat), q < 8 → dep + 6 ≤ 40 → 18 ≤ D → 2 ≤ d → PF b n q 13 (fun σ => (mgfrost D).2.2.1 σ (nI 1) (nI 3) x (nI dep)) (fun υ => mgtells d υ (nI n) (nI 1) x) := by
  intro x dep D d hq h1 h2 h3
  obtain ⟨D, rfl⟩ : ∃ m, D = m + 1 := ⟨D - 1, by omega⟩
  obtain ⟨d, rfl⟩ : ∃ m, d = m + 1 := ⟨d - 1, by omega⟩
  refine PF_conv (te_0 x dep (D + 1) d hq (by omega) (by omega) (by omega)) (by decide) (fun σ υ r hA => ?_) (fun σ υ r hA => ?_)
  · show (mgfrost (D + 1)).2.2.1 σ (nI 1) (nI 3) x (nI dep) = (mgfrost (D + 1)).2.2.1 σ (nI 0) (nI 3) x (nI dep)
    rw [from_eq (by decide) (by decide) (by omega), from_eq (by decide) (by decide) (by omega), show fnd 4 1 3 = fnd 4 0 3 by decide]
  · have e : mX10_above υ (nI 1) = some (nI 0, υ) := above10 (by decide) (by decide) υ
    show mrX10_tells (mgtells d) υ (nI n) (nI 1) x = mgtells d υ (nI n) (nI 0) x
    unfold mrX10_tells
    rw [if_neg (show ¬ nI 1 = 0 by decide), if_neg (show ¬ nI 1 = 5 by decide), if_neg (show ¬ nI 1 = 7 by decide), e, gb_some, bind_id]
theorem te_2 {b n q : Nat} : ∀ (x : Int32) (dep D d : Nat), q < 8 → dep + 6 ≤ 40 → 18 ≤ D → 2 ≤ d → PF b n q 13 (fun σ => (mgfrost D).2.2.1 σ (nI 2) (nI 3) x (nI dep)) (fun υ => mgtells d υ (nI n) (nI 2) x) := by
  intro x dep D d hq h1 h2 h3
  obtain ⟨D, rfl⟩ : ∃ m, D = m + 1 := ⟨D - 1, by omega⟩
  obtain ⟨d, rfl⟩ : ∃ m, d = m + 1 := ⟨d - 1, by omega⟩
  refine PF_conv (te_0 x dep (D + 1) d hq (by omega) (by omega) (by omega)) (by decide) (fun σ υ r hA => ?_) (fun σ υ r hA => ?_)
  · show (mgfrost (D + 1)).2.2.1 σ (nI 2) (nI 3) x (nI dep) = (mgfrost (D + 1)).2.2.1 σ (nI 0) (nI 3) x (nI dep)
    rw [from_eq (by decide) (by decide) (by omega), from_eq (by decide) (by decide) (by omega), show fnd 4 2 3 = fnd 4 0 3 by decide]
  · have e : mX10_above υ (nI 2) = some (nI 0, υ) := above10 (by decide) (by decide) υ
    show mrX10_tells (mgtells d) υ (nI n) (nI 2) x = mgtells d υ (nI n) (nI 0) x
    unfold mrX10_tells
    rw [if_neg (show ¬ nI 2 = 0 by decide), if_neg (show ¬ nI 2 = 5 by decide), if_neg (show ¬ nI 2 = 7 by decide), e, gb_some, bind_id]
theorem te_6 {b n q : Nat} : ∀ (x : Int32) (dep D d : Nat), q < 8 → dep + 6 ≤ 40 → 18 ≤ D → 2 ≤ d → PF b n q 13 (fun σ => (mgfrost D).2.2.1 σ (nI 6) (nI 3) x (nI dep)) (fun υ => mgtells d υ (nI n) (nI 6) x) := by
  intro x dep D d hq h1 h2 h3
  obtain ⟨D, rfl⟩ : ∃ m, D = m + 1 := ⟨D - 1, by omega⟩
  obtain ⟨d, rfl⟩ : ∃ m, d = m + 1 := ⟨d - 1, by omega⟩
  refine PF_conv (te_0 x dep (D + 1) d hq (by omega) (by omega) (by omega)) (by decide) (fun σ υ r hA => ?_) (fun σ υ r hA => ?_)
  · show (mgfrost (D + 1)).2.2.1 σ (nI 6) (nI 3) x (nI dep) = (mgfrost (D + 1)).2.2.1 σ (nI 0) (nI 3) x (nI dep)
    rw [from_eq (by decide) (by decide) (by omega), from_eq (by decide) (by decide) (by omega), show fnd 4 6 3 = fnd 4 0 3 by decide]
  · have e : mX10_above υ (nI 6) = some (nI 0, υ) := above10 (by decide) (by decide) υ
    show mrX10_tells (mgtells d) υ (nI n) (nI 6) x = mgtells d υ (nI n) (nI 0) x
    unfold mrX10_tells
    rw [if_neg (show ¬ nI 6 = 0 by decide), if_neg (show ¬ nI 6 = 5 by decide), if_neg (show ¬ nI 6 = 7 by decide), e, gb_some, bind_id]
theorem te_3 {b n q : Nat} : ∀ (x : Int32) (dep D d : Nat), q < 8 → dep + 6 ≤ 40 → 18 ≤ D → 3 ≤ d → PF b n q 13 (fun σ => (mgfrost D).2.2.1 σ (nI 3) (nI 3) x (nI dep)) (fun υ => mgtells d υ (nI n) (nI 3) x) := by
  intro x dep D d hq h1 h2 h3
  obtain ⟨D, rfl⟩ : ∃ m, D = m + 1 := ⟨D - 1, by omega⟩
  obtain ⟨d, rfl⟩ : ∃ m, d = m + 1 := ⟨d - 1, by omega⟩
  refine PF_conv (te_2 x dep (D + 1) d hq (by omega) (by omega) (by omega)) (by decide) (fun σ υ r hA => ?_) (fun σ υ r hA => ?_)
  · show (mgfrost (D + 1)).2.2.1 σ (nI 3) (nI 3) x (nI dep) = (mgfrost (D + 1)).2.2.1 σ (nI 2) (nI 3) x (nI dep)
    rw [from_eq (by decide) (by decide) (by omega), from_eq (by decide) (by decide) (by omega), show fnd 4 3 3 = fnd 4 2 3 by decide]
  · have e : mX10_above υ (nI 3) = some (nI 2, υ) := above10 (by decide) (by decide) υ
    show mrX10_tells (mgtells d) υ (nI n) (nI 3) x = mgtells d υ (nI n) (nI 2) x
    unfold mrX10_tells
    rw [if_neg (show ¬ nI 3 = 0 by decide), if_neg (show ¬ nI 3 = 5 by decide), if_neg (show ¬ nI 3 = 7 by decide), e, gb_some, bind_id]
theorem te_4 {b n q : Nat} : ∀ (x : Int32) (dep D d : Nat), q < 8 → dep + 6 ≤ 40 → 18 ≤ D → 3 ≤ d → PF b n q 13 (fun σ => (mgfrost D).2.2.1 σ (nI 4) (nI 3) x (nI dep)) (fun υ => mgtells d υ (nI n) (nI 4) x) := by
  intro x dep D d hq h1 h2 h3
  obtain ⟨D, rfl⟩ : ∃ m, D = m + 1 := ⟨D - 1, by omega⟩
  obtain ⟨d, rfl⟩ : ∃ m, d = m + 1 := ⟨d - 1, by omega⟩
  refine PF_conv (te_1 x dep (D + 1) d hq (by omega) (by omega) (by omega)) (by decide) (fun σ υ r hA => ?_) (fun σ υ r hA => ?_)
  · show (mgfrost (D + 1)).2.2.1 σ (nI 4) (nI 3) x (nI dep) = (mgfrost (D + 1)).2.2.1 σ (nI 1) (nI 3) x (nI dep)
    rw [from_eq (by decide) (by decide) (by omega), from_eq (by decide) (by decide) (by omega), show fnd 4 4 3 = fnd 4 1 3 by decide]
  · have e : mX10_above υ (nI 4) = some (nI 1, υ) := above10 (by decide) (by decide) υ
    show mrX10_tells (mgtells d) υ (nI n) (nI 4) x = mgtells d υ (nI n) (nI 1) x
    unfold mrX10_tells
    rw [if_neg (show ¬ nI 4 = 0 by decide), if_neg (show ¬ nI 4 = 5 by decide), if_neg (show ¬ nI 4 = 7 by decide), e, gb_some, bind_id]
theorem te_5 {b n q : Nat} : ∀ (x : Int32) (dep D d : Nat), q < 8 → dep + 7 ≤ 40 → 21 ≤ D → 4 ≤ d → PF b n q 14 (fun σ => (mgfrost D).2.2.1 σ (nI 5) (nI 3) x (nI dep)) (fun υ => mgtells d υ (nI n) (nI 5) x) := by
  intro x dep D d hq h1 h2 h3
  obtain ⟨D, rfl⟩ : ∃ m, D = m + 3 := ⟨D - 3, by omega⟩
  obtain ⟨d, rfl⟩ : ∃ m, d = m + 1 := ⟨d - 1, by omega⟩
  refine PF_conv (PF_tr (nI 60) (PF_map (fun v => v ^^^ 5) (ab_PF (k := 5) (p := 3) (a := 3) (by decide) (by decide) rfl (te_3 x (dep + 1) D d hq (by omega) (by omega) (by omega))))) (by decide) (fun σ υ r hA => ?_) (fun σ υ r hA => ?_)
  · show (mgfrost (D + 2 + 1)).2.2.1 σ (nI 5) (nI 3) x (nI dep) = _
    rw [from_eq (by decide) (by decide) (by omega)]
    show mrX2_perform (mgfrost (D + 1)) σ (nI 60) (nI 5) x (nI (dep + 1)) = _
    rw [perf_60]
    try rfl
  · show mrX10_tells (mgtells d) υ (nI n) (nI 5) x = _
    unfold mrX10_tells
    rw [if_neg (show ¬ nI 5 = 0 by decide), if_pos (show nI 5 = 5 by decide)]
    try rfl
theorem te_7 {b n q : Nat} : ∀ (x : Int32) (dep D d : Nat), q < 8 → dep + 7 ≤ 40 → 21 ≤ D → 4 ≤ d → PF b n q 14 (fun σ => (mgfrost D).2.2.1 σ (nI 7) (nI 3) x (nI dep)) (fun υ => mgtells d υ (nI n) (nI 7) x) := by
  intro x dep D d hq h1 h2 h3
  obtain ⟨D, rfl⟩ : ∃ m, D = m + 3 := ⟨D - 3, by omega⟩
  obtain ⟨d, rfl⟩ : ∃ m, d = m + 1 := ⟨d - 1, by omega⟩
  refine PF_conv (PF_tr (nI 81) (PF_map (fun v => v - 1) (ab_PF (k := 7) (p := 4) (a := 3) (by decide) (by decide) rfl (te_4 x (dep + 1) D d hq (by omega) (by omega) (by omega))))) (by decide) (fun σ υ r hA => ?_) (fun σ υ r hA => ?_)
  · show (mgfrost (D + 2 + 1)).2.2.1 σ (nI 7) (nI 3) x (nI dep) = _
    rw [from_eq (by decide) (by decide) (by omega)]
    show mrX2_perform (mgfrost (D + 1)) σ (nI 81) (nI 7) x (nI (dep + 1)) = _
    rw [perf_81]
    try rfl
  · show mrX10_tells (mgtells d) υ (nI n) (nI 7) x = _
    unfold mrX10_tells
    rw [if_neg (show ¬ nI 7 = 0 by decide), if_neg (show ¬ nI 7 = 5 by decide), if_pos (show nI 7 = 7 by decide)]
    try rfl
theorem te_all {b n q : Nat} (x : Int32) (dep D d : Nat) (hq : q < 8) (h1 : dep + 7 ≤ 40) (h2 : 21 ≤ D) (h3 : 4 ≤ d) : PF b n q 14 (fun σ => (mgfrost D).2.2.1 σ (nI q) (nI 3) x (nI dep)) (fun υ => mgtells d υ (nI n) (nI q) x) := by
  rcases (show q = 0 ∨ q = 1 ∨ q = 2 ∨ q = 3 ∨ q = 4 ∨ q = 5 ∨ q = 6 ∨ q = 7 by omega) with rfl | rfl | rfl | rfl | rfl | rfl | rfl | rfl
  · exact PF_conv (te_0 x dep D d hq (by omega) (by omega) (by omega)) (by decide) (fun _ _ _ _ => rfl) (fun _ _ _ _ => rfl)
  · exact PF_conv (te_1 x dep D d hq (by omega) (by omega) (by omega)) (by decide) (fun _ _ _ _ => rfl) (fun _ _ _ _ => rfl)
  · exact PF_conv (te_2 x dep D d hq (by omega) (by omega) (by omega)) (by decide) (fun _ _ _ _ => rfl) (fun _ _ _ _ => rfl)
  · exact PF_conv (te_3 x dep D d hq (by omega) (by omega) (by omega)) (by decide) (fun _ _ _ _ => rfl) (fun _ _ _ _ => rfl)
  · exact PF_conv (te_4 x dep D d hq (by omega) (by omega) (by omega)) (by decide) (fun _ _ _ _ => rfl) (fun _ _ _ _ => rfl)
  · exact PF_conv (te_5 x dep D d hq (by omega) (by omega) (by omega)) (by decide) (fun _ _ _ _ => rfl) (fun _ _ _ _ => rfl)
  · exact PF_conv (te_6 x dep D d hq (by omega) (by omega) (by omega)) (by decide) (fun _ _ _ _ => rfl) (fun _ _ _ _ => rfl)
  · exact PF_conv (te_7 x dep D d hq (by omega) (by omega) (by omega)) (by decide) (fun _ _ _ _ => rfl) (fun _ _ _ _ => rfl)
theorem s_act : S_act Inv := by
  intro σ p0 p1 p2 hI
  obtain ⟨f, w, b, hV, hS, hT, hL, hB, hM, hC, hF, hH⟩ := hI
  obtain ⟨f1, f2, f3, f4, f5, r0, f6, f7, f8, f9⟩ := id hF
  -- Inv behind, from what may have changed
  have fin : ∀ υ : gS, (∀ a, a ≠ 36 → a ≠ 38 → a ≠ 52 → a ≠ 75 → υ.1 a = σ.1 a) → υ.1 36 0 = σ.1 36 0 → (∀ j, j ≠ 35 → υ.1 52 j = σ.1 52 j) → υ.2 = σ.2 → (∃ r : Nat, r ≤ 1000 ∧ υ.1 36 3 = nI r ∧ υ.1 52 35 = nI r ∧ ∀ j, j < 24 → j < r → υ.1 75 j = υ.1 38 j) → Inv υ := fun υ g g36 q hr hx => by
    have gg : ∀ a, (a ≠ 36 ∧ a ≠ 38 ∧ a ≠ 52 ∧ a ≠ 75) → υ.1 a = σ.1 a := fun a h => g a h.1 h.2.1 h.2.2.1 h.2.2.2
    refine ⟨f, w, b, IV_ag hV (by rw [gg 1 (by omega)]) (q 0 (by decide)) (by rw [gg 1 (by omega)]) (q 3 (by decide)) (gg 2 (by omega)) (gg 3 (by omega)) (gg 4 (by omega)) (gg 5 (by omega)) (gg 6 (by omega)) (gg 7 (by omega)) (gg 53 (by omega)) (gg 54 (by omega)) (gg 55 (by omega)) (gg 56 (by omega)) (gg 57 (by omega)) (gg 58 (by omega)),
      IS_ag hS (fun _ => by rw [gg 8 (by omega)]) (fun _ => by rw [gg 59 (by omega)]), IT_ag hT (by rw [gg 0 (by omega)]) (q 9 (by decide)) (gg 17 (by omega)) (gg 60 (by omega)),
      IL_ag hL (by rw [hr]) (by rw [hr]) (fun k hk => ⟨by rw [gg k (by omega)], gg _ (by omega), gg _ (by omega)⟩) (q 11 (by decide)) (q 12 (by decide)) (gg 61 (by omega)) (gg 62 (by omega)) (gg 63 (by omega)) (gg 64 (by omega)),
      IB_ag hB (fun _ => by rw [gg 28 (by omega)]) (fun _ => by rw [gg 71 (by omega)]), IM_ag hM (q 28 (by decide)) (by rw [gg 0 (by omega)]) (gg 72 (by omega)) (gg 30 (by omega)) (gg 29 (by omega)),
      IC_ag hC (by rw [gg 31 (by omega)]) (by rw [gg 31 (by omega)]) (q 31 (by decide)) (q 30 (by decide)) (gg 73 (by omega)) (gg 32 (by omega)) (gg 33 (by omega)) (gg 34 (by omega)) (gg 35 (by omega)),
      ⟨f1, g36.trans f2, (q 33 (by decide)).trans f3, by rw [gg 74 (by omega), gg 37 (by omega)]; exact f4, fun j hj => by rw [gg 37 (by omega)]; exact f5 j hj, hx⟩,
      IH_ag hH (fun k h1 h2 => ⟨gg k (by omega), by rw [hr]⟩) (gg 76 (by omega)) (gg 77 (by omega)) (by rw [hr])⟩
  have zero : ∀ X Y : Option (Int32 × gS), X = some (0, gUI σ 36 3 0) → Y = some (0, gUI (gUI σ 36 3 0) 52 35 0) → ∃ (r : Int32) (σ1 σ2 : gS), X = some (r, σ1) ∧ Y = some (r, σ2) ∧ Inv σ2 := fun X Y hX hY => by
    refine ⟨0, _, _, hX, hY, fin _ (fun a x1 x2 x3 x4 => by rw [gUI_ne x3, gUI_ne x1]) (by rw [gUI_ne (by decide), gUI_at, if_neg (by decide)]) (fun j hj => by rw [gUI_at, if_neg hj, gUI_ne (by decide)]) rfl ⟨0, by omega, ?_, ?_, fun j _ h => absurd h (by omega)⟩⟩
    · rw [gUI_ne (by decide), gUI_at, if_pos rfl]; rfl
    · rw [gUI_at, if_pos rfl]; rfl
  have s33 : (gUI (gUI σ 36 3 0) 52 35 0).1 52 33 = nI b := by rw [gUI_at, if_neg (by decide), gUI_ne (by decide)]; exact f3
  have c30 : (gUI σ 36 3 0).1 36 0 = nI b := by rw [gUI_at, if_neg (by decide)]; exact f2
  cases hin : inN p0 b with
  | false =>
    have e9 : mX9_act σ p0 p1 p2 = some (0, gUI σ 36 3 0) := by
      unfold mX9_act mX2_begin
      rw [gl_eq, hasBody_eq c30, gb_some, hin, if_neg (by decide), gb_some]
    have e10 : mX10_act (gUI σ 36 3 0) p0 p1 p2 = some (0, gUI (gUI σ 36 3 0) 52 35 0) := by
      unfold mX10_act
      rw [gl_eq, w10, s33, wi_pred (by omega), hin, gb_some, if_neg (by decide)]
    exact ⟨0, _, _, e9, e10, (zero _ _ e9 e10).elim (fun r h => h.elim (fun s h => h.elim (fun t h => by
      have := h.2.1
      rw [e10] at this
      rw [(gR_inj this).2]
      exact h.2.2)))⟩
  | true =>
    obtain ⟨n, hn, rfl⟩ := inN_of (by omega) hin
    obtain ⟨q, -, hq, eq⟩ := f5 n hn
    by_cases hact : wi p1 0 3 = true
    · obtain ⟨a, -, ha, rfl⟩ := wi_rg (a := 0) (b := 3) (by decide) (by decide) hact
      obtain ⟨s, hs⟩ : ∃ s, s = gUI (gUI σ 36 3 0) 36 4 (nI n) := ⟨_, rfl⟩
      have fAs : ∀ c, c ≠ 36 → s.1 c = σ.1 c := fun c h => by rw [hs, gUI_ne h, gUI_ne h]
      have s36 : ∀ j, j ≠ 3 → j ≠ 4 → s.1 36 j = σ.1 36 j := fun j h3 h4 => by rw [hs, gUI_at, if_neg h4, gUI_at, if_neg h3]
      have s363 : s.1 36 3 = nI 0 := by rw [hs, gUI_at, if_neg (by decide), gUI_at, if_pos rfl]; rfl
      have s364 : s.1 36 4 = nI n := by rw [hs, gUI_at, if_pos rfl]
      have mk : ∀ υ : gS, υ.1 74 n = nI q → υ.1 52 35 = nI 0 → AR b n q 0 s υ := fun υ h1 h2 => ⟨f1, hn, by omega, by rw [s36 0 (by decide) (by decide)]; exact f2, s364, by rw [fAs 37 (by decide)]; exact eq, h1, s363, h2, fun j _ h => absurd h (by omega)⟩
      have all : PF b n q 14 (fun σ => (mgfrost 130).1 σ (nI a) p2 (nI 0)) (fun υ => if nI a = 0 then mX10_letsBy υ (nI n) (nI q) p2 else if nI a = 1 then mX10_growsBy υ (nI n) (nI q) p2 else if nI a = 2 then mX10_leaksBy υ (nI n) (nI q) p2 else mX10_tells υ (nI n) (nI q) p2) := by
        rcases (show a = 0 ∨ a = 1 ∨ a = 2 ∨ a = 3 by omega) with rfl | rfl | rfl | rfl
        · exact PF_conv (own_PF (D := 129) (le_all p2 0 129 16 (by omega) (by omega) (by omega) (by omega)) (fun _ _ _ _ => rfl)) (by decide) (fun _ _ _ _ => rfl) (fun _ _ _ _ => if_pos (by decide))
        · exact PF_conv (own_PF (D := 129) (gw_all p2 0 129 16 (by omega) (by omega) (by omega) (by omega)) (fun _ _ _ _ => rfl)) (by decide) (fun _ _ _ _ => rfl) (fun _ _ _ _ => (if_neg (by decide)).trans (if_pos (by decide)))
        · exact PF_conv (own_PF (D := 129) (lk_all p2 0 129 16 (by omega) (by omega) (by omega) (by omega)) (fun _ _ _ _ => rfl)) (by decide) (fun _ _ _ _ => rfl) (fun _ _ _ _ => (if_neg (by decide)).trans ((if_neg (by decide)).trans (if_pos (by decide))))
        · exact PF_conv (own_PF (D := 129) (te_all p2 0 129 16 (by omega) (by omega) (by omega) (by omega)) (fun _ _ _ _ => rfl)) (by decide) (fun _ _ _ _ => rfl) (fun _ _ _ _ => (if_neg (by decide)).trans ((if_neg (by decide)).trans (if_neg (by decide))))
      obtain ⟨v, r1, σ', υ1, p1', -, -, -, p5, -⟩ := all s (gUI s 52 35 0) 0 (mk _ (by rw [gUI_ne (by decide), fAs 74 (by decide), f4]; exact eq) (by rw [gUI_at, if_pos rfl]; rfl)) (by omega)
      obtain ⟨v2, r2, σ2, υ', y1, y2, y3, y4, y5, y6⟩ := all s (gUI σ' 52 35 0) 0 (mk _ (by rw [gUI_ne (by decide), p5.1 74 (by decide) (by decide), fAs 74 (by decide), f4]; exact eq) (by rw [gUI_at, if_pos rfl]; rfl)) (by omega)
      have y1' : some (v, σ') = some (v2, σ2) := p1'.symm.trans y1
      obtain ⟨ev, es⟩ := gR_inj y1'
      subst ev es
      obtain ⟨a1, a2, a3, a4, a5, a6, a7, a8, a9, a10⟩ := y3
      refine ⟨v, σ', υ', ?_, ?_, ?_⟩
      · unfold mX9_act mX2_begin mX2_own
        rw [gl_eq, hasBody_eq c30, gb_some, hin, if_pos rfl, if_neg (nI_pos (by omega)), if_pos (show nI a < 4 from nI_lt (b := 4) (by omega) (by decide)), gl_eq, ← hs, show (mgfrost 130).1 s (nI a) p2 0 = some (v, σ') from p1', gb_some, gb_some]
      · have t33 : (gUI σ' 52 35 0).1 52 33 = nI b := by rw [gUI_at, if_neg (by decide), p5.1 52 (by decide) (by decide), fAs 52 (by decide)]; exact f3
        have t74 : (gUI σ' 52 35 0).1 74 n = nI q := by rw [gUI_ne (by decide), p5.1 74 (by decide) (by decide), fAs 74 (by decide), f4]; exact eq
        unfold mX10_act
        rw [gl_eq, w10, t33, wi_pred (by omega), hin, gb_some, if_pos rfl, w10, hact, gb_some, if_pos rfl, if_pos (inbB_nI (show n < 50 by omega) (by decide)), nI_cl (by omega), t74, gl_eq, bind_id, bind_id, bind_id, bind_id]
        exact y2
      · refine fin υ' (fun c x1 x2 x3 x4 => ?_) ?_ (fun j hj => ?_) ?_ ⟨r2, by omega, ?_, a9, fun j h1 h2 => ?_⟩
        · rw [y6.1 c x3 x4, gUI_ne x3, p5.1 c x1 x2, fAs c x1]
        · rw [y6.1 36 (by decide) (by decide), gUI_ne (by decide), p5.2.1 0 (by decide), s36 0 (by decide) (by decide)]
        · rw [y6.2.1 j hj, gUI_at, if_neg hj, p5.1 52 (by decide) (by decide), fAs 52 (by decide)]
        · rw [y6.2.2]
          show σ'.2 = σ.2
          rw [p5.2.2, hs]
          rfl
        · rw [y6.1 36 (by decide) (by decide), gUI_ne (by decide)]; exact a8
        · rw [a10 j h1 h2, y6.1 38 (by decide) (by decide), gUI_ne (by decide)]
    · have hact' : wi p1 0 3 = false := by
        cases h : wi p1 0 3
        · rfl
        · exact absurd h hact
      have e9 : mX9_act σ (nI n) p1 p2 = some (0, gUI σ 36 3 0) := by
        unfold mX9_act mX2_begin
        rw [gl_eq, hasBody_eq c30, gb_some, hin, if_pos rfl]
        by_cases h0 : p1 < 0
        · rw [if_pos h0, gb_some]
        · have h4 : ¬ p1 < 4 := fun h => by
            obtain ⟨m, hm, rfl⟩ := nI_of h0
            apply hact
            exact rg_wi (a := 0) (b := 3) (by decide) ⟨m, by omega, by have := (nI_ltI (b := 4) hm (by decide)).mp h; omega, rfl⟩
          rw [if_neg h0, if_neg h4, gb_some]
      have e10 : mX10_act (gUI σ 36 3 0) (nI n) p1 p2 = some (0, gUI (gUI σ 36 3 0) 52 35 0) := by
        unfold mX10_act
        rw [gl_eq, w10, s33, wi_pred (by omega), hin, gb_some, if_pos rfl, w10, hact', gb_some, if_neg (by decide)]
      exact ⟨0, _, _, e9, e10, (zero _ _ e9 e10).elim (fun r h => h.elim (fun s h => h.elim (fun t h => by
        have := h.2.1
        rw [e10] at this
        rw [(gR_inj this).2]
        exact h.2.2)))⟩
