/-! ===== scratch: what calls that only think may change ===== -/
def kp (a : Nat) : Prop := a < 9 ∨ a = 17 ∨ a = 19 ∨ a = 20 ∨ a = 24 ∨ a = 25 ∨ (28 ≤ a ∧ a < 52) ∨ (53 ≤ a ∧ a < 65) ∨ (71 ≤ a ∧ a < 79)
def kq (j : Nat) : Prop := j < 17 ∨ (20 < j ∧ j < 43)
/-- nothing but scratch differs -/
def ks (σ τ : gS) : Prop := (∀ a, kp a → τ.1 a = σ.1 a) ∧ τ.1 18 2 = σ.1 18 2 ∧ τ.1 23 2 = σ.1 23 2 ∧ (∀ j, kq j → τ.1 52 j = σ.1 52 j) ∧ τ.2 = σ.2
theorem ks_rf (σ : gS) : ks σ σ := ⟨fun _ _ => rfl, rfl, rfl, fun _ _ => rfl, rfl⟩
theorem ks_tr {σ τ υ : gS} (h1 : ks σ τ) (h2 : ks τ υ) : ks σ υ := ⟨fun a ha => (h2.1 a ha).trans (h1.1 a ha), h2.2.1.trans h1.2.1, h2.2.2.1.trans h1.2.2.1, fun j hj => (h2.2.2.2.1 j hj).trans (h1.2.2.2.1 j hj), h2.2.2.2.2.trans h1.2.2.2.2⟩
theorem ks_sy {σ τ : gS} (h : ks σ τ) : ks τ σ := ⟨fun a ha => (h.1 a ha).symm, h.2.1.symm, h.2.2.1.symm, fun j hj => (h.2.2.2.1 j hj).symm, h.2.2.2.2.symm⟩
/-- all but scratch cells (places of 52 told too) -/
theorem ks_of {σ τ : gS} (h : ∀ a, kp a → τ.1 a = σ.1 a) (h18 : τ.1 18 2 = σ.1 18 2) (h23 : τ.1 23 2 = σ.1 23 2) (h52 : ∀ j, kq j → τ.1 52 j = σ.1 52 j) (hr : τ.2 = σ.2) : ks σ τ := ⟨h, h18, h23, h52, hr⟩
theorem ks_UI {σ : gS} {k j : Nat} {v : Int32} (hk : ¬ kp k) (h18 : k ≠ 18) (h23 : k ≠ 23) (h52 : k ≠ 52) : ks σ (gUI σ k j v) :=
  ⟨fun a ha => gUI_ne (fun q => hk (q ▸ ha)), by rw [gUI_ne (fun q => h18 q.symm)], by rw [gUI_ne (fun q => h23 q.symm)], fun i _ => by rw [gUI_ne (fun q => h52 q.symm)], rfl⟩
theorem ks_52 {σ : gS} {j : Nat} {v : Int32} (hj : ¬ kq j) : ks σ (gUI σ 52 j v) :=
  ⟨fun a ha => gUI_ne (fun q => by subst q; unfold kp at ha; omega), by rw [gUI_ne (by decide)], by rw [gUI_ne (by decide)], fun i hi => by
    rw [gUI_same]
    exact if_neg (fun q : i = j => hj (by rw [← q]; exact hi)), rfl⟩
/-- cells alike but some scratch cells -/
theorem ks_ag {σ τ : gS} (h : ∀ a, kp a ∨ a = 18 ∨ a = 23 ∨ a = 52 → τ.1 a = σ.1 a) (hr : τ.2 = σ.2) : ks σ τ :=
  ⟨fun a ha => h a (Or.inl ha), by rw [h 18 (Or.inr (Or.inl rfl))], by rw [h 23 (Or.inr (Or.inr (Or.inl rfl)))], fun j _ => by rw [h 52 (Or.inr (Or.inr (Or.inr rfl)))], hr⟩
theorem IV_ks {σ τ : gS} {f w : Nat} (h : IV σ f w) (k : ks σ τ) : IV τ f w := by
  have g : ∀ a, kp a → τ.1 a = σ.1 a := k.1
  exact IV_ag h (by rw [g 1 (by unfold kp; omega)]) (k.2.2.2.1 0 (by unfold kq; omega)) (by rw [g 1 (by unfold kp; omega)]) (k.2.2.2.1 3 (by unfold kq; omega)) (g 2 (by unfold kp; omega)) (g 3 (by unfold kp; omega)) (g 4 (by unfold kp; omega)) (g 5 (by unfold kp; omega)) (g 6 (by unfold kp; omega)) (g 7 (by unfold kp; omega)) (g 53 (by unfold kp; omega)) (g 54 (by unfold kp; omega)) (g 55 (by unfold kp; omega)) (g 56 (by unfold kp; omega)) (g 57 (by unfold kp; omega)) (g 58 (by unfold kp; omega))
theorem IS_ks {σ τ : gS} (h : IS σ) (k : ks σ τ) : IS τ := IS_ag h (fun _ => by rw [k.1 8 (by unfold kp; omega)]) (fun _ => by rw [k.1 59 (by unfold kp; omega)])
theorem Inv_ks {σ τ : gS} (h : Inv σ) (k : ks σ τ) : Inv τ := by
  obtain ⟨f, w, b, hV, hS, hT, hL, hB, hM, hC, hF, hH⟩ := h
  have g : ∀ a, kp a → τ.1 a = σ.1 a := k.1
  have q : ∀ j, kq j → τ.1 52 j = σ.1 52 j := k.2.2.2.1
  have hr : τ.2 = σ.2 := k.2.2.2.2
  refine ⟨f, w, b, IV_ks hV k, IS_ks hS k, IT_ag hT (by rw [g 0 (by unfold kp; omega)]) (q 9 (by unfold kq; omega)) (g 17 (by unfold kp; omega)) (g 60 (by unfold kp; omega)),
    IL_ag hL (by rw [hr]) (by rw [hr]) (fun x hx => ?_) (q 11 (by unfold kq; omega)) (q 12 (by unfold kq; omega)) (g 61 (by unfold kp; omega)) (g 62 (by unfold kp; omega)) (g 63 (by unfold kp; omega)) (g 64 (by unfold kp; omega)),
    IB_ag hB (fun _ => by rw [g 28 (by unfold kp; omega)]) (fun _ => by rw [g 71 (by unfold kp; omega)]), IM_ag hM (q 28 (by unfold kq; omega)) (by rw [g 0 (by unfold kp; omega)]) (g 72 (by unfold kp; omega)) (g 30 (by unfold kp; omega)) (g 29 (by unfold kp; omega)),
    IC_ag hC (by rw [g 31 (by unfold kp; omega)]) (by rw [g 31 (by unfold kp; omega)]) (q 31 (by unfold kq; omega)) (q 30 (by unfold kq; omega)) (g 73 (by unfold kp; omega)) (g 32 (by unfold kp; omega)) (g 33 (by unfold kp; omega)) (g 34 (by unfold kp; omega)) (g 35 (by unfold kp; omega)),
    IF_ag hF (by rw [g 36 (by unfold kp; omega)]) (q 33 (by unfold kq; omega)) (by rw [g 36 (by unfold kp; omega)]) (q 35 (by unfold kq; omega)) (g 74 (by unfold kp; omega)) (g 37 (by unfold kp; omega)) (g 75 (by unfold kp; omega)) (g 38 (by unfold kp; omega)),
    IH_ag hH (fun k h1 h2 => ⟨g k (by unfold kp; omega), by rw [hr]⟩) (g 76 (by unfold kp; omega)) (g 77 (by unfold kp; omega)) (by rw [hr])⟩
  rcases hx with rfl | rfl
  · exact ⟨k.2.1, g 19 (by unfold kp; omega), g 20 (by unfold kp; omega)⟩
  · exact ⟨k.2.2.1, g 24 (by unfold kp; omega), g 25 (by unfold kp; omega)⟩
/-- what calls that think rest on -/
def Cx (σ : gS) (f w K : Nat) (F : gLw) : Prop := IV σ f w ∧ IS σ ∧ (K = 18 ∨ K = 23) ∧ σ.2.2 0 7 = some K ∧ LawC (σ.1 K 2) (σ.1 (K + 1)) (σ.1 (K + 2)) K F ∧ LawM (σ.1 52 11) (σ.1 52 12) (σ.1 61) (σ.1 62) (σ.1 63) (σ.1 64) F
theorem Cx_Inv {σ : gS} (h : Inv σ) : ∃ f w K F, Cx σ f w K F := by
  obtain ⟨f, w, b, hV, hS, hT, ⟨K, F, hK, e1, e2, e3, e4⟩, -⟩ := h
  exact ⟨f, w, K, F, hV, hS, hK, e1, e3, e4⟩
theorem Cx_ks {σ τ : gS} {f w K : Nat} {F : gLw} (h : Cx σ f w K F) (k : ks σ τ) : Cx τ f w K F := by
  obtain ⟨hV, hS, hK, e1, e3, e4⟩ := h
  have g : ∀ a, kp a → τ.1 a = σ.1 a := k.1
  have q : ∀ j, kq j → τ.1 52 j = σ.1 52 j := k.2.2.2.1
  refine ⟨IV_ks hV k, IS_ks hS k, hK, by rw [k.2.2.2.2]; exact e1, ?_, ?_⟩
  · rcases hK with rfl | rfl
    · rw [k.2.1, g 19 (by unfold kp; omega), g 20 (by unfold kp; omega)]; exact e3
    · rw [k.2.2.1, g 24 (by unfold kp; omega), g 25 (by unfold kp; omega)]; exact e3
  · rw [q 11 (by unfold kq; omega), q 12 (by unfold kq; omega), g 61 (by unfold kp; omega), g 62 (by unfold kp; omega), g 63 (by unfold kp; omega), g 64 (by unfold kp; omega)]; exact e4
/-- COLD as the next day begins, by a shed of G, K, B -/
def nx (F : gLw) (g k b : Int32) (day c l : Int32) : Int32 := gHold c (F c l g k day b)
theorem nightC {σ : gS} {f w K : Nat} {F : gLw} (h : Cx σ f w K F) {q : Nat} (hq : q = 8 ∨ q = 9) (h2 : rg (σ.1 q 2) 0 9) (h3 : rg (σ.1 q 3) 0 9) (day c l : Int32) :
    ∃ τ : gS, mX3_overnight σ K q day c l = some (nx F (σ.1 q 2) (σ.1 q 3) (σ.1 q 1) day c l, τ) ∧ ks σ τ ∧ ∀ a, a < 18 → τ.1 a = σ.1 a := by
  obtain ⟨hV, hS, hK, e1, e3, e4⟩ := h
  obtain ⟨τ, r1, r2, r3, r4⟩ := e3 σ q day c l rfl rfl rfl (by rcases hq with rfl | rfl <;> rfl) h2 h3
  refine ⟨τ, r1, ⟨fun a ha => ?_, ?_, ?_, fun j _ => ?_, r4⟩, fun a ha => ?_⟩
  · unfold kp at ha
    exact (r2 a (by omega) (by omega) (by omega)).1.symm
  · rcases hK with rfl | rfl
    · exact r3 2 (by decide)
    · rw [(r2 18 (by omega) (by omega) (by omega)).1]
  · rcases hK with rfl | rfl
    · rw [(r2 23 (by omega) (by omega) (by omega)).1]
    · exact r3 2 (by decide)
  · rw [(r2 52 (by omega) (by omega) (by omega)).1]
  · exact (r2 a (by omega) (by omega) (by omega)).1.symm
/-- the reference's next COLD; the shed's numbers may be others than the class's -/
theorem nightM {σ τ : gS} {f w K : Nat} {F : gLw} (h : Cx σ f w K F) (h1 : ∀ a, 61 ≤ a → a < 65 → τ.1 a = σ.1 a) (h0 : τ.1 52 11 = σ.1 52 11) (h00 : τ.1 52 12 = σ.1 52 12) (h2 : rg (τ.1 59 2) 0 9) (h3 : rg (τ.1 59 3) 0 9) (c l day : Int32) :
    ∃ υ : gS, mX10_nextCold τ c l day = some (nx F (τ.1 59 2) (τ.1 59 3) (τ.1 59 1) day c l, υ) ∧ ks τ υ ∧ ∀ a, a ≠ 69 → a ≠ 70 → υ.1 a = τ.1 a := by
  obtain ⟨hV, hS, hK, e1, e3, e4⟩ := h
  obtain ⟨υ, r1, r2, r3⟩ := e4 τ c l day h0 h00 (h1 61 (by omega) (by omega)) (h1 62 (by omega) (by omega)) (h1 63 (by omega) (by omega)) (h1 64 (by omega) (by omega)) h2 h3
  refine ⟨υ, r1, ks_ag (fun a ha => ?_) r3, fun a x y => (r2 a x y).1.symm⟩
  unfold kp at ha
  exact (r2 a (by omega) (by omega)).1.symm
