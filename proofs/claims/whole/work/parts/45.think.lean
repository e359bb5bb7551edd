/-! ===== idle, cold, gives ===== -/
/-- COLD, hours, the day of giving, by a shed's numbers and what is asked -/
def PB (σ : gS) (F : gLw) (A : Nat → Int32) (t y : Nat) : Int32 := CB (σ.1 8 1) (nxS F (σ.1 8)) A t (σ.1 8 0) y
def PO (σ : gS) (F : gLw) (A : Nat → Int32) (t y : Nat) : Int32 := OB (σ.1 8 1) (nxS F (σ.1 8)) A t (σ.1 8 0) y
def PG (σ : gS) (F : gLw) (A : Nat → Int32) (t : Nat) : Int32 := lp (fGv (σ.1 8 1) (nxS F (σ.1 8)) A t (σ.1 8 0)) (30 - t) 0 (-2)
theorem nxS_eq {F : gLw} {S T : Nat → Int32} (h1 : S 1 = T 1) (h2 : S 2 = T 2) (h3 : S 3 = T 3) : nxS F S = nxS F T := by
  unfold nxS
  rw [h1, h2, h3]
theorem refWalk {σ s : gS} {t : Nat} {F : gLw} {A : Nat → Int32} (hS : IS σ) (hM : Mx s F) (h59 : s.1 59 = σ.1 59) (ht : σ.1 8 4 = nI t) (h29 : t ≤ 29) (hA : ∀ j, j < 30 → s.1 79 j = A j) :
    ∃ υ : gS, mX10_walks s (s.1 59 0) = some ((), υ) ∧ km s υ ∧ υ.1 79 = s.1 79 ∧ (∀ j, t ≤ j → j ≤ 30 → υ.1 80 j = PB σ F A t j) ∧ (∀ j, t ≤ j → j < 30 → υ.1 81 j = PO σ F A t j) ∧ υ.1 52 43 = PG σ F A t := by
  obtain ⟨z0, z1, z2, z3, z4, z5, z6, z7, z8⟩ := id hS
  obtain ⟨υ, r1, r2, r3, r4, r5, r6⟩ := walk10_eq hM (by rw [h59, z2]; exact z6) (by rw [h59, z3]; exact z7) (show s.1 59 4 = nI t by rw [h59, z4]; exact ht) h29 hA (s.1 59 0)
  have en : nxS F (s.1 59) = nxS F (σ.1 8) := nxS_eq (by rw [h59, z1]) (by rw [h59, z2]) (by rw [h59, z3])
  rw [en] at r4 r5 r6
  rw [h59, z0, z1] at r4 r5 r6
  exact ⟨υ, r1, r2, r3, r4, r5, r6⟩
theorem day_of {x : Int32} {t b : Nat} (ht : t < 2 ^ 31) (hb : b < 2 ^ 31) (h : wi x (nI t) (nI b) = true) : ∃ y : Nat, t ≤ y ∧ y ≤ b ∧ x = nI y := wi_rg ht hb h
theorem Mx_ks {σ τ : gS} {f w K : Nat} {F : gLw} (hX : Cx σ f w K F) (k : ks σ τ) : Mx τ F := (Cx_ks hX k).2.2.2.2.2
theorem s_idle : S_idle Inv := by
  intro σ p0 hI
  obtain ⟨f, w, K, F, hX⟩ := Cx_Inv hI
  obtain ⟨hV, hS, hK, kk, -⟩ := id hX
  obtain ⟨z0, z1, z2, z3, z4, z5, z6, z7, z8⟩ := id hS
  obtain ⟨t, -, ht, et⟩ := id z5
  have gK : gk K = 3 := by rcases hK with rfl | rfl <;> rfl
  cases hwi : wi p0 (nI t) 30 with
  | false =>
    refine ⟨-1, σ, σ, ?_, ?_, hI⟩
    · unfold mX9_idle
      rw [et, w9, gb_some, hwi, if_neg (by decide)]
    · unfold mX10_idle
      rw [now_eq, gb_some, z4, et, w10, gb_some, hwi, if_neg (by decide)]
  | true =>
    obtain ⟨y, hy1, hy2, rfl⟩ := day_of (b := 30) (by omega) (by decide) hwi
    obtain ⟨s, q1, q2, q3, q4⟩ := askNothing_eq σ
    have e1 : ks σ s := ks_11 q2 q3
    have s8 : s.1 8 = σ.1 8 := q2 8 (by decide)
    obtain ⟨τ, r1, r2, r3, r4, r5, r6⟩ := walk9_eq (A := fun _ => 0) (Cx_ks hX e1) (by rw [s8]; exact et) ht q4
    rw [s8] at r4
    have e2 := ks_tr e1 r2
    obtain ⟨u, u1, u2, u3, u4⟩ := idles_eq τ
    have k1 : km τ u := km_79 u2 u3
    have e59 : u.1 59 = σ.1 59 := by rw [u2 59 (by decide), e2.1 59 (by unfold kp; omega)]
    obtain ⟨υ, v1, v2, v3, v4, v5, v6⟩ := refWalk hS (Mx_km (Mx_ks hX e2) k1) e59 et ht u4
    have i31 := inbB_nI (show y < 31 by omega) (show 31 ≤ 1000 by decide)
    have c31 : Int32.toNatClampNeg (nI y) = y := nI_cl (by omega)
    refine ⟨PB σ F (fun _ => 0) t y, τ, υ, ?_, ?_, Inv_ks hI (ks_tr e2 (ks_tr (ks_km k1) (ks_km v2)))⟩
    · unfold mX9_idle
      rw [et, w9, gb_some, hwi, if_pos rfl, q1, gb_some, q3, kk]
      show (if gk K = 3 then _ else _) = _
      rw [if_pos gK, r1, gb_some, if_pos i31, c31, r4 y hy1 hy2]
      rfl
    · have t59 : τ.1 59 = σ.1 59 := e2.1 59 (by unfold kp; omega)
      unfold mX10_idle
      rw [now_eq, gb_some, t59, z4, et, w10, gb_some, hwi, if_pos rfl, u1, gb_some, if_pos (by decide), show Int32.toNatClampNeg 0 = 0 from by decide, v1, gb_some, if_pos i31, c31, v4 y hy1 hy2]
/-- a PLAN thought through by the class -/
theorem think9 {σ : gS} {f w K t j n : Nat} {F : gLw} (hX : Cx σ f w K F) (et : σ.1 8 4 = nI t) (ht : t ≤ 29) (hj : j < 6) (hn : n ≤ 60) (e3 : σ.1 (40 + 2 * j) 3 = nI n) (hr : mX9_refuseRow σ (nI j) 0 = some (1, σ)) :
    ∃ τ : gS, mX9_thinkPlan σ (nI j) = some (1, τ) ∧ ks σ τ ∧ (∀ y, t ≤ y → y ≤ 30 → τ.1 12 y = PB σ F (AP (σ.2.1 (40 + 2 * j + 1)) n t) t y) ∧ (∀ y, t ≤ y → y < 30 → τ.1 13 y = PO σ F (AP (σ.2.1 (40 + 2 * j + 1)) n t) t y) ∧ τ.1 10 3 = PG σ F (AP (σ.2.1 (40 + 2 * j + 1)) n t) t := by
  have i6 : inbB (nI j) 6 = true := inbB_nI hj (by decide)
  have c6 : Int32.toNatClampNeg (nI j) = j := nI_cl (by omega)
  have k6 := gk_sh hj
  have gK : gk K = 3 := by rcases hX.2.2.1 with rfl | rfl <;> rfl
  obtain ⟨s, q1, q2, q3, q4⟩ := askRow_eq (σ := σ) (q := 40 + 2 * j) (t := t) k6 (by omega) ht hn e3
  have e1 : ks σ s := ks_11 q2 q3
  have s8 : s.1 8 = σ.1 8 := q2 8 (by decide)
  obtain ⟨τ, r1, r2, r3, r4, r5, r6⟩ := walk9_eq (Cx_ks hX e1) (by rw [s8]; exact et) ht q4
  rw [s8] at r4 r5 r6
  refine ⟨τ, ?_, ks_tr e1 r2, r4, r5, r6⟩
  unfold mX9_thinkPlan
  rw [hr, gb_some, gl_eq, if_pos rfl, if_pos i6, c6, if_pos k6, et, q1, gb_some, q3, hX.2.2.2.1]
  show (if gk K = 3 then _ else _) = _
  rw [if_pos gK, r1, gb_some]
/-- and by the reference -/
theorem think10 {σ τ : gS} {f w K t j n : Nat} {F : gLw} (hX : Cx σ f w K F) (k : ks σ τ) (et : σ.1 8 4 = nI t) (ht : t ≤ 29) (hj : j < 6) (hn : n ≤ 60) (e3 : σ.1 77 j = nI n) (hc : ∀ i, i < 60 → σ.2.1 78 (60 * j + i) = σ.2.1 (40 + 2 * j + 1) i) :
    ∃ s υ : gS, mX10_reads τ (nI j) = some ((), s) ∧ mX10_walks s (s.1 59 0) = some ((), υ) ∧ km τ υ ∧ (∀ y, t ≤ y → y ≤ 30 → υ.1 80 y = PB σ F (AP (σ.2.1 (40 + 2 * j + 1)) n t) t y) ∧ (∀ y, t ≤ y → y < 30 → υ.1 81 y = PO σ F (AP (σ.2.1 (40 + 2 * j + 1)) n t) t y) ∧ υ.1 52 43 = PG σ F (AP (σ.2.1 (40 + 2 * j + 1)) n t) t := by
  have hS := hX.2.1
  have t59 : τ.1 59 = σ.1 59 := k.1 59 (by unfold kp; omega)
  have t2 : τ.2 = σ.2 := k.2.2.2.2
  obtain ⟨s, u1, u2, u3, u4⟩ := reads_eq (σ := τ) (p := j) (t := t) (m := n) hj ht hn (by rw [k.1 77 (by unfold kp; omega)]; exact e3) (by rw [t59, hS.2.2.2.2.1]; exact et) (told := σ.2.1 (40 + 2 * j + 1)) (fun i hi => by rw [t2]; exact hc i hi)
  have k1 : km τ s := km_79 u2 u3
  obtain ⟨υ, v1, v2, v3, v4, v5, v6⟩ := refWalk hS (Mx_km (Mx_ks hX k) k1) (by rw [u2 59 (by decide), t59]) et ht u4
  exact ⟨s, υ, u1, v1, km_tr k1 v2, v4, v5, v6⟩
theorem s_cold : S_cold Inv := by
  intro σ p0 p1 hI
  obtain ⟨f, w, K, F, hX⟩ := Cx_Inv hI
  obtain ⟨hV, hS, hK, kk, -⟩ := id hX
  obtain ⟨f', w', b, -, -, -, -, -, -, -, hF, hH⟩ := id hI
  obtain ⟨z0, z1, z2, z3, z4, z5, z6, z7, z8⟩ := id hS
  obtain ⟨t, -, ht, et⟩ := id z5
  cases hwi : wi p1 (nI t) 30 with
  | false =>
    refine ⟨-1, σ, σ, ?_, ?_, hI⟩
    · unfold mX9_cold
      rw [et, w9, gb_some, hwi, if_neg (by decide)]
    · unfold mX10_cold
      rw [isShelf_eq, gb_some]
      cases wi p0 0 5
      · rw [if_neg (by decide)]
      · rw [if_pos rfl, now_eq, gb_some, z4, et, w10, gb_some, hwi, if_neg (by decide)]
  | true =>
    obtain ⟨y, hy1, hy2, rfl⟩ := day_of (b := 30) (by omega) (by decide) hwi
    have i31 := inbB_nI (show y < 31 by omega) (show 31 ≤ 1000 by decide)
    have c31 : Int32.toNatClampNeg (nI y) = y := nI_cl (by omega)
    rcases shelf_cases p0 with hno | ⟨j, hj, rfl, hyes⟩
    · refine ⟨-1, σ, σ, ?_, ?_, hI⟩
      · unfold mX9_cold mX9_thinkPlan
        rw [et, w9, gb_some, hwi, if_pos rfl, refuse_no hno, gb_some, gl_eq, if_neg (by decide), gb_some, gl_eq, if_neg (by decide)]
      · unfold mX10_cold
        rw [isShelf_eq, gb_some, hno, if_neg (by decide)]
    · rcases refuse_cases (s0 := 0) hF.1 hj (by omega) (hH j hj) with ⟨h1, h2⟩ | ⟨h1, h2⟩ | ⟨h1, h2, n, hn, e3, e77, e76, hc⟩
      · refine ⟨-11, σ, σ, ?_, ?_, hI⟩
        · unfold mX9_cold mX9_thinkPlan
          rw [et, w9, gb_some, hwi, if_pos rfl, show (0 : Int32) = nI 0 from rfl, h1, gb_some, gl_eq, if_neg (by decide), gb_some, gl_eq, if_neg (by decide)]
        · unfold mX10_cold
          rw [isShelf_eq, gb_some, hyes, if_pos rfl, now_eq, gb_some, z4, et, w10, gb_some, hwi, if_pos rfl, show mX10_noRow σ (nI j) 0 = some (-11, σ) from h2, gb_some, gl_eq, if_neg (by decide)]
      · refine ⟨-12, σ, σ, ?_, ?_, hI⟩
        · unfold mX9_cold mX9_thinkPlan
          rw [et, w9, gb_some, hwi, if_pos rfl, show mX9_refuseRow σ (nI j) 0 = some (-12, σ) from h1, gb_some, gl_eq, if_neg (by decide), gb_some, gl_eq, if_neg (by decide)]
        · unfold mX10_cold
          rw [isShelf_eq, gb_some, hyes, if_pos rfl, now_eq, gb_some, z4, et, w10, gb_some, hwi, if_pos rfl, show mX10_noRow σ (nI j) 0 = some (-12, σ) from h2, gb_some, gl_eq, if_neg (by decide)]
      · obtain ⟨τ, r1, r2, r3, r4, r5⟩ := think9 hX et ht hj hn e3 h1
        obtain ⟨s, υ, u1, v1, v2, v3, v4, v5⟩ := think10 hX r2 et ht hj hn e77 (fun i hi => (hc i hi).1)
        have hnr : mX10_noRow τ (nI j) 0 = some (0, τ) := by
          unfold mX10_noRow
          rw [if_pos (inbB_nI hj (by decide)), if_pos (inbB_nI hj (by decide)), nI_cl (by omega), r2.1 76 (by unfold kp; omega), e76, if_neg (by decide), if_pos nI_0]
        refine ⟨PB σ F (AP (σ.2.1 (40 + 2 * j + 1)) n t) t y, τ, υ, ?_, ?_, Inv_ks hI (ks_tr r2 (ks_km v2))⟩
        · unfold mX9_cold
          rw [et, w9, gb_some, hwi, if_pos rfl, r1, gb_some, gl_eq, if_pos rfl, if_pos i31, c31, r3 y hy1 hy2]
        · have t59 : τ.1 59 = σ.1 59 := r2.1 59 (by unfold kp; omega)
          unfold mX10_cold
          rw [isShelf_eq, gb_some, hyes, if_pos rfl, now_eq, gb_some, t59, z4, et, w10, gb_some, hwi, if_pos rfl, hnr, gb_some, gl_eq, if_pos (by decide), u1, gb_some, if_pos (by decide), show Int32.toNatClampNeg 0 = 0 from by decide, v1, gb_some, if_pos i31, c31, v3 y hy1 hy2]
theorem last_loop {σ τ : gS} {P : Nat → Int32} {t : Nat} (h1 : ∀ y, t ≤ y → y ≤ 30 → σ.1 12 y = P y) (h2 : ∀ y, t ≤ y → y ≤ 30 → τ.1 80 y = P y) : ∀ (k d n : Nat), t ≤ d → d + k = 31 → k < n → ∃ r : Int32, mX9_firstWithoutCold_b8 n σ (nI d) = some (r, σ) ∧ mX10_gives_b61 n τ (nI d) = some (r, τ) := by
  intro k
  induction k with
  | zero =>
    intro d n htd hd hn
    obtain ⟨n, rfl⟩ : ∃ m, n = m + 1 := ⟨n - 1, by omega⟩
    refine ⟨-2, ?_, ?_⟩
    · conv => lhs; unfold mX9_firstWithoutCold_b8
      rw [if_pos (show (30 : Int32) < nI (d) from nI_lt (a := 30) (show 30 < d by omega) (by omega))]
    · conv => lhs; unfold mX10_gives_b61
      rw [if_pos (show (30 : Int32) < nI (d) from nI_lt (a := 30) (show 30 < d by omega) (by omega))]
  | succ k ih =>
    intro d n htd hd hn
    obtain ⟨n, rfl⟩ : ∃ m, n = m + 1 := ⟨n - 1, by omega⟩
    have i31 := inbB_nI (show d < 31 by omega) (show 31 ≤ 1000 by decide)
    have c31 : Int32.toNatClampNeg (nI d) = d := nI_cl (by omega)
    have n30 : ¬ 30 < nI d := nI_nlt (a := 30) (by omega) (by omega)
    by_cases hz : P d = 0
    · refine ⟨nI d, ?_, ?_⟩
      · conv => lhs; unfold mX9_firstWithoutCold_b8
        rw [if_neg n30, if_pos i31, c31, h1 d htd (by omega), if_pos hz]
      · conv => lhs; unfold mX10_gives_b61
        rw [if_neg n30, if_pos i31, c31, h2 d htd (by omega), if_pos hz]
    · obtain ⟨r, r1, r2⟩ := ih (d + 1) n (by omega) (by omega) (by omega)
      refine ⟨r, ?_, ?_⟩
      · conv => lhs; unfold mX9_firstWithoutCold_b8
        rw [if_neg n30, if_pos i31, c31, h1 d htd (by omega), if_neg hz, gl_eq, nI_1]
        exact r1
      · conv => lhs; unfold mX10_gives_b61
        rw [if_neg n30, if_pos i31, c31, h2 d htd (by omega), if_neg hz, gl_eq, nI_1]
        exact r2
theorem s_gives : S_gives Inv := by
  intro σ p0 p1 hI
  obtain ⟨f, w, K, F, hX⟩ := Cx_Inv hI
  obtain ⟨hV, hS, hK, kk, -⟩ := id hX
  obtain ⟨f', w', b, -, -, -, -, -, -, -, hF, hH⟩ := id hI
  obtain ⟨z0, z1, z2, z3, z4, z5, z6, z7, z8⟩ := id hS
  obtain ⟨t, -, ht, et⟩ := id z5
  cases hwi : wi p1 0 1 with
  | false =>
    refine ⟨-1, σ, σ, ?_, ?_, hI⟩
    · unfold mX9_gives
      rw [w9, gb_some, hwi, if_neg (by decide)]
    · unfold mX10_gives
      rw [isShelf_eq, gb_some]
      cases wi p0 0 5
      · rw [if_neg (by decide)]
      · rw [if_pos rfl, w10, gb_some, hwi, if_neg (by decide)]
  | true =>
    rcases shelf_cases p0 with hno | ⟨j, hj, rfl, hyes⟩
    · refine ⟨-1, σ, σ, ?_, ?_, hI⟩
      · unfold mX9_gives mX9_thinkPlan
        rw [w9, gb_some, hwi, if_pos rfl, refuse_no hno, gb_some, gl_eq, if_neg (by decide), gb_some, gl_eq, if_neg (by decide)]
      · unfold mX10_gives
        rw [isShelf_eq, gb_some, hno, if_neg (by decide)]
    · rcases refuse_cases (s0 := 0) hF.1 hj (by omega) (hH j hj) with ⟨h1, h2⟩ | ⟨h1, h2⟩ | ⟨h1, h2, n, hn, e3, e77, e76, hc⟩
      · refine ⟨-11, σ, σ, ?_, ?_, hI⟩
        · unfold mX9_gives mX9_thinkPlan
          rw [w9, gb_some, hwi, if_pos rfl, show mX9_refuseRow σ (nI j) 0 = some (-11, σ) from h1, gb_some, gl_eq, if_neg (by decide), gb_some, gl_eq, if_neg (by decide)]
        · unfold mX10_gives
          rw [isShelf_eq, gb_some, hyes, if_pos rfl, w10, gb_some, hwi, if_pos rfl, show mX10_noRow σ (nI j) 0 = some (-11, σ) from h2, gb_some, gl_eq, if_neg (by decide)]
      · refine ⟨-12, σ, σ, ?_, ?_, hI⟩
        · unfold mX9_gives mX9_thinkPlan
          rw [w9, gb_some, hwi, if_pos rfl, show mX9_refuseRow σ (nI j) 0 = some (-12, σ) from h1, gb_some, gl_eq, if_neg (by decide), gb_some, gl_eq, if_neg (by decide)]
        · unfold mX10_gives
          rw [isShelf_eq, gb_some, hyes, if_pos rfl, w10, gb_some, hwi, if_pos rfl, show mX10_noRow σ (nI j) 0 = some (-12, σ) from h2, gb_some, gl_eq, if_neg (by decide)]
      · obtain ⟨τ, r1, r2, r3, r4, r5⟩ := think9 hX et ht hj hn e3 h1
        obtain ⟨s, υ, u1, v1, v2, v3, v4, v5⟩ := think10 hX r2 et ht hj hn e77 (fun i hi => (hc i hi).1)
        have hnr : mX10_noRow τ (nI j) 0 = some (0, τ) := by
          unfold mX10_noRow
          rw [if_pos (inbB_nI hj (by decide)), if_pos (inbB_nI hj (by decide)), nI_cl (by omega), r2.1 76 (by unfold kp; omega), e76, if_neg (by decide), if_pos nI_0]
        have t8 : τ.1 8 4 = nI t := by rw [r2.1 8 (by unfold kp; omega)]; exact et
        have u59 : υ.1 59 4 = nI t := by rw [(ks_km v2).1 59 (by unfold kp; omega), r2.1 59 (by unfold kp; omega), z4]; exact et
        have op10 : ∀ x, (if p1 = 0 then (some ((υ.1 52 43), υ)) else (gBind (mX10_now υ ) (fun r12 s13 => gLet r12 (fun v14 => (mX10_gives_b61  1100 s13 v14))))) = x → mX10_gives τ (nI j) p1 = x := fun x hx => by
          unfold mX10_gives
          rw [isShelf_eq, gb_some, hyes, if_pos rfl, w10, gb_some, hwi, if_pos rfl, hnr, gb_some, gl_eq, if_pos (by decide), u1, gb_some, if_pos (by decide), show Int32.toNatClampNeg 0 = 0 from by decide, v1, gb_some]
          exact hx
        by_cases h0 : p1 = 0
        · refine ⟨PG σ F (AP (σ.2.1 (40 + 2 * j + 1)) n t) t, τ, υ, ?_, op10 _ ?_, Inv_ks hI (ks_tr r2 (ks_km v2))⟩
          · unfold mX9_gives
            rw [w9, gb_some, hwi, if_pos rfl, r1, gb_some, gl_eq, if_pos rfl, if_pos h0, r5]
          · rw [if_pos h0, v5]
        · obtain ⟨r, l1, l2⟩ := last_loop (t := t) (fun y a b => r3 y a b) (fun y a b => v3 y a b) (31 - t) t 1100 (Nat.le_refl t) (by omega) (by omega)
          refine ⟨r, τ, υ, ?_, op10 _ ?_, Inv_ks hI (ks_tr r2 (ks_km v2))⟩
          · unfold mX9_gives mX9_firstWithoutCold
            rw [w9, gb_some, hwi, if_pos rfl, r1, gb_some, gl_eq, if_pos rfl, if_neg h0, bind_id, gl_eq, t8]
            exact l1
          · rw [if_neg h0, now_eq, gb_some, gl_eq, u59]
            exact l2
