/-! ===== the world of both objects: 84 cells, what each holds by its number ===== -/
/-- a state: ints, longs, and the references that change, by cell and place -/
abbrev gS : Type := (Nat → Nat → Int32) × (Nat → Nat → Int64) × (Nat → Nat → Option Nat)
def gUI (σ : gS) (k j : Nat) (v : Int32) : gS := (fun a => if a = k then (fun b => if b = j then v else σ.1 k b) else σ.1 a, σ.2)
def gUJ (σ : gS) (k j : Nat) (v : Int64) : gS := (σ.1, fun a => if a = k then (fun b => if b = j then v else σ.2.1 k b) else σ.2.1 a, σ.2.2)
def gUR (σ : gS) (k j : Nat) (v : Option Nat) : gS := (σ.1, σ.2.1, fun a => if a = k then (fun b => if b = j then v else σ.2.2 k b) else σ.2.2 a)
def gUA (σ : gS) (k : Nat) (f : Nat → Int32) : gS := (fun a => if a = k then f else σ.1 a, σ.2)
def gUB (σ : gS) (k : Nat) (f : Nat → Int64) : gS := (σ.1, fun a => if a = k then f else σ.2.1 a, σ.2.2)
/-- what stands fast in a run: class numbers and slots, the address of each cell, the class of each row, the addresses of the tables -/
abbrev gE : Type := va_G × (Nat → Nat) × (Nat → ClassId) × (Nat → Nat)
/-- the kind of each cell: a class of vwCl (0 to 10), 11 the row of shelves, 1000 and n an int row of n, 2000 and n a long row of n -/
def gkl : List Nat := [9, 8, 1006, 1006, 1012, 1012, 1012, 1012, 5, 5, 7, 1030, 1031, 1030, 4, 1004, 1004, 1120, 3, 1121, 1121, 1121, 1006, 3, 1121, 1121, 1121, 1006, 0, 0, 5, 1, 1040, 1040, 1040, 1040, 2, 1050, 1024, 11, 6, 2060, 6, 2060, 6, 2060, 6, 2060, 6, 2060, 6, 2060, 10, 1006, 1006, 1012, 1012, 1012, 1012, 1005, 1120, 1060, 1060, 1060, 1200, 1061, 1061, 1061, 1200, 1200, 1006, 1005, 1008, 1160, 1050, 1024, 1006, 1006, 2360, 1030, 1031, 1030, 1004, 1004]
def gk (k : Nat) : Nat := gkl.getD k 99
/-- the fields of an object of class ci at cell k -/
def gFs (G : gE) (i : Nat → Int32) (r : Nat → Option Nat) (k : Nat) (ci : Nat) : List Value := match ci with
  | 0 => [.int (i 0), .int (i 1), .int (i 2), .int (i 3), .int (i 4)]
  | 1 => [.ref (G.2.1 (k + 1)), .ref (G.2.1 (k + 2)), .ref (G.2.1 (k + 3)), .ref (G.2.1 (k + 4)), .int (i 4), .int (i 5)]
  | 2 => [.int (i 0), .ref (G.2.1 (k + 1)), .ref (G.2.1 (k + 2)), .int (i 3), .int (i 4)]
  | 3 => [.ref (G.2.1 (k + 1)), .ref (G.2.1 (k + 2)), .int (i 2), .ref (G.2.1 (k + 3)), .int (i 4), .ref (G.2.1 (k + 4)), va_rf ((r 6).map G.2.1), .int (i 7), .int (i 8)]
  | 4 => [.int (i 0), .int (i 1), .ref (G.2.1 (k + 1)), .ref (G.2.1 (k + 2)), .int (i 4), .int (i 5), .int (i 6), .int (i 7), .int (i 8)]
  | 5 => [.int (i 0), .int (i 1), .int (i 2), .int (i 3), .int (i 4)]
  | 6 => [.int (i 0), .int (i 1), .int (i 2), .int (i 3), .ref (G.2.1 (k + 1))]
  | 7 => [.ref (G.2.1 (k + 1)), .ref (G.2.1 (k + 2)), .ref (G.2.1 (k + 3)), .int (i 3), .int (i 4), .int (i 5), .int (i 6), .int (i 7)]
  | 8 => [.int (i 0), .ref (G.2.1 (k + 1)), .ref (G.2.1 (k + 2)), .int (i 3), .ref (G.2.1 (k + 3)), .ref (G.2.1 (k + 4)), .ref (G.2.1 (k + 5)), .ref (G.2.1 (k + 6))]
  | 9 => [.ref (G.2.1 (k + 1)), .ref (G.2.1 (k + 8)), .ref (G.2.1 (k + 9)), .ref (G.2.1 (k + 10)), .ref (G.2.1 (k + 14)), .ref (G.2.1 (k + 17)), .int (i 6), va_rf ((r 7).map G.2.1), va_rf ((r 8).map G.2.1), .ref (G.2.1 (k + 28)), .ref (G.2.1 (k + 29)), .ref (G.2.1 (k + 30)), .int (i 12), .ref (G.2.1 (k + 31)), .ref (G.2.1 (k + 36)), .ref (G.2.1 (k + 39))]
  | 10 => [.int (i 0), .ref (G.2.1 (k + 1)), .ref (G.2.1 (k + 2)), .int (i 3), .ref (G.2.1 (k + 3)), .ref (G.2.1 (k + 4)), .ref (G.2.1 (k + 5)), .ref (G.2.1 (k + 6)), .ref (G.2.1 (k + 7)), .int (i 9), .ref (G.2.1 (k + 8)), .int (i 11), .int (i 12), .ref (G.2.1 (k + 9)), .ref (G.2.1 (k + 10)), .ref (G.2.1 (k + 11)), .ref (G.2.1 (k + 12)), .int (i 17), .int (i 18), .int (i 19), .int (i 20), .ref (G.2.1 (k + 13)), .ref (G.2.1 (k + 14)), .ref (G.2.1 (k + 15)), .ref (G.2.1 (k + 16)), .ref (G.2.1 (k + 17)), .ref (G.2.1 (k + 18)), .ref (G.2.1 (k + 19)), .int (i 28), .ref (G.2.1 (k + 20)), .int (i 30), .int (i 31), .ref (G.2.1 (k + 21)), .int (i 33), .ref (G.2.1 (k + 22)), .int (i 35), .ref (G.2.1 (k + 23)), .ref (G.2.1 (k + 24)), .ref (G.2.1 (k + 25)), .ref (G.2.1 (k + 26)), .ref (G.2.1 (k + 27)), .ref (G.2.1 (k + 28)), .ref (G.2.1 (k + 29)), .int (i 43), .int (i 44), .int (i 45), .ref (G.2.1 (k + 30)), .ref (G.2.1 (k + 31))]
  | _ => []
def gCk (G : gE) (i : Nat → Int32) (j : Nat → Int64) (r : Nat → Option Nat) (k q : Nat) : va_E :=
  if q < 11 then .inr (q, gFs G i r k q)
  else if q = 11 then .inl (G.2.2.1 k, 6, .inr (.inr (.inr (.inr (fun n => some (G.2.1 (40 + 2 * n)))))))
  else if q < 2000 then .inl (G.2.2.1 k, q - 1000, .inl i)
  else .inl (G.2.2.1 k, q - 2000, .inr (.inl j))
def gCs (G : gE) (σ : gS) (k : Nat) : va_E := gCk G (σ.1 k) (σ.2.1 k) (σ.2.2 k) k (gk k)
def gws (G : gE) (σ : gS) : va_W := (List.range 84).map (fun k => (G.2.1 k, gCs G σ k))
def gty (q : Nat) : FieldType := if q < 11 then .int else if q = 11 then .object "WinterShed$Shelf" else if q < 2000 then .int else .long
def gtys (G : gE) : List (ClassId × FieldType) := (List.range 84).map (fun k => (G.2.2.1 k, gty (gk k)))
theorem gtys_get {G : gE} {k : Nat} (h : k < 84) : (gtys G)[k]? = some (G.2.2.1 k, gty (gk k)) := by simp [gtys, h]
def gA (G : gE) : Nat → Prop := fun q => ∃ k, k < 84 ∧ q = G.2.1 k
def gInj (G : gE) : Prop := ∀ a b, a < 84 → b < 84 → G.2.1 a = G.2.1 b → a = b
theorem gk_lt {k q : Nat} (h : gk k = q) (hq : q ≠ 99) : k < 84 := by
  rcases Nat.lt_or_ge k 84 with h1 | h1
  · exact h1
  · exfalso
    apply hq
    rw [← h]
    unfold gk
    rw [List.getD_eq_getElem?_getD, List.getElem?_eq_none (by exact h1)]
    rfl
theorem gws_get {G : gE} {σ : gS} {k : Nat} (h : k < 84) : (gws G σ)[k]? = some (G.2.1 k, gCs G σ k) := by
  simp [gws, h]
theorem gws_of {G : gE} {σ : gS} {k i : Nat} {q : Nat × va_E} (h : (gws G σ)[k]? = some q) : k < 84 ∧ q = (G.2.1 k, gCs G σ k) := by
  have h1 : k < 84 := by
    rcases Nat.lt_or_ge k 84 with h1 | h1
    · exact h1
    · rw [List.getElem?_eq_none (by simp [gws]; exact h1)] at h
      cases h
  rw [gws_get h1] at h
  exact ⟨h1, (Option.some.inj h).symm⟩
theorem gty_int {G : gE} {k n : Nat} (hk : gk k = 1000 + n) (hn : n < 1000) : (gtys G)[k]? = some (G.2.2.1 k, .int) := by
  rw [gtys_get (gk_lt hk (by omega)), hk]
  unfold gty
  rw [if_neg (by omega), if_neg (by omega), if_pos (by omega)]
theorem gty_long {G : gE} {k n : Nat} (hk : gk k = 2000 + n) : (gtys G)[k]? = some (G.2.2.1 k, .long) := by
  rw [gtys_get (gk_lt hk (by omega)), hk]
  unfold gty
  rw [if_neg (by omega), if_neg (by omega), if_neg (by omega)]
theorem gty_sh {G : gE} {k : Nat} (hk : gk k = 11) : (gtys G)[k]? = some (G.2.2.1 k, .object "WinterShed$Shelf") := by
  rw [gtys_get (gk_lt hk (by omega)), hk]
  rfl
theorem gD {G : gE} (hj : gInj G) (σ : gS) : va_D (gA G) (gws G σ) := by
  refine ⟨fun i j p q hi hq he => ?_, fun k q hk => ?_⟩
  · obtain ⟨h1, rfl⟩ := gws_of (i := 0) hi
    obtain ⟨h2, rfl⟩ := gws_of (i := 0) hq
    exact hj i j h1 h2 he
  · obtain ⟨h1, rfl⟩ := gws_of (i := 0) hk
    exact ⟨k, h1, rfl⟩
theorem gws_set {G : gE} {σ τ : gS} {k : Nat} {e : va_E} (he : gCs G τ k = e) (hi : ∀ a, a ≠ k → σ.1 a = τ.1 a) (hj : ∀ a, a ≠ k → σ.2.1 a = τ.2.1 a) (hr : ∀ a, a ≠ k → σ.2.2 a = τ.2.2 a) : (gws G σ).set k (G.2.1 k, e) = gws G τ := by
  apply List.ext_getElem?
  intro a
  rw [List.getElem?_set]
  by_cases ha : k = a
  · subst ha
    by_cases hk : k < 84
    · rw [if_pos rfl, gws_get hk, he]
      simp [gws, hk]
    · rw [if_pos rfl]
      simp [gws, hk]
  · rw [if_neg ha]
    by_cases hk : a < 84
    · rw [gws_get hk, gws_get hk]
      unfold gCs
      rw [hi a (fun h => ha h.symm), hj a (fun h => ha h.symm), hr a (fun h => ha h.symm)]
    · simp [gws, hk]
/-- the tables: LEAST_VALUE, MOST_VALUE, ABOVE, OWN_BODY -/
def gTl : List (List Int32) := [[0, 0, 0, 1, 0, 0, 1, 0, 0, 0], [9, 9, 29, 24, 99, 999, 999, 9, 9, 29], [-1, 0, 0, 2, 1, 3, 0, 4], [1, 10, 11, 2, 20, 0, 0, 0, 0, 30, 0, 0, 0, 41, 40, 0, 0, 0, 50, 0, 0, 0, 0, 60, 70, 0, 0, 0, 0, 80, 0, 81]]
def gTb (t j : Nat) : Int32 := (gTl.getD t []).getD j 0
/-- what stands fast of the statics and of the nest's links -/
def gZ (G : gE) (U : State) (H : Heap) : Prop :=
  va_Z "WinterShed" "LEAST_VALUE" "[I" (.ref (G.2.2.2 0)) (gA G) U H ∧ va_T .int (G.2.2.2 0) 10 (fun j => .int (gTb 0 j)) (gA G) U H ∧
  va_Z "WinterShed" "MOST_VALUE" "[I" (.ref (G.2.2.2 1)) (gA G) U H ∧ va_T .int (G.2.2.2 1) 10 (fun j => .int (gTb 1 j)) (gA G) U H ∧
  va_Z "WinterShed$Frosts" "ABOVE" "[I" (.ref (G.2.2.2 2)) (gA G) U H ∧ va_T .int (G.2.2.2 2) 8 (fun j => .int (gTb 2 j)) (gA G) U H ∧
  va_Z "WinterShed$Frosts" "OWN_BODY" "[I" (.ref (G.2.2.2 3)) (gA G) U H ∧ va_T .int (G.2.2.2 3) 32 (fun j => .int (gTb 3 j)) (gA G) U H ∧
  va_Nw (.fieldLinkNest "WinterShed$Village" 41 "WinterShed" "LEAST_VALUE" "[I" "WinterShed") U ∧ va_Nw (.fieldLinkNest "WinterShed$Village" 44 "WinterShed" "MOST_VALUE" "[I" "WinterShed") U ∧
  va_Nw (.methodLinkNest "WinterShed$Village" 47 yX9_within "WinterShed") U ∧
  va_Z "java/lang/String" "COMPACT_STRINGS" "Z" (.int 1) (gA G) U H ∧ vk_R "WinterShed$Law" 117 "clgkdb" (G.2.2.2 4) U ∧
  vk_S 1 [6] [[99, 108, 103, 107, 100, 98]] (fun _ => G.2.2.2 4) (fun _ => G.2.2.2 5) (gA G) U H
theorem gZ.same {G : gE} {u U : State} {H : Heap} (h : gZ G u H) (hv : u.vm = U.vm) : gZ G U H := by
  have ha : u.vm.Alike U.vm := by rw [hv]; exact Vm.Alike.refl U.vm
  obtain ⟨h1, h2, h3, h4, h5, h6, h7, h8, h9, h10, h11, h12, h13, h14⟩ := h
  exact ⟨h1.moved ha, h2.moved ha, h3.moved ha, h4.moved ha, h5.moved ha, h6.moved ha, h7.moved ha, h8.moved ha, h9.same rfl hv, h10.same rfl hv, h11.same rfl hv, h12.moved ha, h13.same hv.symm, h14.moved ha⟩
theorem gZ.warm {G : gE} {u U : State} {H : Heap} (h : gZ G u H) (hW : u.WarmedH U.vm) : gZ G U H := by
  have ha : u.vm.Alike U.vm := hW.alike
  obtain ⟨h1, h2, h3, h4, h5, h6, h7, h8, h9, h10, h11, h12, h13, h14⟩ := h
  exact ⟨h1.moved ha, h2.moved ha, h3.moved ha, h4.moved ha, h5.moved ha, h6.moved ha, h7.moved ha, h8.moved ha, h9.warmF hW, h10.warmF hW, h11.warmM hW, h12.moved ha, h13.warm hW, h14.moved ha⟩
theorem gZ.kept {G : gE} {U : State} {H H1 : Heap} (h : gZ G U H) (hq : ∀ a : Nat, a < H.size → ¬ gA G a → H1[a]? = H[a]?) : gZ G U H1 := by
  obtain ⟨h1, h2, h3, h4, h5, h6, h7, h8, h9, h10, h11, h12, h13, h14⟩ := h
  exact ⟨h1.kept hq, h2.kept hq, h3.kept hq, h4.kept hq, h5.kept hq, h6.kept hq, h7.kept hq, h8.kept hq, h9, h10, h11, h12.kept hq, h13, h14.kept hq⟩
/-- the world at a state -/
def gW (G : gE) (σ : gS) (U : State) : Prop := gInj G ∧ va_P G.1 vwCl (gws G σ) U.heap ∧ va_K G.1 vwCl (gtys G) U ∧ gZ G U U.heap
/-- a method's end: its answer, the world behind it, nothing else changed -/
def gQ (G : gE) (ov : Option Value) (σ : gS) : Array Value → State → Outcome → State → Prop := fun _ st o t => o = .returned ov ∧ va_P G.1 vwCl (gws G σ) t.heap ∧ va_F (gA G) st t
/-- the words of every method -/
def gBig : List Cond := lw_tbl.filter goodWord
theorem gBig_in {w : Cond} (h : w ∈ gBig) : w ∈ lw_tbl := (List.mem_filter.mp h).1
theorem gBig_tab {w : Cond} (i : Nat) (h : tables_1[i]? = some w) (hg : goodWord w = true) : w ∈ gBig := List.mem_filter.mpr ⟨List.mem_append_right _ (List.mem_of_getElem? h), hg⟩
theorem gBig_sel {w : Cond} (i : Nat) (h : (k2_sels lw_privs)[i]? = some w) (hg : goodWord w = true) : w ∈ gBig := List.mem_filter.mpr ⟨List.mem_append_left _ (List.mem_of_getElem? h), hg⟩
theorem gBig_good {w : Cond} (h : w ∈ gBig) : (w.onTables && w.keeps) = true ∨ ∃ ty, w = .arrayClass ty := good_of_word (List.mem_filter.mp h).2
theorem gBig_gi {y : MethodName} {cc : ByteArray} {mL : Nat} {ret : Option FieldType} (h : Cond.code y cc mL ret ∈ gBig) : GoodIn gBig (Cond.code y cc mL ret :: gBig) := fun w hw => by
  rcases List.mem_cons.mp hw with h1 | h1
  · rw [h1]; exact ⟨h, gBig_good h⟩
  · exact ⟨h1, gBig_good h1⟩
/-- a class of vwCl with its rows -/
def gCls (ci : Nat) (C : String) (T : u_T) (N : Nat) (ty : Nat → FieldType) : Prop := vwCl[ci]? = some (C, T, N) ∧ (∀ w ∈ u_ws C T N, w ∈ gBig) ∧ (∀ k, k < N → parseFieldDescriptor (T k).2.2.1 = some (ty k)) ∧ (∀ a, a < N → ∀ b, b < N → a ≠ b → (T a).2.1 ≠ (T b).2.1) ∧ ci < 11
set_option maxRecDepth 20000 in
theorem gin_0 : GoodIn tables_1 (u_ws RX0 TX0 5) := goodIn_r _ [229, 231, 233, 235, 237] (by decide +kernel) (by decide +kernel)
set_option maxRecDepth 20000 in
theorem gwd_0 : (u_ws RX0 TX0 5).all goodWord = true := by decide +kernel
theorem kX0 : gCls 0 RX0 TX0 5 tyX0 := ⟨rfl, fun w h => List.mem_filter.mpr ⟨List.mem_append_right _ (gin_0 w h).1, List.all_eq_true.mp gwd_0 w h⟩, tyX0_ok, nmX0, by decide⟩
set_option maxRecDepth 20000 in
theorem gin_1 : GoodIn tables_1 (u_ws RX1 TX1 6) := goodIn_r _ [258, 260, 262, 264, 266, 268] (by decide +kernel) (by decide +kernel)
set_option maxRecDepth 20000 in
theorem gwd_1 : (u_ws RX1 TX1 6).all goodWord = true := by decide +kernel
theorem kX1 : gCls 1 RX1 TX1 6 tyX1 := ⟨rfl, fun w h => List.mem_filter.mpr ⟨List.mem_append_right _ (gin_1 w h).1, List.all_eq_true.mp gwd_1 w h⟩, tyX1_ok, nmX1, by decide⟩
set_option maxRecDepth 20000 in
theorem gin_2 : GoodIn tables_1 (u_ws RX2 TX2 5) := goodIn_r _ [285, 287, 289, 291, 293] (by decide +kernel) (by decide +kernel)
set_option maxRecDepth 20000 in
theorem gwd_2 : (u_ws RX2 TX2 5).all goodWord = true := by decide +kernel
theorem kX2 : gCls 2 RX2 TX2 5 tyX2 := ⟨rfl, fun w h => List.mem_filter.mpr ⟨List.mem_append_right _ (gin_2 w h).1, List.all_eq_true.mp gwd_2 w h⟩, tyX2_ok, nmX2, by decide⟩
set_option maxRecDepth 20000 in
theorem gin_3 : GoodIn tables_1 (u_ws RX3 TX3 9) := goodIn_r _ [194, 196, 198, 200, 202, 204, 206, 208, 210] (by decide +kernel) (by decide +kernel)
set_option maxRecDepth 20000 in
theorem gwd_3 : (u_ws RX3 TX3 9).all goodWord = true := by decide +kernel
theorem kX3 : gCls 3 RX3 TX3 9 tyX3 := ⟨rfl, fun w h => List.mem_filter.mpr ⟨List.mem_append_right _ (gin_3 w h).1, List.all_eq_true.mp gwd_3 w h⟩, tyX3_ok, nmX3, by decide⟩
set_option maxRecDepth 20000 in
theorem gin_4 : GoodIn tables_1 (u_ws RX4 TX4 9) := goodIn_r _ [160, 162, 164, 166, 168, 170, 172, 174, 176] (by decide +kernel) (by decide +kernel)
set_option maxRecDepth 20000 in
theorem gwd_4 : (u_ws RX4 TX4 9).all goodWord = true := by decide +kernel
theorem kX4 : gCls 4 RX4 TX4 9 tyX4 := ⟨rfl, fun w h => List.mem_filter.mpr ⟨List.mem_append_right _ (gin_4 w h).1, List.all_eq_true.mp gwd_4 w h⟩, tyX4_ok, nmX4, by decide⟩
set_option maxRecDepth 20000 in
theorem gin_5 : GoodIn tables_1 (u_ws RX5 TX5 5) := goodIn_r _ [89, 91, 93, 95, 97] (by decide +kernel) (by decide +kernel)
set_option maxRecDepth 20000 in
theorem gwd_5 : (u_ws RX5 TX5 5).all goodWord = true := by decide +kernel
theorem kX5 : gCls 5 RX5 TX5 5 tyX5 := ⟨rfl, fun w h => List.mem_filter.mpr ⟨List.mem_append_right _ (gin_5 w h).1, List.all_eq_true.mp gwd_5 w h⟩, tyX5_ok, nmX5, by decide⟩
set_option maxRecDepth 20000 in
theorem gin_6 : GoodIn tables_1 (u_ws RX6 TX6 5) := goodIn_r _ [315, 317, 319, 321, 323] (by decide +kernel) (by decide +kernel)
set_option maxRecDepth 20000 in
theorem gwd_6 : (u_ws RX6 TX6 5).all goodWord = true := by decide +kernel
theorem kX6 : gCls 6 RX6 TX6 5 tyX6 := ⟨rfl, fun w h => List.mem_filter.mpr ⟨List.mem_append_right _ (gin_6 w h).1, List.all_eq_true.mp gwd_6 w h⟩, tyX6_ok, nmX6, by decide⟩
set_option maxRecDepth 20000 in
theorem gin_7 : GoodIn tables_1 (u_ws RX7 TX7 8) := goodIn_r _ [120, 122, 124, 126, 128, 130, 132, 134] (by decide +kernel) (by decide +kernel)
set_option maxRecDepth 20000 in
theorem gwd_7 : (u_ws RX7 TX7 8).all goodWord = true := by decide +kernel
theorem kX7 : gCls 7 RX7 TX7 8 tyX7 := ⟨rfl, fun w h => List.mem_filter.mpr ⟨List.mem_append_right _ (gin_7 w h).1, List.all_eq_true.mp gwd_7 w h⟩, tyX7_ok, nmX7, by decide⟩
set_option maxRecDepth 20000 in
theorem gin_8 : GoodIn tables_1 (u_ws RX8 TX8 8) := goodIn_r _ [50, 52, 54, 56, 58, 60, 62, 64] (by decide +kernel) (by decide +kernel)
set_option maxRecDepth 20000 in
theorem gwd_8 : (u_ws RX8 TX8 8).all goodWord = true := by decide +kernel
theorem kX8 : gCls 8 RX8 TX8 8 tyX8 := ⟨rfl, fun w h => List.mem_filter.mpr ⟨List.mem_append_right _ (gin_8 w h).1, List.all_eq_true.mp gwd_8 w h⟩, tyX8_ok, nmX8, by decide⟩
set_option maxRecDepth 20000 in
theorem gin_9 : GoodIn tables_1 (u_ws RX9 TX9 16) := goodIn_r _ [343, 345, 347, 349, 351, 353, 355, 357, 359, 361, 363, 365, 367, 369, 371, 373] (by decide +kernel) (by decide +kernel)
set_option maxRecDepth 20000 in
theorem gwd_9 : (u_ws RX9 TX9 16).all goodWord = true := by decide +kernel
theorem kX9 : gCls 9 RX9 TX9 16 tyX9 := ⟨rfl, fun w h => List.mem_filter.mpr ⟨List.mem_append_right _ (gin_9 w h).1, List.all_eq_true.mp gwd_9 w h⟩, tyX9_ok, nmX9, by decide⟩
set_option maxRecDepth 20000 in
theorem gin_10 : GoodIn tables_1 (u_ws RX10 TX10 48) := goodIn_r _ [1101, 1103, 1105, 1107, 1109, 1111, 1113, 1115, 1117, 1119, 1121, 1123, 1125, 1127, 1129, 1131, 1133, 1135, 1137, 1139, 1141, 1143, 1145, 1147, 1149, 1151, 1153, 1155, 1157, 1159, 1161, 1163, 1165, 1167, 1169, 1171, 1173, 1175, 1177, 1179, 1181, 1183, 1185, 1187, 1189, 1191, 1193, 1195] (by decide +kernel) (by decide +kernel)
set_option maxRecDepth 20000 in
theorem gwd_10 : (u_ws RX10 TX10 48).all goodWord = true := by decide +kernel
theorem kX10 : gCls 10 RX10 TX10 48 tyX10 := ⟨rfl, fun w h => List.mem_filter.mpr ⟨List.mem_append_right _ (gin_10 w h).1, List.all_eq_true.mp gwd_10 w h⟩, tyX10_ok, nmX10, by decide⟩
