/-! ===== the judgement of a walk with its pure value, and a rule for each instruction ===== -/
def b2i (b : Bool) : Int32 := if b then 1 else 0
def gMax (x y : Int32) : Int32 := if x < y then y else x
def gMin (x y : Int32) : Int32 := if y < x then y else x
def gRem (x y : Int32) : Int32 := x - x / y * y
def gUsr (x y : Int32) : Int32 := (x.toUInt32 >>> (y.toUInt32 &&& Int32.toUInt32 31)).toInt32
def gLet {β γ : Type} (v : β) (k : β → γ) : γ := k v
def gBind {β γ : Type} (o : Option (β × gS)) (k : β → gS → Option γ) : Option γ := match o with
  | none => none
  | some q => k q.1 q.2
/-- i is a place of a row of n -/
def inb (i : Int32) (n : Nat) : Prop := 0 ≤ i.toInt ∧ i.toInt < (n : Int)
def inbB (i : Int32) (n : Nat) : Bool := decide (0 ≤ i.toInt) && decide (i.toInt < (n : Int))
theorem inbB_iff {i : Int32} {n : Nat} : inbB i n = true ↔ inb i n := by unfold inbB inb; simp
theorem inbB_vp {i : Int32} {n : Nat} (h : inbB i n = true) : vp_in i n := by
  obtain ⟨h1, h2⟩ := inbB_iff.mp h
  intro q
  rcases q with q | q
  · have := Int32.lt_iff_toInt_lt.mp q
    simp at this
    omega
  · have e : (i.toNatClampNeg : Int) = i.toInt := by
      unfold Int32.toNatClampNeg
      exact Int.toNat_of_nonneg h1
    omega
abbrev iI : Int32 → Option Value := fun r => some (.int r)
abbrev iJ : Int64 → Option Value := fun r => some (.long r)
abbrev iZ : Bool → Option Value := fun r => some (.int (b2i r))
abbrev iV : Unit → Option Value := fun _ => none
abbrev iR (G : gE) : Option Nat → Option Value := fun r => some (va_rf (r.map G.2.1))
/-- what holds throughout a method's body -/
def gCx (p : Program) (s : State) (m : MethodId) (args : Array Value) (meth : Method) (c : Code) (G : gE) (own : String) (cc : ByteArray) (nL : Nat) (ret : Option FieldType) : Prop :=
  p.tables.exec = Jvm.exec ∧ c.code = cc ∧ c.maxLocals = nL ∧ s.vm.findClass own = some m.cls ∧ (∀ w ∈ gBig, w.before args s = true) ∧ gInj G ∧ va_K G.1 vwCl (gtys G) s ∧ gZ G s s.heap ∧ meth.sig.returnType = ret ∧ meth.locks = false
def gT (p : Program) (l : Launch) (e : Env) (R : Room) (s : State) (m : MethodId) (args : Array Value) (below : List Frame) (meth : Method) (c : Code) (G : gE) (nL : Nat) {α : Type} (ι : α → Option Value) (σ : gS) (pc : Nat) (lv : List (Nat × Value)) (st : List Value) (o : Option (α × gS)) : Prop :=
  ∀ (r : α) (σ' : gS), o = some (r, σ') → ∀ (H : Heap) (locs : List Loc) (ls : Array Slot), va_P G.1 vwCl (gws G σ) H → va_S (gA G) s.heap H locs → lv_has ls nL lv →
    W p l e R s m args below meth c H locs 0 0 (MQ below (gQ G (ι r) σ') args s 0 0 (gA G)) (F0 m pc ls st)
/-- a method's contract with its pure value -/
def gM (l : Launch) (G : gE) (y : MethodName) (cc : ByteArray) (mL : Nat) (ret : Option FieldType) (rm : Room) {α : Type} (ι : α → Option Value) (av : List Value) (σ : gS) (o : Option (α × gS)) : Prop :=
  ∀ (r : α) (σ' : gS), o = some (r, σ') → Met l y (Cond.code y cc mL ret :: gBig) rm (va_Pc av (gW G σ)) (gQ G (ι r) σ') 0 0 (gA G)
theorem gM_of {l : Launch} {G : gE} {y : MethodName} {cc : ByteArray} {mL : Nat} {ret : Option FieldType} {rm : Room} {α : Type} {ι : α → Option Value} {av : List Value} {σ : gS} {o : Option (α × gS)} (hy : plainName y.cls = true) (hlen : (lg_sl av).length ≤ mL)
    (h : ∀ (p : Program) (e : Env) (s : State) (m : MethodId) (args : Array Value) (below : List Frame) (meth : Method) (c : Code), gCx p s m args meth c G y.cls cc mL ret → gT p l e rm s m args below meth c G mL ι σ 0 (lv_args 0 av) [] o) : gM l G y cc mL ret rm ι av σ o := by
  intro r σ' ho
  refine Met.ofW (cc := cc) (maxL := mL) (ret := ret) hy rfl ?_
  intro p e s m args below meth c s₁ B hml hv
  obtain ⟨rfl, hj, hP, hK, hZ⟩ := hv
  have hts := atoms_spec (ws := Cond.code y cc mL ret :: gBig) B.pre
  have hl := lv_entry av (n := mL) hlen
  rw [lg_entry_eq]
  exact h p e s m _ below meth c ⟨B.exec, B.bytes, hml, findClass_of_methodNamed B.named, fun w hw => hts w (List.mem_cons_of_mem _ hw), hj, hK, hZ, B.returns, B.notSynchronized⟩ r σ' ho s.heap [] _ hP va_S.rf hl
section GR
variable {p : Program} {l : Launch} {e : Env} {R : Room} {s : State} {m : MethodId} {args : Array Value} {below : List Frame} {meth : Method} {c : Code} {G : gE} {own : String} {cc : ByteArray} {nL : Nat} {ret : Option FieldType} {α : Type} {ι : α → Option Value} {σ : gS} {pc : Nat} {lv : List (Nat × Value)} {st : List Value} {o : Option (α × gS)}
theorem gT_none : gT p l e R s m args below meth c G nL ι σ pc lv st none := fun _ _ h => by cases h
theorem gT_sub {lv' : List (Nat × Value)} (ks : List Nat) (hl : lv_pick lv ks = lv') (k : gT p l e R s m args below meth c G nL ι σ pc lv' st o) : gT p l e R s m args below meth c G nL ι σ pc lv st o :=
  fun r σ' h H locs ls hP hS hv => k r σ' h H locs ls hP hS (lv_sub hv ks hl)
theorem gT_if {P : Prop} {dP : Decidable P} {o2 : Option (α × gS)} (k1 : P → gT p l e R s m args below meth c G nL ι σ pc lv st o) (k2 : ¬ P → gT p l e R s m args below meth c G nL ι σ pc lv st o2) : gT p l e R s m args below meth c G nL ι σ pc lv st (@ite _ P dP o o2) := by
  by_cases h : P
  · rw [if_pos h]; exact k1 h
  · rw [if_neg h]; exact k2 h
theorem g_iconst (hC : gCx p s m args meth c G own cc nL ret) {n : Int} {v : Int32} (hd : decode cc pc = .ok (.iconst n, 1)) (hv : Int32.ofInt n = v) (k : gT p l e R s m args below meth c G nL ι σ (pc + 1) lv (.int v :: st) o) : gT p l e R s m args below meth c G nL ι σ pc lv (st) o := by
  intro r σ' h H locs ls hP hS hl
  exact lv_iconst hC.1 hC.2.1 hd hv (k r σ' h H locs ls hP hS hl)
theorem g_bipush (hC : gCx p s m args meth c G own cc nL ret) {n : Int} {v : Int32} (hd : decode cc pc = .ok (.bipush n, 2)) (hv : (Int8.ofInt n).toInt32 = v) (k : gT p l e R s m args below meth c G nL ι σ (pc + 2) lv (.int v :: st) o) : gT p l e R s m args below meth c G nL ι σ pc lv (st) o := by
  intro r σ' h H locs ls hP hS hl
  exact lv_bipush hC.1 hC.2.1 hd hv (k r σ' h H locs ls hP hS hl)
theorem g_sipush (hC : gCx p s m args meth c G own cc nL ret) {n : Int} {v : Int32} (hd : decode cc pc = .ok (.sipush n, 3)) (hv : (Int16.ofInt n).toInt32 = v) (k : gT p l e R s m args below meth c G nL ι σ (pc + 3) lv (.int v :: st) o) : gT p l e R s m args below meth c G nL ι σ pc lv (st) o := by
  intro r σ' h H locs ls hP hS hl
  exact lv_sipush hC.1 hC.2.1 hd hv (k r σ' h H locs ls hP hS hl)
theorem g_lconst (hC : gCx p s m args meth c G own cc nL ret) {n : Fin 2} {v : Int64} (hd : decode cc pc = .ok (.lconst n, 1)) (hv : Int64.ofNat (n : Nat) = v) (k : gT p l e R s m args below meth c G nL ι σ (pc + 1) lv (.long v :: st) o) : gT p l e R s m args below meth c G nL ι σ pc lv (st) o := by
  intro r σ' h H locs ls hP hS hl
  exact lv_lconst hC.1 hC.2.1 hd hv (k r σ' h H locs ls hP hS hl)
theorem g_null (hC : gCx p s m args meth c G own cc nL ret)  (hd : decode cc pc = .ok (.aconst_null, 1)) (k : gT p l e R s m args below meth c G nL ι σ (pc + 1) lv (.null :: st) o) : gT p l e R s m args below meth c G nL ι σ pc lv (st) o := by
  intro r σ' h H locs ls hP hS hl
  exact lv_null hC.1 hC.2.1 hd (k r σ' h H locs ls hP hS hl)
theorem g_ldc (hC : gCx p s m args meth c G own cc nL ret) {ix : Nat} {v : Int32} (hd : decode cc pc = .ok (.ldc ix, 2)) (hw : Cond.constant own ix v ∈ gBig) (k : gT p l e R s m args below meth c G nL ι σ (pc + 2) lv (.int v :: st) o) : gT p l e R s m args below meth c G nL ι σ pc lv (st) o := by
  intro r σ' h H locs ls hP hS hl
  exact lv_ldc hC.1 hC.2.1 hC.2.2.2.1 (hC.2.2.2.2.1 _ hw) hd (k r σ' h H locs ls hP hS hl)
theorem g_ldcw (hC : gCx p s m args meth c G own cc nL ret) {ix : Nat} {v : Int32} (hd : decode cc pc = .ok (.ldc_w ix, 3)) (hw : Cond.constant own ix v ∈ gBig) (k : gT p l e R s m args below meth c G nL ι σ (pc + 3) lv (.int v :: st) o) : gT p l e R s m args below meth c G nL ι σ pc lv (st) o := by
  intro r σ' h H locs ls hP hS hl
  exact lv_ldcw hC.1 hC.2.1 hC.2.2.2.1 (hC.2.2.2.2.1 _ hw) hd (k r σ' h H locs ls hP hS hl)
theorem g_ldc2 (hC : gCx p s m args meth c G own cc nL ret) {ix : Nat} {v : Int64} (hd : decode cc pc = .ok (.ldc2_w ix, 3)) (hw : Cond.constantLong own ix v ∈ gBig) (k : gT p l e R s m args below meth c G nL ι σ (pc + 3) lv (.long v :: st) o) : gT p l e R s m args below meth c G nL ι σ pc lv (st) o := by
  intro r σ' h H locs ls hP hS hl
  exact lv_ldc2 hC.1 hC.2.1 hC.2.2.2.1 (hC.2.2.2.2.1 _ hw) hd (k r σ' h H locs ls hP hS hl)
theorem g_iload_n (hC : gCx p s m args meth c G own cc nL ret) {kx : Fin 4} {i : Nat} {x : Int32} (q : Nat) (hd : decode cc pc = .ok (.iload_n kx, 1)) (hi : (kx : Nat) = i) (hq : lv[q]? = some (i, .int x)) (k : gT p l e R s m args below meth c G nL ι σ (pc + 1) lv (.int x :: st) o) : gT p l e R s m args below meth c G nL ι σ pc lv (st) o := by
  intro r σ' h H locs ls hP hS hl
  exact lv_iload_n hC.1 hC.2.1 hd hi (lv_at hl q hq) (k r σ' h H locs ls hP hS hl)
theorem g_iload (hC : gCx p s m args meth c G own cc nL ret) {i : Nat} {x : Int32} (q : Nat) (hd : decode cc pc = .ok (.iload i, 2)) (hq : lv[q]? = some (i, .int x)) (k : gT p l e R s m args below meth c G nL ι σ (pc + 2) lv (.int x :: st) o) : gT p l e R s m args below meth c G nL ι σ pc lv (st) o := by
  intro r σ' h H locs ls hP hS hl
  exact lv_iload hC.1 hC.2.1 hd (lv_at hl q hq) (k r σ' h H locs ls hP hS hl)
theorem g_lload_n (hC : gCx p s m args meth c G own cc nL ret) {kx : Fin 4} {i : Nat} {x : Int64} (q : Nat) (hd : decode cc pc = .ok (.lload_n kx, 1)) (hi : (kx : Nat) = i) (hq : lv[q]? = some (i, .long x)) (k : gT p l e R s m args below meth c G nL ι σ (pc + 1) lv (.long x :: st) o) : gT p l e R s m args below meth c G nL ι σ pc lv (st) o := by
  intro r σ' h H locs ls hP hS hl
  exact lv_lload_n hC.1 hC.2.1 hd hi (lv_at hl q hq) (k r σ' h H locs ls hP hS hl)
theorem g_lload (hC : gCx p s m args meth c G own cc nL ret) {i : Nat} {x : Int64} (q : Nat) (hd : decode cc pc = .ok (.lload i, 2)) (hq : lv[q]? = some (i, .long x)) (k : gT p l e R s m args below meth c G nL ι σ (pc + 2) lv (.long x :: st) o) : gT p l e R s m args below meth c G nL ι σ pc lv (st) o := by
  intro r σ' h H locs ls hP hS hl
  exact lv_lload hC.1 hC.2.1 hd (lv_at hl q hq) (k r σ' h H locs ls hP hS hl)
theorem g_aload_n (hC : gCx p s m args meth c G own cc nL ret) {kx : Fin 4} {i : Nat} {x : Nat} (q : Nat) (hd : decode cc pc = .ok (.aload_n kx, 1)) (hi : (kx : Nat) = i) (hq : lv[q]? = some (i, .ref x)) (k : gT p l e R s m args below meth c G nL ι σ (pc + 1) lv (.ref x :: st) o) : gT p l e R s m args below meth c G nL ι σ pc lv (st) o := by
  intro r σ' h H locs ls hP hS hl
  exact lv_aload_n hC.1 hC.2.1 hd hi (lv_at hl q hq) (k r σ' h H locs ls hP hS hl)
theorem g_aload (hC : gCx p s m args meth c G own cc nL ret) {i : Nat} {x : Nat} (q : Nat) (hd : decode cc pc = .ok (.aload i, 2)) (hq : lv[q]? = some (i, .ref x)) (k : gT p l e R s m args below meth c G nL ι σ (pc + 2) lv (.ref x :: st) o) : gT p l e R s m args below meth c G nL ι σ pc lv (st) o := by
  intro r σ' h H locs ls hP hS hl
  exact lv_aload hC.1 hC.2.1 hd (lv_at hl q hq) (k r σ' h H locs ls hP hS hl)
theorem g_aload_nN (hC : gCx p s m args meth c G own cc nL ret) {kx : Fin 4} {i : Nat} (q : Nat) (hd : decode cc pc = .ok (.aload_n kx, 1)) (hi : (kx : Nat) = i) (hq : lv[q]? = some (i, .null)) (k : gT p l e R s m args below meth c G nL ι σ (pc + 1) lv (.null :: st) o) : gT p l e R s m args below meth c G nL ι σ pc lv (st) o := by
  intro r σ' h H locs ls hP hS hl
  exact lv_aload_nN hC.1 hC.2.1 hd hi (lv_at hl q hq) (k r σ' h H locs ls hP hS hl)
theorem g_aloadN (hC : gCx p s m args meth c G own cc nL ret) {i : Nat} (q : Nat) (hd : decode cc pc = .ok (.aload i, 2)) (hq : lv[q]? = some (i, .null)) (k : gT p l e R s m args below meth c G nL ι σ (pc + 2) lv (.null :: st) o) : gT p l e R s m args below meth c G nL ι σ pc lv (st) o := by
  intro r σ' h H locs ls hP hS hl
  exact lv_aloadN hC.1 hC.2.1 hd (lv_at hl q hq) (k r σ' h H locs ls hP hS hl)
theorem g_istore_n (hC : gCx p s m args meth c G own cc nL ret) {kx : Fin 4} {i : Nat} {v : Int32} {kk : Int32 → Option (α × gS)} (lv' : Int32 → List (Nat × Value)) (hd : decode cc pc = .ok (.istore_n kx, 1)) (hi : (kx : Nat) = i) (hn : i < nL) (hv : ∀ x, (i, Value.int x) :: lv.filter (fun q => !(q.1 == i) && !(q.1 + 1 == i && q.2.category == 2)) = lv' x) (k : ∀ x : Int32, gT p l e R s m args below meth c G nL ι σ (pc + 1) (lv' x) st (kk x)) : gT p l e R s m args below meth c G nL ι σ pc lv (.int v :: st) (gLet v kk) := by
  intro r σ' h H locs ls hP hS hl
  exact lv_istore_n hC.1 hC.2.1 hd hi hl hn (hv v) (fun ls' hl' => k v r σ' h H locs ls' hP hS hl')
theorem g_istore (hC : gCx p s m args meth c G own cc nL ret) {i : Nat} {v : Int32} {kk : Int32 → Option (α × gS)} (lv' : Int32 → List (Nat × Value)) (hd : decode cc pc = .ok (.istore i, 2)) (hn : i < nL) (hv : ∀ x, (i, Value.int x) :: lv.filter (fun q => !(q.1 == i) && !(q.1 + 1 == i && q.2.category == 2)) = lv' x) (k : ∀ x : Int32, gT p l e R s m args below meth c G nL ι σ (pc + 2) (lv' x) st (kk x)) : gT p l e R s m args below meth c G nL ι σ pc lv (.int v :: st) (gLet v kk) := by
  intro r σ' h H locs ls hP hS hl
  exact lv_istore hC.1 hC.2.1 hd hl hn (hv v) (fun ls' hl' => k v r σ' h H locs ls' hP hS hl')
theorem g_lstore_n (hC : gCx p s m args meth c G own cc nL ret) {kx : Fin 4} {i : Nat} {v : Int64} {kk : Int64 → Option (α × gS)} (lv' : Int64 → List (Nat × Value)) (hd : decode cc pc = .ok (.lstore_n kx, 1)) (hi : (kx : Nat) = i) (hn : i + 1 < nL) (hv : ∀ x, (i, Value.long x) :: lv.filter (fun q => !(q.1 == i) && (!(q.1 == i + 1) && !(q.1 + 1 == i && q.2.category == 2))) = lv' x) (k : ∀ x : Int64, gT p l e R s m args below meth c G nL ι σ (pc + 1) (lv' x) st (kk x)) : gT p l e R s m args below meth c G nL ι σ pc lv (.long v :: st) (gLet v kk) := by
  intro r σ' h H locs ls hP hS hl
  exact lv_lstore_n hC.1 hC.2.1 hd hi hl hn (hv v) (fun ls' hl' => k v r σ' h H locs ls' hP hS hl')
theorem g_lstore (hC : gCx p s m args meth c G own cc nL ret) {i : Nat} {v : Int64} {kk : Int64 → Option (α × gS)} (lv' : Int64 → List (Nat × Value)) (hd : decode cc pc = .ok (.lstore i, 2)) (hn : i + 1 < nL) (hv : ∀ x, (i, Value.long x) :: lv.filter (fun q => !(q.1 == i) && (!(q.1 == i + 1) && !(q.1 + 1 == i && q.2.category == 2))) = lv' x) (k : ∀ x : Int64, gT p l e R s m args below meth c G nL ι σ (pc + 2) (lv' x) st (kk x)) : gT p l e R s m args below meth c G nL ι σ pc lv (.long v :: st) (gLet v kk) := by
  intro r σ' h H locs ls hP hS hl
  exact lv_lstore hC.1 hC.2.1 hd hl hn (hv v) (fun ls' hl' => k v r σ' h H locs ls' hP hS hl')
theorem g_astore_n (hC : gCx p s m args meth c G own cc nL ret) {kx : Fin 4} {i a : Nat} (lv' : List (Nat × Value)) (hd : decode cc pc = .ok (.astore_n kx, 1)) (hi : (kx : Nat) = i) (hn : i < nL) (hv : (i, Value.ref a) :: lv.filter (fun q => !(q.1 == i) && !(q.1 + 1 == i && q.2.category == 2)) = lv') (k : gT p l e R s m args below meth c G nL ι σ (pc + 1) lv' st o) : gT p l e R s m args below meth c G nL ι σ pc lv (.ref a :: st) o := by
  intro r σ' h H locs ls hP hS hl
  exact lv_astore_n hC.1 hC.2.1 hd hi hl hn hv (fun ls' hl' => k r σ' h H locs ls' hP hS hl')
theorem g_astore_nN (hC : gCx p s m args meth c G own cc nL ret) {kx : Fin 4} {i : Nat} (lv' : List (Nat × Value)) (hd : decode cc pc = .ok (.astore_n kx, 1)) (hi : (kx : Nat) = i) (hn : i < nL) (hv : (i, Value.null) :: lv.filter (fun q => !(q.1 == i) && !(q.1 + 1 == i && q.2.category == 2)) = lv') (k : gT p l e R s m args below meth c G nL ι σ (pc + 1) lv' st o) : gT p l e R s m args below meth c G nL ι σ pc lv (.null :: st) o := by
  intro r σ' h H locs ls hP hS hl
  exact lv_astore_nN hC.1 hC.2.1 hd hi hl hn hv (fun ls' hl' => k r σ' h H locs ls' hP hS hl')
theorem g_astore (hC : gCx p s m args meth c G own cc nL ret) {i a : Nat} (lv' : List (Nat × Value)) (hd : decode cc pc = .ok (.astore i, 2)) (hn : i < nL) (hv : (i, Value.ref a) :: lv.filter (fun q => !(q.1 == i) && !(q.1 + 1 == i && q.2.category == 2)) = lv') (k : gT p l e R s m args below meth c G nL ι σ (pc + 2) lv' st o) : gT p l e R s m args below meth c G nL ι σ pc lv (.ref a :: st) o := by
  intro r σ' h H locs ls hP hS hl
  exact lv_astore hC.1 hC.2.1 hd hl hn hv (fun ls' hl' => k r σ' h H locs ls' hP hS hl')
theorem g_astoreN (hC : gCx p s m args meth c G own cc nL ret) {i : Nat} (lv' : List (Nat × Value)) (hd : decode cc pc = .ok (.astore i, 2)) (hn : i < nL) (hv : (i, Value.null) :: lv.filter (fun q => !(q.1 == i) && !(q.1 + 1 == i && q.2.category == 2)) = lv') (k : gT p l e R s m args below meth c G nL ι σ (pc + 2) lv' st o) : gT p l e R s m args below meth c G nL ι σ pc lv (.null :: st) o := by
  intro r σ' h H locs ls hP hS hl
  exact lv_astoreN hC.1 hC.2.1 hd hl hn hv (fun ls' hl' => k r σ' h H locs ls' hP hS hl')
theorem g_iinc (hC : gCx p s m args meth c G own cc nL ret) {i : Nat} {n : Int} {x w : Int32} {kk : Int32 → Option (α × gS)} (q : Nat) (lv' : Int32 → List (Nat × Value)) (hd : decode cc pc = .ok (.iinc i n, 3)) (hq : lv[q]? = some (i, .int x)) (hw : Int32.ofInt n = w) (hn : i < nL) (hv : ∀ x, (i, Value.int x) :: lv.filter (fun q => !(q.1 == i) && !(q.1 + 1 == i && q.2.category == 2)) = lv' x) (k : ∀ x : Int32, gT p l e R s m args below meth c G nL ι σ (pc + 3) (lv' x) st (kk x)) : gT p l e R s m args below meth c G nL ι σ pc lv st (gLet (x + w) kk) := by
  intro r σ' h H locs ls hP hS hl
  exact lv_iinc (v := x + w) hC.1 hC.2.1 hd hl hq (by rw [hw]) hn (hv (x + w)) (fun ls' hl' => k (x + w) r σ' h H locs ls' hP hS hl')
theorem g_iadd (hC : gCx p s m args meth c G own cc nL ret) {x y : Int32} (hd : decode cc pc = .ok (.iadd, 1)) (k : gT p l e R s m args below meth c G nL ι σ (pc + 1) lv (.int (x + y) :: st) o) : gT p l e R s m args below meth c G nL ι σ pc lv (.int y :: .int x :: st) o := by
  intro r σ' h H locs ls hP hS hl
  exact lv_iadd hC.1 hC.2.1 hd (k r σ' h H locs ls hP hS hl)
theorem g_isub (hC : gCx p s m args meth c G own cc nL ret) {x y : Int32} (hd : decode cc pc = .ok (.isub, 1)) (k : gT p l e R s m args below meth c G nL ι σ (pc + 1) lv (.int (x - y) :: st) o) : gT p l e R s m args below meth c G nL ι σ pc lv (.int y :: .int x :: st) o := by
  intro r σ' h H locs ls hP hS hl
  exact lv_isub hC.1 hC.2.1 hd (k r σ' h H locs ls hP hS hl)
theorem g_imul (hC : gCx p s m args meth c G own cc nL ret) {x y : Int32} (hd : decode cc pc = .ok (.imul, 1)) (k : gT p l e R s m args below meth c G nL ι σ (pc + 1) lv (.int (x * y) :: st) o) : gT p l e R s m args below meth c G nL ι σ pc lv (.int y :: .int x :: st) o := by
  intro r σ' h H locs ls hP hS hl
  exact lv_imul hC.1 hC.2.1 hd (k r σ' h H locs ls hP hS hl)
theorem g_iand (hC : gCx p s m args meth c G own cc nL ret) {x y : Int32} (hd : decode cc pc = .ok (.iand, 1)) (k : gT p l e R s m args below meth c G nL ι σ (pc + 1) lv (.int (x &&& y) :: st) o) : gT p l e R s m args below meth c G nL ι σ pc lv (.int y :: .int x :: st) o := by
  intro r σ' h H locs ls hP hS hl
  exact lv_iand hC.1 hC.2.1 hd (k r σ' h H locs ls hP hS hl)
theorem g_ior (hC : gCx p s m args meth c G own cc nL ret) {x y : Int32} (hd : decode cc pc = .ok (.ior, 1)) (k : gT p l e R s m args below meth c G nL ι σ (pc + 1) lv (.int (x ||| y) :: st) o) : gT p l e R s m args below meth c G nL ι σ pc lv (.int y :: .int x :: st) o := by
  intro r σ' h H locs ls hP hS hl
  exact lv_ior hC.1 hC.2.1 hd (k r σ' h H locs ls hP hS hl)
theorem g_ixor (hC : gCx p s m args meth c G own cc nL ret) {x y : Int32} (hd : decode cc pc = .ok (.ixor, 1)) (k : gT p l e R s m args below meth c G nL ι σ (pc + 1) lv (.int (x ^^^ y) :: st) o) : gT p l e R s m args below meth c G nL ι σ pc lv (.int y :: .int x :: st) o := by
  intro r σ' h H locs ls hP hS hl
  exact lv_ixor hC.1 hC.2.1 hd (k r σ' h H locs ls hP hS hl)
theorem g_ishl (hC : gCx p s m args meth c G own cc nL ret) {x y : Int32} (hd : decode cc pc = .ok (.ishl, 1)) (k : gT p l e R s m args below meth c G nL ι σ (pc + 1) lv (.int (x <<< (y &&& 31)) :: st) o) : gT p l e R s m args below meth c G nL ι σ pc lv (.int y :: .int x :: st) o := by
  intro r σ' h H locs ls hP hS hl
  exact lv_ishl hC.1 hC.2.1 hd (k r σ' h H locs ls hP hS hl)
theorem g_ishr (hC : gCx p s m args meth c G own cc nL ret) {x y : Int32} (hd : decode cc pc = .ok (.ishr, 1)) (k : gT p l e R s m args below meth c G nL ι σ (pc + 1) lv (.int (x >>> (y &&& 31)) :: st) o) : gT p l e R s m args below meth c G nL ι σ pc lv (.int y :: .int x :: st) o := by
  intro r σ' h H locs ls hP hS hl
  exact lv_ishr hC.1 hC.2.1 hd (k r σ' h H locs ls hP hS hl)
theorem g_iushr (hC : gCx p s m args meth c G own cc nL ret) {x y : Int32} (hd : decode cc pc = .ok (.iushr, 1)) (k : gT p l e R s m args below meth c G nL ι σ (pc + 1) lv (.int (gUsr x y) :: st) o) : gT p l e R s m args below meth c G nL ι σ pc lv (.int y :: .int x :: st) o := by
  intro r σ' h H locs ls hP hS hl
  exact lv_iushr hC.1 hC.2.1 hd rfl (k r σ' h H locs ls hP hS hl)
theorem g_ineg (hC : gCx p s m args meth c G own cc nL ret) {x : Int32} (hd : decode cc pc = .ok (.ineg, 1)) (k : gT p l e R s m args below meth c G nL ι σ (pc + 1) lv (.int (-x) :: st) o) : gT p l e R s m args below meth c G nL ι σ pc lv (.int x :: st) o := by
  intro r σ' h H locs ls hP hS hl
  exact lv_ineg hC.1 hC.2.1 hd (k r σ' h H locs ls hP hS hl)
theorem g_ladd (hC : gCx p s m args meth c G own cc nL ret) {x y : Int64} (hd : decode cc pc = .ok (.ladd, 1)) (k : gT p l e R s m args below meth c G nL ι σ (pc + 1) lv (.long (x + y) :: st) o) : gT p l e R s m args below meth c G nL ι σ pc lv (.long y :: .long x :: st) o := by
  intro r σ' h H locs ls hP hS hl
  exact lv_ladd hC.1 hC.2.1 hd (k r σ' h H locs ls hP hS hl)
theorem g_lmul (hC : gCx p s m args meth c G own cc nL ret) {x y : Int64} (hd : decode cc pc = .ok (.lmul, 1)) (k : gT p l e R s m args below meth c G nL ι σ (pc + 1) lv (.long (x * y) :: st) o) : gT p l e R s m args below meth c G nL ι σ pc lv (.long y :: .long x :: st) o := by
  intro r σ' h H locs ls hP hS hl
  exact lv_lmul hC.1 hC.2.1 hd (k r σ' h H locs ls hP hS hl)
theorem g_land (hC : gCx p s m args meth c G own cc nL ret) {x y : Int64} (hd : decode cc pc = .ok (.land, 1)) (k : gT p l e R s m args below meth c G nL ι σ (pc + 1) lv (.long (x &&& y) :: st) o) : gT p l e R s m args below meth c G nL ι σ pc lv (.long y :: .long x :: st) o := by
  intro r σ' h H locs ls hP hS hl
  exact lv_land hC.1 hC.2.1 hd (k r σ' h H locs ls hP hS hl)
theorem g_lor (hC : gCx p s m args meth c G own cc nL ret) {x y : Int64} (hd : decode cc pc = .ok (.lor, 1)) (k : gT p l e R s m args below meth c G nL ι σ (pc + 1) lv (.long (x ||| y) :: st) o) : gT p l e R s m args below meth c G nL ι σ pc lv (.long y :: .long x :: st) o := by
  intro r σ' h H locs ls hP hS hl
  exact lv_lor hC.1 hC.2.1 hd (k r σ' h H locs ls hP hS hl)
theorem g_lshl (hC : gCx p s m args meth c G own cc nL ret) {x : Int64} {y : Int32} (hd : decode cc pc = .ok (.lshl, 1)) (k : gT p l e R s m args below meth c G nL ι σ (pc + 1) lv (.long (x <<< (y.toInt64 &&& 63)) :: st) o) : gT p l e R s m args below meth c G nL ι σ pc lv (.int y :: .long x :: st) o := by
  intro r σ' h H locs ls hP hS hl
  exact lv_lshl hC.1 hC.2.1 hd rfl (k r σ' h H locs ls hP hS hl)
theorem g_lcmp (hC : gCx p s m args meth c G own cc nL ret) {x y : Int64} (hd : decode cc pc = .ok (.lcmp, 1)) (k : gT p l e R s m args below meth c G nL ι σ (pc + 1) lv (.int (lg_cmp x y) :: st) o) : gT p l e R s m args below meth c G nL ι σ pc lv (.long y :: .long x :: st) o := by
  intro r σ' h H locs ls hP hS hl
  exact W.lcmp hC.1 hC.2.1 hd (k r σ' h H locs ls hP hS hl)
theorem g_i2l (hC : gCx p s m args meth c G own cc nL ret) {x : Int32} (hd : decode cc pc = .ok (.i2l, 1)) (k : gT p l e R s m args below meth c G nL ι σ (pc + 1) lv (.long x.toInt64 :: st) o) : gT p l e R s m args below meth c G nL ι σ pc lv (.int x :: st) o := by
  intro r σ' h H locs ls hP hS hl
  exact lv_i2l hC.1 hC.2.1 hd rfl (k r σ' h H locs ls hP hS hl)
theorem g_l2i (hC : gCx p s m args meth c G own cc nL ret) {x : Int64} (hd : decode cc pc = .ok (.l2i, 1)) (k : gT p l e R s m args below meth c G nL ι σ (pc + 1) lv (.int x.toInt32 :: st) o) : gT p l e R s m args below meth c G nL ι σ pc lv (.long x :: st) o := by
  intro r σ' h H locs ls hP hS hl
  exact lv_l2i hC.1 hC.2.1 hd rfl (k r σ' h H locs ls hP hS hl)
theorem g_i2b (hC : gCx p s m args meth c G own cc nL ret) {x : Int32} (hd : decode cc pc = .ok (.i2b, 1)) (k : gT p l e R s m args below meth c G nL ι σ (pc + 1) lv (.int x.toInt8.toInt32 :: st) o) : gT p l e R s m args below meth c G nL ι σ pc lv (.int x :: st) o := by
  intro r σ' h H locs ls hP hS hl
  exact lv_i2b hC.1 hC.2.1 hd rfl (k r σ' h H locs ls hP hS hl)
theorem g_i2s (hC : gCx p s m args meth c G own cc nL ret) {x : Int32} (hd : decode cc pc = .ok (.i2s, 1)) (k : gT p l e R s m args below meth c G nL ι σ (pc + 1) lv (.int x.toInt16.toInt32 :: st) o) : gT p l e R s m args below meth c G nL ι σ pc lv (.int x :: st) o := by
  intro r σ' h H locs ls hP hS hl
  exact lv_i2s hC.1 hC.2.1 hd rfl (k r σ' h H locs ls hP hS hl)
theorem g_i2c (hC : gCx p s m args meth c G own cc nL ret) {x : Int32} (hd : decode cc pc = .ok (.i2c, 1)) (k : gT p l e R s m args below meth c G nL ι σ (pc + 1) lv (.int ((x.toUInt32 % 65536).toInt32) :: st) o) : gT p l e R s m args below meth c G nL ι σ pc lv (.int x :: st) o := by
  intro r σ' h H locs ls hP hS hl
  exact lv_i2c hC.1 hC.2.1 hd rfl (k r σ' h H locs ls hP hS hl)
theorem g_idiv (hC : gCx p s m args meth c G own cc nL ret) {x y : Int32} (hd : decode cc pc = .ok (.idiv, 1)) (k : gT p l e R s m args below meth c G nL ι σ (pc + 1) lv (.int (x / y) :: st) o) : gT p l e R s m args below meth c G nL ι σ pc lv (.int y :: .int x :: st) (if y = 0 then none else o) := by
  intro r σ' h H locs ls hP hS hl
  by_cases hy : y = 0
  · rw [if_pos hy] at h; cases h
  · rw [if_neg hy] at h
    exact lv_idiv hC.1 hC.2.1 hd hy (k r σ' h H locs ls hP hS hl)
theorem g_idivL (hC : gCx p s m args meth c G own cc nL ret) {x y : Int32} (hd : decode cc pc = .ok (.idiv, 1)) (hy : ¬ y = 0) (k : gT p l e R s m args below meth c G nL ι σ (pc + 1) lv (.int (x / y) :: st) o) : gT p l e R s m args below meth c G nL ι σ pc lv (.int y :: .int x :: st) o := by
  intro r σ' h H locs ls hP hS hl
  exact lv_idiv hC.1 hC.2.1 hd hy (k r σ' h H locs ls hP hS hl)
theorem g_irem (hC : gCx p s m args meth c G own cc nL ret) {x y : Int32} (hd : decode cc pc = .ok (.irem, 1)) (k : gT p l e R s m args below meth c G nL ι σ (pc + 1) lv (.int (gRem x y) :: st) o) : gT p l e R s m args below meth c G nL ι σ pc lv (.int y :: .int x :: st) (if y = 0 then none else o) := by
  intro r σ' h H locs ls hP hS hl
  by_cases hy : y = 0
  · rw [if_pos hy] at h; cases h
  · rw [if_neg hy] at h
    exact lv_irem hC.1 hC.2.1 hd hy (k r σ' h H locs ls hP hS hl)
theorem g_iremL (hC : gCx p s m args meth c G own cc nL ret) {x y : Int32} (hd : decode cc pc = .ok (.irem, 1)) (hy : ¬ y = 0) (k : gT p l e R s m args below meth c G nL ι σ (pc + 1) lv (.int (gRem x y) :: st) o) : gT p l e R s m args below meth c G nL ι σ pc lv (.int y :: .int x :: st) o := by
  intro r σ' h H locs ls hP hS hl
  exact lv_irem hC.1 hC.2.1 hd hy (k r σ' h H locs ls hP hS hl)
theorem g_dup (hC : gCx p s m args meth c G own cc nL ret) {va : Value} (hd : decode cc pc = .ok (.dup, 1)) (hva : va.category = 1) (k : gT p l e R s m args below meth c G nL ι σ (pc + 1) lv (va :: va :: st) o) : gT p l e R s m args below meth c G nL ι σ pc lv (va :: st) o := by
  intro r σ' h H locs ls hP hS hl
  exact lv_dup hC.1 hC.2.1 hd hva (k r σ' h H locs ls hP hS hl)
theorem g_pop (hC : gCx p s m args meth c G own cc nL ret) {va : Value} (hd : decode cc pc = .ok (.pop, 1)) (hva : va.category = 1) (k : gT p l e R s m args below meth c G nL ι σ (pc + 1) lv (st) o) : gT p l e R s m args below meth c G nL ι σ pc lv (va :: st) o := by
  intro r σ' h H locs ls hP hS hl
  exact lv_pop hC.1 hC.2.1 hd hva (k r σ' h H locs ls hP hS hl)
theorem g_dup_x1 (hC : gCx p s m args meth c G own cc nL ret) {va vb : Value} (hd : decode cc pc = .ok (.dup_x1, 1)) (hva : va.category = 1) (hvb : vb.category = 1) (k : gT p l e R s m args below meth c G nL ι σ (pc + 1) lv (va :: vb :: va :: st) o) : gT p l e R s m args below meth c G nL ι σ pc lv (va :: vb :: st) o := by
  intro r σ' h H locs ls hP hS hl
  exact lv_dup_x1 hC.1 hC.2.1 hd hva hvb (k r σ' h H locs ls hP hS hl)
theorem g_dup2 (hC : gCx p s m args meth c G own cc nL ret) {va vb : Value} (hd : decode cc pc = .ok (.dup2, 1)) (hva : va.category = 1) (hvb : vb.category = 1) (k : gT p l e R s m args below meth c G nL ι σ (pc + 1) lv (va :: vb :: va :: vb :: st) o) : gT p l e R s m args below meth c G nL ι σ pc lv (va :: vb :: st) o := by
  intro r σ' h H locs ls hP hS hl
  exact lv_dup2_11 hC.1 hC.2.1 hd hva hvb (k r σ' h H locs ls hP hS hl)
theorem g_icmp_eq (hC : gCx p s m args meth c G own cc nL ret) {x y : Int32} {off : Int} {tgt : Nat} {o1 o2 : Option (α × gS)} (hd : decode cc pc = .ok (.if_icmp .eq off, 3)) (ht : (pc : Int) + off = (tgt : Int)) (k1 : gT p l e R s m args below meth c G nL ι σ tgt lv st o1) (k2 : gT p l e R s m args below meth c G nL ι σ (pc + 3) lv st o2) : gT p l e R s m args below meth c G nL ι σ pc lv (.int y :: .int x :: st) (if x = y then o1 else o2) := by
  intro r σ' h H locs ls hP hS hl
  by_cases hc : x = y
  · rw [if_pos hc] at h
    exact lv_icmp_eq hC.1 hC.2.1  hd ht (fun _ => k1 r σ' h H locs ls hP hS hl) (fun hn => absurd hc hn)
  · rw [if_neg hc] at h
    exact lv_icmp_eq hC.1 hC.2.1  hd ht (fun hy => absurd hy hc) (fun _ => k2 r σ' h H locs ls hP hS hl)
theorem g_if_eq (hC : gCx p s m args meth c G own cc nL ret) {x : Int32} {off : Int} {tgt : Nat} {o1 o2 : Option (α × gS)} (hd : decode cc pc = .ok (.ifCond .eq off, 3)) (ht : (pc : Int) + off = (tgt : Int)) (k1 : gT p l e R s m args below meth c G nL ι σ tgt lv st o1) (k2 : gT p l e R s m args below meth c G nL ι σ (pc + 3) lv st o2) : gT p l e R s m args below meth c G nL ι σ pc lv (.int x :: st) (if x = 0 then o1 else o2) := by
  intro r σ' h H locs ls hP hS hl
  by_cases hc : x = 0
  · rw [if_pos hc] at h
    exact lv_if_eq hC.1 hC.2.1  hd ht (fun _ => k1 r σ' h H locs ls hP hS hl) (fun hn => absurd hc hn)
  · rw [if_neg hc] at h
    exact lv_if_eq hC.1 hC.2.1  hd ht (fun hy => absurd hy hc) (fun _ => k2 r σ' h H locs ls hP hS hl)
theorem g_icmp_ne (hC : gCx p s m args meth c G own cc nL ret) {x y : Int32} {off : Int} {tgt : Nat} {o1 o2 : Option (α × gS)} (hd : decode cc pc = .ok (.if_icmp .ne off, 3)) (ht : (pc : Int) + off = (tgt : Int)) (k1 : gT p l e R s m args below meth c G nL ι σ tgt lv st o1) (k2 : gT p l e R s m args below meth c G nL ι σ (pc + 3) lv st o2) : gT p l e R s m args below meth c G nL ι σ pc lv (.int y :: .int x :: st) (if x = y then o2 else o1) := by
  intro r σ' h H locs ls hP hS hl
  by_cases hc : x = y
  · rw [if_pos hc] at h
    exact lv_icmp_ne hC.1 hC.2.1  hd ht (fun hn => absurd hc hn) (fun _ => k2 r σ' h H locs ls hP hS hl)
  · rw [if_neg hc] at h
    exact lv_icmp_ne hC.1 hC.2.1  hd ht (fun _ => k1 r σ' h H locs ls hP hS hl) (fun hn => absurd hn hc)
theorem g_if_ne (hC : gCx p s m args meth c G own cc nL ret) {x : Int32} {off : Int} {tgt : Nat} {o1 o2 : Option (α × gS)} (hd : decode cc pc = .ok (.ifCond .ne off, 3)) (ht : (pc : Int) + off = (tgt : Int)) (k1 : gT p l e R s m args below meth c G nL ι σ tgt lv st o1) (k2 : gT p l e R s m args below meth c G nL ι σ (pc + 3) lv st o2) : gT p l e R s m args below meth c G nL ι σ pc lv (.int x :: st) (if x = 0 then o2 else o1) := by
  intro r σ' h H locs ls hP hS hl
  by_cases hc : x = 0
  · rw [if_pos hc] at h
    exact lv_if_ne hC.1 hC.2.1  hd ht (fun hn => absurd hc hn) (fun _ => k2 r σ' h H locs ls hP hS hl)
  · rw [if_neg hc] at h
    exact lv_if_ne hC.1 hC.2.1  hd ht (fun _ => k1 r σ' h H locs ls hP hS hl) (fun hn => absurd hn hc)
theorem g_icmp_lt (hC : gCx p s m args meth c G own cc nL ret) {x y : Int32} {off : Int} {tgt : Nat} {o1 o2 : Option (α × gS)} (hd : decode cc pc = .ok (.if_icmp .lt off, 3)) (ht : (pc : Int) + off = (tgt : Int)) (k1 : gT p l e R s m args below meth c G nL ι σ tgt lv st o1) (k2 : gT p l e R s m args below meth c G nL ι σ (pc + 3) lv st o2) : gT p l e R s m args below meth c G nL ι σ pc lv (.int y :: .int x :: st) (if x < y then o1 else o2) := by
  intro r σ' h H locs ls hP hS hl
  by_cases hc : x < y
  · rw [if_pos hc] at h
    exact lv_icmp_lt hC.1 hC.2.1  hd ht (fun _ => k1 r σ' h H locs ls hP hS hl) (fun hn => absurd hc hn)
  · rw [if_neg hc] at h
    exact lv_icmp_lt hC.1 hC.2.1  hd ht (fun hy => absurd hy hc) (fun _ => k2 r σ' h H locs ls hP hS hl)
theorem g_if_lt (hC : gCx p s m args meth c G own cc nL ret) {x : Int32} {off : Int} {tgt : Nat} {o1 o2 : Option (α × gS)} (hd : decode cc pc = .ok (.ifCond .lt off, 3)) (ht : (pc : Int) + off = (tgt : Int)) (k1 : gT p l e R s m args below meth c G nL ι σ tgt lv st o1) (k2 : gT p l e R s m args below meth c G nL ι σ (pc + 3) lv st o2) : gT p l e R s m args below meth c G nL ι σ pc lv (.int x :: st) (if x < 0 then o1 else o2) := by
  intro r σ' h H locs ls hP hS hl
  by_cases hc : x < 0
  · rw [if_pos hc] at h
    exact lv_if_lt hC.1 hC.2.1  hd ht (fun _ => k1 r σ' h H locs ls hP hS hl) (fun hn => absurd hc hn)
  · rw [if_neg hc] at h
    exact lv_if_lt hC.1 hC.2.1  hd ht (fun hy => absurd hy hc) (fun _ => k2 r σ' h H locs ls hP hS hl)
theorem g_icmp_ge (hC : gCx p s m args meth c G own cc nL ret) {x y : Int32} {off : Int} {tgt : Nat} {o1 o2 : Option (α × gS)} (hd : decode cc pc = .ok (.if_icmp .ge off, 3)) (ht : (pc : Int) + off = (tgt : Int)) (k1 : gT p l e R s m args below meth c G nL ι σ tgt lv st o1) (k2 : gT p l e R s m args below meth c G nL ι σ (pc + 3) lv st o2) : gT p l e R s m args below meth c G nL ι σ pc lv (.int y :: .int x :: st) (if y ≤ x then o1 else o2) := by
  intro r σ' h H locs ls hP hS hl
  by_cases hc : y ≤ x
  · rw [if_pos hc] at h
    exact lv_icmp_ge hC.1 hC.2.1  hd ht (fun _ => k1 r σ' h H locs ls hP hS hl) (fun hn => absurd hc hn)
  · rw [if_neg hc] at h
    exact lv_icmp_ge hC.1 hC.2.1  hd ht (fun hy => absurd hy hc) (fun _ => k2 r σ' h H locs ls hP hS hl)
theorem g_if_ge (hC : gCx p s m args meth c G own cc nL ret) {x : Int32} {off : Int} {tgt : Nat} {o1 o2 : Option (α × gS)} (hd : decode cc pc = .ok (.ifCond .ge off, 3)) (ht : (pc : Int) + off = (tgt : Int)) (k1 : gT p l e R s m args below meth c G nL ι σ tgt lv st o1) (k2 : gT p l e R s m args below meth c G nL ι σ (pc + 3) lv st o2) : gT p l e R s m args below meth c G nL ι σ pc lv (.int x :: st) (if 0 ≤ x then o1 else o2) := by
  intro r σ' h H locs ls hP hS hl
  by_cases hc : 0 ≤ x
  · rw [if_pos hc] at h
    exact lv_if_ge hC.1 hC.2.1  hd ht (fun _ => k1 r σ' h H locs ls hP hS hl) (fun hn => absurd hc hn)
  · rw [if_neg hc] at h
    exact lv_if_ge hC.1 hC.2.1  hd ht (fun hy => absurd hy hc) (fun _ => k2 r σ' h H locs ls hP hS hl)
theorem g_icmp_gt (hC : gCx p s m args meth c G own cc nL ret) {x y : Int32} {off : Int} {tgt : Nat} {o1 o2 : Option (α × gS)} (hd : decode cc pc = .ok (.if_icmp .gt off, 3)) (ht : (pc : Int) + off = (tgt : Int)) (k1 : gT p l e R s m args below meth c G nL ι σ tgt lv st o1) (k2 : gT p l e R s m args below meth c G nL ι σ (pc + 3) lv st o2) : gT p l e R s m args below meth c G nL ι σ pc lv (.int y :: .int x :: st) (if y < x then o1 else o2) := by
  intro r σ' h H locs ls hP hS hl
  by_cases hc : y < x
  · rw [if_pos hc] at h
    exact lv_icmp_gt hC.1 hC.2.1  hd ht (fun _ => k1 r σ' h H locs ls hP hS hl) (fun hn => absurd hc hn)
  · rw [if_neg hc] at h
    exact lv_icmp_gt hC.1 hC.2.1  hd ht (fun hy => absurd hy hc) (fun _ => k2 r σ' h H locs ls hP hS hl)
theorem g_if_gt (hC : gCx p s m args meth c G own cc nL ret) {x : Int32} {off : Int} {tgt : Nat} {o1 o2 : Option (α × gS)} (hd : decode cc pc = .ok (.ifCond .gt off, 3)) (ht : (pc : Int) + off = (tgt : Int)) (k1 : gT p l e R s m args below meth c G nL ι σ tgt lv st o1) (k2 : gT p l e R s m args below meth c G nL ι σ (pc + 3) lv st o2) : gT p l e R s m args below meth c G nL ι σ pc lv (.int x :: st) (if 0 < x then o1 else o2) := by
  intro r σ' h H locs ls hP hS hl
  by_cases hc : 0 < x
  · rw [if_pos hc] at h
    exact lv_if_gt hC.1 hC.2.1  hd ht (fun _ => k1 r σ' h H locs ls hP hS hl) (fun hn => absurd hc hn)
  · rw [if_neg hc] at h
    exact lv_if_gt hC.1 hC.2.1  hd ht (fun hy => absurd hy hc) (fun _ => k2 r σ' h H locs ls hP hS hl)
theorem g_icmp_le (hC : gCx p s m args meth c G own cc nL ret) {x y : Int32} {off : Int} {tgt : Nat} {o1 o2 : Option (α × gS)} (hd : decode cc pc = .ok (.if_icmp .le off, 3)) (ht : (pc : Int) + off = (tgt : Int)) (k1 : gT p l e R s m args below meth c G nL ι σ tgt lv st o1) (k2 : gT p l e R s m args below meth c G nL ι σ (pc + 3) lv st o2) : gT p l e R s m args below meth c G nL ι σ pc lv (.int y :: .int x :: st) (if x ≤ y then o1 else o2) := by
  intro r σ' h H locs ls hP hS hl
  by_cases hc : x ≤ y
  · rw [if_pos hc] at h
    exact lv_icmp_le hC.1 hC.2.1  hd ht (fun _ => k1 r σ' h H locs ls hP hS hl) (fun hn => absurd hc hn)
  · rw [if_neg hc] at h
    exact lv_icmp_le hC.1 hC.2.1  hd ht (fun hy => absurd hy hc) (fun _ => k2 r σ' h H locs ls hP hS hl)
theorem g_if_le (hC : gCx p s m args meth c G own cc nL ret) {x : Int32} {off : Int} {tgt : Nat} {o1 o2 : Option (α × gS)} (hd : decode cc pc = .ok (.ifCond .le off, 3)) (ht : (pc : Int) + off = (tgt : Int)) (k1 : gT p l e R s m args below meth c G nL ι σ tgt lv st o1) (k2 : gT p l e R s m args below meth c G nL ι σ (pc + 3) lv st o2) : gT p l e R s m args below meth c G nL ι σ pc lv (.int x :: st) (if x ≤ 0 then o1 else o2) := by
  intro r σ' h H locs ls hP hS hl
  by_cases hc : x ≤ 0
  · rw [if_pos hc] at h
    exact lv_if_le hC.1 hC.2.1  hd ht (fun _ => k1 r σ' h H locs ls hP hS hl) (fun hn => absurd hc hn)
  · rw [if_neg hc] at h
    exact lv_if_le hC.1 hC.2.1  hd ht (fun hy => absurd hy hc) (fun _ => k2 r σ' h H locs ls hP hS hl)
theorem b2i_0 {b : Bool} (h : b = true) : ¬ b2i b = 0 := by rw [h]; decide
theorem b2i_1 {b : Bool} (h : ¬ b = true) : b2i b = 0 := by cases b <;> first | rfl | exact absurd rfl h
theorem g_bif_eq (hC : gCx p s m args meth c G own cc nL ret) {b : Bool} {off : Int} {tgt : Nat} {o1 o2 : Option (α × gS)} (hd : decode cc pc = .ok (.ifCond .eq off, 3)) (ht : (pc : Int) + off = (tgt : Int)) (k1 : gT p l e R s m args below meth c G nL ι σ tgt lv st o1) (k2 : gT p l e R s m args below meth c G nL ι σ (pc + 3) lv st o2) : gT p l e R s m args below meth c G nL ι σ pc lv (.int (b2i b) :: st) (if b = true then o2 else o1) := by
  intro r σ' h H locs ls hP hS hl
  by_cases hc : b = true
  · rw [if_pos hc] at h
    exact lv_if_eq hC.1 hC.2.1 hd ht (fun hn => absurd hn (b2i_0 hc)) (fun _ => k2 r σ' h H locs ls hP hS hl)
  · rw [if_neg hc] at h
    exact lv_if_eq hC.1 hC.2.1 hd ht (fun _ => k1 r σ' h H locs ls hP hS hl) (fun hn => absurd (b2i_1 hc) hn)
theorem g_bif_ne (hC : gCx p s m args meth c G own cc nL ret) {b : Bool} {off : Int} {tgt : Nat} {o1 o2 : Option (α × gS)} (hd : decode cc pc = .ok (.ifCond .ne off, 3)) (ht : (pc : Int) + off = (tgt : Int)) (k1 : gT p l e R s m args below meth c G nL ι σ tgt lv st o1) (k2 : gT p l e R s m args below meth c G nL ι σ (pc + 3) lv st o2) : gT p l e R s m args below meth c G nL ι σ pc lv (.int (b2i b) :: st) (if b = true then o1 else o2) := by
  intro r σ' h H locs ls hP hS hl
  by_cases hc : b = true
  · rw [if_pos hc] at h
    exact lv_if_ne hC.1 hC.2.1 hd ht (fun _ => k1 r σ' h H locs ls hP hS hl) (fun hn => absurd hn (b2i_0 hc))
  · rw [if_neg hc] at h
    exact lv_if_ne hC.1 hC.2.1 hd ht (fun hn => absurd (b2i_1 hc) hn) (fun _ => k2 r σ' h H locs ls hP hS hl)
theorem g_goto (hC : gCx p s m args meth c G own cc nL ret) {off : Int} {tgt : Nat} (hd : decode cc pc = .ok (.goto off, 3)) (ht : (pc : Int) + off = (tgt : Int)) (k : gT p l e R s m args below meth c G nL ι σ tgt lv st o) : gT p l e R s m args below meth c G nL ι σ pc lv st o := by
  intro r σ' h H locs ls hP hS hl
  exact lv_goto hC.1 hC.2.1 hd ht (k r σ' h H locs ls hP hS hl)
theorem g_ifnullR (hC : gCx p s m args meth c G own cc nL ret) {a : Nat} {off : Int} (hd : decode cc pc = .ok (.ifnull off, 3)) (k : gT p l e R s m args below meth c G nL ι σ (pc + 3) lv st o) : gT p l e R s m args below meth c G nL ι σ pc lv (.ref a :: st) o := by
  intro r σ' h H locs ls hP hS hl
  exact lv_ifnull hC.1 hC.2.1 hd (k r σ' h H locs ls hP hS hl)
theorem g_ifnullN (hC : gCx p s m args meth c G own cc nL ret) {off : Int} {tgt : Nat} (hd : decode cc pc = .ok (.ifnull off, 3)) (ht : (pc : Int) + off = (tgt : Int)) (k : gT p l e R s m args below meth c G nL ι σ tgt lv st o) : gT p l e R s m args below meth c G nL ι σ pc lv (.null :: st) o := by
  intro r σ' h H locs ls hP hS hl
  exact lv_ifnullN hC.1 hC.2.1 hd ht (k r σ' h H locs ls hP hS hl)
theorem g_ifnonnullR (hC : gCx p s m args meth c G own cc nL ret) {a : Nat} {off : Int} {tgt : Nat} (hd : decode cc pc = .ok (.ifnonnull off, 3)) (ht : (pc : Int) + off = (tgt : Int)) (k : gT p l e R s m args below meth c G nL ι σ tgt lv st o) : gT p l e R s m args below meth c G nL ι σ pc lv (.ref a :: st) o := by
  intro r σ' h H locs ls hP hS hl
  exact lv_ifnonnull hC.1 hC.2.1 hd ht (k r σ' h H locs ls hP hS hl)
theorem g_ifnonnullN (hC : gCx p s m args meth c G own cc nL ret) {off : Int} (hd : decode cc pc = .ok (.ifnonnull off, 3)) (k : gT p l e R s m args below meth c G nL ι σ (pc + 3) lv st o) : gT p l e R s m args below meth c G nL ι σ pc lv (.null :: st) o := by
  intro r σ' h H locs ls hP hS hl
  exact lv_ifnonnullN hC.1 hC.2.1 hd (k r σ' h H locs ls hP hS hl)
def gOpt {γ : Type} (q : Option Nat) (a : γ) (b : Nat → γ) : γ := match q with
  | none => a
  | some k => b k
theorem gne {x v : Int32} {n : Int} (h : ¬ x = v) (hv : v.toInt = n) : x.toInt ≠ n := fun he => h (Int32.toInt_inj.mp (he.trans hv.symm))
theorem g_tabIn (hC : gCx p s m args meth c G own cc nL ret) {dflt lo hi : Int} {offs : Array Int} {len : Nat} {x v : Int32} {off : Int} {tgt : Nat} (hd : decode cc pc = .ok (.tableswitch dflt lo hi offs, len)) (hx : x = v) (h1 : ¬ v.toInt < lo) (h2 : ¬ hi < v.toInt) (ho : offs[(v.toInt - lo).toNat]? = some off) (ht : (pc : Int) + off = (tgt : Int)) (k : gT p l e R s m args below meth c G nL ι σ tgt lv st o) : gT p l e R s m args below meth c G nL ι σ pc lv (.int x :: st) o := by
  intro r σ' h H locs ls hP hS hl
  subst hx
  exact lv_tableIn hC.1 hC.2.1 hd h1 h2 ho ht (k r σ' h H locs ls hP hS hl)
theorem g_tabOut (hC : gCx p s m args meth c G own cc nL ret) {dflt lo hi : Int} {offs : Array Int} {len : Nat} {x : Int32} {tgt : Nat} (hd : decode cc pc = .ok (.tableswitch dflt lo hi offs, len)) (hx : x.toInt < lo ∨ hi < x.toInt) (ht : (pc : Int) + dflt = (tgt : Int)) (k : gT p l e R s m args below meth c G nL ι σ tgt lv st o) : gT p l e R s m args below meth c G nL ι σ pc lv (.int x :: st) o := by
  intro r σ' h H locs ls hP hS hl
  exact lv_tableOut hC.1 hC.2.1 hd hx ht (k r σ' h H locs ls hP hS hl)
theorem g_lookup (hC : gCx p s m args meth c G own cc nL ret) {dflt : Int} {ps : Array (Int × Int)} {len : Nat} {x : Int32} {off : Int} {tgt : Nat} (hd : decode cc pc = .ok (.lookupswitch dflt ps, len)) (hp : (ps.toList.zip (ps.toList.drop 1)).all (fun (a, next) => a.1 < next.1) = true) (ho : Op.lookupswitch.offset ps.toList dflt x.toInt = off) (ht : (pc : Int) + off = (tgt : Int)) (k : gT p l e R s m args below meth c G nL ι σ tgt lv st o) : gT p l e R s m args below meth c G nL ι σ pc lv (.int x :: st) o := by
  intro r σ' h H locs ls hP hS hl
  exact lv_lookup hC.1 hC.2.1 hd hp ho ht (k r σ' h H locs ls hP hS hl)
theorem gCs_obj {G : gE} {σ : gS} {k ci : Nat} (hk : gk k = ci) (h11 : ci < 11) : (gws G σ)[k]? = some (G.2.1 k, .inr (ci, gFs G (σ.1 k) (σ.2.2 k) k ci)) := by
  rw [gws_get (gk_lt hk (by omega))]
  unfold gCs gCk
  rw [hk, if_pos h11]
theorem gCs_int {G : gE} {σ : gS} {k n : Nat} (hk : gk k = 1000 + n) (hn : n < 1000) : (gws G σ)[k]? = some (G.2.1 k, .inl (G.2.2.1 k, n, .inl (σ.1 k))) := by
  rw [gws_get (gk_lt hk (by omega))]
  unfold gCs gCk
  rw [hk, if_neg (by omega), if_neg (by omega), if_pos (by omega), Nat.add_sub_cancel_left]
theorem gCs_long {G : gE} {σ : gS} {k n : Nat} (hk : gk k = 2000 + n) : (gws G σ)[k]? = some (G.2.1 k, .inl (G.2.2.1 k, n, .inr (.inl (σ.2.1 k)))) := by
  rw [gws_get (gk_lt hk (by omega))]
  unfold gCs gCk
  rw [hk, if_neg (by omega), if_neg (by omega), if_neg (by omega), Nat.add_sub_cancel_left]
theorem gCs_sh {G : gE} {σ : gS} {k : Nat} (hk : gk k = 11) : (gws G σ)[k]? = some (G.2.1 k, .inl (G.2.2.1 k, 6, .inr (.inr (.inr (.inr (fun n => some (G.2.1 (40 + 2 * n)))))))) := by
  rw [gws_get (gk_lt hk (by omega))]
  unfold gCs gCk
  rw [hk]
  rfl
theorem g_get (hC : gCx p s m args meth c G own cc nL ret) {ci idx k N : Nat} {C : String} {F : u_T} {ty : Nat → FieldType} {v : Value} (hB : gCls ci C F N ty) (hk : gk k = ci) (j : Nat) (hj : j < N) (hw : Cond.fieldLink own idx (F j).1 (F j).2.1 (F j).2.2.1 ∈ gBig) (hv : (gFs G (σ.1 k) (σ.2.2 k) k ci)[j]? = some v) (hd : decode cc pc = .ok (.getfield idx, 3)) (kc : gT p l e R s m args below meth c G nL ι σ (pc + 3) lv (v :: st) o) : gT p l e R s m args below meth c G nL ι σ pc lv (.ref (G.2.1 k) :: st) o := by
  intro r σ' h H locs ls hP hS hl
  obtain ⟨hx, hb, hml, hown, hts, hJ, hK, hZ, hr, hlk⟩ := hC
  obtain ⟨b1, b2, b3, b4, b5⟩ := hB
  exact va_get hx hb hts b2 hown hK hP _ (gCs_obj hk b5) b1 j hj (hts _ hw) (fun _ h9 => h9) hv hd (kc r σ' h H locs ls hP hS hl)
theorem g_puti (hC : gCx p s m args meth c G own cc nL ret) {ci idx k N : Nat} {C : String} {F : u_T} {ty : Nat → FieldType} {v : Int32} {fty : FieldType} {kk : gS → Option (α × gS)} (hB : gCls ci C F N ty) (hk : gk k = ci) (j : Nat) (hj : j < N) (hw : Cond.fieldLink own idx (F j).1 (F j).2.1 (F j).2.2.1 ∈ gBig) (hfin : (F j).2.2.2 = false) (hty : parseFieldDescriptor (F j).2.2.1 = some fty) (hn : narrow fty (.int v) = .int v) (hfit : fits fty (.int v) = true) (hlen : ∀ i r, j < (gFs G i r k ci).length) (hset : ∀ i r, (gFs G i r k ci).set j (.int v) = gFs G (fun b => if b = j then v else i b) r k ci) (hd : decode cc pc = .ok (.putfield idx, 3)) (kc : ∀ τ : gS, gT p l e R s m args below meth c G nL ι τ (pc + 3) lv st (kk τ)) : gT p l e R s m args below meth c G nL ι σ pc lv (.int v :: .ref (G.2.1 k) :: st) (gLet (gUI σ k j v) kk) := by
  intro r σ' h H locs ls hP hS hl
  obtain ⟨hx, hb, hml, hown, hts, hJ, hK, hZ, hr, hlk⟩ := hC
  obtain ⟨b1, b2, b3, b4, b5⟩ := hB
  refine va_put hx hb hts b2 ty b3 b4 hown hK hP (gD hJ σ) hS _ (gCs_obj hk b5) b1 j hj (hts _ hw) (fun _ h9 => h9) hfin hty hn hfit (hlen _ _) hd (fun H1 locs1 hP1 _ hS1 => kc (gUI σ k j v) r σ' h H1 locs1 ls ?_ hS1 hl)
  rw [gws_set (τ := gUI σ k j v)] at hP1
  · exact hP1
  · unfold gCs gCk
    rw [hk, if_pos b5, hset]
    simp only [gUI, if_true]
  · intro a ha; simp only [gUI, if_neg ha]
  · intro a ha; rfl
  · intro a ha; rfl
theorem g_putr (hC : gCx p s m args meth c G own cc nL ret) {ci idx k N : Nat} {C : String} {F : u_T} {ty : Nat → FieldType} {v : Option Nat} {fty : FieldType} {vv : Value} {kk : gS → Option (α × gS)} (hB : gCls ci C F N ty) (hk : gk k = ci) (j : Nat) (hj : j < N) (hw : Cond.fieldLink own idx (F j).1 (F j).2.1 (F j).2.2.1 ∈ gBig) (hfin : (F j).2.2.2 = false) (hvv : va_rf (v.map G.2.1) = vv) (hty : parseFieldDescriptor (F j).2.2.1 = some fty) (hn : narrow fty vv = vv) (hfit : fits fty vv = true) (hlen : ∀ i r, j < (gFs G i r k ci).length) (hset : ∀ i r, (gFs G i r k ci).set j vv = gFs G i (fun b => if b = j then v else r b) k ci) (hd : decode cc pc = .ok (.putfield idx, 3)) (kc : ∀ τ : gS, gT p l e R s m args below meth c G nL ι τ (pc + 3) lv st (kk τ)) : gT p l e R s m args below meth c G nL ι σ pc lv (vv :: .ref (G.2.1 k) :: st) (gLet (gUR σ k j v) kk) := by
  intro r σ' h H locs ls hP hS hl
  obtain ⟨hx, hb, hml, hown, hts, hJ, hK, hZ, hr, hlk⟩ := hC
  obtain ⟨b1, b2, b3, b4, b5⟩ := hB
  refine va_put hx hb hts b2 ty b3 b4 hown hK hP (gD hJ σ) hS _ (gCs_obj hk b5) b1 j hj (hts _ hw) (fun _ h9 => h9) hfin hty hn hfit (hlen _ _) hd (fun H1 locs1 hP1 _ hS1 => kc (gUR σ k j v) r σ' h H1 locs1 ls ?_ hS1 hl)
  rw [gws_set (τ := gUR σ k j v)] at hP1
  · exact hP1
  · unfold gCs gCk
    rw [hk, if_pos b5, hset]
    simp only [gUR, if_true]
  · intro a ha; rfl
  · intro a ha; rfl
  · intro a ha; simp only [gUR, if_neg ha]
theorem g_iald (hC : gCx p s m args meth c G own cc nL ret) {k : Nat} (n : Nat) {i : Int32} (hk : gk k = 1000 + n) (hn : n < 1000) (hd : decode cc pc = .ok (.iaload, 1)) (kc : gT p l e R s m args below meth c G nL ι σ (pc + 1) lv (.int (σ.1 k i.toNatClampNeg) :: st) o) : gT p l e R s m args below meth c G nL ι σ pc lv (.int i :: .ref (G.2.1 k) :: st) (if inbB i n = true then o else none) := by
  intro r σ' h H locs ls hP hS hl
  obtain ⟨hx, hb, hml, hown, hts, hJ, hK, hZ, hr, hlk⟩ := hC
  by_cases hi : inbB i n = true
  · rw [if_pos hi] at h
    exact va_iald hx hb hK hP _ _ (gCs_int hk hn) (gty_int hk hn) (inbB_vp hi) hd (kc r σ' h H locs ls hP hS hl)
  · rw [if_neg hi] at h; cases h
theorem g_lald (hC : gCx p s m args meth c G own cc nL ret) {k : Nat} (n : Nat) {i : Int32} (hk : gk k = 2000 + n) (hd : decode cc pc = .ok (.laload, 1)) (kc : gT p l e R s m args below meth c G nL ι σ (pc + 1) lv (.long (σ.2.1 k i.toNatClampNeg) :: st) o) : gT p l e R s m args below meth c G nL ι σ pc lv (.int i :: .ref (G.2.1 k) :: st) (if inbB i n = true then o else none) := by
  intro r σ' h H locs ls hP hS hl
  obtain ⟨hx, hb, hml, hown, hts, hJ, hK, hZ, hr, hlk⟩ := hC
  by_cases hi : inbB i n = true
  · rw [if_pos hi] at h
    exact va_lald hx hb hK hP _ _ (gCs_long hk) (gty_long hk) (inbB_vp hi) hd (kc r σ' h H locs ls hP hS hl)
  · rw [if_neg hi] at h; cases h
theorem g_aald (hC : gCx p s m args meth c G own cc nL ret) {k : Nat} {i : Int32} (hk : gk k = 11) (hd : decode cc pc = .ok (.aaload, 1)) (kc : gT p l e R s m args below meth c G nL ι σ (pc + 1) lv (.ref (G.2.1 (40 + 2 * i.toNatClampNeg)) :: st) o) : gT p l e R s m args below meth c G nL ι σ pc lv (.int i :: .ref (G.2.1 k) :: st) (if inbB i 6 = true then o else none) := by
  intro r σ' h H locs ls hP hS hl
  obtain ⟨hx, hb, hml, hown, hts, hJ, hK, hZ, hr, hlk⟩ := hC
  by_cases hi : inbB i 6 = true
  · rw [if_pos hi] at h
    exact va_aldq hx hb hK hP _ _ (gCs_sh hk) (gty_sh hk) (inbB_vp hi) hd (kc r σ' h H locs ls hP hS hl)
  · rw [if_neg hi] at h; cases h
theorem g_alen (hC : gCx p s m args meth c G own cc nL ret) {k : Nat} (n : Nat) {v : Int32} (hk : gk k = 1000 + n) (hn : n < 1000) (hv : Int32.ofNat n = v) (hd : decode cc pc = .ok (.arraylength, 1)) (kc : gT p l e R s m args below meth c G nL ι σ (pc + 1) lv (.int v :: st) o) : gT p l e R s m args below meth c G nL ι σ pc lv (.ref (G.2.1 k) :: st) o := by
  intro r σ' h H locs ls hP hS hl
  obtain ⟨hx, hb, hml, hown, hts, hJ, hK, hZ, hr, hlk⟩ := hC
  exact va_alen hx hb hK hP _ _ (gCs_int hk hn) (gty_int hk hn) hv hd (kc r σ' h H locs ls hP hS hl)
theorem g_alenJ (hC : gCx p s m args meth c G own cc nL ret) {k : Nat} (n : Nat) {v : Int32} (hk : gk k = 2000 + n) (hv : Int32.ofNat n = v) (hd : decode cc pc = .ok (.arraylength, 1)) (kc : gT p l e R s m args below meth c G nL ι σ (pc + 1) lv (.int v :: st) o) : gT p l e R s m args below meth c G nL ι σ pc lv (.ref (G.2.1 k) :: st) o := by
  intro r σ' h H locs ls hP hS hl
  obtain ⟨hx, hb, hml, hown, hts, hJ, hK, hZ, hr, hlk⟩ := hC
  exact va_alen hx hb hK hP _ _ (gCs_long hk) (gty_long hk) hv hd (kc r σ' h H locs ls hP hS hl)
theorem g_iast (hC : gCx p s m args meth c G own cc nL ret) {k : Nat} (n : Nat) {i x : Int32} {kk : gS → Option (α × gS)} (hk : gk k = 1000 + n) (hn : n < 1000) (hd : decode cc pc = .ok (.iastore, 1)) (kc : ∀ τ : gS, gT p l e R s m args below meth c G nL ι τ (pc + 1) lv st (kk τ)) : gT p l e R s m args below meth c G nL ι σ pc lv (.int x :: .int i :: .ref (G.2.1 k) :: st) (if inbB i n = true then gLet (gUI σ k i.toNatClampNeg x) kk else none) := by
  intro r σ' h H locs ls hP hS hl
  obtain ⟨hx, hb, hml, hown, hts, hJ, hK, hZ, hr, hlk⟩ := hC
  by_cases hi : inbB i n = true
  · rw [if_pos hi] at h
    refine va_iast hx hb hK hP (gD hJ σ) hS _ _ (gCs_int hk hn) (gty_int hk hn) (inbB_vp hi) hd (fun H1 locs1 hP1 _ hS1 => kc (gUI σ k i.toNatClampNeg x) r σ' h H1 locs1 ls ?_ hS1 hl)
    rw [gws_set (τ := gUI σ k i.toNatClampNeg x)] at hP1
    · exact hP1
    · unfold gCs gCk
      rw [hk, if_neg (by omega), if_neg (by omega), if_pos (by omega), Nat.add_sub_cancel_left]
      simp only [gUI, if_true]
      rfl
    · intro a ha; simp only [gUI, if_neg ha]
    · intro a ha; rfl
    · intro a ha; rfl
  · rw [if_neg hi] at h; cases h
theorem g_last (hC : gCx p s m args meth c G own cc nL ret) {k : Nat} (n : Nat) {i : Int32} {x : Int64} {kk : gS → Option (α × gS)} (hk : gk k = 2000 + n) (hd : decode cc pc = .ok (.lastore, 1)) (kc : ∀ τ : gS, gT p l e R s m args below meth c G nL ι τ (pc + 1) lv st (kk τ)) : gT p l e R s m args below meth c G nL ι σ pc lv (.long x :: .int i :: .ref (G.2.1 k) :: st) (if inbB i n = true then gLet (gUJ σ k i.toNatClampNeg x) kk else none) := by
  intro r σ' h H locs ls hP hS hl
  obtain ⟨hx, hb, hml, hown, hts, hJ, hK, hZ, hr, hlk⟩ := hC
  by_cases hi : inbB i n = true
  · rw [if_pos hi] at h
    refine va_last hx hb hK hP (gD hJ σ) hS _ _ (gCs_long hk) (gty_long hk) (inbB_vp hi) hd (fun H1 locs1 hP1 _ hS1 => kc (gUJ σ k i.toNatClampNeg x) r σ' h H1 locs1 ls ?_ hS1 hl)
    rw [gws_set (τ := gUJ σ k i.toNatClampNeg x)] at hP1
    · exact hP1
    · unfold gCs gCk
      rw [hk, if_neg (by omega), if_neg (by omega), if_neg (by omega), Nat.add_sub_cancel_left]
      simp only [gUJ, if_true]
      rfl
    · intro a ha; rfl
    · intro a ha; simp only [gUJ, if_neg ha]
    · intro a ha; rfl
  · rw [if_neg hi] at h; cases h
/-- a table's place -/
theorem g_tald (hC : gCx p s m args meth c G own cc nL ret) (t n : Nat) {i : Int32} (hT : va_T .int (G.2.2.2 t) n (fun j => .int (gTb t j)) (gA G) s s.heap) (hd : decode cc pc = .ok (.iaload, 1)) (k : gT p l e R s m args below meth c G nL ι σ (pc + 1) lv (.int (gTb t i.toNatClampNeg) :: st) o) : gT p l e R s m args below meth c G nL ι σ pc lv (.int i :: .ref (G.2.2.2 t) :: st) (if inbB i n = true then o else none) := by
  intro r σ' h H locs ls hP hS hl
  obtain ⟨hx, hb, hml, hown, hts, hJ, hK, hZ, hr, hlk⟩ := hC
  by_cases hi : inbB i n = true
  · rw [if_pos hi] at h
    exact va_ti hx hb hT hS (inbB_vp hi) rfl hd (k r σ' h H locs ls hP hS hl)
  · rw [if_neg hi] at h; cases h
theorem g_gets (hC : gCx p s m args meth c G own cc nL ret) {C nm d : String} {v : Value} {idx : Nat} (hz : va_Z C nm d v (gA G) s s.heap) (hw : Cond.fieldLink own idx C nm d ∈ gBig) (hd : decode cc pc = .ok (.getstatic idx, 3)) (k : gT p l e R s m args below meth c G nL ι σ (pc + 3) lv (v :: st) o) : gT p l e R s m args below meth c G nL ι σ pc lv st o := by
  intro r σ' h H locs ls hP hS hl
  obtain ⟨hx, hb, hml, hown, hts, hJ, hK, hZ, hr, hlk⟩ := hC
  exact va_gets hx hb hz hS hown (hts _ hw) (fun _ h9 => h9) hd (k r σ' h H locs ls hP hS hl)
theorem g_getsN (hC : gCx p s m args meth c G own cc nL ret) {C nm d host : String} {v : Value} {idx : Nat} (hz : va_Z C nm d v (gA G) s s.heap) (hw : va_Nw (.fieldLinkNest own idx C nm d host) s) (hd : decode cc pc = .ok (.getstatic idx, 3)) (k : gT p l e R s m args below meth c G nL ι σ (pc + 3) lv (v :: st) o) : gT p l e R s m args below meth c G nL ι σ pc lv st o := by
  intro r σ' h H locs ls hP hS hl
  obtain ⟨hx, hb, hml, hown, hts, hJ, hK, hZ, hr, hlk⟩ := hC
  exact va_getsN hx hb hz hS hown (va_Nw.use rfl hw) (fun _ h9 => h9) hd (k r σ' h H locs ls hP hS hl)
theorem gQ_of {ov : Option Value} {H : Heap} {locs : List Loc} (hP : va_P G.1 vwCl (gws G σ) H) (hS : va_S (gA G) s.heap H locs) : ∀ t : State, t.heap = H → s.WarmedH t.vm → gQ G ov σ args s (.returned ov) t := fun t ht _ => ⟨rfl, by rw [ht]; exact hP, hS.F ht⟩
theorem gR_inj {β : Type} {a a' : β} {b b' : gS} (h : some (a, b) = some (a', b')) : a = a' ∧ b = b' := by cases h; exact ⟨rfl, rfl⟩
theorem g_iret (hC : gCx p s m args meth c G own cc nL (some .int)) {x : Int32} (hd : decode cc pc = .ok (.ireturn, 1)) : gT p l e R s m args below meth c G nL iI σ pc lv [.int x] (some (x, σ)) := by
  intro r σ' h H locs ls hP hS hl
  obtain ⟨rfl, rfl⟩ := gR_inj h
  exact W.iret hC.1 hC.2.1 hC.2.2.2.2.2.2.2.2.1 (gQ_of hP hS) hS.2.2 hd hC.2.2.2.2.2.2.2.2.2
theorem g_lret (hC : gCx p s m args meth c G own cc nL (some .long)) {x : Int64} (hd : decode cc pc = .ok (.lreturn, 1)) : gT p l e R s m args below meth c G nL iJ σ pc lv [.long x] (some (x, σ)) := by
  intro r σ' h H locs ls hP hS hl
  obtain ⟨rfl, rfl⟩ := gR_inj h
  exact W.lret hC.1 hC.2.1 hC.2.2.2.2.2.2.2.2.1 (gQ_of hP hS) hS.2.2 hd hC.2.2.2.2.2.2.2.2.2
theorem g_vret (hC : gCx p s m args meth c G own cc nL none) (hd : decode cc pc = .ok (.return_, 1)) : gT p l e R s m args below meth c G nL iV σ pc lv [] (some ((), σ)) := by
  intro r σ' h H locs ls hP hS hl
  obtain ⟨-, rfl⟩ := gR_inj h
  exact W.vret hC.1 hC.2.1 hC.2.2.2.2.2.2.2.2.1 (gQ_of hP hS) hS.2.2 hd hC.2.2.2.2.2.2.2.2.2
theorem b2i_nar (b : Bool) : narrow .boolean (.int (b2i b)) = .int (b2i b) := by cases b <;> decide
theorem g_zret (hC : gCx p s m args meth c G own cc nL (some .boolean)) {b : Bool} (hd : decode cc pc = .ok (.ireturn, 1)) : gT p l e R s m args below meth c G nL iZ σ pc lv [.int (b2i b)] (some (b, σ)) := by
  intro r σ' h H locs ls hP hS hl
  obtain ⟨rfl, rfl⟩ := gR_inj h
  exact W.zret hC.1 hC.2.1 hC.2.2.2.2.2.2.2.2.1 (b2i_nar b) (gQ_of hP hS) hS.2.2 hd hC.2.2.2.2.2.2.2.2.2
theorem g_zret0 (hC : gCx p s m args meth c G own cc nL (some .boolean)) (hd : decode cc pc = .ok (.ireturn, 1)) : gT p l e R s m args below meth c G nL iZ σ pc lv [.int 0] (some (false, σ)) := g_zret hC (b := false) hd
theorem g_zret1 (hC : gCx p s m args meth c G own cc nL (some .boolean)) (hd : decode cc pc = .ok (.ireturn, 1)) : gT p l e R s m args below meth c G nL iZ σ pc lv [.int 1] (some (true, σ)) := g_zret hC (b := true) hd
theorem g_zretI (hC : gCx p s m args meth c G own cc nL (some .boolean)) {x : Int32} (hd : decode cc pc = .ok (.ireturn, 1)) : gT p l e R s m args below meth c G nL iZ σ pc lv [.int x] (if x = 0 then some (false, σ) else if x = 1 then some (true, σ) else none) := by
  by_cases h0 : x = 0
  · rw [if_pos h0, h0]; exact g_zret0 hC hd
  · by_cases h1 : x = 1
    · rw [if_neg h0, if_pos h1, h1]; exact g_zret1 hC hd
    · rw [if_neg h0, if_neg h1]; exact gT_none
theorem g_aret {rt : FieldType} (hC : gCx p s m args meth c G own cc nL (some rt)) (hrt : (∃ n, rt = .object n) ∨ ∃ t, rt = .array t) {k : Nat} (hd : decode cc pc = .ok (.areturn, 1)) : gT p l e R s m args below meth c G nL (iR G) σ pc lv [.ref (G.2.1 k)] (some (some k, σ)) := by
  intro r σ' h H locs ls hP hS hl
  obtain ⟨rfl, rfl⟩ := gR_inj h
  exact W.aret hC.1 hC.2.1 hC.2.2.2.2.2.2.2.2.1 hrt (Or.inr ⟨_, rfl⟩) (gQ_of hP hS) hS.2.2 hd hC.2.2.2.2.2.2.2.2.2
theorem g_aretN {rt : FieldType} (hC : gCx p s m args meth c G own cc nL (some rt)) (hrt : (∃ n, rt = .object n) ∨ ∃ t, rt = .array t) (hd : decode cc pc = .ok (.areturn, 1)) : gT p l e R s m args below meth c G nL (iR G) σ pc lv [.null] (some (none, σ)) := by
  intro r σ' h H locs ls hP hS hl
  obtain ⟨rfl, rfl⟩ := gR_inj h
  exact W.aret hC.1 hC.2.1 hC.2.2.2.2.2.2.2.2.1 hrt (Or.inl rfl) (gQ_of hP hS) hS.2.2 hd hC.2.2.2.2.2.2.2.2.2
theorem gW_blind (av : List Value) (σ : gS) : FrameBlind (va_Pc av (gW G σ)) := by
  intro a U g mk q
  obtain ⟨q0, qj, qP, qK, qZ⟩ := q
  exact ⟨q0, qj, qP, va_K.moved (u := U) (U := U.calling g mk a) (Vm.Alike.refl U.vm) qK, qZ.same rfl⟩
theorem gW_at (hC : gCx p s m args meth c G own cc nL ret) {H : Heap} {locs : List Loc} (hP : va_P G.1 vwCl (gws G σ) H) (hS : va_S (gA G) s.heap H locs) : ∀ U : State, U.heap = H → s.WarmedH U.vm → gW G σ U := by
  obtain ⟨hx, hb, hml, hown, hts, hJ, hK, hZ, hr, hlk⟩ := hC
  intro U hU hW
  refine ⟨hJ, by rw [hU]; exact hP, va_K.moved hW.alike hK, ?_⟩
  rw [hU]
  exact (hZ.kept (fun a h1 h2 => hS.2.1 a h1 h2)).warm hW
theorem g_run {β : Type} {ιb : β → Option Value} {f : Option (β × gS)} {kk : β → gS → Option (α × gS)} {rest st0 : List Value} {a : Array Value}
    (hr : ∀ (r0 : β) (σ0 : gS), f = some (r0, σ0) → ∀ (H : Heap) (locs : List Loc) (ls : Array Slot), va_P G.1 vwCl (gws G σ) H → va_S (gA G) s.heap H locs → lv_has ls nL lv → va_Run p l e R s m args below meth c H locs 0 0 0 0 (F0 m pc ls st0) rest (gQ G (ιb r0) σ0 a) (gA G))
    (k : ∀ (r0 : β) (τ : gS), gT p l e R s m args below meth c G nL ι τ (pc + 3) lv ((ιb r0).toList ++ rest) (kk r0 τ)) : gT p l e R s m args below meth c G nL ι σ pc lv st0 (gBind f kk) := by
  intro r σ' h H locs ls hP hS hl
  cases hf : f with
  | none => rw [hf] at h; cases h
  | some q =>
    obtain ⟨r0, σ0⟩ := q
    rw [hf] at h
    have h' : kk r0 σ0 = some (r, σ') := h
    have hr := hr r0 σ0 hf H locs ls hP hS hl
    intro T hT X
    obtain ⟨v, st₀, t, T', L, h0, X', hL, e1, e2, ⟨hv, hp, hz, hk⟩, stp⟩ := hr T hT X
    cases hv
    rw [h0] at hz hk
    obtain ⟨t2, a1, b1⟩ := k r0 σ0 r σ' h' T'.heap (locs ++ L) ls (by rw [e1]; exact hp)
      ⟨Nat.le_trans hS.1 (by rw [e1]; exact hz), fun q h1 h2 => by rw [e1, hk q (Nat.lt_of_lt_of_le h1 hS.1) h2]; exact hS.2.1 q h1 h2, fun q hq => by
        rcases List.mem_append.mp hq with h | h
        · exact hS.2.2 q h
        · exact hL q h⟩ hl T' rfl X'
    exact ⟨t2, stp t2 a1, b1⟩
def gLV (own : String) (idx : Nat) (C : String) (y : MethodName) (cc : ByteArray) (mL : Nat) (ret : Option FieldType) (n : Nat) : Prop := Cond.methodLink own idx y ∈ gBig ∧ Cond.instanceMethod y ∈ gBig ∧ Cond.selects C y y ∈ gBig ∧ Cond.initialized C ∈ gBig ∧ Cond.code y cc mL ret ∈ gBig ∧ y.cls = C ∧ (y.cls ≠ "java/lang/invoke/MethodHandle" ∧ y.cls ≠ "java/lang/invoke/VarHandle" ∧ (parseMethodDescriptor y.desc).map (fun d => d.parameters.length) = some n)
def gLS (own : String) (idx : Nat) (y : MethodName) (cc : ByteArray) (mL : Nat) (ret : Option FieldType) (n : Nat) : Prop := Cond.methodLink own idx y ∈ gBig ∧ Cond.static y ∈ gBig ∧ Cond.initialized y.cls ∈ gBig ∧ Cond.code y cc mL ret ∈ gBig ∧ (y.cls ≠ "java/lang/invoke/MethodHandle" ∧ y.cls ≠ "java/lang/invoke/VarHandle" ∧ (parseMethodDescriptor y.desc).map (fun d => d.parameters.length) = some n)
theorem g_callV (hC : gCx p s m args meth c G own cc nL ret) {β : Type} {ιb : β → Option Value} {f : Option (β × gS)} {kk : β → gS → Option (α × gS)} {rest st0 As : List Value} {C : String} {y : MethodName} {idx n mL ci kx N : Nat} {bytes : ByteArray} {rt : Option FieldType} {rm : Room} {F : u_T} {ty : Nat → FieldType} (hL : gLV own idx C y bytes mL rt n) (hB : gCls ci C F N ty) (hkx : gk kx = ci)
    (hM : gM l G y bytes mL rt rm ιb (.ref (G.2.1 kx) :: As) σ f) (hst : st0 = As.reverse ++ .ref (G.2.1 kx) :: rest) (hn : As.length = n) (hW : (rest.map fun v => v.category).sum ≤ 8) (hR : rm.cells = 0 ∧ rm.slots = 0 ∧ rm.frames + 1 ≤ R.frames ∧ 8 + (mL + 11) + rm.locals ≤ R.locals) (hd : decode cc pc = .ok (.invokevirtual idx, 3))
    (k : ∀ (r0 : β) (τ : gS), gT p l e R s m args below meth c G nL ι τ (pc + 3) lv ((ιb r0).toList ++ rest) (kk r0 τ)) : gT p l e R s m args below meth c G nL ι σ pc lv st0 (gBind f kk) := by
  refine g_run (a := (Value.ref (G.2.1 kx) :: As).toArray) (rest := rest) (fun r0 σ0 hf H locs ls hP hS hl => ?_) k
  have hW0 := gW_at hC hP hS
  obtain ⟨hx, hb, hml, hown, hts, hJ, hK, hZ, hr, hlk⟩ := hC
  obtain ⟨b1, b2, b3, b4, b5⟩ := hB
  obtain ⟨l1, l2, l3, l4, l5, rfl, l6⟩ := hL
  obtain ⟨r1, r2, r3, r4⟩ := hR
  exact va_runV (As := As) (rest := rest) ⟨hx, hb, hml, hown, hts⟩ (hM r0 σ0 hf) ⟨callB_of n hts (gBig_gi l5) rfl r1 r2 (hts _ l4) (hts _ l1) l6 ⟨r3, r4⟩, hts _ l2, hts _ l3⟩ ⟨gW_blind _ σ, va_recv hK hP b1 (gCs_obj hkx b5), fun U hU hW => ⟨rfl, hW0 U hU hW⟩⟩ rfl hn hl.1 hst (lv_room hW) hd ⟨Nat.zero_le _, Nat.zero_le _⟩
theorem g_callS (hC : gCx p s m args meth c G own cc nL ret) {β : Type} {ιb : β → Option Value} {f : Option (β × gS)} {kk : β → gS → Option (α × gS)} {rest st0 As : List Value} {y : MethodName} {idx n mL : Nat} {bytes : ByteArray} {rt : Option FieldType} {rm : Room} (hL : gLS own idx y bytes mL rt n)
    (hM : gM l G y bytes mL rt rm ιb As σ f) (hst : st0 = As.reverse ++ rest) (hn : As.length = n) (hW : (rest.map fun v => v.category).sum ≤ 8) (hR : rm.cells = 0 ∧ rm.slots = 0 ∧ rm.frames + 1 ≤ R.frames ∧ 8 + (mL + 11) + rm.locals ≤ R.locals) (hd : decode cc pc = .ok (.invokestatic idx, 3))
    (k : ∀ (r0 : β) (τ : gS), gT p l e R s m args below meth c G nL ι τ (pc + 3) lv ((ιb r0).toList ++ rest) (kk r0 τ)) : gT p l e R s m args below meth c G nL ι σ pc lv st0 (gBind f kk) := by
  refine g_run (a := As.toArray) (rest := rest) (fun r0 σ0 hf H locs ls hP hS hl => ?_) k
  have hW0 := gW_at hC hP hS
  obtain ⟨hx, hb, hml, hown, hts, hJ, hK, hZ, hr, hlk⟩ := hC
  obtain ⟨l1, l2, l3, l4, l6⟩ := hL
  obtain ⟨r1, r2, r3, r4⟩ := hR
  exact va_runS (As := As) (rest := rest) ⟨hx, hb, hml, hown, hts⟩ (hM r0 σ0 hf) ⟨callB_of n hts (gBig_gi l4) rfl r1 r2 (hts _ l3) (hts _ l1) l6 ⟨r3, r4⟩, hts _ l2⟩ ⟨gW_blind _ σ, fun U hU hW => ⟨rfl, hW0 U hU hW⟩⟩ rfl hn hl.1 hst (lv_room hW) hd ⟨Nat.zero_le _, Nat.zero_le _⟩
/-- a nest mate's private static method: its link stands among what stands fast -/
theorem g_callSN (hC : gCx p s m args meth c G own cc nL ret) {β : Type} {ιb : β → Option Value} {f : Option (β × gS)} {kk : β → gS → Option (α × gS)} {rest st0 As : List Value} {y : MethodName} {idx n mL : Nat} {bytes : ByteArray} {rt : Option FieldType} {rm : Room} {host : String} (hw : va_Nw (.methodLinkNest own idx y host) s) (hL : Cond.static y ∈ gBig ∧ Cond.initialized y.cls ∈ gBig ∧ Cond.code y bytes mL rt ∈ gBig ∧ (y.cls ≠ "java/lang/invoke/MethodHandle" ∧ y.cls ≠ "java/lang/invoke/VarHandle" ∧ (parseMethodDescriptor y.desc).map (fun d => d.parameters.length) = some n))
    (hM : gM l G y bytes mL rt rm ιb As σ f) (hst : st0 = As.reverse ++ rest) (hn : As.length = n) (hW : (rest.map fun v => v.category).sum ≤ 8) (hR : rm.cells = 0 ∧ rm.slots = 0 ∧ rm.frames + 1 ≤ R.frames ∧ 8 + (mL + 11) + rm.locals ≤ R.locals) (hd : decode cc pc = .ok (.invokestatic idx, 3))
    (k : ∀ (r0 : β) (τ : gS), gT p l e R s m args below meth c G nL ι τ (pc + 3) lv ((ιb r0).toList ++ rest) (kk r0 τ)) : gT p l e R s m args below meth c G nL ι σ pc lv st0 (gBind f kk) := by
  refine g_run (a := As.toArray) (rest := rest) (fun r0 σ0 hf H locs ls hP hS hl => ?_) k
  have hW0 := gW_at hC hP hS
  obtain ⟨hx, hb, hml, hown, hts, hJ, hK, hZ, hr, hlk⟩ := hC
  obtain ⟨l2, l3, l4, l6⟩ := hL
  obtain ⟨r1, r2, r3, r4⟩ := hR
  exact va_runSN (As := As) (rest := rest) ⟨hx, hb, hml, hown, hts⟩ (hM r0 σ0 hf) ⟨va_cnB n hts (gBig_gi l4) rfl r1 r2 hw (hts _ l3) l6 ⟨r3, r4⟩, hts _ l2, trivial⟩ ⟨gW_blind _ σ, fun U hU hW => ⟨rfl, hW0 U hU hW⟩⟩ rfl hn hl.1 hst (lv_room hW) hd ⟨Nat.zero_le _, Nat.zero_le _⟩
def gMx (own : String) (idx : Nat) : Prop := Cond.methodLink own idx Lib.Math.max.name ∈ gBig ∧ Cond.static Lib.Math.max.name ∈ gBig ∧ Cond.initialized "java/lang/Math" ∈ gBig ∧ Cond.code Lib.Math.max.name Lib.Math.max.code 2 (some .int) ∈ gBig
def gMn (own : String) (idx : Nat) : Prop := Cond.methodLink own idx Lib.Math.min.name ∈ gBig ∧ Cond.static Lib.Math.min.name ∈ gBig ∧ Cond.initialized "java/lang/Math" ∈ gBig ∧ Cond.code Lib.Math.min.name Lib.Math.min.code 2 (some .int) ∈ gBig
theorem g_max (hC : gCx p s m args meth c G own cc nL ret) {idx : Nat} {x y : Int32} (hL : gMx own idx) (hR : 1 ≤ R.frames ∧ 21 ≤ R.locals) (hW : (st.map fun v => v.category).sum ≤ 8) (hd : decode cc pc = .ok (.invokestatic idx, 3)) (k : gT p l e R s m args below meth c G nL ι σ (pc + 3) lv (.int (gMax x y) :: st) o) : gT p l e R s m args below meth c G nL ι σ pc lv (.int y :: .int x :: st) o := by
  intro r σ' h H locs ls hP hS hl
  obtain ⟨hx, hb, hml, hown, hts, hJ, hK, hZ, hr, hlk⟩ := hC
  exact va_mmax hx hb (hml.trans hl.1.symm) hown (hts _ hL.1) (hts _ hL.2.1) (hts _ hL.2.2.1) (hts _ hL.2.2.2) hR.1 (by have := hR.2; omega) (Nat.zero_le _) (Nat.zero_le _) hd (k r σ' h H locs ls hP hS hl)
theorem g_min (hC : gCx p s m args meth c G own cc nL ret) {idx : Nat} {x y : Int32} (hL : gMn own idx) (hR : 1 ≤ R.frames ∧ 21 ≤ R.locals) (hW : (st.map fun v => v.category).sum ≤ 8) (hd : decode cc pc = .ok (.invokestatic idx, 3)) (k : gT p l e R s m args below meth c G nL ι σ (pc + 3) lv (.int (gMin x y) :: st) o) : gT p l e R s m args below meth c G nL ι σ pc lv (.int y :: .int x :: st) o := by
  intro r σ' h H locs ls hP hS hl
  obtain ⟨hx, hb, hml, hown, hts, hJ, hK, hZ, hr, hlk⟩ := hC
  exact va_mmin hx hb (hml.trans hl.1.symm) hown (hts _ hL.1) (hts _ hL.2.1) (hts _ hL.2.2.1) (hts _ hL.2.2.2) hR.1 (by have := hR.2; omega) (Nat.zero_le _) (Nat.zero_le _) hd (k r σ' h H locs ls hP hS hl)
def gCy (own : String) (idx : Nat) : Prop := Cond.methodLink own idx arraycopyName ∈ gBig ∧ Cond.native arraycopyName ∈ gBig ∧ Cond.static arraycopyName ∈ gBig ∧ Cond.initialized "java/lang/System" ∈ gBig
/-- where a copy of n from sp to dp lies within rows of n0 and n1 -/
def gCpB (sp dp n : Int32) (n0 n1 : Nat) : Bool := decide (0 ≤ sp.toInt) && decide (0 ≤ dp.toInt) && decide (0 ≤ n.toInt) && decide (sp.toInt + n.toInt ≤ (n0 : Int)) && decide (dp.toInt + n.toInt ≤ (n1 : Int))
theorem gCpB_iff {sp dp n : Int32} {n0 n1 : Nat} (h : gCpB sp dp n n0 n1 = true) : (¬ sp < 0 ∧ ¬ dp < 0 ∧ ¬ n < 0) ∧ sp.toNatClampNeg + n.toNatClampNeg ≤ n0 ∧ dp.toNatClampNeg + n.toNatClampNeg ≤ n1 := by
  unfold gCpB at h
  simp only [Bool.and_eq_true, decide_eq_true_eq] at h
  have cl : ∀ z : Int32, 0 ≤ z.toInt → (z.toNatClampNeg : Int) = z.toInt := fun z hz => by unfold Int32.toNatClampNeg; exact Int.toNat_of_nonneg hz
  have ng : ∀ z : Int32, 0 ≤ z.toInt → ¬ z < 0 := fun z hz q => by have := Int32.lt_iff_toInt_lt.mp q; simp at this; omega
  have c1 := cl sp h.1.1.1.1; have c2 := cl dp h.1.1.1.2; have c3 := cl n h.1.1.2
  exact ⟨⟨ng _ h.1.1.1.1, ng _ h.1.1.1.2, ng _ h.1.1.2⟩, by omega, by omega⟩
theorem g_copyi (hC : gCx p s m args meth c G own cc nL ret) {idx : Nat} {sp dp n : Int32} {k0 k1 : Nat} (n0 n1 : Nat) {kk : gS → Option (α × gS)} (hL : gCy own idx) (h0 : gk k0 = 1000 + n0) (h1 : gk k1 = 1000 + n1) (hn0 : n0 < 1000) (hn1 : n1 < 1000) (hR : 1 ≤ R.frames ∧ 8 + (nativeFrameWords "java/lang/System" "arraycopy" 5 + 11) ≤ R.locals) (hW : (st.map fun v => v.category).sum ≤ 8) (hd : decode cc pc = .ok (.invokestatic idx, 3)) (kc : ∀ τ : gS, gT p l e R s m args below meth c G nL ι τ (pc + 3) lv st (kk τ)) : gT p l e R s m args below meth c G nL ι σ pc lv (.int n :: .int dp :: .ref (G.2.1 k1) :: .int sp :: .ref (G.2.1 k0) :: st) (if gCpB sp dp n n0 n1 = true then gLet (gUA σ k1 (va_cpy (σ.1 k0) (σ.1 k1) sp.toNatClampNeg dp.toNatClampNeg n.toNatClampNeg)) kk else none) := by
  intro r σ' h H locs ls hP hS hl
  obtain ⟨hx, hb, hml, hown, hts, hJ, hK, hZ, hr, hlk⟩ := hC
  by_cases hi : gCpB sp dp n n0 n1 = true
  · rw [if_pos hi] at h
    obtain ⟨⟨g1, g2, g3⟩, g4, g5⟩ := gCpB_iff hi
    refine va_copyi hx hb (hml.trans hl.1.symm) hown (hts _ hL.1) (hts _ hL.2.1) (hts _ hL.2.2.1) (hts _ hL.2.2.2) hK hP (gD hJ σ) hS _ _ _ _ (gCs_int h0 hn0) (gCs_int h1 hn1) (gty_int h0 hn0) (gty_int h1 hn1) rfl g1 g2 g3 g4 g5 (fun _ _ => rfl) hR.1 (by have := hR.2; omega) hd (fun H1 locs1 hP1 _ hS1 => kc _ r σ' h H1 locs1 ls ?_ hS1 hl)
    rw [gws_set (τ := gUA σ k1 (va_cpy (σ.1 k0) (σ.1 k1) sp.toNatClampNeg dp.toNatClampNeg n.toNatClampNeg))] at hP1
    · exact hP1
    · unfold gCs gCk
      rw [h1, if_neg (by omega), if_neg (by omega), if_pos (by omega), Nat.add_sub_cancel_left]
      simp only [gUA, if_true]
    · intro a ha; simp only [gUA, if_neg ha]
    · intro a ha; rfl
    · intro a ha; rfl
  · rw [if_neg hi] at h; cases h
theorem g_copyl (hC : gCx p s m args meth c G own cc nL ret) {idx : Nat} {sp dp n : Int32} {k0 k1 : Nat} (n0 n1 : Nat) {kk : gS → Option (α × gS)} (hL : gCy own idx) (h0 : gk k0 = 2000 + n0) (h1 : gk k1 = 2000 + n1) (hR : 1 ≤ R.frames ∧ 8 + (nativeFrameWords "java/lang/System" "arraycopy" 5 + 11) ≤ R.locals) (hW : (st.map fun v => v.category).sum ≤ 8) (hd : decode cc pc = .ok (.invokestatic idx, 3)) (kc : ∀ τ : gS, gT p l e R s m args below meth c G nL ι τ (pc + 3) lv st (kk τ)) : gT p l e R s m args below meth c G nL ι σ pc lv (.int n :: .int dp :: .ref (G.2.1 k1) :: .int sp :: .ref (G.2.1 k0) :: st) (if gCpB sp dp n n0 n1 = true then gLet (gUB σ k1 (va_cpy (σ.2.1 k0) (σ.2.1 k1) sp.toNatClampNeg dp.toNatClampNeg n.toNatClampNeg)) kk else none) := by
  intro r σ' h H locs ls hP hS hl
  obtain ⟨hx, hb, hml, hown, hts, hJ, hK, hZ, hr, hlk⟩ := hC
  by_cases hi : gCpB sp dp n n0 n1 = true
  · rw [if_pos hi] at h
    obtain ⟨⟨g1, g2, g3⟩, g4, g5⟩ := gCpB_iff hi
    refine va_copyl hx hb (hml.trans hl.1.symm) hown (hts _ hL.1) (hts _ hL.2.1) (hts _ hL.2.2.1) (hts _ hL.2.2.2) hK hP (gD hJ σ) hS _ _ _ _ (gCs_long h0) (gCs_long h1) (gty_long h0) (gty_long h1) rfl g1 g2 g3 g4 g5 (fun _ _ => rfl) hR.1 (by have := hR.2; omega) hd (fun H1 locs1 hP1 _ hS1 => kc _ r σ' h H1 locs1 ls ?_ hS1 hl)
    rw [gws_set (τ := gUB σ k1 (va_cpy (σ.2.1 k0) (σ.2.1 k1) sp.toNatClampNeg dp.toNatClampNeg n.toNatClampNeg))] at hP1
    · exact hP1
    · unfold gCs gCk
      rw [h1, if_neg (by omega), if_neg (by omega), if_neg (by omega), Nat.add_sub_cancel_left]
      simp only [gUB, if_true]
    · intro a ha; rfl
    · intro a ha; simp only [gUB, if_neg ha]
    · intro a ha; rfl
  · rw [if_neg hi] at h; cases h
end GR
section GC
variable {p : Program} {l : Launch} {e : Env} {R : Room} {s : State} {m : MethodId} {args : Array Value} {below : List Frame} {meth : Method} {c : Code} {G : gE} {own : String} {cc : ByteArray} {nL : Nat} {ret : Option FieldType} {α : Type} {ι : α → Option Value} {σ : gS} {pc : Nat} {lv : List (Nat × Value)} {st : List Value} {o : Option (α × gS)}
theorem gT_opt {q : Option Nat} {o1 : Option (α × gS)} {o2 : Nat → Option (α × gS)} (h1 : gT p l e R s m args below meth c G nL ι σ pc lv (.null :: st) o1) (h2 : ∀ k, gT p l e R s m args below meth c G nL ι σ pc lv (.ref (G.2.1 k) :: st) (o2 k)) : gT p l e R s m args below meth c G nL ι σ pc lv (va_rf (q.map G.2.1) :: st) (gOpt q o1 o2) := by
  cases q with
  | none => exact h1
  | some k => exact h2 k
theorem g_callVi (hC : gCx p s m args meth c G own cc nL ret) {f : Option (Int32 × gS)} {kk : Int32 → gS → Option (α × gS)} {rest st0 As : List Value} {C : String} {y : MethodName} {idx n mL ci kx N : Nat} {bytes : ByteArray} {rt : Option FieldType} {rm : Room} {F : u_T} {ty : Nat → FieldType} (hL : gLV own idx C y bytes mL rt n) (hB : gCls ci C F N ty) (hkx : gk kx = ci) (hM : gM l G y bytes mL rt rm iI (.ref (G.2.1 kx) :: As) σ f) (hst : st0 = As.reverse ++ .ref (G.2.1 kx) :: rest) (hn : As.length = n) (hW : (rest.map fun v => v.category).sum ≤ 8) (hR : rm.cells = 0 ∧ rm.slots = 0 ∧ rm.frames + 1 ≤ R.frames ∧ 8 + (mL + 11) + rm.locals ≤ R.locals) (hd : decode cc pc = .ok (.invokevirtual idx, 3)) (k : ∀ (r0 : Int32) (τ : gS), gT p l e R s m args below meth c G nL ι τ (pc + 3) lv (.int r0 :: rest) (kk r0 τ)) : gT p l e R s m args below meth c G nL ι σ pc lv st0 (gBind f kk) := g_callV hC hL hB hkx hM hst hn hW hR hd k
theorem g_callSi (hC : gCx p s m args meth c G own cc nL ret) {f : Option (Int32 × gS)} {kk : Int32 → gS → Option (α × gS)} {rest st0 As : List Value} {y : MethodName} {idx n mL : Nat} {bytes : ByteArray} {rt : Option FieldType} {rm : Room} (hL : gLS own idx y bytes mL rt n) (hM : gM l G y bytes mL rt rm iI As σ f) (hst : st0 = As.reverse ++ rest) (hn : As.length = n) (hW : (rest.map fun v => v.category).sum ≤ 8) (hR : rm.cells = 0 ∧ rm.slots = 0 ∧ rm.frames + 1 ≤ R.frames ∧ 8 + (mL + 11) + rm.locals ≤ R.locals) (hd : decode cc pc = .ok (.invokestatic idx, 3)) (k : ∀ (r0 : Int32) (τ : gS), gT p l e R s m args below meth c G nL ι τ (pc + 3) lv (.int r0 :: rest) (kk r0 τ)) : gT p l e R s m args below meth c G nL ι σ pc lv st0 (gBind f kk) := g_callS hC hL hM hst hn hW hR hd k
theorem g_callVz (hC : gCx p s m args meth c G own cc nL ret) {f : Option (Bool × gS)} {kk : Bool → gS → Option (α × gS)} {rest st0 As : List Value} {C : String} {y : MethodName} {idx n mL ci kx N : Nat} {bytes : ByteArray} {rt : Option FieldType} {rm : Room} {F : u_T} {ty : Nat → FieldType} (hL : gLV own idx C y bytes mL rt n) (hB : gCls ci C F N ty) (hkx : gk kx = ci) (hM : gM l G y bytes mL rt rm iZ (.ref (G.2.1 kx) :: As) σ f) (hst : st0 = As.reverse ++ .ref (G.2.1 kx) :: rest) (hn : As.length = n) (hW : (rest.map fun v => v.category).sum ≤ 8) (hR : rm.cells = 0 ∧ rm.slots = 0 ∧ rm.frames + 1 ≤ R.frames ∧ 8 + (mL + 11) + rm.locals ≤ R.locals) (hd : decode cc pc = .ok (.invokevirtual idx, 3)) (k : ∀ (r0 : Bool) (τ : gS), gT p l e R s m args below meth c G nL ι τ (pc + 3) lv (.int (b2i r0) :: rest) (kk r0 τ)) : gT p l e R s m args below meth c G nL ι σ pc lv st0 (gBind f kk) := g_callV hC hL hB hkx hM hst hn hW hR hd k
theorem g_callSz (hC : gCx p s m args meth c G own cc nL ret) {f : Option (Bool × gS)} {kk : Bool → gS → Option (α × gS)} {rest st0 As : List Value} {y : MethodName} {idx n mL : Nat} {bytes : ByteArray} {rt : Option FieldType} {rm : Room} (hL : gLS own idx y bytes mL rt n) (hM : gM l G y bytes mL rt rm iZ As σ f) (hst : st0 = As.reverse ++ rest) (hn : As.length = n) (hW : (rest.map fun v => v.category).sum ≤ 8) (hR : rm.cells = 0 ∧ rm.slots = 0 ∧ rm.frames + 1 ≤ R.frames ∧ 8 + (mL + 11) + rm.locals ≤ R.locals) (hd : decode cc pc = .ok (.invokestatic idx, 3)) (k : ∀ (r0 : Bool) (τ : gS), gT p l e R s m args below meth c G nL ι τ (pc + 3) lv (.int (b2i r0) :: rest) (kk r0 τ)) : gT p l e R s m args below meth c G nL ι σ pc lv st0 (gBind f kk) := g_callS hC hL hM hst hn hW hR hd k
theorem g_callVv (hC : gCx p s m args meth c G own cc nL ret) {f : Option (Unit × gS)} {kk : Unit → gS → Option (α × gS)} {rest st0 As : List Value} {C : String} {y : MethodName} {idx n mL ci kx N : Nat} {bytes : ByteArray} {rt : Option FieldType} {rm : Room} {F : u_T} {ty : Nat → FieldType} (hL : gLV own idx C y bytes mL rt n) (hB : gCls ci C F N ty) (hkx : gk kx = ci) (hM : gM l G y bytes mL rt rm iV (.ref (G.2.1 kx) :: As) σ f) (hst : st0 = As.reverse ++ .ref (G.2.1 kx) :: rest) (hn : As.length = n) (hW : (rest.map fun v => v.category).sum ≤ 8) (hR : rm.cells = 0 ∧ rm.slots = 0 ∧ rm.frames + 1 ≤ R.frames ∧ 8 + (mL + 11) + rm.locals ≤ R.locals) (hd : decode cc pc = .ok (.invokevirtual idx, 3)) (k : ∀ (r0 : Unit) (τ : gS), gT p l e R s m args below meth c G nL ι τ (pc + 3) lv (rest) (kk r0 τ)) : gT p l e R s m args below meth c G nL ι σ pc lv st0 (gBind f kk) := g_callV hC hL hB hkx hM hst hn hW hR hd k
theorem g_callSv (hC : gCx p s m args meth c G own cc nL ret) {f : Option (Unit × gS)} {kk : Unit → gS → Option (α × gS)} {rest st0 As : List Value} {y : MethodName} {idx n mL : Nat} {bytes : ByteArray} {rt : Option FieldType} {rm : Room} (hL : gLS own idx y bytes mL rt n) (hM : gM l G y bytes mL rt rm iV As σ f) (hst : st0 = As.reverse ++ rest) (hn : As.length = n) (hW : (rest.map fun v => v.category).sum ≤ 8) (hR : rm.cells = 0 ∧ rm.slots = 0 ∧ rm.frames + 1 ≤ R.frames ∧ 8 + (mL + 11) + rm.locals ≤ R.locals) (hd : decode cc pc = .ok (.invokestatic idx, 3)) (k : ∀ (r0 : Unit) (τ : gS), gT p l e R s m args below meth c G nL ι τ (pc + 3) lv (rest) (kk r0 τ)) : gT p l e R s m args below meth c G nL ι σ pc lv st0 (gBind f kk) := g_callS hC hL hM hst hn hW hR hd k
theorem g_callVl (hC : gCx p s m args meth c G own cc nL ret) {f : Option (Int64 × gS)} {kk : Int64 → gS → Option (α × gS)} {rest st0 As : List Value} {C : String} {y : MethodName} {idx n mL ci kx N : Nat} {bytes : ByteArray} {rt : Option FieldType} {rm : Room} {F : u_T} {ty : Nat → FieldType} (hL : gLV own idx C y bytes mL rt n) (hB : gCls ci C F N ty) (hkx : gk kx = ci) (hM : gM l G y bytes mL rt rm iJ (.ref (G.2.1 kx) :: As) σ f) (hst : st0 = As.reverse ++ .ref (G.2.1 kx) :: rest) (hn : As.length = n) (hW : (rest.map fun v => v.category).sum ≤ 8) (hR : rm.cells = 0 ∧ rm.slots = 0 ∧ rm.frames + 1 ≤ R.frames ∧ 8 + (mL + 11) + rm.locals ≤ R.locals) (hd : decode cc pc = .ok (.invokevirtual idx, 3)) (k : ∀ (r0 : Int64) (τ : gS), gT p l e R s m args below meth c G nL ι τ (pc + 3) lv (.long r0 :: rest) (kk r0 τ)) : gT p l e R s m args below meth c G nL ι σ pc lv st0 (gBind f kk) := g_callV hC hL hB hkx hM hst hn hW hR hd k
theorem g_callSl (hC : gCx p s m args meth c G own cc nL ret) {f : Option (Int64 × gS)} {kk : Int64 → gS → Option (α × gS)} {rest st0 As : List Value} {y : MethodName} {idx n mL : Nat} {bytes : ByteArray} {rt : Option FieldType} {rm : Room} (hL : gLS own idx y bytes mL rt n) (hM : gM l G y bytes mL rt rm iJ As σ f) (hst : st0 = As.reverse ++ rest) (hn : As.length = n) (hW : (rest.map fun v => v.category).sum ≤ 8) (hR : rm.cells = 0 ∧ rm.slots = 0 ∧ rm.frames + 1 ≤ R.frames ∧ 8 + (mL + 11) + rm.locals ≤ R.locals) (hd : decode cc pc = .ok (.invokestatic idx, 3)) (k : ∀ (r0 : Int64) (τ : gS), gT p l e R s m args below meth c G nL ι τ (pc + 3) lv (.long r0 :: rest) (kk r0 τ)) : gT p l e R s m args below meth c G nL ι σ pc lv st0 (gBind f kk) := g_callS hC hL hM hst hn hW hR hd k
theorem g_callVq (hC : gCx p s m args meth c G own cc nL ret) {f : Option (Option Nat × gS)} {kk : Option Nat → gS → Option (α × gS)} {rest st0 As : List Value} {C : String} {y : MethodName} {idx n mL ci kx N : Nat} {bytes : ByteArray} {rt : Option FieldType} {rm : Room} {F : u_T} {ty : Nat → FieldType} (hL : gLV own idx C y bytes mL rt n) (hB : gCls ci C F N ty) (hkx : gk kx = ci) (hM : gM l G y bytes mL rt rm (iR G) (.ref (G.2.1 kx) :: As) σ f) (hst : st0 = As.reverse ++ .ref (G.2.1 kx) :: rest) (hn : As.length = n) (hW : (rest.map fun v => v.category).sum ≤ 8) (hR : rm.cells = 0 ∧ rm.slots = 0 ∧ rm.frames + 1 ≤ R.frames ∧ 8 + (mL + 11) + rm.locals ≤ R.locals) (hd : decode cc pc = .ok (.invokevirtual idx, 3)) (k : ∀ (r0 : Option Nat) (τ : gS), gT p l e R s m args below meth c G nL ι τ (pc + 3) lv (va_rf (r0.map G.2.1) :: rest) (kk r0 τ)) : gT p l e R s m args below meth c G nL ι σ pc lv st0 (gBind f kk) := g_callV hC hL hB hkx hM hst hn hW hR hd k
theorem g_callSq (hC : gCx p s m args meth c G own cc nL ret) {f : Option (Option Nat × gS)} {kk : Option Nat → gS → Option (α × gS)} {rest st0 As : List Value} {y : MethodName} {idx n mL : Nat} {bytes : ByteArray} {rt : Option FieldType} {rm : Room} (hL : gLS own idx y bytes mL rt n) (hM : gM l G y bytes mL rt rm (iR G) As σ f) (hst : st0 = As.reverse ++ rest) (hn : As.length = n) (hW : (rest.map fun v => v.category).sum ≤ 8) (hR : rm.cells = 0 ∧ rm.slots = 0 ∧ rm.frames + 1 ≤ R.frames ∧ 8 + (mL + 11) + rm.locals ≤ R.locals) (hd : decode cc pc = .ok (.invokestatic idx, 3)) (k : ∀ (r0 : Option Nat) (τ : gS), gT p l e R s m args below meth c G nL ι τ (pc + 3) lv (va_rf (r0.map G.2.1) :: rest) (kk r0 τ)) : gT p l e R s m args below meth c G nL ι σ pc lv st0 (gBind f kk) := g_callS hC hL hM hst hn hW hR hd k
theorem g_callSNz (hC : gCx p s m args meth c G own cc nL ret) {f : Option (Bool × gS)} {kk : Bool → gS → Option (α × gS)} {rest st0 As : List Value} {y : MethodName} {idx n mL : Nat} {bytes : ByteArray} {rt : Option FieldType} {rm : Room} {host : String} (hw : va_Nw (.methodLinkNest own idx y host) s) (hL : Cond.static y ∈ gBig ∧ Cond.initialized y.cls ∈ gBig ∧ Cond.code y bytes mL rt ∈ gBig ∧ (y.cls ≠ "java/lang/invoke/MethodHandle" ∧ y.cls ≠ "java/lang/invoke/VarHandle" ∧ (parseMethodDescriptor y.desc).map (fun d => d.parameters.length) = some n)) (hM : gM l G y bytes mL rt rm iZ As σ f) (hst : st0 = As.reverse ++ rest) (hn : As.length = n) (hW : (rest.map fun v => v.category).sum ≤ 8) (hR : rm.cells = 0 ∧ rm.slots = 0 ∧ rm.frames + 1 ≤ R.frames ∧ 8 + (mL + 11) + rm.locals ≤ R.locals) (hd : decode cc pc = .ok (.invokestatic idx, 3)) (k : ∀ (r0 : Bool) (τ : gS), gT p l e R s m args below meth c G nL ι τ (pc + 3) lv (.int (b2i r0) :: rest) (kk r0 τ)) : gT p l e R s m args below meth c G nL ι σ pc lv st0 (gBind f kk) := g_callSN hC hw hL hM hst hn hW hR hd k
end GC
theorem ck_3_1 {k : Nat} (h : gk k = 3) : gk (k + 1) = 1121 := by
  have h0 : ∀ a, a < 84 → gk a = 3 → gk (a + 1) = 1121 := by decide +kernel
  exact h0 k (gk_lt h (by decide)) h
theorem ck_3_2 {k : Nat} (h : gk k = 3) : gk (k + 2) = 1121 := by
  have h0 : ∀ a, a < 84 → gk a = 3 → gk (a + 2) = 1121 := by decide +kernel
  exact h0 k (gk_lt h (by decide)) h
theorem ck_3_3 {k : Nat} (h : gk k = 3) : gk (k + 3) = 1121 := by
  have h0 : ∀ a, a < 84 → gk a = 3 → gk (a + 3) = 1121 := by decide +kernel
  exact h0 k (gk_lt h (by decide)) h
theorem ck_3_4 {k : Nat} (h : gk k = 3) : gk (k + 4) = 1006 := by
  have h0 : ∀ a, a < 84 → gk a = 3 → gk (a + 4) = 1006 := by decide +kernel
  exact h0 k (gk_lt h (by decide)) h
theorem ck_6_1 {k : Nat} (h : gk k = 6) : gk (k + 1) = 2060 := by
  have h0 : ∀ a, a < 84 → gk a = 6 → gk (a + 1) = 2060 := by decide +kernel
  exact h0 k (gk_lt h (by decide)) h
/-- the bytes of the text clgkdb -/
def gBy (j : Nat) : Int32 := ([99, 108, 103, 107, 100, 98] : List Int32).getD j 0
section GS
variable {p : Program} {l : Launch} {e : Env} {R : Room} {s : State} {m : MethodId} {args : Array Value} {below : List Frame} {meth : Method} {c : Code} {G : gE} {own : String} {cc : ByteArray} {nL : Nat} {ret : Option FieldType} {α : Type} {ι : α → Option Value} {σ : gS} {pc : Nat} {lv : List (Nat × Value)} {st : List Value} {o : Option (α × gS)}
theorem gZs (hC : gCx p s m args meth c G own cc nL ret) : va_Z "java/lang/String" "COMPACT_STRINGS" "Z" (.int 1) (gA G) s s.heap := hC.2.2.2.2.2.2.2.1.2.2.2.2.2.2.2.2.2.2.2.1
theorem gZr (hC : gCx p s m args meth c G own cc nL ret) : vk_R "WinterShed$Law" 117 "clgkdb" (G.2.2.2 4) s := hC.2.2.2.2.2.2.2.1.2.2.2.2.2.2.2.2.2.2.2.2.1
theorem gZk (hC : gCx p s m args meth c G own cc nL ret) : vk_S 1 [6] [[99, 108, 103, 107, 100, 98]] (fun _ => G.2.2.2 4) (fun _ => G.2.2.2 5) (gA G) s s.heap := hC.2.2.2.2.2.2.2.1.2.2.2.2.2.2.2.2.2.2.2.2.2
theorem g_ldcS (hC : gCx p s m args meth c G "WinterShed$Law" cc nL ret) (hd : decode cc pc = .ok (.ldc 117, 2)) (k : gT p l e R s m args below meth c G nL ι σ (pc + 2) lv (.ref (G.2.2.2 4) :: st) o) : gT p l e R s m args below meth c G nL ι σ pc lv st o := by
  intro r σ' h H locs ls hP hS hl
  exact va_ldcS hC.1 hC.2.1 hC.2.2.2.1 (gZr hC) hd (k r σ' h H locs ls hP hS hl)
theorem g_scoder (hC : gCx p s m args meth c G own cc nL ret) {idx : Nat} (hw : Cond.fieldLink own idx "java/lang/String" "coder" "B" ∈ gBig) (hd : decode cc pc = .ok (.getfield idx, 3)) (k : gT p l e R s m args below meth c G nL ι σ (pc + 3) lv (.int 0 :: st) o) : gT p l e R s m args below meth c G nL ι σ pc lv (.ref (G.2.2.2 4) :: st) o := by
  intro r σ' h H locs ls hP hS hl
  exact vk_getf hC.1 hC.2.1 ((gZk hC).1 0 (by decide)).2.1 hS hC.2.2.2.1 (hC.2.2.2.2.1 _ hw) (fun _ h9 => h9) hd (k r σ' h H locs ls hP hS hl)
theorem g_svalue (hC : gCx p s m args meth c G own cc nL ret) {idx : Nat} (hw : Cond.fieldLink own idx "java/lang/String" "value" "[B" ∈ gBig) (hd : decode cc pc = .ok (.getfield idx, 3)) (k : gT p l e R s m args below meth c G nL ι σ (pc + 3) lv (.ref (G.2.2.2 5) :: st) o) : gT p l e R s m args below meth c G nL ι σ pc lv (.ref (G.2.2.2 4) :: st) o := by
  intro r σ' h H locs ls hP hS hl
  exact vk_getf hC.1 hC.2.1 ((gZk hC).1 0 (by decide)).2.2.1 hS hC.2.2.2.1 (hC.2.2.2.2.1 _ hw) (fun _ h9 => h9) hd (k r σ' h H locs ls hP hS hl)
theorem g_slen (hC : gCx p s m args meth c G own cc nL ret) (hd : decode cc pc = .ok (.arraylength, 1)) (k : gT p l e R s m args below meth c G nL ι σ (pc + 1) lv (.int 6 :: st) o) : gT p l e R s m args below meth c G nL ι σ pc lv (.ref (G.2.2.2 5) :: st) o := by
  intro r σ' h H locs ls hP hS hl
  exact va_tlen hC.1 hC.2.1 ((gZk hC).1 0 (by decide)).2.2.2 hS rfl hd (k r σ' h H locs ls hP hS hl)
theorem g_sbald (hC : gCx p s m args meth c G own cc nL ret) {i : Int32} (hd : decode cc pc = .ok (.baload, 1)) (k : gT p l e R s m args below meth c G nL ι σ (pc + 1) lv (.int (gBy i.toNatClampNeg) :: st) o) : gT p l e R s m args below meth c G nL ι σ pc lv (.int i :: .ref (G.2.2.2 5) :: st) (if inbB i 6 = true then o else none) := by
  intro r σ' h H locs ls hP hS hl
  by_cases hi : inbB i 6 = true
  · rw [if_pos hi] at h
    exact va_tb hC.1 hC.2.1 ((gZk hC).1 0 (by decide)).2.2.2 hS (inbB_vp hi) rfl hd (k r σ' h H locs ls hP hS hl)
  · rw [if_neg hi] at h; cases h
theorem g_bret (hC : gCx p s m args meth c G own cc nL (some .byte)) {x : Int32} (hn : narrow .byte (.int x) = .int x) (hd : decode cc pc = .ok (.ireturn, 1)) : gT p l e R s m args below meth c G nL iI σ pc lv [.int x] (some (x, σ)) := by
  intro r σ' h H locs ls hP hS hl
  obtain ⟨rfl, rfl⟩ := gR_inj h
  exact W.zret hC.1 hC.2.1 hC.2.2.2.2.2.2.2.2.1 hn (gQ_of hP hS) hS.2.2 hd hC.2.2.2.2.2.2.2.2.2
theorem g_callVS (hC : gCx p s m args meth c G own cc nL ret) {β : Type} {ιb : β → Option Value} {f : Option (β × gS)} {kk : β → gS → Option (α × gS)} {rest st0 As : List Value} {y : MethodName} {idx n mL : Nat} {bytes : ByteArray} {rt : Option FieldType} {rm : Room} (hL : gLV own idx "java/lang/String" y bytes mL rt n)
    (hM : gM l G y bytes mL rt rm ιb (.ref (G.2.2.2 4) :: As) σ f) (hst : st0 = As.reverse ++ .ref (G.2.2.2 4) :: rest) (hn : As.length = n) (hW : (rest.map fun v => v.category).sum ≤ 8) (hR : rm.cells = 0 ∧ rm.slots = 0 ∧ rm.frames + 1 ≤ R.frames ∧ 8 + (mL + 11) + rm.locals ≤ R.locals) (hd : decode cc pc = .ok (.invokevirtual idx, 3))
    (k : ∀ (r0 : β) (τ : gS), gT p l e R s m args below meth c G nL ι τ (pc + 3) lv ((ιb r0).toList ++ rest) (kk r0 τ)) : gT p l e R s m args below meth c G nL ι σ pc lv st0 (gBind f kk) := by
  refine g_run (a := (Value.ref (G.2.2.2 4) :: As).toArray) (rest := rest) (fun r0 σ0 hf H locs ls hP hS hl => ?_) k
  have hW0 := gW_at hC hP hS
  have hrc := vk_recv (gZk hC) (i := 0) (by decide) hS
  obtain ⟨hx, hb, hml, hown, hts, hJ, hK, hZ, hr, hlk⟩ := hC
  obtain ⟨l1, l2, l3, l4, l5, l0, l6⟩ := hL
  obtain ⟨r1, r2, r3, r4⟩ := hR
  exact va_runV (As := As) (rest := rest) ⟨hx, hb, hml, hown, hts⟩ (hM r0 σ0 hf) ⟨callB_of n hts (gBig_gi l5) rfl r1 r2 (by rw [l0]; exact hts _ l4) (hts _ l1) l6 ⟨r3, r4⟩, hts _ l2, hts _ l3⟩ ⟨gW_blind _ σ, hrc, fun U hU hW => ⟨rfl, hW0 U hU hW⟩⟩ rfl hn hl.1 hst (lv_room hW) hd ⟨Nat.zero_le _, Nat.zero_le _⟩
theorem g_callVSi (hC : gCx p s m args meth c G own cc nL ret) {f : Option (Int32 × gS)} {kk : Int32 → gS → Option (α × gS)} {rest st0 As : List Value} {y : MethodName} {idx n mL : Nat} {bytes : ByteArray} {rt : Option FieldType} {rm : Room} (hL : gLV own idx "java/lang/String" y bytes mL rt n) (hM : gM l G y bytes mL rt rm iI (.ref (G.2.2.2 4) :: As) σ f) (hst : st0 = As.reverse ++ .ref (G.2.2.2 4) :: rest) (hn : As.length = n) (hW : (rest.map fun v => v.category).sum ≤ 8) (hR : rm.cells = 0 ∧ rm.slots = 0 ∧ rm.frames + 1 ≤ R.frames ∧ 8 + (mL + 11) + rm.locals ≤ R.locals) (hd : decode cc pc = .ok (.invokevirtual idx, 3)) (k : ∀ (r0 : Int32) (τ : gS), gT p l e R s m args below meth c G nL ι τ (pc + 3) lv (.int r0 :: rest) (kk r0 τ)) : gT p l e R s m args below meth c G nL ι σ pc lv st0 (gBind f kk) := g_callVS hC hL hM hst hn hW hR hd k
theorem g_callVSz (hC : gCx p s m args meth c G own cc nL ret) {f : Option (Bool × gS)} {kk : Bool → gS → Option (α × gS)} {rest st0 As : List Value} {y : MethodName} {idx n mL : Nat} {bytes : ByteArray} {rt : Option FieldType} {rm : Room} (hL : gLV own idx "java/lang/String" y bytes mL rt n) (hM : gM l G y bytes mL rt rm iZ (.ref (G.2.2.2 4) :: As) σ f) (hst : st0 = As.reverse ++ .ref (G.2.2.2 4) :: rest) (hn : As.length = n) (hW : (rest.map fun v => v.category).sum ≤ 8) (hR : rm.cells = 0 ∧ rm.slots = 0 ∧ rm.frames + 1 ≤ R.frames ∧ 8 + (mL + 11) + rm.locals ≤ R.locals) (hd : decode cc pc = .ok (.invokevirtual idx, 3)) (k : ∀ (r0 : Bool) (τ : gS), gT p l e R s m args below meth c G nL ι τ (pc + 3) lv (.int (b2i r0) :: rest) (kk r0 τ)) : gT p l e R s m args below meth c G nL ι σ pc lv st0 (gBind f kk) := g_callVS hC hL hM hst hn hW hR hd k
end GS
