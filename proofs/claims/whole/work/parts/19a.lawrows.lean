/-! THE CLAIM OUT OF ONE WALK OF THE LAW'S BODY. Your part is whole_start (and what it stands on); all else here is the same for every law, but numbers. -/
def R_law : String := "WinterShedLaw"
def lw_P (b : Addr) (xs : List Int32) (args : Array Value) (s : State) : Prop := args = #[.ref b] ∧ s.IntsAt b xs ∧ xs.length ≤ 3072 ∧ (Jvm.Cond.and given_1 narrow_1).before args s = true
def lw_Q (_ : Array Value) (s : State) (o : Outcome) (t : State) : Prop := o = .returned (some (.int 1)) ∧ Framed s o t [] 600000 7302250
def lw_Z (below : List Frame) (a : Array Value) (s : State) : State → Prop := fun t => ∃ o, t.status = .running ∧ Ended t below o ∧ lw_Q a s o t
/-- the law's own end, with 1 on the stack, nothing written that was there before, its room as the claim has it -/
theorem lw_ret {p : Program} {l : Launch} {e : Env} {s : State} {m : MethodId} {below : List Frame} {meth : Method} {c : Code} {b : Nat} (hx : p.tables.exec = Jvm.exec) (hb : c.code = code) (hr : meth.sig.returnType = ret) (hlocks : meth.locks = false) {pc : Nat} {H : Heap} {ls : Array Slot} (hdg : decode code pc = .ok (.ireturn, 1)) : W p l e room_1 s m #[Value.ref b] below meth c H [] 600000 7302250 (lw_Z below #[Value.ref b] s) (F0 m pc ls [.int 1]) := by
  intro T hT X
  obtain ⟨fs, hret, hrun, hended, hW, hframe⟩ := X.leave (v := some (.int 1)) (hlocks := hlocks) (fun h => by rw [hr] at h; cases h)
  have hmeth' : T.vm.method? m = some meth := X.method'
  refine ⟨T.setFrames fs, ?_, .returned (some (.int 1)), hrun, hended, rfl, ⟨_, rfl⟩, hW, hframe⟩
  jvm_step X.here [X.here.top, hx, hb, hdg, hmeth', hr, ret, narrow_b1]
  (try refine ⟨rfl, ?_⟩); (try refine ⟨rfl, ?_⟩)
  first | (intro acts; rw [hret _ acts rfl rfl rfl]) | rw [hret _ _ rfl rfl rfl]
  exact Steps.refl _
/-- what holds at the law's entry: the machine, the code, the tables' words (any of lw_tbl by 'hts w (by decide +kernel)'), the script of L ints xs at the cell b, what the Statement gives of the start (any of its parts by flat_of_before) -/
def lw_At (p : Program) (s : State) (m : MethodId) (meth : Method) (c : Code) (b L : Nat) (xs : Nat → Int32) : Prop :=
  p.tables.exec = Jvm.exec ∧ c.code = code ∧ meth.sig.returnType = ret ∧ c.maxLocals = 4 ∧ s.vm.findClass R_law = some m.cls ∧ (∀ w ∈ lw_tbl, w.before #[Value.ref b] s = true) ∧ va_X b L xs s s.heap ∧ b < s.heap.size ∧ meth.locks = false ∧ (Jvm.Cond.and given_1 narrow_1).before #[Value.ref b] s = true

/-- what holds throughout the law's loop -/
def gLx (p : Program) (s : State) (m : MethodId) (meth : Method) (c : Code) (G : gE) (b L : Nat) (xs : Nat → Int32) : Prop :=
  p.tables.exec = Jvm.exec ∧ c.code = code ∧ c.maxLocals = 4 ∧ s.vm.findClass RL = some m.cls ∧ (∀ w ∈ gBig, w.before #[Value.ref b] s = true) ∧ gInj G ∧ va_K G.1 vwCl (gtys G) s ∧ gZ G s s.heap ∧ va_X b L xs s s.heap ∧ b < s.heap.size ∧ (∀ k, k < 84 → s.heap.size ≤ G.2.1 k) ∧ meth.sig.returnType = ret ∧ meth.locks = false
def gU (p : Program) (l : Launch) (e : Env) (s : State) (m : MethodId) (below : List Frame) (meth : Method) (c : Code) (G : gE) (b CE SL : Nat) (σ : gS) (pc : Nat) (lv : List (Nat × Value)) (st : List Value) : Prop :=
  ∀ (H : Heap) (locs : List Loc) (ls : Array Slot), va_P G.1 vwCl (gws G σ) H → va_S (fun q : Nat => s.heap.size ≤ q) s.heap H locs → lv_has ls 4 lv →
    W p l e room_1 s m #[Value.ref b] below meth c H locs CE SL (lw_Z below #[Value.ref b] s) (F0 m pc ls st)
section GL
variable {p : Program} {l : Launch} {e : Env} {s : State} {m : MethodId} {below : List Frame} {meth : Method} {c : Code} {G : gE} {b L CE SL : Nat} {xs : Nat → Int32} {σ : gS} {pc : Nat} {lv : List (Nat × Value)} {st : List Value}
theorem l_iconst (hC : gLx p s m meth c G b L xs) {n : Int} {v : Int32} (hd : decode code pc = .ok (.iconst n, 1)) (hv : Int32.ofInt n = v) (k : gU p l e s m below meth c G b CE SL σ (pc + 1) lv (.int v :: st)) : gU p l e s m below meth c G b CE SL σ pc lv (st) := by
  intro H locs ls hP hS hl
  exact lv_iconst hC.1 hC.2.1 hd hv (k H locs ls hP hS hl)
theorem l_bipush (hC : gLx p s m meth c G b L xs) {n : Int} {v : Int32} (hd : decode code pc = .ok (.bipush n, 2)) (hv : (Int8.ofInt n).toInt32 = v) (k : gU p l e s m below meth c G b CE SL σ (pc + 2) lv (.int v :: st)) : gU p l e s m below meth c G b CE SL σ pc lv (st) := by
  intro H locs ls hP hS hl
  exact lv_bipush hC.1 hC.2.1 hd hv (k H locs ls hP hS hl)
theorem l_iload_n (hC : gLx p s m meth c G b L xs) {kx : Fin 4} {i : Nat} {y : Int32} (q : Nat) (hd : decode code pc = .ok (.iload_n kx, 1)) (hi : (kx : Nat) = i) (hq : lv[q]? = some (i, .int y)) (k : gU p l e s m below meth c G b CE SL σ (pc + 1) lv (.int y :: st)) : gU p l e s m below meth c G b CE SL σ pc lv (st) := by
  intro H locs ls hP hS hl
  exact lv_iload_n hC.1 hC.2.1 hd hi (lv_at hl q hq) (k H locs ls hP hS hl)
theorem l_aload_n (hC : gLx p s m meth c G b L xs) {kx : Fin 4} {i a : Nat} (q : Nat) (hd : decode code pc = .ok (.aload_n kx, 1)) (hi : (kx : Nat) = i) (hq : lv[q]? = some (i, .ref a)) (k : gU p l e s m below meth c G b CE SL σ (pc + 1) lv (.ref a :: st)) : gU p l e s m below meth c G b CE SL σ pc lv (st) := by
  intro H locs ls hP hS hl
  exact lv_aload_n hC.1 hC.2.1 hd hi (lv_at hl q hq) (k H locs ls hP hS hl)
theorem l_iadd (hC : gLx p s m meth c G b L xs) {x y : Int32} (hd : decode code pc = .ok (.iadd, 1)) (k : gU p l e s m below meth c G b CE SL σ (pc + 1) lv (.int (x + y) :: st)) : gU p l e s m below meth c G b CE SL σ pc lv (.int y :: .int x :: st) := by
  intro H locs ls hP hS hl
  exact lv_iadd hC.1 hC.2.1 hd (k H locs ls hP hS hl)
theorem l_isub (hC : gLx p s m meth c G b L xs) {x y : Int32} (hd : decode code pc = .ok (.isub, 1)) (k : gU p l e s m below meth c G b CE SL σ (pc + 1) lv (.int (x - y) :: st)) : gU p l e s m below meth c G b CE SL σ pc lv (.int y :: .int x :: st) := by
  intro H locs ls hP hS hl
  exact lv_isub hC.1 hC.2.1 hd (k H locs ls hP hS hl)
theorem l_iand (hC : gLx p s m meth c G b L xs) {x y : Int32} (hd : decode code pc = .ok (.iand, 1)) (k : gU p l e s m below meth c G b CE SL σ (pc + 1) lv (.int (x &&& y) :: st)) : gU p l e s m below meth c G b CE SL σ pc lv (.int y :: .int x :: st) := by
  intro H locs ls hP hS hl
  exact lv_iand hC.1 hC.2.1 hd (k H locs ls hP hS hl)
theorem l_land (hC : gLx p s m meth c G b L xs) {x y : Int64} (hd : decode code pc = .ok (.land, 1)) (k : gU p l e s m below meth c G b CE SL σ (pc + 1) lv (.long (x &&& y) :: st)) : gU p l e s m below meth c G b CE SL σ pc lv (.long y :: .long x :: st) := by
  intro H locs ls hP hS hl
  exact lv_land hC.1 hC.2.1 hd (k H locs ls hP hS hl)
theorem l_lor (hC : gLx p s m meth c G b L xs) {x y : Int64} (hd : decode code pc = .ok (.lor, 1)) (k : gU p l e s m below meth c G b CE SL σ (pc + 1) lv (.long (x ||| y) :: st)) : gU p l e s m below meth c G b CE SL σ pc lv (.long y :: .long x :: st) := by
  intro H locs ls hP hS hl
  exact lv_lor hC.1 hC.2.1 hd (k H locs ls hP hS hl)
theorem l_lshl (hC : gLx p s m meth c G b L xs) {x : Int64} {y : Int32} (hd : decode code pc = .ok (.lshl, 1)) (k : gU p l e s m below meth c G b CE SL σ (pc + 1) lv (.long (x <<< (y.toInt64 &&& 63)) :: st)) : gU p l e s m below meth c G b CE SL σ pc lv (.int y :: .long x :: st) := by
  intro H locs ls hP hS hl
  exact lv_lshl hC.1 hC.2.1 hd rfl (k H locs ls hP hS hl)
theorem l_lcmp (hC : gLx p s m meth c G b L xs) {x y : Int64} (hd : decode code pc = .ok (.lcmp, 1)) (k : gU p l e s m below meth c G b CE SL σ (pc + 1) lv (.int (lg_cmp x y) :: st)) : gU p l e s m below meth c G b CE SL σ pc lv (.long y :: .long x :: st) := by
  intro H locs ls hP hS hl
  exact W.lcmp hC.1 hC.2.1 hd (k H locs ls hP hS hl)
theorem l_i2l (hC : gLx p s m meth c G b L xs) {x : Int32} (hd : decode code pc = .ok (.i2l, 1)) (k : gU p l e s m below meth c G b CE SL σ (pc + 1) lv (.long (Int32.toInt64 x) :: st)) : gU p l e s m below meth c G b CE SL σ pc lv (.int x :: st) := by
  intro H locs ls hP hS hl
  exact lv_i2l hC.1 hC.2.1 hd rfl (k H locs ls hP hS hl)
theorem l_ldc2 (hC : gLx p s m meth c G b L xs) {ix : Nat} {v : Int64} (hd : decode code pc = .ok (.ldc2_w ix, 3)) (hw : Cond.constantLong RL ix v ∈ gBig) (k : gU p l e s m below meth c G b CE SL σ (pc + 3) lv (.long v :: st)) : gU p l e s m below meth c G b CE SL σ pc lv (st) := by
  intro H locs ls hP hS hl
  exact lv_ldc2 hC.1 hC.2.1 hC.2.2.2.1 (hC.2.2.2.2.1 _ hw) hd (k H locs ls hP hS hl)
theorem l_sld (hC : gLx p s m meth c G b L xs) {i : Int32} (hin : vp_in i L) (hd : decode code pc = .ok (.iaload, 1)) (k : gU p l e s m below meth c G b CE SL σ (pc + 1) lv (.int (xs i.toNatClampNeg) :: st)) : gU p l e s m below meth c G b CE SL σ pc lv (.int i :: .ref b :: st) := by
  intro H locs ls hP hS hl
  obtain ⟨hx, hb, hml, hown, hts, hJ, hK, hZ, hX, hbl, hfr, hr, hlk⟩ := hC
  exact va_sld hx hb hX hbl (Nat.not_le.mpr hbl) hS hin hd (k H locs ls hP hS hl)
theorem l_slen (hC : gLx p s m meth c G b L xs) (hd : decode code pc = .ok (.arraylength, 1)) (k : gU p l e s m below meth c G b CE SL σ (pc + 1) lv (.int (Int32.ofNat L) :: st)) : gU p l e s m below meth c G b CE SL σ pc lv (.ref b :: st) := by
  intro H locs ls hP hS hl
  obtain ⟨hx, hb, hml, hown, hts, hJ, hK, hZ, hX, hbl, hfr, hr, hlk⟩ := hC
  exact va_slen hx hb hX hbl (Nat.not_le.mpr hbl) hS hd (k H locs ls hP hS hl)
theorem l_eq (hC : gLx p s m meth c G b L xs) {x : Int32} {off : Int} {tgt : Nat} (hd : decode code pc = .ok (.if_icmp .eq off, 3)) (ht : (pc : Int) + off = (tgt : Int)) (k : gU p l e s m below meth c G b CE SL σ tgt lv st) : gU p l e s m below meth c G b CE SL σ pc lv (.int x :: .int x :: st) := by
  intro H locs ls hP hS hl
  exact lv_icmp_eq hC.1 hC.2.1 hd ht (fun _ => k H locs ls hP hS hl) (fun h => absurd rfl h)
theorem l_ifeq (hC : gLx p s m meth c G b L xs) {x : Int32} {off : Int} {tgt : Nat} (hx0 : x = 0) (hd : decode code pc = .ok (.ifCond .eq off, 3)) (ht : (pc : Int) + off = (tgt : Int)) (k : gU p l e s m below meth c G b CE SL σ tgt lv st) : gU p l e s m below meth c G b CE SL σ pc lv (.int x :: st) := by
  intro H locs ls hP hS hl
  exact lv_if_eq hC.1 hC.2.1 hd ht (fun _ => k H locs ls hP hS hl) (fun h => absurd hx0 h)
theorem l_gt (hC : gLx p s m meth c G b L xs) {x y : Int32} {off : Int} {tgt : Nat} (hd : decode code pc = .ok (.if_icmp .gt off, 3)) (ht : (pc : Int) + off = (tgt : Int)) (k1 : y < x → gU p l e s m below meth c G b CE SL σ tgt lv st) (k2 : ¬ y < x → gU p l e s m below meth c G b CE SL σ (pc + 3) lv st) : gU p l e s m below meth c G b CE SL σ pc lv (.int y :: .int x :: st) := by
  intro H locs ls hP hS hl
  exact lv_icmp_gt hC.1 hC.2.1 hd ht (fun h => k1 h H locs ls hP hS hl) (fun h => k2 h H locs ls hP hS hl)
theorem l_goto (hC : gLx p s m meth c G b L xs) {off : Int} {tgt : Nat} (hd : decode code pc = .ok (.goto off, 3)) (ht : (pc : Int) + off = (tgt : Int)) (k : gU p l e s m below meth c G b CE SL σ tgt lv st) : gU p l e s m below meth c G b CE SL σ pc lv st := by
  intro H locs ls hP hS hl
  exact lv_goto hC.1 hC.2.1 hd ht (k H locs ls hP hS hl)
theorem l_tabIn (hC : gLx p s m meth c G b L xs) {dflt lo hi : Int} {offs : Array Int} {len : Nat} {x v : Int32} {off : Int} {tgt : Nat} (hd : decode code pc = .ok (.tableswitch dflt lo hi offs, len)) (hx : x = v) (h1 : ¬ v.toInt < lo) (h2 : ¬ hi < v.toInt) (ho : offs[(v.toInt - lo).toNat]? = some off) (ht : (pc : Int) + off = (tgt : Int)) (k : gU p l e s m below meth c G b CE SL σ tgt lv st) : gU p l e s m below meth c G b CE SL σ pc lv (.int x :: st) := by
  intro H locs ls hP hS hl
  subst hx
  exact lv_tableIn hC.1 hC.2.1 hd h1 h2 ho ht (k H locs ls hP hS hl)
theorem l_tabOut (hC : gLx p s m meth c G b L xs) {dflt lo hi : Int} {offs : Array Int} {len : Nat} {x : Int32} {tgt : Nat} (hd : decode code pc = .ok (.tableswitch dflt lo hi offs, len)) (hx : x.toInt < lo ∨ hi < x.toInt) (ht : (pc : Int) + dflt = (tgt : Int)) (k : gU p l e s m below meth c G b CE SL σ tgt lv st) : gU p l e s m below meth c G b CE SL σ pc lv (.int x :: st) := by
  intro H locs ls hP hS hl
  exact lv_tableOut hC.1 hC.2.1 hd hx ht (k H locs ls hP hS hl)
theorem l_call (hC : gLx p s m meth c G b L xs) (hce : CE ≤ 600000) (hsl : SL ≤ 7302250) {β : Type} {ιb : β → Option Value} {f : Option (β × gS)} {r0 : β} {τ : gS} {rest st0 As : List Value} {C : String} {y : MethodName} {idx n mL ci kx N : Nat} {bytes : ByteArray} {rt : Option FieldType} {rm : Room} {F : u_T} {ty : Nat → FieldType} (hL : gLV RL idx C y bytes mL rt n) (hB : gCls ci C F N ty) (hkx : gk kx = ci)
    (hM : gM l G y bytes mL rt rm ιb (.ref (G.2.1 kx) :: As) σ f) (hf : f = some (r0, τ)) (hst : st0 = As.reverse ++ .ref (G.2.1 kx) :: rest) (hn : As.length = n) (hW : (rest.map fun v => v.category).sum ≤ 8) (hR : rm.cells = 0 ∧ rm.slots = 0 ∧ rm.frames + 1 ≤ room_1.frames ∧ 8 + (mL + 11) + rm.locals ≤ room_1.locals) (hd : decode code pc = .ok (.invokevirtual idx, 3))
    (k : gU p l e s m below meth c G b CE SL τ (pc + 3) lv ((ιb r0).toList ++ rest)) : gU p l e s m below meth c G b CE SL σ pc lv st0 := by
  intro H locs ls hP hS hl
  obtain ⟨hx, hb, hml, hown, hts, hJ, hK, hZ, hX, hbl, hfr, hr, hlk⟩ := hC
  obtain ⟨b1, b2, b3, b4, b5⟩ := hB
  obtain ⟨l1, l2, l3, l4, l5, rfl, l6⟩ := hL
  obtain ⟨r1, r2, r3, r4⟩ := hR
  have hA : ∀ q, gA G q → s.heap.size ≤ q := fun q hq => by obtain ⟨j, hj, rfl⟩ := hq; exact hfr j hj
  have hrun := va_runV (l := l) (e := e) (below := below) (meth := meth) (cells := CE) (slots := SL) (locs := locs) (g := F0 m pc ls st0) (As := As) (rest := rest) (R := room_1) ⟨hx, hb, hml, hown, hts⟩ (hM r0 τ hf) ⟨callB_of n hts (gBig_gi l5) rfl r1 r2 (hts _ l4) (hts _ l1) l6 ⟨r3, r4⟩, hts _ l2, hts _ l3⟩ ⟨gW_blind _ σ, va_recv hK hP b1 (gCs_obj hkx b5), fun U hU hW => ⟨rfl, hJ, by rw [hU]; exact hP, va_K.moved hW.alike hK, by
    rw [hU]
    exact (hZ.kept (fun a h1 _ => hS.2.1 a h1 (Nat.not_le.mpr h1))).warm hW⟩⟩ rfl hn hl.1 hst (lv_room hW) hd ⟨by show CE + 0 ≤ 600000; omega, by show SL + 0 ≤ 7302250; omega⟩
  intro T hT X
  obtain ⟨v, st₀, t, T', Lc, h0, X', hLc, e1, e2, ⟨hv, hp, hz, hk⟩, stp⟩ := hrun T hT X
  cases hv
  rw [h0] at hz hk
  obtain ⟨t2, a1, c1⟩ := k T'.heap (locs ++ Lc) ls (by rw [e1]; exact hp)
    ⟨Nat.le_trans hS.1 (by rw [e1]; exact hz), fun q h1 h2 => by rw [e1, hk q (Nat.lt_of_lt_of_le h1 hS.1) (fun z => h2 (hA q z))]; exact hS.2.1 q h1 h2, fun q hq => by
      rcases List.mem_append.mp hq with h | h
      · exact hS.2.2 q h
      · exact hA _ (hLc q h)⟩ hl T' rfl X'
  exact ⟨t2, stp t2 a1, c1⟩
end GL
theorem lgc_refl (x : Int64) : lg_cmp x x = 0 := by simp [lg_cmp]
theorem dL_law_16 : decode code 16 = .ok (.iconst 0, 1) := by decide +kernel
theorem dL_law_17 : decode code 17 = .ok (.istore_n 3, 1) := by decide +kernel
theorem dL_law_18 : decode code 18 = .ok (.iload_n 3, 1) := by decide +kernel
theorem dL_law_19 : decode code 19 = .ok (.aload_n 0, 1) := by decide +kernel
theorem dL_law_20 : decode code 20 = .ok (.arraylength, 1) := by decide +kernel
theorem dL_law_21 : decode code 21 = .ok (.bipush 6, 2) := by decide +kernel
theorem dL_law_23 : decode code 23 = .ok (.isub, 1) := by decide +kernel
theorem dL_law_24 : decode code 24 = .ok (.if_icmp .gt 1459, 3) := by decide +kernel
theorem dL_law_27 : decode code 27 = .ok (.aload_n 0, 1) := by decide +kernel
theorem dL_law_28 : decode code 28 = .ok (.iload_n 3, 1) := by decide +kernel
theorem dL_law_29 : decode code 29 = .ok (.iaload, 1) := by decide +kernel
theorem dL_law_30 : decode code 30 = .ok (.bipush 63, 2) := by decide +kernel
theorem dL_law_32 : decode code 32 = .ok (.iand, 1) := by decide +kernel
theorem dL_law_33 : decode code 33 = .ok (.tableswitch 1444 0 40 #[179, 202, 235, 278, 321, 354, 377, 390, 423, 466, 499, 522, 555, 578, 611, 634, 668, 701, 734, 757, 790, 823, 866, 919, 942, 965, 978, 1001, 1014, 1027, 1040, 1053, 1076, 1119, 1142, 1175, 1218, 1291, 1325, 1388, 1421], 179) := by decide +kernel
theorem dL_law_212 : decode code 212 = .ok (.aload_n 1, 1) := by decide +kernel
theorem dL_law_213 : decode code 213 = .ok (.aload_n 0, 1) := by decide +kernel
theorem dL_law_214 : decode code 214 = .ok (.iload_n 3, 1) := by decide +kernel
theorem dL_law_215 : decode code 215 = .ok (.iconst 1, 1) := by decide +kernel
theorem dL_law_216 : decode code 216 = .ok (.iadd, 1) := by decide +kernel
theorem dL_law_217 : decode code 217 = .ok (.iaload, 1) := by decide +kernel
theorem dL_law_218 : decode code 218 = .ok (.invokevirtual 13, 3) := by decide +kernel
theorem dL_law_221 : decode code 221 = .ok (.aload_n 2, 1) := by decide +kernel
theorem dL_law_222 : decode code 222 = .ok (.aload_n 0, 1) := by decide +kernel
theorem dL_law_223 : decode code 223 = .ok (.iload_n 3, 1) := by decide +kernel
theorem dL_law_224 : decode code 224 = .ok (.iconst 1, 1) := by decide +kernel
theorem dL_law_225 : decode code 225 = .ok (.iadd, 1) := by decide +kernel
theorem dL_law_226 : decode code 226 = .ok (.iaload, 1) := by decide +kernel
theorem dL_law_227 : decode code 227 = .ok (.invokevirtual 17, 3) := by decide +kernel
theorem dL_law_230 : decode code 230 = .ok (.if_icmp .eq 1247, 3) := by decide +kernel
theorem dL_law_233 : decode code 233 = .ok (.iconst 0, 1) := by decide +kernel
theorem dL_law_234 : decode code 234 = .ok (.ireturn, 1) := by decide +kernel
theorem dL_law_235 : decode code 235 = .ok (.aload_n 1, 1) := by decide +kernel
theorem dL_law_236 : decode code 236 = .ok (.aload_n 0, 1) := by decide +kernel
theorem dL_law_237 : decode code 237 = .ok (.iload_n 3, 1) := by decide +kernel
theorem dL_law_238 : decode code 238 = .ok (.iconst 1, 1) := by decide +kernel
theorem dL_law_239 : decode code 239 = .ok (.iadd, 1) := by decide +kernel
theorem dL_law_240 : decode code 240 = .ok (.iaload, 1) := by decide +kernel
theorem dL_law_241 : decode code 241 = .ok (.aload_n 0, 1) := by decide +kernel
theorem dL_law_242 : decode code 242 = .ok (.iload_n 3, 1) := by decide +kernel
theorem dL_law_243 : decode code 243 = .ok (.iconst 2, 1) := by decide +kernel
theorem dL_law_244 : decode code 244 = .ok (.iadd, 1) := by decide +kernel
theorem dL_law_245 : decode code 245 = .ok (.iaload, 1) := by decide +kernel
theorem dL_law_246 : decode code 246 = .ok (.invokevirtual 18, 3) := by decide +kernel
theorem dL_law_249 : decode code 249 = .ok (.aload_n 2, 1) := by decide +kernel
theorem dL_law_250 : decode code 250 = .ok (.aload_n 0, 1) := by decide +kernel
theorem dL_law_251 : decode code 251 = .ok (.iload_n 3, 1) := by decide +kernel
theorem dL_law_252 : decode code 252 = .ok (.iconst 1, 1) := by decide +kernel
theorem dL_law_253 : decode code 253 = .ok (.iadd, 1) := by decide +kernel
theorem dL_law_254 : decode code 254 = .ok (.iaload, 1) := by decide +kernel
theorem dL_law_255 : decode code 255 = .ok (.aload_n 0, 1) := by decide +kernel
theorem dL_law_256 : decode code 256 = .ok (.iload_n 3, 1) := by decide +kernel
theorem dL_law_257 : decode code 257 = .ok (.iconst 2, 1) := by decide +kernel
theorem dL_law_258 : decode code 258 = .ok (.iadd, 1) := by decide +kernel
theorem dL_law_259 : decode code 259 = .ok (.iaload, 1) := by decide +kernel
theorem dL_law_260 : decode code 260 = .ok (.invokevirtual 22, 3) := by decide +kernel
theorem dL_law_263 : decode code 263 = .ok (.if_icmp .eq 1214, 3) := by decide +kernel
theorem dL_law_266 : decode code 266 = .ok (.iconst 0, 1) := by decide +kernel
theorem dL_law_267 : decode code 267 = .ok (.ireturn, 1) := by decide +kernel
theorem dL_law_268 : decode code 268 = .ok (.aload_n 1, 1) := by decide +kernel
theorem dL_law_269 : decode code 269 = .ok (.aload_n 0, 1) := by decide +kernel
theorem dL_law_270 : decode code 270 = .ok (.iload_n 3, 1) := by decide +kernel
theorem dL_law_271 : decode code 271 = .ok (.iconst 1, 1) := by decide +kernel
theorem dL_law_272 : decode code 272 = .ok (.iadd, 1) := by decide +kernel
theorem dL_law_273 : decode code 273 = .ok (.iaload, 1) := by decide +kernel
theorem dL_law_274 : decode code 274 = .ok (.aload_n 0, 1) := by decide +kernel
theorem dL_law_275 : decode code 275 = .ok (.iload_n 3, 1) := by decide +kernel
theorem dL_law_276 : decode code 276 = .ok (.iconst 2, 1) := by decide +kernel
theorem dL_law_277 : decode code 277 = .ok (.iadd, 1) := by decide +kernel
theorem dL_law_278 : decode code 278 = .ok (.iaload, 1) := by decide +kernel
theorem dL_law_279 : decode code 279 = .ok (.aload_n 0, 1) := by decide +kernel
theorem dL_law_280 : decode code 280 = .ok (.iload_n 3, 1) := by decide +kernel
theorem dL_law_281 : decode code 281 = .ok (.iconst 3, 1) := by decide +kernel
theorem dL_law_282 : decode code 282 = .ok (.iadd, 1) := by decide +kernel
theorem dL_law_283 : decode code 283 = .ok (.iaload, 1) := by decide +kernel
theorem dL_law_284 : decode code 284 = .ok (.invokevirtual 23, 3) := by decide +kernel
theorem dL_law_287 : decode code 287 = .ok (.aload_n 2, 1) := by decide +kernel
theorem dL_law_288 : decode code 288 = .ok (.aload_n 0, 1) := by decide +kernel
theorem dL_law_289 : decode code 289 = .ok (.iload_n 3, 1) := by decide +kernel
theorem dL_law_290 : decode code 290 = .ok (.iconst 1, 1) := by decide +kernel
theorem dL_law_291 : decode code 291 = .ok (.iadd, 1) := by decide +kernel
theorem dL_law_292 : decode code 292 = .ok (.iaload, 1) := by decide +kernel
theorem dL_law_293 : decode code 293 = .ok (.aload_n 0, 1) := by decide +kernel
theorem dL_law_294 : decode code 294 = .ok (.iload_n 3, 1) := by decide +kernel
theorem dL_law_295 : decode code 295 = .ok (.iconst 2, 1) := by decide +kernel
theorem dL_law_296 : decode code 296 = .ok (.iadd, 1) := by decide +kernel
theorem dL_law_297 : decode code 297 = .ok (.iaload, 1) := by decide +kernel
theorem dL_law_298 : decode code 298 = .ok (.aload_n 0, 1) := by decide +kernel
theorem dL_law_299 : decode code 299 = .ok (.iload_n 3, 1) := by decide +kernel
theorem dL_law_300 : decode code 300 = .ok (.iconst 3, 1) := by decide +kernel
theorem dL_law_301 : decode code 301 = .ok (.iadd, 1) := by decide +kernel
theorem dL_law_302 : decode code 302 = .ok (.iaload, 1) := by decide +kernel
theorem dL_law_303 : decode code 303 = .ok (.invokevirtual 27, 3) := by decide +kernel
theorem dL_law_306 : decode code 306 = .ok (.if_icmp .eq 1171, 3) := by decide +kernel
theorem dL_law_309 : decode code 309 = .ok (.iconst 0, 1) := by decide +kernel
theorem dL_law_310 : decode code 310 = .ok (.ireturn, 1) := by decide +kernel
theorem dL_law_311 : decode code 311 = .ok (.aload_n 1, 1) := by decide +kernel
theorem dL_law_312 : decode code 312 = .ok (.aload_n 0, 1) := by decide +kernel
theorem dL_law_313 : decode code 313 = .ok (.iload_n 3, 1) := by decide +kernel
theorem dL_law_314 : decode code 314 = .ok (.iconst 1, 1) := by decide +kernel
theorem dL_law_315 : decode code 315 = .ok (.iadd, 1) := by decide +kernel
theorem dL_law_316 : decode code 316 = .ok (.iaload, 1) := by decide +kernel
theorem dL_law_317 : decode code 317 = .ok (.aload_n 0, 1) := by decide +kernel
theorem dL_law_318 : decode code 318 = .ok (.iload_n 3, 1) := by decide +kernel
theorem dL_law_319 : decode code 319 = .ok (.iconst 2, 1) := by decide +kernel
theorem dL_law_320 : decode code 320 = .ok (.iadd, 1) := by decide +kernel
theorem dL_law_321 : decode code 321 = .ok (.iaload, 1) := by decide +kernel
theorem dL_law_322 : decode code 322 = .ok (.aload_n 0, 1) := by decide +kernel
theorem dL_law_323 : decode code 323 = .ok (.iload_n 3, 1) := by decide +kernel
theorem dL_law_324 : decode code 324 = .ok (.iconst 3, 1) := by decide +kernel
theorem dL_law_325 : decode code 325 = .ok (.iadd, 1) := by decide +kernel
theorem dL_law_326 : decode code 326 = .ok (.iaload, 1) := by decide +kernel
theorem dL_law_327 : decode code 327 = .ok (.invokevirtual 28, 3) := by decide +kernel
theorem dL_law_330 : decode code 330 = .ok (.aload_n 2, 1) := by decide +kernel
theorem dL_law_331 : decode code 331 = .ok (.aload_n 0, 1) := by decide +kernel
theorem dL_law_332 : decode code 332 = .ok (.iload_n 3, 1) := by decide +kernel
theorem dL_law_333 : decode code 333 = .ok (.iconst 1, 1) := by decide +kernel
theorem dL_law_334 : decode code 334 = .ok (.iadd, 1) := by decide +kernel
theorem dL_law_335 : decode code 335 = .ok (.iaload, 1) := by decide +kernel
theorem dL_law_336 : decode code 336 = .ok (.aload_n 0, 1) := by decide +kernel
theorem dL_law_337 : decode code 337 = .ok (.iload_n 3, 1) := by decide +kernel
theorem dL_law_338 : decode code 338 = .ok (.iconst 2, 1) := by decide +kernel
theorem dL_law_339 : decode code 339 = .ok (.iadd, 1) := by decide +kernel
theorem dL_law_340 : decode code 340 = .ok (.iaload, 1) := by decide +kernel
theorem dL_law_341 : decode code 341 = .ok (.aload_n 0, 1) := by decide +kernel
theorem dL_law_342 : decode code 342 = .ok (.iload_n 3, 1) := by decide +kernel
theorem dL_law_343 : decode code 343 = .ok (.iconst 3, 1) := by decide +kernel
theorem dL_law_344 : decode code 344 = .ok (.iadd, 1) := by decide +kernel
theorem dL_law_345 : decode code 345 = .ok (.iaload, 1) := by decide +kernel
theorem dL_law_346 : decode code 346 = .ok (.invokevirtual 31, 3) := by decide +kernel
theorem dL_law_349 : decode code 349 = .ok (.if_icmp .eq 1128, 3) := by decide +kernel
theorem dL_law_352 : decode code 352 = .ok (.iconst 0, 1) := by decide +kernel
theorem dL_law_353 : decode code 353 = .ok (.ireturn, 1) := by decide +kernel
theorem dL_law_354 : decode code 354 = .ok (.aload_n 1, 1) := by decide +kernel
theorem dL_law_355 : decode code 355 = .ok (.aload_n 0, 1) := by decide +kernel
theorem dL_law_356 : decode code 356 = .ok (.iload_n 3, 1) := by decide +kernel
theorem dL_law_357 : decode code 357 = .ok (.iconst 1, 1) := by decide +kernel
theorem dL_law_358 : decode code 358 = .ok (.iadd, 1) := by decide +kernel
theorem dL_law_359 : decode code 359 = .ok (.iaload, 1) := by decide +kernel
theorem dL_law_360 : decode code 360 = .ok (.aload_n 0, 1) := by decide +kernel
theorem dL_law_361 : decode code 361 = .ok (.iload_n 3, 1) := by decide +kernel
theorem dL_law_362 : decode code 362 = .ok (.iconst 2, 1) := by decide +kernel
theorem dL_law_363 : decode code 363 = .ok (.iadd, 1) := by decide +kernel
theorem dL_law_364 : decode code 364 = .ok (.iaload, 1) := by decide +kernel
theorem dL_law_365 : decode code 365 = .ok (.invokevirtual 32, 3) := by decide +kernel
theorem dL_law_368 : decode code 368 = .ok (.aload_n 2, 1) := by decide +kernel
theorem dL_law_369 : decode code 369 = .ok (.aload_n 0, 1) := by decide +kernel
theorem dL_law_370 : decode code 370 = .ok (.iload_n 3, 1) := by decide +kernel
theorem dL_law_371 : decode code 371 = .ok (.iconst 1, 1) := by decide +kernel
theorem dL_law_372 : decode code 372 = .ok (.iadd, 1) := by decide +kernel
theorem dL_law_373 : decode code 373 = .ok (.iaload, 1) := by decide +kernel
theorem dL_law_374 : decode code 374 = .ok (.aload_n 0, 1) := by decide +kernel
theorem dL_law_375 : decode code 375 = .ok (.iload_n 3, 1) := by decide +kernel
theorem dL_law_376 : decode code 376 = .ok (.iconst 2, 1) := by decide +kernel
theorem dL_law_377 : decode code 377 = .ok (.iadd, 1) := by decide +kernel
theorem dL_law_378 : decode code 378 = .ok (.iaload, 1) := by decide +kernel
theorem dL_law_379 : decode code 379 = .ok (.invokevirtual 35, 3) := by decide +kernel
theorem dL_law_382 : decode code 382 = .ok (.if_icmp .eq 1095, 3) := by decide +kernel
theorem dL_law_385 : decode code 385 = .ok (.iconst 0, 1) := by decide +kernel
theorem dL_law_386 : decode code 386 = .ok (.ireturn, 1) := by decide +kernel
theorem dL_law_387 : decode code 387 = .ok (.aload_n 1, 1) := by decide +kernel
theorem dL_law_388 : decode code 388 = .ok (.aload_n 0, 1) := by decide +kernel
theorem dL_law_389 : decode code 389 = .ok (.iload_n 3, 1) := by decide +kernel
theorem dL_law_390 : decode code 390 = .ok (.iconst 1, 1) := by decide +kernel
theorem dL_law_391 : decode code 391 = .ok (.iadd, 1) := by decide +kernel
theorem dL_law_392 : decode code 392 = .ok (.iaload, 1) := by decide +kernel
theorem dL_law_393 : decode code 393 = .ok (.invokevirtual 36, 3) := by decide +kernel
theorem dL_law_396 : decode code 396 = .ok (.aload_n 2, 1) := by decide +kernel
theorem dL_law_397 : decode code 397 = .ok (.aload_n 0, 1) := by decide +kernel
theorem dL_law_398 : decode code 398 = .ok (.iload_n 3, 1) := by decide +kernel
theorem dL_law_399 : decode code 399 = .ok (.iconst 1, 1) := by decide +kernel
theorem dL_law_400 : decode code 400 = .ok (.iadd, 1) := by decide +kernel
theorem dL_law_401 : decode code 401 = .ok (.iaload, 1) := by decide +kernel
theorem dL_law_402 : decode code 402 = .ok (.invokevirtual 39, 3) := by decide +kernel
theorem dL_law_405 : decode code 405 = .ok (.if_icmp .eq 1072, 3) := by decide +kernel
theorem dL_law_408 : decode code 408 = .ok (.iconst 0, 1) := by decide +kernel
theorem dL_law_409 : decode code 409 = .ok (.ireturn, 1) := by decide +kernel
theorem dL_law_410 : decode code 410 = .ok (.aload_n 1, 1) := by decide +kernel
theorem dL_law_411 : decode code 411 = .ok (.invokevirtual 40, 3) := by decide +kernel
theorem dL_law_414 : decode code 414 = .ok (.aload_n 2, 1) := by decide +kernel
theorem dL_law_415 : decode code 415 = .ok (.invokevirtual 44, 3) := by decide +kernel
theorem dL_law_418 : decode code 418 = .ok (.if_icmp .eq 1059, 3) := by decide +kernel
theorem dL_law_421 : decode code 421 = .ok (.iconst 0, 1) := by decide +kernel
theorem dL_law_422 : decode code 422 = .ok (.ireturn, 1) := by decide +kernel
theorem dL_law_423 : decode code 423 = .ok (.aload_n 1, 1) := by decide +kernel
theorem dL_law_424 : decode code 424 = .ok (.aload_n 0, 1) := by decide +kernel
theorem dL_law_425 : decode code 425 = .ok (.iload_n 3, 1) := by decide +kernel
theorem dL_law_426 : decode code 426 = .ok (.iconst 1, 1) := by decide +kernel
theorem dL_law_427 : decode code 427 = .ok (.iadd, 1) := by decide +kernel
theorem dL_law_428 : decode code 428 = .ok (.iaload, 1) := by decide +kernel
theorem dL_law_429 : decode code 429 = .ok (.aload_n 0, 1) := by decide +kernel
theorem dL_law_430 : decode code 430 = .ok (.iload_n 3, 1) := by decide +kernel
theorem dL_law_431 : decode code 431 = .ok (.iconst 2, 1) := by decide +kernel
theorem dL_law_432 : decode code 432 = .ok (.iadd, 1) := by decide +kernel
theorem dL_law_433 : decode code 433 = .ok (.iaload, 1) := by decide +kernel
theorem dL_law_434 : decode code 434 = .ok (.invokevirtual 45, 3) := by decide +kernel
theorem dL_law_437 : decode code 437 = .ok (.aload_n 2, 1) := by decide +kernel
theorem dL_law_438 : decode code 438 = .ok (.aload_n 0, 1) := by decide +kernel
theorem dL_law_439 : decode code 439 = .ok (.iload_n 3, 1) := by decide +kernel
theorem dL_law_440 : decode code 440 = .ok (.iconst 1, 1) := by decide +kernel
theorem dL_law_441 : decode code 441 = .ok (.iadd, 1) := by decide +kernel
theorem dL_law_442 : decode code 442 = .ok (.iaload, 1) := by decide +kernel
theorem dL_law_443 : decode code 443 = .ok (.aload_n 0, 1) := by decide +kernel
theorem dL_law_444 : decode code 444 = .ok (.iload_n 3, 1) := by decide +kernel
theorem dL_law_445 : decode code 445 = .ok (.iconst 2, 1) := by decide +kernel
theorem dL_law_446 : decode code 446 = .ok (.iadd, 1) := by decide +kernel
theorem dL_law_447 : decode code 447 = .ok (.iaload, 1) := by decide +kernel
theorem dL_law_448 : decode code 448 = .ok (.invokevirtual 48, 3) := by decide +kernel
theorem dL_law_451 : decode code 451 = .ok (.if_icmp .eq 1026, 3) := by decide +kernel
theorem dL_law_454 : decode code 454 = .ok (.iconst 0, 1) := by decide +kernel
theorem dL_law_455 : decode code 455 = .ok (.ireturn, 1) := by decide +kernel
theorem dL_law_456 : decode code 456 = .ok (.aload_n 1, 1) := by decide +kernel
theorem dL_law_457 : decode code 457 = .ok (.aload_n 0, 1) := by decide +kernel
theorem dL_law_458 : decode code 458 = .ok (.iload_n 3, 1) := by decide +kernel
theorem dL_law_459 : decode code 459 = .ok (.iconst 1, 1) := by decide +kernel
theorem dL_law_460 : decode code 460 = .ok (.iadd, 1) := by decide +kernel
theorem dL_law_461 : decode code 461 = .ok (.iaload, 1) := by decide +kernel
theorem dL_law_462 : decode code 462 = .ok (.aload_n 0, 1) := by decide +kernel
theorem dL_law_463 : decode code 463 = .ok (.iload_n 3, 1) := by decide +kernel
theorem dL_law_464 : decode code 464 = .ok (.iconst 2, 1) := by decide +kernel
theorem dL_law_465 : decode code 465 = .ok (.iadd, 1) := by decide +kernel
theorem dL_law_466 : decode code 466 = .ok (.iaload, 1) := by decide +kernel
theorem dL_law_467 : decode code 467 = .ok (.aload_n 0, 1) := by decide +kernel
theorem dL_law_468 : decode code 468 = .ok (.iload_n 3, 1) := by decide +kernel
theorem dL_law_469 : decode code 469 = .ok (.iconst 3, 1) := by decide +kernel
theorem dL_law_470 : decode code 470 = .ok (.iadd, 1) := by decide +kernel
theorem dL_law_471 : decode code 471 = .ok (.iaload, 1) := by decide +kernel
theorem dL_law_472 : decode code 472 = .ok (.invokevirtual 49, 3) := by decide +kernel
theorem dL_law_475 : decode code 475 = .ok (.aload_n 2, 1) := by decide +kernel
theorem dL_law_476 : decode code 476 = .ok (.aload_n 0, 1) := by decide +kernel
theorem dL_law_477 : decode code 477 = .ok (.iload_n 3, 1) := by decide +kernel
theorem dL_law_478 : decode code 478 = .ok (.iconst 1, 1) := by decide +kernel
theorem dL_law_479 : decode code 479 = .ok (.iadd, 1) := by decide +kernel
theorem dL_law_480 : decode code 480 = .ok (.iaload, 1) := by decide +kernel
theorem dL_law_481 : decode code 481 = .ok (.aload_n 0, 1) := by decide +kernel
theorem dL_law_482 : decode code 482 = .ok (.iload_n 3, 1) := by decide +kernel
theorem dL_law_483 : decode code 483 = .ok (.iconst 2, 1) := by decide +kernel
theorem dL_law_484 : decode code 484 = .ok (.iadd, 1) := by decide +kernel
theorem dL_law_485 : decode code 485 = .ok (.iaload, 1) := by decide +kernel
theorem dL_law_486 : decode code 486 = .ok (.aload_n 0, 1) := by decide +kernel
theorem dL_law_487 : decode code 487 = .ok (.iload_n 3, 1) := by decide +kernel
theorem dL_law_488 : decode code 488 = .ok (.iconst 3, 1) := by decide +kernel
theorem dL_law_489 : decode code 489 = .ok (.iadd, 1) := by decide +kernel
theorem dL_law_490 : decode code 490 = .ok (.iaload, 1) := by decide +kernel
theorem dL_law_491 : decode code 491 = .ok (.invokevirtual 52, 3) := by decide +kernel
theorem dL_law_494 : decode code 494 = .ok (.if_icmp .eq 983, 3) := by decide +kernel
theorem dL_law_497 : decode code 497 = .ok (.iconst 0, 1) := by decide +kernel
theorem dL_law_498 : decode code 498 = .ok (.ireturn, 1) := by decide +kernel
theorem dL_law_499 : decode code 499 = .ok (.aload_n 1, 1) := by decide +kernel
theorem dL_law_500 : decode code 500 = .ok (.aload_n 0, 1) := by decide +kernel
theorem dL_law_501 : decode code 501 = .ok (.iload_n 3, 1) := by decide +kernel
theorem dL_law_502 : decode code 502 = .ok (.iconst 1, 1) := by decide +kernel
theorem dL_law_503 : decode code 503 = .ok (.iadd, 1) := by decide +kernel
theorem dL_law_504 : decode code 504 = .ok (.iaload, 1) := by decide +kernel
theorem dL_law_505 : decode code 505 = .ok (.aload_n 0, 1) := by decide +kernel
theorem dL_law_506 : decode code 506 = .ok (.iload_n 3, 1) := by decide +kernel
theorem dL_law_507 : decode code 507 = .ok (.iconst 2, 1) := by decide +kernel
theorem dL_law_508 : decode code 508 = .ok (.iadd, 1) := by decide +kernel
theorem dL_law_509 : decode code 509 = .ok (.iaload, 1) := by decide +kernel
theorem dL_law_510 : decode code 510 = .ok (.invokevirtual 53, 3) := by decide +kernel
theorem dL_law_513 : decode code 513 = .ok (.aload_n 2, 1) := by decide +kernel
theorem dL_law_514 : decode code 514 = .ok (.aload_n 0, 1) := by decide +kernel
theorem dL_law_515 : decode code 515 = .ok (.iload_n 3, 1) := by decide +kernel
theorem dL_law_516 : decode code 516 = .ok (.iconst 1, 1) := by decide +kernel
theorem dL_law_517 : decode code 517 = .ok (.iadd, 1) := by decide +kernel
theorem dL_law_518 : decode code 518 = .ok (.iaload, 1) := by decide +kernel
theorem dL_law_519 : decode code 519 = .ok (.aload_n 0, 1) := by decide +kernel
theorem dL_law_520 : decode code 520 = .ok (.iload_n 3, 1) := by decide +kernel
theorem dL_law_521 : decode code 521 = .ok (.iconst 2, 1) := by decide +kernel
theorem dL_law_522 : decode code 522 = .ok (.iadd, 1) := by decide +kernel
theorem dL_law_523 : decode code 523 = .ok (.iaload, 1) := by decide +kernel
theorem dL_law_524 : decode code 524 = .ok (.invokevirtual 56, 3) := by decide +kernel
theorem dL_law_527 : decode code 527 = .ok (.if_icmp .eq 950, 3) := by decide +kernel
theorem dL_law_530 : decode code 530 = .ok (.iconst 0, 1) := by decide +kernel
theorem dL_law_531 : decode code 531 = .ok (.ireturn, 1) := by decide +kernel
theorem dL_law_532 : decode code 532 = .ok (.aload_n 1, 1) := by decide +kernel
theorem dL_law_533 : decode code 533 = .ok (.aload_n 0, 1) := by decide +kernel
theorem dL_law_534 : decode code 534 = .ok (.iload_n 3, 1) := by decide +kernel
theorem dL_law_535 : decode code 535 = .ok (.iconst 1, 1) := by decide +kernel
theorem dL_law_536 : decode code 536 = .ok (.iadd, 1) := by decide +kernel
theorem dL_law_537 : decode code 537 = .ok (.iaload, 1) := by decide +kernel
theorem dL_law_538 : decode code 538 = .ok (.invokevirtual 57, 3) := by decide +kernel
theorem dL_law_541 : decode code 541 = .ok (.aload_n 2, 1) := by decide +kernel
theorem dL_law_542 : decode code 542 = .ok (.aload_n 0, 1) := by decide +kernel
theorem dL_law_543 : decode code 543 = .ok (.iload_n 3, 1) := by decide +kernel
theorem dL_law_544 : decode code 544 = .ok (.iconst 1, 1) := by decide +kernel
theorem dL_law_545 : decode code 545 = .ok (.iadd, 1) := by decide +kernel
theorem dL_law_546 : decode code 546 = .ok (.iaload, 1) := by decide +kernel
theorem dL_law_547 : decode code 547 = .ok (.invokevirtual 60, 3) := by decide +kernel
theorem dL_law_550 : decode code 550 = .ok (.if_icmp .eq 927, 3) := by decide +kernel
theorem dL_law_553 : decode code 553 = .ok (.iconst 0, 1) := by decide +kernel
theorem dL_law_554 : decode code 554 = .ok (.ireturn, 1) := by decide +kernel
theorem dL_law_555 : decode code 555 = .ok (.aload_n 1, 1) := by decide +kernel
theorem dL_law_556 : decode code 556 = .ok (.aload_n 0, 1) := by decide +kernel
theorem dL_law_557 : decode code 557 = .ok (.iload_n 3, 1) := by decide +kernel
theorem dL_law_558 : decode code 558 = .ok (.iconst 1, 1) := by decide +kernel
theorem dL_law_559 : decode code 559 = .ok (.iadd, 1) := by decide +kernel
theorem dL_law_560 : decode code 560 = .ok (.iaload, 1) := by decide +kernel
theorem dL_law_561 : decode code 561 = .ok (.aload_n 0, 1) := by decide +kernel
theorem dL_law_562 : decode code 562 = .ok (.iload_n 3, 1) := by decide +kernel
theorem dL_law_563 : decode code 563 = .ok (.iconst 2, 1) := by decide +kernel
theorem dL_law_564 : decode code 564 = .ok (.iadd, 1) := by decide +kernel
theorem dL_law_565 : decode code 565 = .ok (.iaload, 1) := by decide +kernel
theorem dL_law_566 : decode code 566 = .ok (.invokevirtual 61, 3) := by decide +kernel
theorem dL_law_569 : decode code 569 = .ok (.aload_n 2, 1) := by decide +kernel
theorem dL_law_570 : decode code 570 = .ok (.aload_n 0, 1) := by decide +kernel
theorem dL_law_571 : decode code 571 = .ok (.iload_n 3, 1) := by decide +kernel
theorem dL_law_572 : decode code 572 = .ok (.iconst 1, 1) := by decide +kernel
theorem dL_law_573 : decode code 573 = .ok (.iadd, 1) := by decide +kernel
theorem dL_law_574 : decode code 574 = .ok (.iaload, 1) := by decide +kernel
theorem dL_law_575 : decode code 575 = .ok (.aload_n 0, 1) := by decide +kernel
theorem dL_law_576 : decode code 576 = .ok (.iload_n 3, 1) := by decide +kernel
theorem dL_law_577 : decode code 577 = .ok (.iconst 2, 1) := by decide +kernel
theorem dL_law_578 : decode code 578 = .ok (.iadd, 1) := by decide +kernel
theorem dL_law_579 : decode code 579 = .ok (.iaload, 1) := by decide +kernel
theorem dL_law_580 : decode code 580 = .ok (.invokevirtual 64, 3) := by decide +kernel
theorem dL_law_583 : decode code 583 = .ok (.if_icmp .eq 894, 3) := by decide +kernel
theorem dL_law_586 : decode code 586 = .ok (.iconst 0, 1) := by decide +kernel
theorem dL_law_587 : decode code 587 = .ok (.ireturn, 1) := by decide +kernel
theorem dL_law_588 : decode code 588 = .ok (.aload_n 1, 1) := by decide +kernel
theorem dL_law_589 : decode code 589 = .ok (.aload_n 0, 1) := by decide +kernel
theorem dL_law_590 : decode code 590 = .ok (.iload_n 3, 1) := by decide +kernel
theorem dL_law_591 : decode code 591 = .ok (.iconst 1, 1) := by decide +kernel
theorem dL_law_592 : decode code 592 = .ok (.iadd, 1) := by decide +kernel
theorem dL_law_593 : decode code 593 = .ok (.iaload, 1) := by decide +kernel
theorem dL_law_594 : decode code 594 = .ok (.invokevirtual 65, 3) := by decide +kernel
theorem dL_law_597 : decode code 597 = .ok (.aload_n 2, 1) := by decide +kernel
theorem dL_law_598 : decode code 598 = .ok (.aload_n 0, 1) := by decide +kernel
theorem dL_law_599 : decode code 599 = .ok (.iload_n 3, 1) := by decide +kernel
theorem dL_law_600 : decode code 600 = .ok (.iconst 1, 1) := by decide +kernel
theorem dL_law_601 : decode code 601 = .ok (.iadd, 1) := by decide +kernel
theorem dL_law_602 : decode code 602 = .ok (.iaload, 1) := by decide +kernel
theorem dL_law_603 : decode code 603 = .ok (.invokevirtual 68, 3) := by decide +kernel
theorem dL_law_606 : decode code 606 = .ok (.if_icmp .eq 871, 3) := by decide +kernel
theorem dL_law_609 : decode code 609 = .ok (.iconst 0, 1) := by decide +kernel
theorem dL_law_610 : decode code 610 = .ok (.ireturn, 1) := by decide +kernel
theorem dL_law_611 : decode code 611 = .ok (.aload_n 1, 1) := by decide +kernel
theorem dL_law_612 : decode code 612 = .ok (.aload_n 0, 1) := by decide +kernel
theorem dL_law_613 : decode code 613 = .ok (.iload_n 3, 1) := by decide +kernel
theorem dL_law_614 : decode code 614 = .ok (.iconst 1, 1) := by decide +kernel
theorem dL_law_615 : decode code 615 = .ok (.iadd, 1) := by decide +kernel
theorem dL_law_616 : decode code 616 = .ok (.iaload, 1) := by decide +kernel
theorem dL_law_617 : decode code 617 = .ok (.aload_n 0, 1) := by decide +kernel
theorem dL_law_618 : decode code 618 = .ok (.iload_n 3, 1) := by decide +kernel
theorem dL_law_619 : decode code 619 = .ok (.iconst 2, 1) := by decide +kernel
theorem dL_law_620 : decode code 620 = .ok (.iadd, 1) := by decide +kernel
theorem dL_law_621 : decode code 621 = .ok (.iaload, 1) := by decide +kernel
theorem dL_law_622 : decode code 622 = .ok (.invokevirtual 69, 3) := by decide +kernel
theorem dL_law_625 : decode code 625 = .ok (.aload_n 2, 1) := by decide +kernel
theorem dL_law_626 : decode code 626 = .ok (.aload_n 0, 1) := by decide +kernel
theorem dL_law_627 : decode code 627 = .ok (.iload_n 3, 1) := by decide +kernel
theorem dL_law_628 : decode code 628 = .ok (.iconst 1, 1) := by decide +kernel
theorem dL_law_629 : decode code 629 = .ok (.iadd, 1) := by decide +kernel
theorem dL_law_630 : decode code 630 = .ok (.iaload, 1) := by decide +kernel
theorem dL_law_631 : decode code 631 = .ok (.aload_n 0, 1) := by decide +kernel
theorem dL_law_632 : decode code 632 = .ok (.iload_n 3, 1) := by decide +kernel
theorem dL_law_633 : decode code 633 = .ok (.iconst 2, 1) := by decide +kernel
theorem dL_law_634 : decode code 634 = .ok (.iadd, 1) := by decide +kernel
theorem dL_law_635 : decode code 635 = .ok (.iaload, 1) := by decide +kernel
theorem dL_law_636 : decode code 636 = .ok (.invokevirtual 72, 3) := by decide +kernel
theorem dL_law_639 : decode code 639 = .ok (.if_icmp .eq 838, 3) := by decide +kernel
theorem dL_law_642 : decode code 642 = .ok (.iconst 0, 1) := by decide +kernel
theorem dL_law_643 : decode code 643 = .ok (.ireturn, 1) := by decide +kernel
theorem dL_law_644 : decode code 644 = .ok (.aload_n 1, 1) := by decide +kernel
theorem dL_law_645 : decode code 645 = .ok (.aload_n 0, 1) := by decide +kernel
theorem dL_law_646 : decode code 646 = .ok (.iload_n 3, 1) := by decide +kernel
theorem dL_law_647 : decode code 647 = .ok (.iconst 1, 1) := by decide +kernel
theorem dL_law_648 : decode code 648 = .ok (.iadd, 1) := by decide +kernel
theorem dL_law_649 : decode code 649 = .ok (.iaload, 1) := by decide +kernel
theorem dL_law_650 : decode code 650 = .ok (.invokevirtual 73, 3) := by decide +kernel
theorem dL_law_653 : decode code 653 = .ok (.aload_n 2, 1) := by decide +kernel
theorem dL_law_654 : decode code 654 = .ok (.aload_n 0, 1) := by decide +kernel
theorem dL_law_655 : decode code 655 = .ok (.iload_n 3, 1) := by decide +kernel
theorem dL_law_656 : decode code 656 = .ok (.iconst 1, 1) := by decide +kernel
theorem dL_law_657 : decode code 657 = .ok (.iadd, 1) := by decide +kernel
theorem dL_law_658 : decode code 658 = .ok (.iaload, 1) := by decide +kernel
theorem dL_law_659 : decode code 659 = .ok (.invokevirtual 76, 3) := by decide +kernel
theorem dL_law_662 : decode code 662 = .ok (.if_icmp .eq 815, 3) := by decide +kernel
theorem dL_law_665 : decode code 665 = .ok (.iconst 0, 1) := by decide +kernel
theorem dL_law_666 : decode code 666 = .ok (.ireturn, 1) := by decide +kernel
theorem dL_law_667 : decode code 667 = .ok (.aload_n 1, 1) := by decide +kernel
theorem dL_law_668 : decode code 668 = .ok (.aload_n 0, 1) := by decide +kernel
theorem dL_law_669 : decode code 669 = .ok (.iload_n 3, 1) := by decide +kernel
theorem dL_law_670 : decode code 670 = .ok (.iconst 1, 1) := by decide +kernel
theorem dL_law_671 : decode code 671 = .ok (.iadd, 1) := by decide +kernel
theorem dL_law_672 : decode code 672 = .ok (.iaload, 1) := by decide +kernel
theorem dL_law_673 : decode code 673 = .ok (.aload_n 0, 1) := by decide +kernel
theorem dL_law_674 : decode code 674 = .ok (.iload_n 3, 1) := by decide +kernel
theorem dL_law_675 : decode code 675 = .ok (.iconst 2, 1) := by decide +kernel
theorem dL_law_676 : decode code 676 = .ok (.iadd, 1) := by decide +kernel
theorem dL_law_677 : decode code 677 = .ok (.iaload, 1) := by decide +kernel
theorem dL_law_678 : decode code 678 = .ok (.invokevirtual 77, 3) := by decide +kernel
theorem dL_law_681 : decode code 681 = .ok (.aload_n 2, 1) := by decide +kernel
theorem dL_law_682 : decode code 682 = .ok (.aload_n 0, 1) := by decide +kernel
theorem dL_law_683 : decode code 683 = .ok (.iload_n 3, 1) := by decide +kernel
theorem dL_law_684 : decode code 684 = .ok (.iconst 1, 1) := by decide +kernel
theorem dL_law_685 : decode code 685 = .ok (.iadd, 1) := by decide +kernel
theorem dL_law_686 : decode code 686 = .ok (.iaload, 1) := by decide +kernel
theorem dL_law_687 : decode code 687 = .ok (.aload_n 0, 1) := by decide +kernel
theorem dL_law_688 : decode code 688 = .ok (.iload_n 3, 1) := by decide +kernel
theorem dL_law_689 : decode code 689 = .ok (.iconst 2, 1) := by decide +kernel
theorem dL_law_690 : decode code 690 = .ok (.iadd, 1) := by decide +kernel
theorem dL_law_691 : decode code 691 = .ok (.iaload, 1) := by decide +kernel
theorem dL_law_692 : decode code 692 = .ok (.invokevirtual 81, 3) := by decide +kernel
theorem dL_law_695 : decode code 695 = .ok (.lcmp, 1) := by decide +kernel
theorem dL_law_696 : decode code 696 = .ok (.ifCond .eq 781, 3) := by decide +kernel
theorem dL_law_699 : decode code 699 = .ok (.iconst 0, 1) := by decide +kernel
theorem dL_law_700 : decode code 700 = .ok (.ireturn, 1) := by decide +kernel
theorem dL_law_701 : decode code 701 = .ok (.aload_n 1, 1) := by decide +kernel
theorem dL_law_702 : decode code 702 = .ok (.aload_n 0, 1) := by decide +kernel
theorem dL_law_703 : decode code 703 = .ok (.iload_n 3, 1) := by decide +kernel
theorem dL_law_704 : decode code 704 = .ok (.iconst 1, 1) := by decide +kernel
theorem dL_law_705 : decode code 705 = .ok (.iadd, 1) := by decide +kernel
theorem dL_law_706 : decode code 706 = .ok (.iaload, 1) := by decide +kernel
theorem dL_law_707 : decode code 707 = .ok (.aload_n 0, 1) := by decide +kernel
theorem dL_law_708 : decode code 708 = .ok (.iload_n 3, 1) := by decide +kernel
theorem dL_law_709 : decode code 709 = .ok (.iconst 2, 1) := by decide +kernel
theorem dL_law_710 : decode code 710 = .ok (.iadd, 1) := by decide +kernel
theorem dL_law_711 : decode code 711 = .ok (.iaload, 1) := by decide +kernel
theorem dL_law_712 : decode code 712 = .ok (.invokevirtual 82, 3) := by decide +kernel
theorem dL_law_715 : decode code 715 = .ok (.aload_n 2, 1) := by decide +kernel
theorem dL_law_716 : decode code 716 = .ok (.aload_n 0, 1) := by decide +kernel
theorem dL_law_717 : decode code 717 = .ok (.iload_n 3, 1) := by decide +kernel
theorem dL_law_718 : decode code 718 = .ok (.iconst 1, 1) := by decide +kernel
theorem dL_law_719 : decode code 719 = .ok (.iadd, 1) := by decide +kernel
theorem dL_law_720 : decode code 720 = .ok (.iaload, 1) := by decide +kernel
theorem dL_law_721 : decode code 721 = .ok (.aload_n 0, 1) := by decide +kernel
theorem dL_law_722 : decode code 722 = .ok (.iload_n 3, 1) := by decide +kernel
theorem dL_law_723 : decode code 723 = .ok (.iconst 2, 1) := by decide +kernel
theorem dL_law_724 : decode code 724 = .ok (.iadd, 1) := by decide +kernel
theorem dL_law_725 : decode code 725 = .ok (.iaload, 1) := by decide +kernel
theorem dL_law_726 : decode code 726 = .ok (.invokevirtual 85, 3) := by decide +kernel
theorem dL_law_729 : decode code 729 = .ok (.if_icmp .eq 748, 3) := by decide +kernel
theorem dL_law_732 : decode code 732 = .ok (.iconst 0, 1) := by decide +kernel
theorem dL_law_733 : decode code 733 = .ok (.ireturn, 1) := by decide +kernel
theorem dL_law_734 : decode code 734 = .ok (.aload_n 1, 1) := by decide +kernel
theorem dL_law_735 : decode code 735 = .ok (.aload_n 0, 1) := by decide +kernel
theorem dL_law_736 : decode code 736 = .ok (.iload_n 3, 1) := by decide +kernel
theorem dL_law_737 : decode code 737 = .ok (.iconst 1, 1) := by decide +kernel
theorem dL_law_738 : decode code 738 = .ok (.iadd, 1) := by decide +kernel
theorem dL_law_739 : decode code 739 = .ok (.iaload, 1) := by decide +kernel
theorem dL_law_740 : decode code 740 = .ok (.aload_n 0, 1) := by decide +kernel
theorem dL_law_741 : decode code 741 = .ok (.iload_n 3, 1) := by decide +kernel
theorem dL_law_742 : decode code 742 = .ok (.iconst 2, 1) := by decide +kernel
theorem dL_law_743 : decode code 743 = .ok (.iadd, 1) := by decide +kernel
theorem dL_law_744 : decode code 744 = .ok (.iaload, 1) := by decide +kernel
theorem dL_law_745 : decode code 745 = .ok (.invokevirtual 86, 3) := by decide +kernel
theorem dL_law_748 : decode code 748 = .ok (.aload_n 2, 1) := by decide +kernel
theorem dL_law_749 : decode code 749 = .ok (.aload_n 0, 1) := by decide +kernel
theorem dL_law_750 : decode code 750 = .ok (.iload_n 3, 1) := by decide +kernel
theorem dL_law_751 : decode code 751 = .ok (.iconst 1, 1) := by decide +kernel
theorem dL_law_752 : decode code 752 = .ok (.iadd, 1) := by decide +kernel
theorem dL_law_753 : decode code 753 = .ok (.iaload, 1) := by decide +kernel
theorem dL_law_754 : decode code 754 = .ok (.aload_n 0, 1) := by decide +kernel
theorem dL_law_755 : decode code 755 = .ok (.iload_n 3, 1) := by decide +kernel
theorem dL_law_756 : decode code 756 = .ok (.iconst 2, 1) := by decide +kernel
theorem dL_law_757 : decode code 757 = .ok (.iadd, 1) := by decide +kernel
theorem dL_law_758 : decode code 758 = .ok (.iaload, 1) := by decide +kernel
theorem dL_law_759 : decode code 759 = .ok (.invokevirtual 89, 3) := by decide +kernel
theorem dL_law_762 : decode code 762 = .ok (.if_icmp .eq 715, 3) := by decide +kernel
theorem dL_law_765 : decode code 765 = .ok (.iconst 0, 1) := by decide +kernel
theorem dL_law_766 : decode code 766 = .ok (.ireturn, 1) := by decide +kernel
theorem dL_law_767 : decode code 767 = .ok (.aload_n 1, 1) := by decide +kernel
theorem dL_law_768 : decode code 768 = .ok (.aload_n 0, 1) := by decide +kernel
theorem dL_law_769 : decode code 769 = .ok (.iload_n 3, 1) := by decide +kernel
theorem dL_law_770 : decode code 770 = .ok (.iconst 1, 1) := by decide +kernel
theorem dL_law_771 : decode code 771 = .ok (.iadd, 1) := by decide +kernel
theorem dL_law_772 : decode code 772 = .ok (.iaload, 1) := by decide +kernel
theorem dL_law_773 : decode code 773 = .ok (.invokevirtual 90, 3) := by decide +kernel
theorem dL_law_776 : decode code 776 = .ok (.aload_n 2, 1) := by decide +kernel
theorem dL_law_777 : decode code 777 = .ok (.aload_n 0, 1) := by decide +kernel
theorem dL_law_778 : decode code 778 = .ok (.iload_n 3, 1) := by decide +kernel
theorem dL_law_779 : decode code 779 = .ok (.iconst 1, 1) := by decide +kernel
theorem dL_law_780 : decode code 780 = .ok (.iadd, 1) := by decide +kernel
theorem dL_law_781 : decode code 781 = .ok (.iaload, 1) := by decide +kernel
theorem dL_law_782 : decode code 782 = .ok (.invokevirtual 93, 3) := by decide +kernel
theorem dL_law_785 : decode code 785 = .ok (.if_icmp .eq 692, 3) := by decide +kernel
theorem dL_law_788 : decode code 788 = .ok (.iconst 0, 1) := by decide +kernel
theorem dL_law_789 : decode code 789 = .ok (.ireturn, 1) := by decide +kernel
theorem dL_law_790 : decode code 790 = .ok (.aload_n 1, 1) := by decide +kernel
theorem dL_law_791 : decode code 791 = .ok (.aload_n 0, 1) := by decide +kernel
theorem dL_law_792 : decode code 792 = .ok (.iload_n 3, 1) := by decide +kernel
theorem dL_law_793 : decode code 793 = .ok (.iconst 1, 1) := by decide +kernel
theorem dL_law_794 : decode code 794 = .ok (.iadd, 1) := by decide +kernel
theorem dL_law_795 : decode code 795 = .ok (.iaload, 1) := by decide +kernel
theorem dL_law_796 : decode code 796 = .ok (.aload_n 0, 1) := by decide +kernel
theorem dL_law_797 : decode code 797 = .ok (.iload_n 3, 1) := by decide +kernel
theorem dL_law_798 : decode code 798 = .ok (.iconst 2, 1) := by decide +kernel
theorem dL_law_799 : decode code 799 = .ok (.iadd, 1) := by decide +kernel
theorem dL_law_800 : decode code 800 = .ok (.iaload, 1) := by decide +kernel
theorem dL_law_801 : decode code 801 = .ok (.invokevirtual 94, 3) := by decide +kernel
theorem dL_law_804 : decode code 804 = .ok (.aload_n 2, 1) := by decide +kernel
theorem dL_law_805 : decode code 805 = .ok (.aload_n 0, 1) := by decide +kernel
theorem dL_law_806 : decode code 806 = .ok (.iload_n 3, 1) := by decide +kernel
theorem dL_law_807 : decode code 807 = .ok (.iconst 1, 1) := by decide +kernel
theorem dL_law_808 : decode code 808 = .ok (.iadd, 1) := by decide +kernel
theorem dL_law_809 : decode code 809 = .ok (.iaload, 1) := by decide +kernel
theorem dL_law_810 : decode code 810 = .ok (.aload_n 0, 1) := by decide +kernel
theorem dL_law_811 : decode code 811 = .ok (.iload_n 3, 1) := by decide +kernel
theorem dL_law_812 : decode code 812 = .ok (.iconst 2, 1) := by decide +kernel
theorem dL_law_813 : decode code 813 = .ok (.iadd, 1) := by decide +kernel
theorem dL_law_814 : decode code 814 = .ok (.iaload, 1) := by decide +kernel
theorem dL_law_815 : decode code 815 = .ok (.invokevirtual 97, 3) := by decide +kernel
theorem dL_law_818 : decode code 818 = .ok (.if_icmp .eq 659, 3) := by decide +kernel
theorem dL_law_821 : decode code 821 = .ok (.iconst 0, 1) := by decide +kernel
theorem dL_law_822 : decode code 822 = .ok (.ireturn, 1) := by decide +kernel
theorem dL_law_823 : decode code 823 = .ok (.aload_n 1, 1) := by decide +kernel
theorem dL_law_824 : decode code 824 = .ok (.aload_n 0, 1) := by decide +kernel
theorem dL_law_825 : decode code 825 = .ok (.iload_n 3, 1) := by decide +kernel
theorem dL_law_826 : decode code 826 = .ok (.iconst 1, 1) := by decide +kernel
theorem dL_law_827 : decode code 827 = .ok (.iadd, 1) := by decide +kernel
theorem dL_law_828 : decode code 828 = .ok (.iaload, 1) := by decide +kernel
theorem dL_law_829 : decode code 829 = .ok (.aload_n 0, 1) := by decide +kernel
theorem dL_law_830 : decode code 830 = .ok (.iload_n 3, 1) := by decide +kernel
theorem dL_law_831 : decode code 831 = .ok (.iconst 2, 1) := by decide +kernel
theorem dL_law_832 : decode code 832 = .ok (.iadd, 1) := by decide +kernel
theorem dL_law_833 : decode code 833 = .ok (.iaload, 1) := by decide +kernel
theorem dL_law_834 : decode code 834 = .ok (.invokevirtual 98, 3) := by decide +kernel
theorem dL_law_837 : decode code 837 = .ok (.aload_n 2, 1) := by decide +kernel
theorem dL_law_838 : decode code 838 = .ok (.aload_n 0, 1) := by decide +kernel
theorem dL_law_839 : decode code 839 = .ok (.iload_n 3, 1) := by decide +kernel
theorem dL_law_840 : decode code 840 = .ok (.iconst 1, 1) := by decide +kernel
theorem dL_law_841 : decode code 841 = .ok (.iadd, 1) := by decide +kernel
theorem dL_law_842 : decode code 842 = .ok (.iaload, 1) := by decide +kernel
theorem dL_law_843 : decode code 843 = .ok (.aload_n 0, 1) := by decide +kernel
theorem dL_law_844 : decode code 844 = .ok (.iload_n 3, 1) := by decide +kernel
theorem dL_law_845 : decode code 845 = .ok (.iconst 2, 1) := by decide +kernel
theorem dL_law_846 : decode code 846 = .ok (.iadd, 1) := by decide +kernel
theorem dL_law_847 : decode code 847 = .ok (.iaload, 1) := by decide +kernel
theorem dL_law_848 : decode code 848 = .ok (.invokevirtual 101, 3) := by decide +kernel
theorem dL_law_851 : decode code 851 = .ok (.if_icmp .eq 626, 3) := by decide +kernel
theorem dL_law_854 : decode code 854 = .ok (.iconst 0, 1) := by decide +kernel
theorem dL_law_855 : decode code 855 = .ok (.ireturn, 1) := by decide +kernel
theorem dL_law_856 : decode code 856 = .ok (.aload_n 1, 1) := by decide +kernel
theorem dL_law_857 : decode code 857 = .ok (.aload_n 0, 1) := by decide +kernel
theorem dL_law_858 : decode code 858 = .ok (.iload_n 3, 1) := by decide +kernel
theorem dL_law_859 : decode code 859 = .ok (.iconst 1, 1) := by decide +kernel
theorem dL_law_860 : decode code 860 = .ok (.iadd, 1) := by decide +kernel
theorem dL_law_861 : decode code 861 = .ok (.iaload, 1) := by decide +kernel
theorem dL_law_862 : decode code 862 = .ok (.aload_n 0, 1) := by decide +kernel
theorem dL_law_863 : decode code 863 = .ok (.iload_n 3, 1) := by decide +kernel
theorem dL_law_864 : decode code 864 = .ok (.iconst 2, 1) := by decide +kernel
theorem dL_law_865 : decode code 865 = .ok (.iadd, 1) := by decide +kernel
theorem dL_law_866 : decode code 866 = .ok (.iaload, 1) := by decide +kernel
theorem dL_law_867 : decode code 867 = .ok (.aload_n 0, 1) := by decide +kernel
theorem dL_law_868 : decode code 868 = .ok (.iload_n 3, 1) := by decide +kernel
theorem dL_law_869 : decode code 869 = .ok (.iconst 3, 1) := by decide +kernel
theorem dL_law_870 : decode code 870 = .ok (.iadd, 1) := by decide +kernel
theorem dL_law_871 : decode code 871 = .ok (.iaload, 1) := by decide +kernel
theorem dL_law_872 : decode code 872 = .ok (.invokevirtual 102, 3) := by decide +kernel
theorem dL_law_875 : decode code 875 = .ok (.aload_n 2, 1) := by decide +kernel
theorem dL_law_876 : decode code 876 = .ok (.aload_n 0, 1) := by decide +kernel
theorem dL_law_877 : decode code 877 = .ok (.iload_n 3, 1) := by decide +kernel
theorem dL_law_878 : decode code 878 = .ok (.iconst 1, 1) := by decide +kernel
theorem dL_law_879 : decode code 879 = .ok (.iadd, 1) := by decide +kernel
theorem dL_law_880 : decode code 880 = .ok (.iaload, 1) := by decide +kernel
theorem dL_law_881 : decode code 881 = .ok (.aload_n 0, 1) := by decide +kernel
theorem dL_law_882 : decode code 882 = .ok (.iload_n 3, 1) := by decide +kernel
theorem dL_law_883 : decode code 883 = .ok (.iconst 2, 1) := by decide +kernel
theorem dL_law_884 : decode code 884 = .ok (.iadd, 1) := by decide +kernel
theorem dL_law_885 : decode code 885 = .ok (.iaload, 1) := by decide +kernel
theorem dL_law_886 : decode code 886 = .ok (.aload_n 0, 1) := by decide +kernel
theorem dL_law_887 : decode code 887 = .ok (.iload_n 3, 1) := by decide +kernel
theorem dL_law_888 : decode code 888 = .ok (.iconst 3, 1) := by decide +kernel
theorem dL_law_889 : decode code 889 = .ok (.iadd, 1) := by decide +kernel
theorem dL_law_890 : decode code 890 = .ok (.iaload, 1) := by decide +kernel
theorem dL_law_891 : decode code 891 = .ok (.invokevirtual 105, 3) := by decide +kernel
theorem dL_law_894 : decode code 894 = .ok (.if_icmp .eq 583, 3) := by decide +kernel
theorem dL_law_897 : decode code 897 = .ok (.iconst 0, 1) := by decide +kernel
theorem dL_law_898 : decode code 898 = .ok (.ireturn, 1) := by decide +kernel
theorem dL_law_899 : decode code 899 = .ok (.aload_n 1, 1) := by decide +kernel
theorem dL_law_900 : decode code 900 = .ok (.aload_n 0, 1) := by decide +kernel
theorem dL_law_901 : decode code 901 = .ok (.iload_n 3, 1) := by decide +kernel
theorem dL_law_902 : decode code 902 = .ok (.iconst 1, 1) := by decide +kernel
theorem dL_law_903 : decode code 903 = .ok (.iadd, 1) := by decide +kernel
theorem dL_law_904 : decode code 904 = .ok (.iaload, 1) := by decide +kernel
theorem dL_law_905 : decode code 905 = .ok (.aload_n 0, 1) := by decide +kernel
theorem dL_law_906 : decode code 906 = .ok (.iload_n 3, 1) := by decide +kernel
theorem dL_law_907 : decode code 907 = .ok (.iconst 2, 1) := by decide +kernel
theorem dL_law_908 : decode code 908 = .ok (.iadd, 1) := by decide +kernel
theorem dL_law_909 : decode code 909 = .ok (.iaload, 1) := by decide +kernel
theorem dL_law_910 : decode code 910 = .ok (.aload_n 0, 1) := by decide +kernel
theorem dL_law_911 : decode code 911 = .ok (.iload_n 3, 1) := by decide +kernel
theorem dL_law_912 : decode code 912 = .ok (.iconst 3, 1) := by decide +kernel
theorem dL_law_913 : decode code 913 = .ok (.iadd, 1) := by decide +kernel
theorem dL_law_914 : decode code 914 = .ok (.iaload, 1) := by decide +kernel
theorem dL_law_915 : decode code 915 = .ok (.aload_n 0, 1) := by decide +kernel
theorem dL_law_916 : decode code 916 = .ok (.iload_n 3, 1) := by decide +kernel
theorem dL_law_917 : decode code 917 = .ok (.iconst 4, 1) := by decide +kernel
theorem dL_law_918 : decode code 918 = .ok (.iadd, 1) := by decide +kernel
theorem dL_law_919 : decode code 919 = .ok (.iaload, 1) := by decide +kernel
theorem dL_law_920 : decode code 920 = .ok (.invokevirtual 106, 3) := by decide +kernel
theorem dL_law_923 : decode code 923 = .ok (.aload_n 2, 1) := by decide +kernel
theorem dL_law_924 : decode code 924 = .ok (.aload_n 0, 1) := by decide +kernel
theorem dL_law_925 : decode code 925 = .ok (.iload_n 3, 1) := by decide +kernel
theorem dL_law_926 : decode code 926 = .ok (.iconst 1, 1) := by decide +kernel
theorem dL_law_927 : decode code 927 = .ok (.iadd, 1) := by decide +kernel
theorem dL_law_928 : decode code 928 = .ok (.iaload, 1) := by decide +kernel
theorem dL_law_929 : decode code 929 = .ok (.aload_n 0, 1) := by decide +kernel
theorem dL_law_930 : decode code 930 = .ok (.iload_n 3, 1) := by decide +kernel
theorem dL_law_931 : decode code 931 = .ok (.iconst 2, 1) := by decide +kernel
theorem dL_law_932 : decode code 932 = .ok (.iadd, 1) := by decide +kernel
theorem dL_law_933 : decode code 933 = .ok (.iaload, 1) := by decide +kernel
theorem dL_law_934 : decode code 934 = .ok (.aload_n 0, 1) := by decide +kernel
theorem dL_law_935 : decode code 935 = .ok (.iload_n 3, 1) := by decide +kernel
theorem dL_law_936 : decode code 936 = .ok (.iconst 3, 1) := by decide +kernel
theorem dL_law_937 : decode code 937 = .ok (.iadd, 1) := by decide +kernel
theorem dL_law_938 : decode code 938 = .ok (.iaload, 1) := by decide +kernel
theorem dL_law_939 : decode code 939 = .ok (.aload_n 0, 1) := by decide +kernel
theorem dL_law_940 : decode code 940 = .ok (.iload_n 3, 1) := by decide +kernel
theorem dL_law_941 : decode code 941 = .ok (.iconst 4, 1) := by decide +kernel
theorem dL_law_942 : decode code 942 = .ok (.iadd, 1) := by decide +kernel
theorem dL_law_943 : decode code 943 = .ok (.iaload, 1) := by decide +kernel
theorem dL_law_944 : decode code 944 = .ok (.invokevirtual 110, 3) := by decide +kernel
theorem dL_law_947 : decode code 947 = .ok (.if_icmp .eq 530, 3) := by decide +kernel
theorem dL_law_950 : decode code 950 = .ok (.iconst 0, 1) := by decide +kernel
theorem dL_law_951 : decode code 951 = .ok (.ireturn, 1) := by decide +kernel
theorem dL_law_952 : decode code 952 = .ok (.aload_n 1, 1) := by decide +kernel
theorem dL_law_953 : decode code 953 = .ok (.aload_n 0, 1) := by decide +kernel
theorem dL_law_954 : decode code 954 = .ok (.iload_n 3, 1) := by decide +kernel
theorem dL_law_955 : decode code 955 = .ok (.iconst 1, 1) := by decide +kernel
theorem dL_law_956 : decode code 956 = .ok (.iadd, 1) := by decide +kernel
theorem dL_law_957 : decode code 957 = .ok (.iaload, 1) := by decide +kernel
theorem dL_law_958 : decode code 958 = .ok (.invokevirtual 111, 3) := by decide +kernel
theorem dL_law_961 : decode code 961 = .ok (.aload_n 2, 1) := by decide +kernel
theorem dL_law_962 : decode code 962 = .ok (.aload_n 0, 1) := by decide +kernel
theorem dL_law_963 : decode code 963 = .ok (.iload_n 3, 1) := by decide +kernel
theorem dL_law_964 : decode code 964 = .ok (.iconst 1, 1) := by decide +kernel
theorem dL_law_965 : decode code 965 = .ok (.iadd, 1) := by decide +kernel
theorem dL_law_966 : decode code 966 = .ok (.iaload, 1) := by decide +kernel
theorem dL_law_967 : decode code 967 = .ok (.invokevirtual 114, 3) := by decide +kernel
theorem dL_law_970 : decode code 970 = .ok (.if_icmp .eq 507, 3) := by decide +kernel
theorem dL_law_973 : decode code 973 = .ok (.iconst 0, 1) := by decide +kernel
theorem dL_law_974 : decode code 974 = .ok (.ireturn, 1) := by decide +kernel
theorem dL_law_975 : decode code 975 = .ok (.aload_n 1, 1) := by decide +kernel
theorem dL_law_976 : decode code 976 = .ok (.aload_n 0, 1) := by decide +kernel
theorem dL_law_977 : decode code 977 = .ok (.iload_n 3, 1) := by decide +kernel
theorem dL_law_978 : decode code 978 = .ok (.iconst 1, 1) := by decide +kernel
theorem dL_law_979 : decode code 979 = .ok (.iadd, 1) := by decide +kernel
theorem dL_law_980 : decode code 980 = .ok (.iaload, 1) := by decide +kernel
theorem dL_law_981 : decode code 981 = .ok (.invokevirtual 115, 3) := by decide +kernel
theorem dL_law_984 : decode code 984 = .ok (.aload_n 2, 1) := by decide +kernel
theorem dL_law_985 : decode code 985 = .ok (.aload_n 0, 1) := by decide +kernel
theorem dL_law_986 : decode code 986 = .ok (.iload_n 3, 1) := by decide +kernel
theorem dL_law_987 : decode code 987 = .ok (.iconst 1, 1) := by decide +kernel
theorem dL_law_988 : decode code 988 = .ok (.iadd, 1) := by decide +kernel
theorem dL_law_989 : decode code 989 = .ok (.iaload, 1) := by decide +kernel
theorem dL_law_990 : decode code 990 = .ok (.invokevirtual 118, 3) := by decide +kernel
theorem dL_law_993 : decode code 993 = .ok (.if_icmp .eq 484, 3) := by decide +kernel
theorem dL_law_996 : decode code 996 = .ok (.iconst 0, 1) := by decide +kernel
theorem dL_law_997 : decode code 997 = .ok (.ireturn, 1) := by decide +kernel
theorem dL_law_998 : decode code 998 = .ok (.aload_n 1, 1) := by decide +kernel
theorem dL_law_999 : decode code 999 = .ok (.invokevirtual 119, 3) := by decide +kernel
theorem dL_law_1002 : decode code 1002 = .ok (.aload_n 2, 1) := by decide +kernel
theorem dL_law_1003 : decode code 1003 = .ok (.invokevirtual 122, 3) := by decide +kernel
theorem dL_law_1006 : decode code 1006 = .ok (.if_icmp .eq 471, 3) := by decide +kernel
theorem dL_law_1009 : decode code 1009 = .ok (.iconst 0, 1) := by decide +kernel
theorem dL_law_1010 : decode code 1010 = .ok (.ireturn, 1) := by decide +kernel
theorem dL_law_1011 : decode code 1011 = .ok (.aload_n 1, 1) := by decide +kernel
theorem dL_law_1012 : decode code 1012 = .ok (.aload_n 0, 1) := by decide +kernel
theorem dL_law_1013 : decode code 1013 = .ok (.iload_n 3, 1) := by decide +kernel
theorem dL_law_1014 : decode code 1014 = .ok (.iconst 1, 1) := by decide +kernel
theorem dL_law_1015 : decode code 1015 = .ok (.iadd, 1) := by decide +kernel
theorem dL_law_1016 : decode code 1016 = .ok (.iaload, 1) := by decide +kernel
theorem dL_law_1017 : decode code 1017 = .ok (.invokevirtual 123, 3) := by decide +kernel
theorem dL_law_1020 : decode code 1020 = .ok (.aload_n 2, 1) := by decide +kernel
theorem dL_law_1021 : decode code 1021 = .ok (.aload_n 0, 1) := by decide +kernel
theorem dL_law_1022 : decode code 1022 = .ok (.iload_n 3, 1) := by decide +kernel
theorem dL_law_1023 : decode code 1023 = .ok (.iconst 1, 1) := by decide +kernel
theorem dL_law_1024 : decode code 1024 = .ok (.iadd, 1) := by decide +kernel
theorem dL_law_1025 : decode code 1025 = .ok (.iaload, 1) := by decide +kernel
theorem dL_law_1026 : decode code 1026 = .ok (.invokevirtual 126, 3) := by decide +kernel
theorem dL_law_1029 : decode code 1029 = .ok (.if_icmp .eq 448, 3) := by decide +kernel
theorem dL_law_1032 : decode code 1032 = .ok (.iconst 0, 1) := by decide +kernel
theorem dL_law_1033 : decode code 1033 = .ok (.ireturn, 1) := by decide +kernel
theorem dL_law_1034 : decode code 1034 = .ok (.aload_n 1, 1) := by decide +kernel
theorem dL_law_1035 : decode code 1035 = .ok (.invokevirtual 127, 3) := by decide +kernel
theorem dL_law_1038 : decode code 1038 = .ok (.aload_n 2, 1) := by decide +kernel
theorem dL_law_1039 : decode code 1039 = .ok (.invokevirtual 130, 3) := by decide +kernel
theorem dL_law_1042 : decode code 1042 = .ok (.if_icmp .eq 435, 3) := by decide +kernel
theorem dL_law_1045 : decode code 1045 = .ok (.iconst 0, 1) := by decide +kernel
theorem dL_law_1046 : decode code 1046 = .ok (.ireturn, 1) := by decide +kernel
theorem dL_law_1047 : decode code 1047 = .ok (.aload_n 1, 1) := by decide +kernel
theorem dL_law_1048 : decode code 1048 = .ok (.invokevirtual 131, 3) := by decide +kernel
theorem dL_law_1051 : decode code 1051 = .ok (.aload_n 2, 1) := by decide +kernel
theorem dL_law_1052 : decode code 1052 = .ok (.invokevirtual 134, 3) := by decide +kernel
theorem dL_law_1055 : decode code 1055 = .ok (.if_icmp .eq 422, 3) := by decide +kernel
theorem dL_law_1058 : decode code 1058 = .ok (.iconst 0, 1) := by decide +kernel
theorem dL_law_1059 : decode code 1059 = .ok (.ireturn, 1) := by decide +kernel
theorem dL_law_1060 : decode code 1060 = .ok (.aload_n 1, 1) := by decide +kernel
theorem dL_law_1061 : decode code 1061 = .ok (.invokevirtual 135, 3) := by decide +kernel
theorem dL_law_1064 : decode code 1064 = .ok (.aload_n 2, 1) := by decide +kernel
theorem dL_law_1065 : decode code 1065 = .ok (.invokevirtual 138, 3) := by decide +kernel
theorem dL_law_1068 : decode code 1068 = .ok (.if_icmp .eq 409, 3) := by decide +kernel
theorem dL_law_1071 : decode code 1071 = .ok (.iconst 0, 1) := by decide +kernel
theorem dL_law_1072 : decode code 1072 = .ok (.ireturn, 1) := by decide +kernel
theorem dL_law_1073 : decode code 1073 = .ok (.aload_n 1, 1) := by decide +kernel
theorem dL_law_1074 : decode code 1074 = .ok (.invokevirtual 139, 3) := by decide +kernel
theorem dL_law_1077 : decode code 1077 = .ok (.aload_n 2, 1) := by decide +kernel
theorem dL_law_1078 : decode code 1078 = .ok (.invokevirtual 142, 3) := by decide +kernel
theorem dL_law_1081 : decode code 1081 = .ok (.if_icmp .eq 396, 3) := by decide +kernel
theorem dL_law_1084 : decode code 1084 = .ok (.iconst 0, 1) := by decide +kernel
theorem dL_law_1085 : decode code 1085 = .ok (.ireturn, 1) := by decide +kernel
theorem dL_law_1086 : decode code 1086 = .ok (.aload_n 1, 1) := by decide +kernel
theorem dL_law_1087 : decode code 1087 = .ok (.aload_n 0, 1) := by decide +kernel
theorem dL_law_1088 : decode code 1088 = .ok (.iload_n 3, 1) := by decide +kernel
theorem dL_law_1089 : decode code 1089 = .ok (.iconst 1, 1) := by decide +kernel
theorem dL_law_1090 : decode code 1090 = .ok (.iadd, 1) := by decide +kernel
theorem dL_law_1091 : decode code 1091 = .ok (.iaload, 1) := by decide +kernel
theorem dL_law_1092 : decode code 1092 = .ok (.invokevirtual 143, 3) := by decide +kernel
theorem dL_law_1095 : decode code 1095 = .ok (.aload_n 2, 1) := by decide +kernel
theorem dL_law_1096 : decode code 1096 = .ok (.aload_n 0, 1) := by decide +kernel
theorem dL_law_1097 : decode code 1097 = .ok (.iload_n 3, 1) := by decide +kernel
theorem dL_law_1098 : decode code 1098 = .ok (.iconst 1, 1) := by decide +kernel
theorem dL_law_1099 : decode code 1099 = .ok (.iadd, 1) := by decide +kernel
theorem dL_law_1100 : decode code 1100 = .ok (.iaload, 1) := by decide +kernel
theorem dL_law_1101 : decode code 1101 = .ok (.invokevirtual 146, 3) := by decide +kernel
theorem dL_law_1104 : decode code 1104 = .ok (.if_icmp .eq 373, 3) := by decide +kernel
theorem dL_law_1107 : decode code 1107 = .ok (.iconst 0, 1) := by decide +kernel
theorem dL_law_1108 : decode code 1108 = .ok (.ireturn, 1) := by decide +kernel
theorem dL_law_1109 : decode code 1109 = .ok (.aload_n 1, 1) := by decide +kernel
theorem dL_law_1110 : decode code 1110 = .ok (.aload_n 0, 1) := by decide +kernel
theorem dL_law_1111 : decode code 1111 = .ok (.iload_n 3, 1) := by decide +kernel
theorem dL_law_1112 : decode code 1112 = .ok (.iconst 1, 1) := by decide +kernel
theorem dL_law_1113 : decode code 1113 = .ok (.iadd, 1) := by decide +kernel
theorem dL_law_1114 : decode code 1114 = .ok (.iaload, 1) := by decide +kernel
theorem dL_law_1115 : decode code 1115 = .ok (.aload_n 0, 1) := by decide +kernel
theorem dL_law_1116 : decode code 1116 = .ok (.iload_n 3, 1) := by decide +kernel
theorem dL_law_1117 : decode code 1117 = .ok (.iconst 2, 1) := by decide +kernel
theorem dL_law_1118 : decode code 1118 = .ok (.iadd, 1) := by decide +kernel
theorem dL_law_1119 : decode code 1119 = .ok (.iaload, 1) := by decide +kernel
theorem dL_law_1120 : decode code 1120 = .ok (.aload_n 0, 1) := by decide +kernel
theorem dL_law_1121 : decode code 1121 = .ok (.iload_n 3, 1) := by decide +kernel
theorem dL_law_1122 : decode code 1122 = .ok (.iconst 3, 1) := by decide +kernel
theorem dL_law_1123 : decode code 1123 = .ok (.iadd, 1) := by decide +kernel
theorem dL_law_1124 : decode code 1124 = .ok (.iaload, 1) := by decide +kernel
theorem dL_law_1125 : decode code 1125 = .ok (.invokevirtual 147, 3) := by decide +kernel
theorem dL_law_1128 : decode code 1128 = .ok (.aload_n 2, 1) := by decide +kernel
theorem dL_law_1129 : decode code 1129 = .ok (.aload_n 0, 1) := by decide +kernel
theorem dL_law_1130 : decode code 1130 = .ok (.iload_n 3, 1) := by decide +kernel
theorem dL_law_1131 : decode code 1131 = .ok (.iconst 1, 1) := by decide +kernel
theorem dL_law_1132 : decode code 1132 = .ok (.iadd, 1) := by decide +kernel
theorem dL_law_1133 : decode code 1133 = .ok (.iaload, 1) := by decide +kernel
theorem dL_law_1134 : decode code 1134 = .ok (.aload_n 0, 1) := by decide +kernel
theorem dL_law_1135 : decode code 1135 = .ok (.iload_n 3, 1) := by decide +kernel
theorem dL_law_1136 : decode code 1136 = .ok (.iconst 2, 1) := by decide +kernel
theorem dL_law_1137 : decode code 1137 = .ok (.iadd, 1) := by decide +kernel
theorem dL_law_1138 : decode code 1138 = .ok (.iaload, 1) := by decide +kernel
theorem dL_law_1139 : decode code 1139 = .ok (.aload_n 0, 1) := by decide +kernel
theorem dL_law_1140 : decode code 1140 = .ok (.iload_n 3, 1) := by decide +kernel
theorem dL_law_1141 : decode code 1141 = .ok (.iconst 3, 1) := by decide +kernel
theorem dL_law_1142 : decode code 1142 = .ok (.iadd, 1) := by decide +kernel
theorem dL_law_1143 : decode code 1143 = .ok (.iaload, 1) := by decide +kernel
theorem dL_law_1144 : decode code 1144 = .ok (.invokevirtual 150, 3) := by decide +kernel
theorem dL_law_1147 : decode code 1147 = .ok (.if_icmp .eq 330, 3) := by decide +kernel
theorem dL_law_1150 : decode code 1150 = .ok (.iconst 0, 1) := by decide +kernel
theorem dL_law_1151 : decode code 1151 = .ok (.ireturn, 1) := by decide +kernel
theorem dL_law_1152 : decode code 1152 = .ok (.aload_n 1, 1) := by decide +kernel
theorem dL_law_1153 : decode code 1153 = .ok (.aload_n 0, 1) := by decide +kernel
theorem dL_law_1154 : decode code 1154 = .ok (.iload_n 3, 1) := by decide +kernel
theorem dL_law_1155 : decode code 1155 = .ok (.iconst 1, 1) := by decide +kernel
theorem dL_law_1156 : decode code 1156 = .ok (.iadd, 1) := by decide +kernel
theorem dL_law_1157 : decode code 1157 = .ok (.iaload, 1) := by decide +kernel
theorem dL_law_1158 : decode code 1158 = .ok (.invokevirtual 151, 3) := by decide +kernel
theorem dL_law_1161 : decode code 1161 = .ok (.aload_n 2, 1) := by decide +kernel
theorem dL_law_1162 : decode code 1162 = .ok (.aload_n 0, 1) := by decide +kernel
theorem dL_law_1163 : decode code 1163 = .ok (.iload_n 3, 1) := by decide +kernel
theorem dL_law_1164 : decode code 1164 = .ok (.iconst 1, 1) := by decide +kernel
theorem dL_law_1165 : decode code 1165 = .ok (.iadd, 1) := by decide +kernel
theorem dL_law_1166 : decode code 1166 = .ok (.iaload, 1) := by decide +kernel
theorem dL_law_1167 : decode code 1167 = .ok (.invokevirtual 154, 3) := by decide +kernel
theorem dL_law_1170 : decode code 1170 = .ok (.if_icmp .eq 307, 3) := by decide +kernel
theorem dL_law_1173 : decode code 1173 = .ok (.iconst 0, 1) := by decide +kernel
theorem dL_law_1174 : decode code 1174 = .ok (.ireturn, 1) := by decide +kernel
theorem dL_law_1175 : decode code 1175 = .ok (.aload_n 1, 1) := by decide +kernel
theorem dL_law_1176 : decode code 1176 = .ok (.aload_n 0, 1) := by decide +kernel
theorem dL_law_1177 : decode code 1177 = .ok (.iload_n 3, 1) := by decide +kernel
theorem dL_law_1178 : decode code 1178 = .ok (.iconst 1, 1) := by decide +kernel
theorem dL_law_1179 : decode code 1179 = .ok (.iadd, 1) := by decide +kernel
theorem dL_law_1180 : decode code 1180 = .ok (.iaload, 1) := by decide +kernel
theorem dL_law_1181 : decode code 1181 = .ok (.aload_n 0, 1) := by decide +kernel
theorem dL_law_1182 : decode code 1182 = .ok (.iload_n 3, 1) := by decide +kernel
theorem dL_law_1183 : decode code 1183 = .ok (.iconst 2, 1) := by decide +kernel
theorem dL_law_1184 : decode code 1184 = .ok (.iadd, 1) := by decide +kernel
theorem dL_law_1185 : decode code 1185 = .ok (.iaload, 1) := by decide +kernel
theorem dL_law_1186 : decode code 1186 = .ok (.invokevirtual 155, 3) := by decide +kernel
theorem dL_law_1189 : decode code 1189 = .ok (.aload_n 2, 1) := by decide +kernel
theorem dL_law_1190 : decode code 1190 = .ok (.aload_n 0, 1) := by decide +kernel
theorem dL_law_1191 : decode code 1191 = .ok (.iload_n 3, 1) := by decide +kernel
theorem dL_law_1192 : decode code 1192 = .ok (.iconst 1, 1) := by decide +kernel
theorem dL_law_1193 : decode code 1193 = .ok (.iadd, 1) := by decide +kernel
theorem dL_law_1194 : decode code 1194 = .ok (.iaload, 1) := by decide +kernel
theorem dL_law_1195 : decode code 1195 = .ok (.aload_n 0, 1) := by decide +kernel
theorem dL_law_1196 : decode code 1196 = .ok (.iload_n 3, 1) := by decide +kernel
theorem dL_law_1197 : decode code 1197 = .ok (.iconst 2, 1) := by decide +kernel
theorem dL_law_1198 : decode code 1198 = .ok (.iadd, 1) := by decide +kernel
theorem dL_law_1199 : decode code 1199 = .ok (.iaload, 1) := by decide +kernel
theorem dL_law_1200 : decode code 1200 = .ok (.invokevirtual 158, 3) := by decide +kernel
theorem dL_law_1203 : decode code 1203 = .ok (.if_icmp .eq 274, 3) := by decide +kernel
theorem dL_law_1206 : decode code 1206 = .ok (.iconst 0, 1) := by decide +kernel
theorem dL_law_1207 : decode code 1207 = .ok (.ireturn, 1) := by decide +kernel
theorem dL_law_1208 : decode code 1208 = .ok (.aload_n 1, 1) := by decide +kernel
theorem dL_law_1209 : decode code 1209 = .ok (.aload_n 0, 1) := by decide +kernel
theorem dL_law_1210 : decode code 1210 = .ok (.iload_n 3, 1) := by decide +kernel
theorem dL_law_1211 : decode code 1211 = .ok (.iconst 1, 1) := by decide +kernel
theorem dL_law_1212 : decode code 1212 = .ok (.iadd, 1) := by decide +kernel
theorem dL_law_1213 : decode code 1213 = .ok (.iaload, 1) := by decide +kernel
theorem dL_law_1214 : decode code 1214 = .ok (.aload_n 0, 1) := by decide +kernel
theorem dL_law_1215 : decode code 1215 = .ok (.iload_n 3, 1) := by decide +kernel
theorem dL_law_1216 : decode code 1216 = .ok (.iconst 2, 1) := by decide +kernel
theorem dL_law_1217 : decode code 1217 = .ok (.iadd, 1) := by decide +kernel
theorem dL_law_1218 : decode code 1218 = .ok (.iaload, 1) := by decide +kernel
theorem dL_law_1219 : decode code 1219 = .ok (.aload_n 0, 1) := by decide +kernel
theorem dL_law_1220 : decode code 1220 = .ok (.iload_n 3, 1) := by decide +kernel
theorem dL_law_1221 : decode code 1221 = .ok (.iconst 3, 1) := by decide +kernel
theorem dL_law_1222 : decode code 1222 = .ok (.iadd, 1) := by decide +kernel
theorem dL_law_1223 : decode code 1223 = .ok (.iaload, 1) := by decide +kernel
theorem dL_law_1224 : decode code 1224 = .ok (.invokevirtual 159, 3) := by decide +kernel
theorem dL_law_1227 : decode code 1227 = .ok (.aload_n 2, 1) := by decide +kernel
theorem dL_law_1228 : decode code 1228 = .ok (.aload_n 0, 1) := by decide +kernel
theorem dL_law_1229 : decode code 1229 = .ok (.iload_n 3, 1) := by decide +kernel
theorem dL_law_1230 : decode code 1230 = .ok (.iconst 1, 1) := by decide +kernel
theorem dL_law_1231 : decode code 1231 = .ok (.iadd, 1) := by decide +kernel
theorem dL_law_1232 : decode code 1232 = .ok (.iaload, 1) := by decide +kernel
theorem dL_law_1233 : decode code 1233 = .ok (.aload_n 0, 1) := by decide +kernel
theorem dL_law_1234 : decode code 1234 = .ok (.iload_n 3, 1) := by decide +kernel
theorem dL_law_1235 : decode code 1235 = .ok (.iconst 2, 1) := by decide +kernel
theorem dL_law_1236 : decode code 1236 = .ok (.iadd, 1) := by decide +kernel
theorem dL_law_1237 : decode code 1237 = .ok (.iaload, 1) := by decide +kernel
theorem dL_law_1238 : decode code 1238 = .ok (.aload_n 0, 1) := by decide +kernel
theorem dL_law_1239 : decode code 1239 = .ok (.iload_n 3, 1) := by decide +kernel
theorem dL_law_1240 : decode code 1240 = .ok (.iconst 3, 1) := by decide +kernel
theorem dL_law_1241 : decode code 1241 = .ok (.iadd, 1) := by decide +kernel
theorem dL_law_1242 : decode code 1242 = .ok (.iaload, 1) := by decide +kernel
theorem dL_law_1243 : decode code 1243 = .ok (.invokevirtual 162, 3) := by decide +kernel
theorem dL_law_1246 : decode code 1246 = .ok (.if_icmp .eq 231, 3) := by decide +kernel
theorem dL_law_1249 : decode code 1249 = .ok (.iconst 0, 1) := by decide +kernel
theorem dL_law_1250 : decode code 1250 = .ok (.ireturn, 1) := by decide +kernel
theorem dL_law_1251 : decode code 1251 = .ok (.aload_n 1, 1) := by decide +kernel
theorem dL_law_1252 : decode code 1252 = .ok (.aload_n 0, 1) := by decide +kernel
theorem dL_law_1253 : decode code 1253 = .ok (.iload_n 3, 1) := by decide +kernel
theorem dL_law_1254 : decode code 1254 = .ok (.iconst 1, 1) := by decide +kernel
theorem dL_law_1255 : decode code 1255 = .ok (.iadd, 1) := by decide +kernel
theorem dL_law_1256 : decode code 1256 = .ok (.iaload, 1) := by decide +kernel
theorem dL_law_1257 : decode code 1257 = .ok (.aload_n 0, 1) := by decide +kernel
theorem dL_law_1258 : decode code 1258 = .ok (.iload_n 3, 1) := by decide +kernel
theorem dL_law_1259 : decode code 1259 = .ok (.iconst 2, 1) := by decide +kernel
theorem dL_law_1260 : decode code 1260 = .ok (.iadd, 1) := by decide +kernel
theorem dL_law_1261 : decode code 1261 = .ok (.iaload, 1) := by decide +kernel
theorem dL_law_1262 : decode code 1262 = .ok (.aload_n 0, 1) := by decide +kernel
theorem dL_law_1263 : decode code 1263 = .ok (.iload_n 3, 1) := by decide +kernel
theorem dL_law_1264 : decode code 1264 = .ok (.iconst 3, 1) := by decide +kernel
theorem dL_law_1265 : decode code 1265 = .ok (.iadd, 1) := by decide +kernel
theorem dL_law_1266 : decode code 1266 = .ok (.iaload, 1) := by decide +kernel
theorem dL_law_1267 : decode code 1267 = .ok (.i2l, 1) := by decide +kernel
theorem dL_law_1268 : decode code 1268 = .ok (.bipush 32, 2) := by decide +kernel
theorem dL_law_1270 : decode code 1270 = .ok (.lshl, 1) := by decide +kernel
theorem dL_law_1271 : decode code 1271 = .ok (.aload_n 0, 1) := by decide +kernel
theorem dL_law_1272 : decode code 1272 = .ok (.iload_n 3, 1) := by decide +kernel
theorem dL_law_1273 : decode code 1273 = .ok (.iconst 4, 1) := by decide +kernel
theorem dL_law_1274 : decode code 1274 = .ok (.iadd, 1) := by decide +kernel
theorem dL_law_1275 : decode code 1275 = .ok (.iaload, 1) := by decide +kernel
theorem dL_law_1276 : decode code 1276 = .ok (.i2l, 1) := by decide +kernel
theorem dL_law_1277 : decode code 1277 = .ok (.ldc2_w 163, 3) := by decide +kernel
theorem dL_law_1280 : decode code 1280 = .ok (.land, 1) := by decide +kernel
theorem dL_law_1281 : decode code 1281 = .ok (.lor, 1) := by decide +kernel
theorem dL_law_1282 : decode code 1282 = .ok (.invokevirtual 165, 3) := by decide +kernel
theorem dL_law_1285 : decode code 1285 = .ok (.aload_n 2, 1) := by decide +kernel
theorem dL_law_1286 : decode code 1286 = .ok (.aload_n 0, 1) := by decide +kernel
theorem dL_law_1287 : decode code 1287 = .ok (.iload_n 3, 1) := by decide +kernel
theorem dL_law_1288 : decode code 1288 = .ok (.iconst 1, 1) := by decide +kernel
theorem dL_law_1289 : decode code 1289 = .ok (.iadd, 1) := by decide +kernel
theorem dL_law_1290 : decode code 1290 = .ok (.iaload, 1) := by decide +kernel
theorem dL_law_1291 : decode code 1291 = .ok (.aload_n 0, 1) := by decide +kernel
theorem dL_law_1292 : decode code 1292 = .ok (.iload_n 3, 1) := by decide +kernel
theorem dL_law_1293 : decode code 1293 = .ok (.iconst 2, 1) := by decide +kernel
theorem dL_law_1294 : decode code 1294 = .ok (.iadd, 1) := by decide +kernel
theorem dL_law_1295 : decode code 1295 = .ok (.iaload, 1) := by decide +kernel
theorem dL_law_1296 : decode code 1296 = .ok (.aload_n 0, 1) := by decide +kernel
theorem dL_law_1297 : decode code 1297 = .ok (.iload_n 3, 1) := by decide +kernel
theorem dL_law_1298 : decode code 1298 = .ok (.iconst 3, 1) := by decide +kernel
theorem dL_law_1299 : decode code 1299 = .ok (.iadd, 1) := by decide +kernel
theorem dL_law_1300 : decode code 1300 = .ok (.iaload, 1) := by decide +kernel
theorem dL_law_1301 : decode code 1301 = .ok (.i2l, 1) := by decide +kernel
theorem dL_law_1302 : decode code 1302 = .ok (.bipush 32, 2) := by decide +kernel
theorem dL_law_1304 : decode code 1304 = .ok (.lshl, 1) := by decide +kernel
theorem dL_law_1305 : decode code 1305 = .ok (.aload_n 0, 1) := by decide +kernel
theorem dL_law_1306 : decode code 1306 = .ok (.iload_n 3, 1) := by decide +kernel
theorem dL_law_1307 : decode code 1307 = .ok (.iconst 4, 1) := by decide +kernel
theorem dL_law_1308 : decode code 1308 = .ok (.iadd, 1) := by decide +kernel
theorem dL_law_1309 : decode code 1309 = .ok (.iaload, 1) := by decide +kernel
theorem dL_law_1310 : decode code 1310 = .ok (.i2l, 1) := by decide +kernel
theorem dL_law_1311 : decode code 1311 = .ok (.ldc2_w 163, 3) := by decide +kernel
theorem dL_law_1314 : decode code 1314 = .ok (.land, 1) := by decide +kernel
theorem dL_law_1315 : decode code 1315 = .ok (.lor, 1) := by decide +kernel
theorem dL_law_1316 : decode code 1316 = .ok (.invokevirtual 169, 3) := by decide +kernel
theorem dL_law_1319 : decode code 1319 = .ok (.if_icmp .eq 158, 3) := by decide +kernel
theorem dL_law_1322 : decode code 1322 = .ok (.iconst 0, 1) := by decide +kernel
theorem dL_law_1323 : decode code 1323 = .ok (.ireturn, 1) := by decide +kernel
theorem dL_law_1324 : decode code 1324 = .ok (.aload_n 1, 1) := by decide +kernel
theorem dL_law_1325 : decode code 1325 = .ok (.aload_n 0, 1) := by decide +kernel
theorem dL_law_1326 : decode code 1326 = .ok (.iload_n 3, 1) := by decide +kernel
theorem dL_law_1327 : decode code 1327 = .ok (.iconst 1, 1) := by decide +kernel
theorem dL_law_1328 : decode code 1328 = .ok (.iadd, 1) := by decide +kernel
theorem dL_law_1329 : decode code 1329 = .ok (.iaload, 1) := by decide +kernel
theorem dL_law_1330 : decode code 1330 = .ok (.aload_n 0, 1) := by decide +kernel
theorem dL_law_1331 : decode code 1331 = .ok (.iload_n 3, 1) := by decide +kernel
theorem dL_law_1332 : decode code 1332 = .ok (.iconst 2, 1) := by decide +kernel
theorem dL_law_1333 : decode code 1333 = .ok (.iadd, 1) := by decide +kernel
theorem dL_law_1334 : decode code 1334 = .ok (.iaload, 1) := by decide +kernel
theorem dL_law_1335 : decode code 1335 = .ok (.invokevirtual 170, 3) := by decide +kernel
theorem dL_law_1338 : decode code 1338 = .ok (.aload_n 2, 1) := by decide +kernel
theorem dL_law_1339 : decode code 1339 = .ok (.aload_n 0, 1) := by decide +kernel
theorem dL_law_1340 : decode code 1340 = .ok (.iload_n 3, 1) := by decide +kernel
theorem dL_law_1341 : decode code 1341 = .ok (.iconst 1, 1) := by decide +kernel
theorem dL_law_1342 : decode code 1342 = .ok (.iadd, 1) := by decide +kernel
theorem dL_law_1343 : decode code 1343 = .ok (.iaload, 1) := by decide +kernel
theorem dL_law_1344 : decode code 1344 = .ok (.aload_n 0, 1) := by decide +kernel
theorem dL_law_1345 : decode code 1345 = .ok (.iload_n 3, 1) := by decide +kernel
theorem dL_law_1346 : decode code 1346 = .ok (.iconst 2, 1) := by decide +kernel
theorem dL_law_1347 : decode code 1347 = .ok (.iadd, 1) := by decide +kernel
theorem dL_law_1348 : decode code 1348 = .ok (.iaload, 1) := by decide +kernel
theorem dL_law_1349 : decode code 1349 = .ok (.invokevirtual 173, 3) := by decide +kernel
theorem dL_law_1352 : decode code 1352 = .ok (.lcmp, 1) := by decide +kernel
theorem dL_law_1353 : decode code 1353 = .ok (.ifCond .eq 124, 3) := by decide +kernel
theorem dL_law_1356 : decode code 1356 = .ok (.iconst 0, 1) := by decide +kernel
theorem dL_law_1357 : decode code 1357 = .ok (.ireturn, 1) := by decide +kernel
theorem dL_law_1358 : decode code 1358 = .ok (.aload_n 1, 1) := by decide +kernel
theorem dL_law_1359 : decode code 1359 = .ok (.aload_n 0, 1) := by decide +kernel
theorem dL_law_1360 : decode code 1360 = .ok (.iload_n 3, 1) := by decide +kernel
theorem dL_law_1361 : decode code 1361 = .ok (.iconst 1, 1) := by decide +kernel
theorem dL_law_1362 : decode code 1362 = .ok (.iadd, 1) := by decide +kernel
theorem dL_law_1363 : decode code 1363 = .ok (.iaload, 1) := by decide +kernel
theorem dL_law_1364 : decode code 1364 = .ok (.aload_n 0, 1) := by decide +kernel
theorem dL_law_1365 : decode code 1365 = .ok (.iload_n 3, 1) := by decide +kernel
theorem dL_law_1366 : decode code 1366 = .ok (.iconst 2, 1) := by decide +kernel
theorem dL_law_1367 : decode code 1367 = .ok (.iadd, 1) := by decide +kernel
theorem dL_law_1368 : decode code 1368 = .ok (.iaload, 1) := by decide +kernel
theorem dL_law_1369 : decode code 1369 = .ok (.aload_n 0, 1) := by decide +kernel
theorem dL_law_1370 : decode code 1370 = .ok (.iload_n 3, 1) := by decide +kernel
theorem dL_law_1371 : decode code 1371 = .ok (.iconst 3, 1) := by decide +kernel
theorem dL_law_1372 : decode code 1372 = .ok (.iadd, 1) := by decide +kernel
theorem dL_law_1373 : decode code 1373 = .ok (.iaload, 1) := by decide +kernel
theorem dL_law_1374 : decode code 1374 = .ok (.aload_n 0, 1) := by decide +kernel
theorem dL_law_1375 : decode code 1375 = .ok (.iload_n 3, 1) := by decide +kernel
theorem dL_law_1376 : decode code 1376 = .ok (.iconst 4, 1) := by decide +kernel
theorem dL_law_1377 : decode code 1377 = .ok (.iadd, 1) := by decide +kernel
theorem dL_law_1378 : decode code 1378 = .ok (.iaload, 1) := by decide +kernel
theorem dL_law_1379 : decode code 1379 = .ok (.aload_n 0, 1) := by decide +kernel
theorem dL_law_1380 : decode code 1380 = .ok (.iload_n 3, 1) := by decide +kernel
theorem dL_law_1381 : decode code 1381 = .ok (.iconst 5, 1) := by decide +kernel
theorem dL_law_1382 : decode code 1382 = .ok (.iadd, 1) := by decide +kernel
theorem dL_law_1383 : decode code 1383 = .ok (.iaload, 1) := by decide +kernel
theorem dL_law_1384 : decode code 1384 = .ok (.invokevirtual 174, 3) := by decide +kernel
theorem dL_law_1387 : decode code 1387 = .ok (.aload_n 2, 1) := by decide +kernel
theorem dL_law_1388 : decode code 1388 = .ok (.aload_n 0, 1) := by decide +kernel
theorem dL_law_1389 : decode code 1389 = .ok (.iload_n 3, 1) := by decide +kernel
theorem dL_law_1390 : decode code 1390 = .ok (.iconst 1, 1) := by decide +kernel
theorem dL_law_1391 : decode code 1391 = .ok (.iadd, 1) := by decide +kernel
theorem dL_law_1392 : decode code 1392 = .ok (.iaload, 1) := by decide +kernel
theorem dL_law_1393 : decode code 1393 = .ok (.aload_n 0, 1) := by decide +kernel
theorem dL_law_1394 : decode code 1394 = .ok (.iload_n 3, 1) := by decide +kernel
theorem dL_law_1395 : decode code 1395 = .ok (.iconst 2, 1) := by decide +kernel
theorem dL_law_1396 : decode code 1396 = .ok (.iadd, 1) := by decide +kernel
theorem dL_law_1397 : decode code 1397 = .ok (.iaload, 1) := by decide +kernel
theorem dL_law_1398 : decode code 1398 = .ok (.aload_n 0, 1) := by decide +kernel
theorem dL_law_1399 : decode code 1399 = .ok (.iload_n 3, 1) := by decide +kernel
theorem dL_law_1400 : decode code 1400 = .ok (.iconst 3, 1) := by decide +kernel
theorem dL_law_1401 : decode code 1401 = .ok (.iadd, 1) := by decide +kernel
theorem dL_law_1402 : decode code 1402 = .ok (.iaload, 1) := by decide +kernel
theorem dL_law_1403 : decode code 1403 = .ok (.aload_n 0, 1) := by decide +kernel
theorem dL_law_1404 : decode code 1404 = .ok (.iload_n 3, 1) := by decide +kernel
theorem dL_law_1405 : decode code 1405 = .ok (.iconst 4, 1) := by decide +kernel
theorem dL_law_1406 : decode code 1406 = .ok (.iadd, 1) := by decide +kernel
theorem dL_law_1407 : decode code 1407 = .ok (.iaload, 1) := by decide +kernel
theorem dL_law_1408 : decode code 1408 = .ok (.aload_n 0, 1) := by decide +kernel
theorem dL_law_1409 : decode code 1409 = .ok (.iload_n 3, 1) := by decide +kernel
theorem dL_law_1410 : decode code 1410 = .ok (.iconst 5, 1) := by decide +kernel
theorem dL_law_1411 : decode code 1411 = .ok (.iadd, 1) := by decide +kernel
theorem dL_law_1412 : decode code 1412 = .ok (.iaload, 1) := by decide +kernel
theorem dL_law_1413 : decode code 1413 = .ok (.invokevirtual 178, 3) := by decide +kernel
theorem dL_law_1416 : decode code 1416 = .ok (.if_icmp .eq 61, 3) := by decide +kernel
theorem dL_law_1419 : decode code 1419 = .ok (.iconst 0, 1) := by decide +kernel
theorem dL_law_1420 : decode code 1420 = .ok (.ireturn, 1) := by decide +kernel
theorem dL_law_1421 : decode code 1421 = .ok (.aload_n 1, 1) := by decide +kernel
theorem dL_law_1422 : decode code 1422 = .ok (.aload_n 0, 1) := by decide +kernel
theorem dL_law_1423 : decode code 1423 = .ok (.iload_n 3, 1) := by decide +kernel
theorem dL_law_1424 : decode code 1424 = .ok (.iconst 1, 1) := by decide +kernel
theorem dL_law_1425 : decode code 1425 = .ok (.iadd, 1) := by decide +kernel
theorem dL_law_1426 : decode code 1426 = .ok (.iaload, 1) := by decide +kernel
theorem dL_law_1427 : decode code 1427 = .ok (.aload_n 0, 1) := by decide +kernel
theorem dL_law_1428 : decode code 1428 = .ok (.iload_n 3, 1) := by decide +kernel
theorem dL_law_1429 : decode code 1429 = .ok (.iconst 2, 1) := by decide +kernel
theorem dL_law_1430 : decode code 1430 = .ok (.iadd, 1) := by decide +kernel
theorem dL_law_1431 : decode code 1431 = .ok (.iaload, 1) := by decide +kernel
theorem dL_law_1432 : decode code 1432 = .ok (.invokevirtual 179, 3) := by decide +kernel
theorem dL_law_1435 : decode code 1435 = .ok (.aload_n 2, 1) := by decide +kernel
theorem dL_law_1436 : decode code 1436 = .ok (.aload_n 0, 1) := by decide +kernel
theorem dL_law_1437 : decode code 1437 = .ok (.iload_n 3, 1) := by decide +kernel
theorem dL_law_1438 : decode code 1438 = .ok (.iconst 1, 1) := by decide +kernel
theorem dL_law_1439 : decode code 1439 = .ok (.iadd, 1) := by decide +kernel
theorem dL_law_1440 : decode code 1440 = .ok (.iaload, 1) := by decide +kernel
theorem dL_law_1441 : decode code 1441 = .ok (.aload_n 0, 1) := by decide +kernel
theorem dL_law_1442 : decode code 1442 = .ok (.iload_n 3, 1) := by decide +kernel
theorem dL_law_1443 : decode code 1443 = .ok (.iconst 2, 1) := by decide +kernel
theorem dL_law_1444 : decode code 1444 = .ok (.iadd, 1) := by decide +kernel
theorem dL_law_1445 : decode code 1445 = .ok (.iaload, 1) := by decide +kernel
theorem dL_law_1446 : decode code 1446 = .ok (.invokevirtual 182, 3) := by decide +kernel
theorem dL_law_1449 : decode code 1449 = .ok (.if_icmp .eq 28, 3) := by decide +kernel
theorem dL_law_1452 : decode code 1452 = .ok (.iconst 0, 1) := by decide +kernel
theorem dL_law_1453 : decode code 1453 = .ok (.ireturn, 1) := by decide +kernel
theorem dL_law_1454 : decode code 1454 = .ok (.aload_n 1, 1) := by decide +kernel
theorem dL_law_1455 : decode code 1455 = .ok (.aload_n 0, 1) := by decide +kernel
theorem dL_law_1456 : decode code 1456 = .ok (.iload_n 3, 1) := by decide +kernel
theorem dL_law_1457 : decode code 1457 = .ok (.iconst 1, 1) := by decide +kernel
theorem dL_law_1458 : decode code 1458 = .ok (.iadd, 1) := by decide +kernel
theorem dL_law_1459 : decode code 1459 = .ok (.iaload, 1) := by decide +kernel
theorem dL_law_1460 : decode code 1460 = .ok (.invokevirtual 183, 3) := by decide +kernel
theorem dL_law_1463 : decode code 1463 = .ok (.aload_n 2, 1) := by decide +kernel
theorem dL_law_1464 : decode code 1464 = .ok (.aload_n 0, 1) := by decide +kernel
theorem dL_law_1465 : decode code 1465 = .ok (.iload_n 3, 1) := by decide +kernel
theorem dL_law_1466 : decode code 1466 = .ok (.iconst 1, 1) := by decide +kernel
theorem dL_law_1467 : decode code 1467 = .ok (.iadd, 1) := by decide +kernel
theorem dL_law_1468 : decode code 1468 = .ok (.iaload, 1) := by decide +kernel
theorem dL_law_1469 : decode code 1469 = .ok (.invokevirtual 186, 3) := by decide +kernel
theorem dL_law_1472 : decode code 1472 = .ok (.if_icmp .eq 5, 3) := by decide +kernel
theorem dL_law_1475 : decode code 1475 = .ok (.iconst 0, 1) := by decide +kernel
theorem dL_law_1476 : decode code 1476 = .ok (.ireturn, 1) := by decide +kernel
theorem dL_law_1477 : decode code 1477 = .ok (.iinc 3 6, 3) := by decide +kernel
theorem dL_law_1480 : decode code 1480 = .ok (.goto (-1462), 3) := by decide +kernel
theorem dL_law_1483 : decode code 1483 = .ok (.iconst 1, 1) := by decide +kernel
theorem dL_law_1484 : decode code 1484 = .ok (.ireturn, 1) := by decide +kernel
/-- farm: both answer alike, and what holds between them holds on -/
def S_farm (Inv : gS → Prop) : Prop := ∀ (σ : gS) (a0 : Int32), Inv σ → ∃ (r : Int32) (σ1 σ2 : gS), mX9_farm σ a0 = some (r, σ1) ∧ mX10_farm σ1 a0 = some (r, σ2) ∧ Inv σ2
/-- want: both answer alike, and what holds between them holds on -/
def S_want (Inv : gS → Prop) : Prop := ∀ (σ : gS) (a0 : Int32) (a1 : Int32), Inv σ → ∃ (r : Int32) (σ1 σ2 : gS), mX9_want σ a0 a1 = some (r, σ1) ∧ mX10_want σ1 a0 a1 = some (r, σ2) ∧ Inv σ2
/-- wants: both answer alike, and what holds between them holds on -/
def S_wants (Inv : gS → Prop) : Prop := ∀ (σ : gS) (a0 : Int32) (a1 : Int32) (a2 : Int32), Inv σ → ∃ (r : Int32) (σ1 σ2 : gS), mX9_wants σ a0 a1 a2 = some (r, σ1) ∧ mX10_wants σ1 a0 a1 a2 = some (r, σ2) ∧ Inv σ2
/-- mend: both answer alike, and what holds between them holds on -/
def S_mend (Inv : gS → Prop) : Prop := ∀ (σ : gS) (a0 : Int32) (a1 : Int32) (a2 : Int32), Inv σ → ∃ (r : Int32) (σ1 σ2 : gS), mX9_mend σ a0 a1 a2 = some (r, σ1) ∧ mX10_mend σ1 a0 a1 a2 = some (r, σ2) ∧ Inv σ2
/-- of: both answer alike, and what holds between them holds on -/
def S_of (Inv : gS → Prop) : Prop := ∀ (σ : gS) (a0 : Int32) (a1 : Int32), Inv σ → ∃ (r : Int32) (σ1 σ2 : gS), mX9_of σ a0 a1 = some (r, σ1) ∧ mX10_of σ1 a0 a1 = some (r, σ2) ∧ Inv σ2
/-- feed: both answer alike, and what holds between them holds on -/
def S_feed (Inv : gS → Prop) : Prop := ∀ (σ : gS) (a0 : Int32), Inv σ → ∃ (r : Int32) (σ1 σ2 : gS), mX9_feed σ a0 = some (r, σ1) ∧ mX10_feed σ1 a0 = some (r, σ2) ∧ Inv σ2
/-- law: both answer alike, and what holds between them holds on -/
def S_law (Inv : gS → Prop) : Prop := ∀ (σ : gS) , Inv σ → ∃ (r : Int32) (σ1 σ2 : gS), mX9_law σ  = some (r, σ1) ∧ mX10_law σ1  = some (r, σ2) ∧ Inv σ2
/-- cold: both answer alike, and what holds between them holds on -/
def S_cold (Inv : gS → Prop) : Prop := ∀ (σ : gS) (a0 : Int32) (a1 : Int32), Inv σ → ∃ (r : Int32) (σ1 σ2 : gS), mX9_cold σ a0 a1 = some (r, σ1) ∧ mX10_cold σ1 a0 a1 = some (r, σ2) ∧ Inv σ2
/-- plan: both answer alike, and what holds between them holds on -/
def S_plan (Inv : gS → Prop) : Prop := ∀ (σ : gS) (a0 : Int32) (a1 : Int32) (a2 : Int32), Inv σ → ∃ (r : Int32) (σ1 σ2 : gS), mX9_plan σ a0 a1 a2 = some (r, σ1) ∧ mX10_plan σ1 a0 a1 a2 = some (r, σ2) ∧ Inv σ2
/-- gives: both answer alike, and what holds between them holds on -/
def S_gives (Inv : gS → Prop) : Prop := ∀ (σ : gS) (a0 : Int32) (a1 : Int32), Inv σ → ∃ (r : Int32) (σ1 σ2 : gS), mX9_gives σ a0 a1 = some (r, σ1) ∧ mX10_gives σ1 a0 a1 = some (r, σ2) ∧ Inv σ2
/-- idle: both answer alike, and what holds between them holds on -/
def S_idle (Inv : gS → Prop) : Prop := ∀ (σ : gS) (a0 : Int32), Inv σ → ∃ (r : Int32) (σ1 σ2 : gS), mX9_idle σ a0 = some (r, σ1) ∧ mX10_idle σ1 a0 = some (r, σ2) ∧ Inv σ2
/-- best: both answer alike, and what holds between them holds on -/
def S_best (Inv : gS → Prop) : Prop := ∀ (σ : gS) (a0 : Int32) (a1 : Int32), Inv σ → ∃ (r : Int32) (σ1 σ2 : gS), mX9_best σ a0 a1 = some (r, σ1) ∧ mX10_best σ1 a0 a1 = some (r, σ2) ∧ Inv σ2
/-- all: both answer alike, and what holds between them holds on -/
def S_all (Inv : gS → Prop) : Prop := ∀ (σ : gS) (a0 : Int32), Inv σ → ∃ (r : Int32) (σ1 σ2 : gS), mX9_all σ a0 = some (r, σ1) ∧ mX10_all σ1 a0 = some (r, σ2) ∧ Inv σ2
/-- vote: both answer alike, and what holds between them holds on -/
def S_vote (Inv : gS → Prop) : Prop := ∀ (σ : gS) (a0 : Int32) (a1 : Int32), Inv σ → ∃ (r : Int32) (σ1 σ2 : gS), mX9_vote σ a0 a1 = some (r, σ1) ∧ mX10_vote σ1 a0 a1 = some (r, σ2) ∧ Inv σ2
/-- most: both answer alike, and what holds between them holds on -/
def S_most (Inv : gS → Prop) : Prop := ∀ (σ : gS) (a0 : Int32), Inv σ → ∃ (r : Int32) (σ1 σ2 : gS), mX9_most σ a0 = some (r, σ1) ∧ mX10_most σ1 a0 = some (r, σ2) ∧ Inv σ2
/-- power: both answer alike, and what holds between them holds on -/
def S_power (Inv : gS → Prop) : Prop := ∀ (σ : gS) (a0 : Int32) (a1 : Int32), Inv σ → ∃ (r : Int64) (σ1 σ2 : gS), mX9_power σ a0 a1 = some (r, σ1) ∧ mX10_power σ1 a0 a1 = some (r, σ2) ∧ Inv σ2
/-- agenda: both answer alike, and what holds between them holds on -/
def S_agenda (Inv : gS → Prop) : Prop := ∀ (σ : gS) (a0 : Int32) (a1 : Int32), Inv σ → ∃ (r : Int32) (σ1 σ2 : gS), mX9_agenda σ a0 a1 = some (r, σ1) ∧ mX10_agenda σ1 a0 a1 = some (r, σ2) ∧ Inv σ2
/-- price: both answer alike, and what holds between them holds on -/
def S_price (Inv : gS → Prop) : Prop := ∀ (σ : gS) (a0 : Int32) (a1 : Int32), Inv σ → ∃ (r : Int32) (σ1 σ2 : gS), mX9_price σ a0 a1 = some (r, σ1) ∧ mX10_price σ1 a0 a1 = some (r, σ2) ∧ Inv σ2
/-- judge: both answer alike, and what holds between them holds on -/
def S_judge (Inv : gS → Prop) : Prop := ∀ (σ : gS) (a0 : Int32), Inv σ → ∃ (r : Int32) (σ1 σ2 : gS), mX9_judge σ a0 = some (r, σ1) ∧ mX10_judge σ1 a0 = some (r, σ2) ∧ Inv σ2
/-- knock: both answer alike, and what holds between them holds on -/
def S_knock (Inv : gS → Prop) : Prop := ∀ (σ : gS) (a0 : Int32) (a1 : Int32), Inv σ → ∃ (r : Int32) (σ1 σ2 : gS), mX9_knock σ a0 a1 = some (r, σ1) ∧ mX10_knock σ1 a0 a1 = some (r, σ2) ∧ Inv σ2
/-- bore: both answer alike, and what holds between them holds on -/
def S_bore (Inv : gS → Prop) : Prop := ∀ (σ : gS) (a0 : Int32) (a1 : Int32), Inv σ → ∃ (r : Int32) (σ1 σ2 : gS), mX9_bore σ a0 a1 = some (r, σ1) ∧ mX10_bore σ1 a0 a1 = some (r, σ2) ∧ Inv σ2
/-- byTurns: both answer alike, and what holds between them holds on -/
def S_byTurns (Inv : gS → Prop) : Prop := ∀ (σ : gS) (a0 : Int32) (a1 : Int32) (a2 : Int32), Inv σ → ∃ (r : Int32) (σ1 σ2 : gS), mX9_byTurns σ a0 a1 a2 = some (r, σ1) ∧ mX10_byTurns σ1 a0 a1 a2 = some (r, σ2) ∧ Inv σ2
/-- drawn: both answer alike, and what holds between them holds on -/
def S_drawn (Inv : gS → Prop) : Prop := ∀ (σ : gS) (a0 : Int32) (a1 : Int32) (a2 : Int32) (a3 : Int32), Inv σ → ∃ (r : Int32) (σ1 σ2 : gS), mX9_drawn σ a0 a1 a2 a3 = some (r, σ1) ∧ mX10_drawn σ1 a0 a1 a2 a3 = some (r, σ2) ∧ Inv σ2
/-- pass: both answer alike, and what holds between them holds on -/
def S_pass (Inv : gS → Prop) : Prop := ∀ (σ : gS) (a0 : Int32), Inv σ → ∃ (r : Int32) (σ1 σ2 : gS), mX9_pass σ a0 = some (r, σ1) ∧ mX10_pass σ1 a0 = some (r, σ2) ∧ Inv σ2
/-- bring: both answer alike, and what holds between them holds on -/
def S_bring (Inv : gS → Prop) : Prop := ∀ (σ : gS) (a0 : Int32), Inv σ → ∃ (r : Int32) (σ1 σ2 : gS), mX9_bring σ a0 = some (r, σ1) ∧ mX10_bring σ1 a0 = some (r, σ2) ∧ Inv σ2
/-- boards: both answer alike, and what holds between them holds on -/
def S_boards (Inv : gS → Prop) : Prop := ∀ (σ : gS) , Inv σ → ∃ (r : Int32) (σ1 σ2 : gS), mX9_boards σ  = some (r, σ1) ∧ mX10_boards σ1  = some (r, σ2) ∧ Inv σ2
/-- led: both answer alike, and what holds between them holds on -/
def S_led (Inv : gS → Prop) : Prop := ∀ (σ : gS) (a0 : Int32), Inv σ → ∃ (r : Int32) (σ1 σ2 : gS), mX9_led σ a0 = some (r, σ1) ∧ mX10_led σ1 a0 = some (r, σ2) ∧ Inv σ2
/-- image: both answer alike, and what holds between them holds on -/
def S_image (Inv : gS → Prop) : Prop := ∀ (σ : gS) , Inv σ → ∃ (r : Int32) (σ1 σ2 : gS), mX9_image σ  = some (r, σ1) ∧ mX10_image σ1  = some (r, σ2) ∧ Inv σ2
/-- back: both answer alike, and what holds between them holds on -/
def S_back (Inv : gS → Prop) : Prop := ∀ (σ : gS) , Inv σ → ∃ (r : Int32) (σ1 σ2 : gS), mX9_back σ  = some (r, σ1) ∧ mX10_back σ1  = some (r, σ2) ∧ Inv σ2
/-- undo: both answer alike, and what holds between them holds on -/
def S_undo (Inv : gS → Prop) : Prop := ∀ (σ : gS) , Inv σ → ∃ (r : Int32) (σ1 σ2 : gS), mX9_undo σ  = some (r, σ1) ∧ mX10_undo σ1  = some (r, σ2) ∧ Inv σ2
/-- redo: both answer alike, and what holds between them holds on -/
def S_redo (Inv : gS → Prop) : Prop := ∀ (σ : gS) , Inv σ → ∃ (r : Int32) (σ1 σ2 : gS), mX9_redo σ  = some (r, σ1) ∧ mX10_redo σ1  = some (r, σ2) ∧ Inv σ2
/-- body: both answer alike, and what holds between them holds on -/
def S_body (Inv : gS → Prop) : Prop := ∀ (σ : gS) (a0 : Int32), Inv σ → ∃ (r : Int32) (σ1 σ2 : gS), mX9_body σ a0 = some (r, σ1) ∧ mX10_body σ1 a0 = some (r, σ2) ∧ Inv σ2
/-- act: both answer alike, and what holds between them holds on -/
def S_act (Inv : gS → Prop) : Prop := ∀ (σ : gS) (a0 : Int32) (a1 : Int32) (a2 : Int32), Inv σ → ∃ (r : Int32) (σ1 σ2 : gS), mX9_act σ a0 a1 a2 = some (r, σ1) ∧ mX10_act σ1 a0 a1 a2 = some (r, σ2) ∧ Inv σ2
/-- trace: both answer alike, and what holds between them holds on -/
def S_trace (Inv : gS → Prop) : Prop := ∀ (σ : gS) (a0 : Int32), Inv σ → ∃ (r : Int32) (σ1 σ2 : gS), mX9_trace σ a0 = some (r, σ1) ∧ mX10_trace σ1 a0 = some (r, σ2) ∧ Inv σ2
/-- keep: both answer alike, and what holds between them holds on -/
def S_keep (Inv : gS → Prop) : Prop := ∀ (σ : gS) (a0 : Int32) (a1 : Int32), Inv σ → ∃ (r : Int32) (σ1 σ2 : gS), mX9_keep σ a0 a1 = some (r, σ1) ∧ mX10_keep σ1 a0 a1 = some (r, σ2) ∧ Inv σ2
/-- row: both answer alike, and what holds between them holds on -/
def S_row (Inv : gS → Prop) : Prop := ∀ (σ : gS) (a0 : Int32) (a1 : Int32) (a2 : Int32), Inv σ → ∃ (r : Int32) (σ1 σ2 : gS), mX9_row σ a0 a1 a2 = some (r, σ1) ∧ mX10_row σ1 a0 a1 a2 = some (r, σ2) ∧ Inv σ2
/-- put: both answer alike, and what holds between them holds on -/
def S_put (Inv : gS → Prop) : Prop := ∀ (σ : gS) (a0 : Int32) (a1 : Int32) (a2 : Int64), Inv σ → ∃ (r : Int32) (σ1 σ2 : gS), mX9_put σ a0 a1 a2 = some (r, σ1) ∧ mX10_put σ1 a0 a1 a2 = some (r, σ2) ∧ Inv σ2
/-- element: both answer alike, and what holds between them holds on -/
def S_element (Inv : gS → Prop) : Prop := ∀ (σ : gS) (a0 : Int32) (a1 : Int32), Inv σ → ∃ (r : Int64) (σ1 σ2 : gS), mX9_element σ a0 a1 = some (r, σ1) ∧ mX10_element σ1 a0 a1 = some (r, σ2) ∧ Inv σ2
/-- shift: both answer alike, and what holds between them holds on -/
def S_shift (Inv : gS → Prop) : Prop := ∀ (σ : gS) (a0 : Int32) (a1 : Int32) (a2 : Int32) (a3 : Int32) (a4 : Int32), Inv σ → ∃ (r : Int32) (σ1 σ2 : gS), mX9_shift σ a0 a1 a2 a3 a4 = some (r, σ1) ∧ mX10_shift σ1 a0 a1 a2 a3 a4 = some (r, σ2) ∧ Inv σ2
/-- taken: both answer alike, and what holds between them holds on -/
def S_taken (Inv : gS → Prop) : Prop := ∀ (σ : gS) (a0 : Int32) (a1 : Int32), Inv σ → ∃ (r : Int32) (σ1 σ2 : gS), mX9_taken σ a0 a1 = some (r, σ1) ∧ mX10_taken σ1 a0 a1 = some (r, σ2) ∧ Inv σ2
/-- count: both answer alike, and what holds between them holds on -/
def S_count (Inv : gS → Prop) : Prop := ∀ (σ : gS) (a0 : Int32), Inv σ → ∃ (r : Int32) (σ1 σ2 : gS), mX9_count σ a0 = some (r, σ1) ∧ mX10_count σ1 a0 = some (r, σ2) ∧ Inv σ2
def SS_all (Inv : gS → Prop) : Prop := S_farm Inv ∧ S_want Inv ∧ S_wants Inv ∧ S_mend Inv ∧ S_of Inv ∧ S_feed Inv ∧ S_law Inv ∧ S_cold Inv ∧ S_plan Inv ∧ S_gives Inv ∧ S_idle Inv ∧ S_best Inv ∧ S_all Inv ∧ S_vote Inv ∧ S_most Inv ∧ S_power Inv ∧ S_agenda Inv ∧ S_price Inv ∧ S_judge Inv ∧ S_knock Inv ∧ S_bore Inv ∧ S_byTurns Inv ∧ S_drawn Inv ∧ S_pass Inv ∧ S_bring Inv ∧ S_boards Inv ∧ S_led Inv ∧ S_image Inv ∧ S_back Inv ∧ S_undo Inv ∧ S_redo Inv ∧ S_body Inv ∧ S_act Inv ∧ S_trace Inv ∧ S_keep Inv ∧ S_row Inv ∧ S_put Inv ∧ S_element Inv ∧ S_shift Inv ∧ S_taken Inv ∧ S_count Inv
theorem lk_RL_13 : gLV RL 13 RX9 yX9_farm cX9_farm 2 (some .int) 1 := ⟨(gBig_tab 376 (by decide +kernel) (by decide +kernel)), (gBig_tab 377 (by decide +kernel) (by decide +kernel)), (gBig_tab 378 (by decide +kernel) (by decide +kernel)), (gBig_tab 1 (by decide +kernel) (by decide +kernel)), (gBig_tab 379 (by decide +kernel) (by decide +kernel)), rfl, by decide +kernel, by decide +kernel, by decide +kernel⟩
theorem lk_RL_17 : gLV RL 17 RX10 yX10_farm cX10_farm 2 (some .int) 1 := ⟨(gBig_tab 1198 (by decide +kernel) (by decide +kernel)), (gBig_tab 1199 (by decide +kernel) (by decide +kernel)), (gBig_tab 1200 (by decide +kernel) (by decide +kernel)), (gBig_tab 11 (by decide +kernel) (by decide +kernel)), (gBig_tab 1201 (by decide +kernel) (by decide +kernel)), rfl, by decide +kernel, by decide +kernel, by decide +kernel⟩
set_option maxHeartbeats 4000000 in
set_option maxRecDepth 100000 in
theorem lc_farm {p : Program} {l : Launch} {e : Env} {s : State} {m : MethodId} {below : List Frame} {meth : Method} {c : Code} {G : gE} {b L CE SL : Nat} {xs : Nat → Int32} (hC : gLx p s m meth c G b L xs) (hce : CE ≤ 600000) (hsl : SL ≤ 7302250) {Inv : gS → Prop} (hS : S_farm Inv) (σ : gS) (hI : Inv σ) (x3 : Int32) (h1 : vp_in (x3 + 1) L) (h2 : vp_in (x3 + 2) L) (h3 : vp_in (x3 + 3) L) (h4 : vp_in (x3 + 4) L) (h5 : vp_in (x3 + 5) L) (kk : ∀ τ : gS, Inv τ → gU p l e s m below meth c G b CE SL τ 1477 [(0, .ref b), (1, .ref (G.2.1 0)), (2, .ref (G.2.1 52)), (3, .int x3)] []) : gU p l e s m below meth c G b CE SL σ 212 [(0, .ref b), (1, .ref (G.2.1 0)), (2, .ref (G.2.1 52)), (3, .int x3)] [] := by
  refine l_aload_n (pc := 212) (q := 1) hC dL_law_212 rfl rfl ?_
  refine l_aload_n (pc := 213) (q := 0) hC dL_law_213 rfl rfl ?_
  refine l_iload_n (pc := 214) (q := 3) hC dL_law_214 rfl rfl ?_
  refine l_iconst (pc := 215) (v := 1) hC dL_law_215 (by decide) ?_
  refine l_iadd (pc := 216) hC dL_law_216 ?_
  refine l_sld (pc := 217) hC h1 dL_law_217 ?_
  obtain ⟨r, σ1, σ2, e1, e2, e3⟩ := hS σ (xs (Int32.toNatClampNeg (x3 + 1))) hI
  refine l_call (pc := 218) (As := [.int (xs (Int32.toNatClampNeg (x3 + 1)))]) (rest := []) hC hce hsl lk_RL_13 kX9 (kx := 0) rfl (tX9_farm _ _ σ (xs (Int32.toNatClampNeg (x3 + 1)))) e1 rfl rfl (Nat.le_of_ble_eq_true rfl) ⟨rfl, rfl, Nat.le_of_ble_eq_true rfl, Nat.le_of_ble_eq_true rfl⟩ dL_law_218 ?_
  show gU p l e s m below meth c G b CE SL σ1 221 [(0, .ref b), (1, .ref (G.2.1 0)), (2, .ref (G.2.1 52)), (3, .int x3)] [.int r]
  refine l_aload_n (pc := 221) (q := 2) hC dL_law_221 rfl rfl ?_
  refine l_aload_n (pc := 222) (q := 0) hC dL_law_222 rfl rfl ?_
  refine l_iload_n (pc := 223) (q := 3) hC dL_law_223 rfl rfl ?_
  refine l_iconst (pc := 224) (v := 1) hC dL_law_224 (by decide) ?_
  refine l_iadd (pc := 225) hC dL_law_225 ?_
  refine l_sld (pc := 226) hC h1 dL_law_226 ?_
  refine l_call (pc := 227) (As := [.int (xs (Int32.toNatClampNeg (x3 + 1)))]) (rest := [.int r]) hC hce hsl lk_RL_17 kX10 (kx := 52) rfl (tX10_farm _ _ σ1 (xs (Int32.toNatClampNeg (x3 + 1)))) e2 rfl rfl (Nat.le_of_ble_eq_true rfl) ⟨rfl, rfl, Nat.le_of_ble_eq_true rfl, Nat.le_of_ble_eq_true rfl⟩ dL_law_227 ?_
  show gU p l e s m below meth c G b CE SL σ2 230 [(0, .ref b), (1, .ref (G.2.1 0)), (2, .ref (G.2.1 52)), (3, .int x3)] [.int r, .int r]
  refine l_eq (pc := 230) (tgt := 1477) hC dL_law_230 (by decide) ?_
  exact kk σ2 e3
theorem lk_RL_18 : gLV RL 18 RX9 yX9_want cX9_want 3 (some .int) 2 := ⟨(gBig_tab 391 (by decide +kernel) (by decide +kernel)), (gBig_tab 392 (by decide +kernel) (by decide +kernel)), (gBig_tab 393 (by decide +kernel) (by decide +kernel)), (gBig_tab 1 (by decide +kernel) (by decide +kernel)), (gBig_tab 394 (by decide +kernel) (by decide +kernel)), rfl, by decide +kernel, by decide +kernel, by decide +kernel⟩
theorem lk_RL_22 : gLV RL 22 RX10 yX10_want cX10_want 3 (some .int) 2 := ⟨(gBig_tab 1205 (by decide +kernel) (by decide +kernel)), (gBig_tab 1206 (by decide +kernel) (by decide +kernel)), (gBig_tab 1207 (by decide +kernel) (by decide +kernel)), (gBig_tab 11 (by decide +kernel) (by decide +kernel)), (gBig_tab 1208 (by decide +kernel) (by decide +kernel)), rfl, by decide +kernel, by decide +kernel, by decide +kernel⟩
set_option maxHeartbeats 4000000 in
set_option maxRecDepth 100000 in
theorem lc_want {p : Program} {l : Launch} {e : Env} {s : State} {m : MethodId} {below : List Frame} {meth : Method} {c : Code} {G : gE} {b L CE SL : Nat} {xs : Nat → Int32} (hC : gLx p s m meth c G b L xs) (hce : CE ≤ 600000) (hsl : SL ≤ 7302250) {Inv : gS → Prop} (hS : S_want Inv) (σ : gS) (hI : Inv σ) (x3 : Int32) (h1 : vp_in (x3 + 1) L) (h2 : vp_in (x3 + 2) L) (h3 : vp_in (x3 + 3) L) (h4 : vp_in (x3 + 4) L) (h5 : vp_in (x3 + 5) L) (kk : ∀ τ : gS, Inv τ → gU p l e s m below meth c G b CE SL τ 1477 [(0, .ref b), (1, .ref (G.2.1 0)), (2, .ref (G.2.1 52)), (3, .int x3)] []) : gU p l e s m below meth c G b CE SL σ 235 [(0, .ref b), (1, .ref (G.2.1 0)), (2, .ref (G.2.1 52)), (3, .int x3)] [] := by
  refine l_aload_n (pc := 235) (q := 1) hC dL_law_235 rfl rfl ?_
  refine l_aload_n (pc := 236) (q := 0) hC dL_law_236 rfl rfl ?_
  refine l_iload_n (pc := 237) (q := 3) hC dL_law_237 rfl rfl ?_
  refine l_iconst (pc := 238) (v := 1) hC dL_law_238 (by decide) ?_
  refine l_iadd (pc := 239) hC dL_law_239 ?_
  refine l_sld (pc := 240) hC h1 dL_law_240 ?_
  refine l_aload_n (pc := 241) (q := 0) hC dL_law_241 rfl rfl ?_
  refine l_iload_n (pc := 242) (q := 3) hC dL_law_242 rfl rfl ?_
  refine l_iconst (pc := 243) (v := 2) hC dL_law_243 (by decide) ?_
  refine l_iadd (pc := 244) hC dL_law_244 ?_
  refine l_sld (pc := 245) hC h2 dL_law_245 ?_
  obtain ⟨r, σ1, σ2, e1, e2, e3⟩ := hS σ (xs (Int32.toNatClampNeg (x3 + 1))) (xs (Int32.toNatClampNeg (x3 + 2))) hI
  refine l_call (pc := 246) (As := [.int (xs (Int32.toNatClampNeg (x3 + 1))), .int (xs (Int32.toNatClampNeg (x3 + 2)))]) (rest := []) hC hce hsl lk_RL_18 kX9 (kx := 0) rfl (tX9_want _ _ σ (xs (Int32.toNatClampNeg (x3 + 1))) (xs (Int32.toNatClampNeg (x3 + 2)))) e1 rfl rfl (Nat.le_of_ble_eq_true rfl) ⟨rfl, rfl, Nat.le_of_ble_eq_true rfl, Nat.le_of_ble_eq_true rfl⟩ dL_law_246 ?_
  show gU p l e s m below meth c G b CE SL σ1 249 [(0, .ref b), (1, .ref (G.2.1 0)), (2, .ref (G.2.1 52)), (3, .int x3)] [.int r]
  refine l_aload_n (pc := 249) (q := 2) hC dL_law_249 rfl rfl ?_
  refine l_aload_n (pc := 250) (q := 0) hC dL_law_250 rfl rfl ?_
  refine l_iload_n (pc := 251) (q := 3) hC dL_law_251 rfl rfl ?_
  refine l_iconst (pc := 252) (v := 1) hC dL_law_252 (by decide) ?_
  refine l_iadd (pc := 253) hC dL_law_253 ?_
  refine l_sld (pc := 254) hC h1 dL_law_254 ?_
  refine l_aload_n (pc := 255) (q := 0) hC dL_law_255 rfl rfl ?_
  refine l_iload_n (pc := 256) (q := 3) hC dL_law_256 rfl rfl ?_
  refine l_iconst (pc := 257) (v := 2) hC dL_law_257 (by decide) ?_
  refine l_iadd (pc := 258) hC dL_law_258 ?_
  refine l_sld (pc := 259) hC h2 dL_law_259 ?_
  refine l_call (pc := 260) (As := [.int (xs (Int32.toNatClampNeg (x3 + 1))), .int (xs (Int32.toNatClampNeg (x3 + 2)))]) (rest := [.int r]) hC hce hsl lk_RL_22 kX10 (kx := 52) rfl (tX10_want _ _ σ1 (xs (Int32.toNatClampNeg (x3 + 1))) (xs (Int32.toNatClampNeg (x3 + 2)))) e2 rfl rfl (Nat.le_of_ble_eq_true rfl) ⟨rfl, rfl, Nat.le_of_ble_eq_true rfl, Nat.le_of_ble_eq_true rfl⟩ dL_law_260 ?_
  show gU p l e s m below meth c G b CE SL σ2 263 [(0, .ref b), (1, .ref (G.2.1 0)), (2, .ref (G.2.1 52)), (3, .int x3)] [.int r, .int r]
  refine l_eq (pc := 263) (tgt := 1477) hC dL_law_263 (by decide) ?_
  exact kk σ2 e3
theorem lk_RL_23 : gLV RL 23 RX9 yX9_wants cX9_wants 5 (some .int) 3 := ⟨(gBig_tab 410 (by decide +kernel) (by decide +kernel)), (gBig_tab 411 (by decide +kernel) (by decide +kernel)), (gBig_tab 412 (by decide +kernel) (by decide +kernel)), (gBig_tab 1 (by decide +kernel) (by decide +kernel)), (gBig_tab 413 (by decide +kernel) (by decide +kernel)), rfl, by decide +kernel, by decide +kernel, by decide +kernel⟩
theorem lk_RL_27 : gLV RL 27 RX10 yX10_wants cX10_wants 9 (some .int) 3 := ⟨(gBig_tab 1224 (by decide +kernel) (by decide +kernel)), (gBig_tab 1225 (by decide +kernel) (by decide +kernel)), (gBig_tab 1226 (by decide +kernel) (by decide +kernel)), (gBig_tab 11 (by decide +kernel) (by decide +kernel)), (gBig_tab 1227 (by decide +kernel) (by decide +kernel)), rfl, by decide +kernel, by decide +kernel, by decide +kernel⟩
set_option maxHeartbeats 4000000 in
set_option maxRecDepth 100000 in
theorem lc_wants {p : Program} {l : Launch} {e : Env} {s : State} {m : MethodId} {below : List Frame} {meth : Method} {c : Code} {G : gE} {b L CE SL : Nat} {xs : Nat → Int32} (hC : gLx p s m meth c G b L xs) (hce : CE ≤ 600000) (hsl : SL ≤ 7302250) {Inv : gS → Prop} (hS : S_wants Inv) (σ : gS) (hI : Inv σ) (x3 : Int32) (h1 : vp_in (x3 + 1) L) (h2 : vp_in (x3 + 2) L) (h3 : vp_in (x3 + 3) L) (h4 : vp_in (x3 + 4) L) (h5 : vp_in (x3 + 5) L) (kk : ∀ τ : gS, Inv τ → gU p l e s m below meth c G b CE SL τ 1477 [(0, .ref b), (1, .ref (G.2.1 0)), (2, .ref (G.2.1 52)), (3, .int x3)] []) : gU p l e s m below meth c G b CE SL σ 268 [(0, .ref b), (1, .ref (G.2.1 0)), (2, .ref (G.2.1 52)), (3, .int x3)] [] := by
  refine l_aload_n (pc := 268) (q := 1) hC dL_law_268 rfl rfl ?_
  refine l_aload_n (pc := 269) (q := 0) hC dL_law_269 rfl rfl ?_
  refine l_iload_n (pc := 270) (q := 3) hC dL_law_270 rfl rfl ?_
  refine l_iconst (pc := 271) (v := 1) hC dL_law_271 (by decide) ?_
  refine l_iadd (pc := 272) hC dL_law_272 ?_
  refine l_sld (pc := 273) hC h1 dL_law_273 ?_
  refine l_aload_n (pc := 274) (q := 0) hC dL_law_274 rfl rfl ?_
  refine l_iload_n (pc := 275) (q := 3) hC dL_law_275 rfl rfl ?_
  refine l_iconst (pc := 276) (v := 2) hC dL_law_276 (by decide) ?_
  refine l_iadd (pc := 277) hC dL_law_277 ?_
  refine l_sld (pc := 278) hC h2 dL_law_278 ?_
  refine l_aload_n (pc := 279) (q := 0) hC dL_law_279 rfl rfl ?_
  refine l_iload_n (pc := 280) (q := 3) hC dL_law_280 rfl rfl ?_
  refine l_iconst (pc := 281) (v := 3) hC dL_law_281 (by decide) ?_
  refine l_iadd (pc := 282) hC dL_law_282 ?_
  refine l_sld (pc := 283) hC h3 dL_law_283 ?_
  obtain ⟨r, σ1, σ2, e1, e2, e3⟩ := hS σ (xs (Int32.toNatClampNeg (x3 + 1))) (xs (Int32.toNatClampNeg (x3 + 2))) (xs (Int32.toNatClampNeg (x3 + 3))) hI
  refine l_call (pc := 284) (As := [.int (xs (Int32.toNatClampNeg (x3 + 1))), .int (xs (Int32.toNatClampNeg (x3 + 2))), .int (xs (Int32.toNatClampNeg (x3 + 3)))]) (rest := []) hC hce hsl lk_RL_23 kX9 (kx := 0) rfl (tX9_wants _ _ σ (xs (Int32.toNatClampNeg (x3 + 1))) (xs (Int32.toNatClampNeg (x3 + 2))) (xs (Int32.toNatClampNeg (x3 + 3)))) e1 rfl rfl (Nat.le_of_ble_eq_true rfl) ⟨rfl, rfl, Nat.le_of_ble_eq_true rfl, Nat.le_of_ble_eq_true rfl⟩ dL_law_284 ?_
  show gU p l e s m below meth c G b CE SL σ1 287 [(0, .ref b), (1, .ref (G.2.1 0)), (2, .ref (G.2.1 52)), (3, .int x3)] [.int r]
  refine l_aload_n (pc := 287) (q := 2) hC dL_law_287 rfl rfl ?_
  refine l_aload_n (pc := 288) (q := 0) hC dL_law_288 rfl rfl ?_
  refine l_iload_n (pc := 289) (q := 3) hC dL_law_289 rfl rfl ?_
  refine l_iconst (pc := 290) (v := 1) hC dL_law_290 (by decide) ?_
  refine l_iadd (pc := 291) hC dL_law_291 ?_
  refine l_sld (pc := 292) hC h1 dL_law_292 ?_
  refine l_aload_n (pc := 293) (q := 0) hC dL_law_293 rfl rfl ?_
  refine l_iload_n (pc := 294) (q := 3) hC dL_law_294 rfl rfl ?_
  refine l_iconst (pc := 295) (v := 2) hC dL_law_295 (by decide) ?_
  refine l_iadd (pc := 296) hC dL_law_296 ?_
  refine l_sld (pc := 297) hC h2 dL_law_297 ?_
  refine l_aload_n (pc := 298) (q := 0) hC dL_law_298 rfl rfl ?_
  refine l_iload_n (pc := 299) (q := 3) hC dL_law_299 rfl rfl ?_
  refine l_iconst (pc := 300) (v := 3) hC dL_law_300 (by decide) ?_
  refine l_iadd (pc := 301) hC dL_law_301 ?_
  refine l_sld (pc := 302) hC h3 dL_law_302 ?_
  refine l_call (pc := 303) (As := [.int (xs (Int32.toNatClampNeg (x3 + 1))), .int (xs (Int32.toNatClampNeg (x3 + 2))), .int (xs (Int32.toNatClampNeg (x3 + 3)))]) (rest := [.int r]) hC hce hsl lk_RL_27 kX10 (kx := 52) rfl (tX10_wants _ _ σ1 (xs (Int32.toNatClampNeg (x3 + 1))) (xs (Int32.toNatClampNeg (x3 + 2))) (xs (Int32.toNatClampNeg (x3 + 3)))) e2 rfl rfl (Nat.le_of_ble_eq_true rfl) ⟨rfl, rfl, Nat.le_of_ble_eq_true rfl, Nat.le_of_ble_eq_true rfl⟩ dL_law_303 ?_
  show gU p l e s m below meth c G b CE SL σ2 306 [(0, .ref b), (1, .ref (G.2.1 0)), (2, .ref (G.2.1 52)), (3, .int x3)] [.int r, .int r]
  refine l_eq (pc := 306) (tgt := 1477) hC dL_law_306 (by decide) ?_
  exact kk σ2 e3
theorem lk_RL_28 : gLV RL 28 RX9 yX9_mend cX9_mend 5 (some .int) 3 := ⟨(gBig_tab 430 (by decide +kernel) (by decide +kernel)), (gBig_tab 431 (by decide +kernel) (by decide +kernel)), (gBig_tab 432 (by decide +kernel) (by decide +kernel)), (gBig_tab 1 (by decide +kernel) (by decide +kernel)), (gBig_tab 433 (by decide +kernel) (by decide +kernel)), rfl, by decide +kernel, by decide +kernel, by decide +kernel⟩
theorem lk_RL_31 : gLV RL 31 RX10 yX10_mend cX10_mend 6 (some .int) 3 := ⟨(gBig_tab 1236 (by decide +kernel) (by decide +kernel)), (gBig_tab 1237 (by decide +kernel) (by decide +kernel)), (gBig_tab 1238 (by decide +kernel) (by decide +kernel)), (gBig_tab 11 (by decide +kernel) (by decide +kernel)), (gBig_tab 1239 (by decide +kernel) (by decide +kernel)), rfl, by decide +kernel, by decide +kernel, by decide +kernel⟩
set_option maxHeartbeats 4000000 in
set_option maxRecDepth 100000 in
theorem lc_mend {p : Program} {l : Launch} {e : Env} {s : State} {m : MethodId} {below : List Frame} {meth : Method} {c : Code} {G : gE} {b L CE SL : Nat} {xs : Nat → Int32} (hC : gLx p s m meth c G b L xs) (hce : CE ≤ 600000) (hsl : SL ≤ 7302250) {Inv : gS → Prop} (hS : S_mend Inv) (σ : gS) (hI : Inv σ) (x3 : Int32) (h1 : vp_in (x3 + 1) L) (h2 : vp_in (x3 + 2) L) (h3 : vp_in (x3 + 3) L) (h4 : vp_in (x3 + 4) L) (h5 : vp_in (x3 + 5) L) (kk : ∀ τ : gS, Inv τ → gU p l e s m below meth c G b CE SL τ 1477 [(0, .ref b), (1, .ref (G.2.1 0)), (2, .ref (G.2.1 52)), (3, .int x3)] []) : gU p l e s m below meth c G b CE SL σ 311 [(0, .ref b), (1, .ref (G.2.1 0)), (2, .ref (G.2.1 52)), (3, .int x3)] [] := by
  refine l_aload_n (pc := 311) (q := 1) hC dL_law_311 rfl rfl ?_
  refine l_aload_n (pc := 312) (q := 0) hC dL_law_312 rfl rfl ?_
  refine l_iload_n (pc := 313) (q := 3) hC dL_law_313 rfl rfl ?_
  refine l_iconst (pc := 314) (v := 1) hC dL_law_314 (by decide) ?_
  refine l_iadd (pc := 315) hC dL_law_315 ?_
  refine l_sld (pc := 316) hC h1 dL_law_316 ?_
  refine l_aload_n (pc := 317) (q := 0) hC dL_law_317 rfl rfl ?_
  refine l_iload_n (pc := 318) (q := 3) hC dL_law_318 rfl rfl ?_
  refine l_iconst (pc := 319) (v := 2) hC dL_law_319 (by decide) ?_
  refine l_iadd (pc := 320) hC dL_law_320 ?_
  refine l_sld (pc := 321) hC h2 dL_law_321 ?_
  refine l_aload_n (pc := 322) (q := 0) hC dL_law_322 rfl rfl ?_
  refine l_iload_n (pc := 323) (q := 3) hC dL_law_323 rfl rfl ?_
  refine l_iconst (pc := 324) (v := 3) hC dL_law_324 (by decide) ?_
  refine l_iadd (pc := 325) hC dL_law_325 ?_
  refine l_sld (pc := 326) hC h3 dL_law_326 ?_
  obtain ⟨r, σ1, σ2, e1, e2, e3⟩ := hS σ (xs (Int32.toNatClampNeg (x3 + 1))) (xs (Int32.toNatClampNeg (x3 + 2))) (xs (Int32.toNatClampNeg (x3 + 3))) hI
  refine l_call (pc := 327) (As := [.int (xs (Int32.toNatClampNeg (x3 + 1))), .int (xs (Int32.toNatClampNeg (x3 + 2))), .int (xs (Int32.toNatClampNeg (x3 + 3)))]) (rest := []) hC hce hsl lk_RL_28 kX9 (kx := 0) rfl (tX9_mend _ _ σ (xs (Int32.toNatClampNeg (x3 + 1))) (xs (Int32.toNatClampNeg (x3 + 2))) (xs (Int32.toNatClampNeg (x3 + 3)))) e1 rfl rfl (Nat.le_of_ble_eq_true rfl) ⟨rfl, rfl, Nat.le_of_ble_eq_true rfl, Nat.le_of_ble_eq_true rfl⟩ dL_law_327 ?_
  show gU p l e s m below meth c G b CE SL σ1 330 [(0, .ref b), (1, .ref (G.2.1 0)), (2, .ref (G.2.1 52)), (3, .int x3)] [.int r]
  refine l_aload_n (pc := 330) (q := 2) hC dL_law_330 rfl rfl ?_
  refine l_aload_n (pc := 331) (q := 0) hC dL_law_331 rfl rfl ?_
  refine l_iload_n (pc := 332) (q := 3) hC dL_law_332 rfl rfl ?_
  refine l_iconst (pc := 333) (v := 1) hC dL_law_333 (by decide) ?_
  refine l_iadd (pc := 334) hC dL_law_334 ?_
  refine l_sld (pc := 335) hC h1 dL_law_335 ?_
  refine l_aload_n (pc := 336) (q := 0) hC dL_law_336 rfl rfl ?_
  refine l_iload_n (pc := 337) (q := 3) hC dL_law_337 rfl rfl ?_
  refine l_iconst (pc := 338) (v := 2) hC dL_law_338 (by decide) ?_
  refine l_iadd (pc := 339) hC dL_law_339 ?_
  refine l_sld (pc := 340) hC h2 dL_law_340 ?_
  refine l_aload_n (pc := 341) (q := 0) hC dL_law_341 rfl rfl ?_
  refine l_iload_n (pc := 342) (q := 3) hC dL_law_342 rfl rfl ?_
  refine l_iconst (pc := 343) (v := 3) hC dL_law_343 (by decide) ?_
  refine l_iadd (pc := 344) hC dL_law_344 ?_
  refine l_sld (pc := 345) hC h3 dL_law_345 ?_
  refine l_call (pc := 346) (As := [.int (xs (Int32.toNatClampNeg (x3 + 1))), .int (xs (Int32.toNatClampNeg (x3 + 2))), .int (xs (Int32.toNatClampNeg (x3 + 3)))]) (rest := [.int r]) hC hce hsl lk_RL_31 kX10 (kx := 52) rfl (tX10_mend _ _ σ1 (xs (Int32.toNatClampNeg (x3 + 1))) (xs (Int32.toNatClampNeg (x3 + 2))) (xs (Int32.toNatClampNeg (x3 + 3)))) e2 rfl rfl (Nat.le_of_ble_eq_true rfl) ⟨rfl, rfl, Nat.le_of_ble_eq_true rfl, Nat.le_of_ble_eq_true rfl⟩ dL_law_346 ?_
  show gU p l e s m below meth c G b CE SL σ2 349 [(0, .ref b), (1, .ref (G.2.1 0)), (2, .ref (G.2.1 52)), (3, .int x3)] [.int r, .int r]
  refine l_eq (pc := 349) (tgt := 1477) hC dL_law_349 (by decide) ?_
  exact kk σ2 e3
theorem lk_RL_32 : gLV RL 32 RX9 yX9_of cX9_of 3 (some .int) 2 := ⟨(gBig_tab 462 (by decide +kernel) (by decide +kernel)), (gBig_tab 463 (by decide +kernel) (by decide +kernel)), (gBig_tab 464 (by decide +kernel) (by decide +kernel)), (gBig_tab 1 (by decide +kernel) (by decide +kernel)), (gBig_tab 465 (by decide +kernel) (by decide +kernel)), rfl, by decide +kernel, by decide +kernel, by decide +kernel⟩
theorem lk_RL_35 : gLV RL 35 RX10 yX10_of cX10_of 3 (some .int) 2 := ⟨(gBig_tab 1259 (by decide +kernel) (by decide +kernel)), (gBig_tab 1260 (by decide +kernel) (by decide +kernel)), (gBig_tab 1261 (by decide +kernel) (by decide +kernel)), (gBig_tab 11 (by decide +kernel) (by decide +kernel)), (gBig_tab 1262 (by decide +kernel) (by decide +kernel)), rfl, by decide +kernel, by decide +kernel, by decide +kernel⟩
set_option maxHeartbeats 4000000 in
set_option maxRecDepth 100000 in
theorem lc_of {p : Program} {l : Launch} {e : Env} {s : State} {m : MethodId} {below : List Frame} {meth : Method} {c : Code} {G : gE} {b L CE SL : Nat} {xs : Nat → Int32} (hC : gLx p s m meth c G b L xs) (hce : CE ≤ 600000) (hsl : SL ≤ 7302250) {Inv : gS → Prop} (hS : S_of Inv) (σ : gS) (hI : Inv σ) (x3 : Int32) (h1 : vp_in (x3 + 1) L) (h2 : vp_in (x3 + 2) L) (h3 : vp_in (x3 + 3) L) (h4 : vp_in (x3 + 4) L) (h5 : vp_in (x3 + 5) L) (kk : ∀ τ : gS, Inv τ → gU p l e s m below meth c G b CE SL τ 1477 [(0, .ref b), (1, .ref (G.2.1 0)), (2, .ref (G.2.1 52)), (3, .int x3)] []) : gU p l e s m below meth c G b CE SL σ 354 [(0, .ref b), (1, .ref (G.2.1 0)), (2, .ref (G.2.1 52)), (3, .int x3)] [] := by
  refine l_aload_n (pc := 354) (q := 1) hC dL_law_354 rfl rfl ?_
  refine l_aload_n (pc := 355) (q := 0) hC dL_law_355 rfl rfl ?_
  refine l_iload_n (pc := 356) (q := 3) hC dL_law_356 rfl rfl ?_
  refine l_iconst (pc := 357) (v := 1) hC dL_law_357 (by decide) ?_
  refine l_iadd (pc := 358) hC dL_law_358 ?_
  refine l_sld (pc := 359) hC h1 dL_law_359 ?_
  refine l_aload_n (pc := 360) (q := 0) hC dL_law_360 rfl rfl ?_
  refine l_iload_n (pc := 361) (q := 3) hC dL_law_361 rfl rfl ?_
  refine l_iconst (pc := 362) (v := 2) hC dL_law_362 (by decide) ?_
  refine l_iadd (pc := 363) hC dL_law_363 ?_
  refine l_sld (pc := 364) hC h2 dL_law_364 ?_
  obtain ⟨r, σ1, σ2, e1, e2, e3⟩ := hS σ (xs (Int32.toNatClampNeg (x3 + 1))) (xs (Int32.toNatClampNeg (x3 + 2))) hI
  refine l_call (pc := 365) (As := [.int (xs (Int32.toNatClampNeg (x3 + 1))), .int (xs (Int32.toNatClampNeg (x3 + 2)))]) (rest := []) hC hce hsl lk_RL_32 kX9 (kx := 0) rfl (tX9_of _ _ σ (xs (Int32.toNatClampNeg (x3 + 1))) (xs (Int32.toNatClampNeg (x3 + 2)))) e1 rfl rfl (Nat.le_of_ble_eq_true rfl) ⟨rfl, rfl, Nat.le_of_ble_eq_true rfl, Nat.le_of_ble_eq_true rfl⟩ dL_law_365 ?_
  show gU p l e s m below meth c G b CE SL σ1 368 [(0, .ref b), (1, .ref (G.2.1 0)), (2, .ref (G.2.1 52)), (3, .int x3)] [.int r]
  refine l_aload_n (pc := 368) (q := 2) hC dL_law_368 rfl rfl ?_
  refine l_aload_n (pc := 369) (q := 0) hC dL_law_369 rfl rfl ?_
  refine l_iload_n (pc := 370) (q := 3) hC dL_law_370 rfl rfl ?_
  refine l_iconst (pc := 371) (v := 1) hC dL_law_371 (by decide) ?_
  refine l_iadd (pc := 372) hC dL_law_372 ?_
  refine l_sld (pc := 373) hC h1 dL_law_373 ?_
  refine l_aload_n (pc := 374) (q := 0) hC dL_law_374 rfl rfl ?_
  refine l_iload_n (pc := 375) (q := 3) hC dL_law_375 rfl rfl ?_
  refine l_iconst (pc := 376) (v := 2) hC dL_law_376 (by decide) ?_
  refine l_iadd (pc := 377) hC dL_law_377 ?_
  refine l_sld (pc := 378) hC h2 dL_law_378 ?_
  refine l_call (pc := 379) (As := [.int (xs (Int32.toNatClampNeg (x3 + 1))), .int (xs (Int32.toNatClampNeg (x3 + 2)))]) (rest := [.int r]) hC hce hsl lk_RL_35 kX10 (kx := 52) rfl (tX10_of _ _ σ1 (xs (Int32.toNatClampNeg (x3 + 1))) (xs (Int32.toNatClampNeg (x3 + 2)))) e2 rfl rfl (Nat.le_of_ble_eq_true rfl) ⟨rfl, rfl, Nat.le_of_ble_eq_true rfl, Nat.le_of_ble_eq_true rfl⟩ dL_law_379 ?_
  show gU p l e s m below meth c G b CE SL σ2 382 [(0, .ref b), (1, .ref (G.2.1 0)), (2, .ref (G.2.1 52)), (3, .int x3)] [.int r, .int r]
  refine l_eq (pc := 382) (tgt := 1477) hC dL_law_382 (by decide) ?_
  exact kk σ2 e3
theorem lk_RL_36 : gLV RL 36 RX9 yX9_feed cX9_feed 2 (some .int) 1 := ⟨(gBig_tab 466 (by decide +kernel) (by decide +kernel)), (gBig_tab 467 (by decide +kernel) (by decide +kernel)), (gBig_tab 468 (by decide +kernel) (by decide +kernel)), (gBig_tab 1 (by decide +kernel) (by decide +kernel)), (gBig_tab 469 (by decide +kernel) (by decide +kernel)), rfl, by decide +kernel, by decide +kernel, by decide +kernel⟩
theorem lk_RL_39 : gLV RL 39 RX10 yX10_feed cX10_feed 2 (some .int) 1 := ⟨(gBig_tab 1271 (by decide +kernel) (by decide +kernel)), (gBig_tab 1272 (by decide +kernel) (by decide +kernel)), (gBig_tab 1273 (by decide +kernel) (by decide +kernel)), (gBig_tab 11 (by decide +kernel) (by decide +kernel)), (gBig_tab 1274 (by decide +kernel) (by decide +kernel)), rfl, by decide +kernel, by decide +kernel, by decide +kernel⟩
set_option maxHeartbeats 4000000 in
set_option maxRecDepth 100000 in
theorem lc_feed {p : Program} {l : Launch} {e : Env} {s : State} {m : MethodId} {below : List Frame} {meth : Method} {c : Code} {G : gE} {b L CE SL : Nat} {xs : Nat → Int32} (hC : gLx p s m meth c G b L xs) (hce : CE ≤ 600000) (hsl : SL ≤ 7302250) {Inv : gS → Prop} (hS : S_feed Inv) (σ : gS) (hI : Inv σ) (x3 : Int32) (h1 : vp_in (x3 + 1) L) (h2 : vp_in (x3 + 2) L) (h3 : vp_in (x3 + 3) L) (h4 : vp_in (x3 + 4) L) (h5 : vp_in (x3 + 5) L) (kk : ∀ τ : gS, Inv τ → gU p l e s m below meth c G b CE SL τ 1477 [(0, .ref b), (1, .ref (G.2.1 0)), (2, .ref (G.2.1 52)), (3, .int x3)] []) : gU p l e s m below meth c G b CE SL σ 387 [(0, .ref b), (1, .ref (G.2.1 0)), (2, .ref (G.2.1 52)), (3, .int x3)] [] := by
  refine l_aload_n (pc := 387) (q := 1) hC dL_law_387 rfl rfl ?_
  refine l_aload_n (pc := 388) (q := 0) hC dL_law_388 rfl rfl ?_
  refine l_iload_n (pc := 389) (q := 3) hC dL_law_389 rfl rfl ?_
  refine l_iconst (pc := 390) (v := 1) hC dL_law_390 (by decide) ?_
  refine l_iadd (pc := 391) hC dL_law_391 ?_
  refine l_sld (pc := 392) hC h1 dL_law_392 ?_
  obtain ⟨r, σ1, σ2, e1, e2, e3⟩ := hS σ (xs (Int32.toNatClampNeg (x3 + 1))) hI
  refine l_call (pc := 393) (As := [.int (xs (Int32.toNatClampNeg (x3 + 1)))]) (rest := []) hC hce hsl lk_RL_36 kX9 (kx := 0) rfl (tX9_feed _ _ σ (xs (Int32.toNatClampNeg (x3 + 1)))) e1 rfl rfl (Nat.le_of_ble_eq_true rfl) ⟨rfl, rfl, Nat.le_of_ble_eq_true rfl, Nat.le_of_ble_eq_true rfl⟩ dL_law_393 ?_
  show gU p l e s m below meth c G b CE SL σ1 396 [(0, .ref b), (1, .ref (G.2.1 0)), (2, .ref (G.2.1 52)), (3, .int x3)] [.int r]
  refine l_aload_n (pc := 396) (q := 2) hC dL_law_396 rfl rfl ?_
  refine l_aload_n (pc := 397) (q := 0) hC dL_law_397 rfl rfl ?_
  refine l_iload_n (pc := 398) (q := 3) hC dL_law_398 rfl rfl ?_
  refine l_iconst (pc := 399) (v := 1) hC dL_law_399 (by decide) ?_
  refine l_iadd (pc := 400) hC dL_law_400 ?_
  refine l_sld (pc := 401) hC h1 dL_law_401 ?_
  refine l_call (pc := 402) (As := [.int (xs (Int32.toNatClampNeg (x3 + 1)))]) (rest := [.int r]) hC hce hsl lk_RL_39 kX10 (kx := 52) rfl (tX10_feed _ _ σ1 (xs (Int32.toNatClampNeg (x3 + 1)))) e2 rfl rfl (Nat.le_of_ble_eq_true rfl) ⟨rfl, rfl, Nat.le_of_ble_eq_true rfl, Nat.le_of_ble_eq_true rfl⟩ dL_law_402 ?_
  show gU p l e s m below meth c G b CE SL σ2 405 [(0, .ref b), (1, .ref (G.2.1 0)), (2, .ref (G.2.1 52)), (3, .int x3)] [.int r, .int r]
  refine l_eq (pc := 405) (tgt := 1477) hC dL_law_405 (by decide) ?_
  exact kk σ2 e3
theorem lk_RL_40 : gLV RL 40 RX9 yX9_law cX9_law 3 (some .int) 0 := ⟨(gBig_tab 470 (by decide +kernel) (by decide +kernel)), (gBig_tab 471 (by decide +kernel) (by decide +kernel)), (gBig_tab 472 (by decide +kernel) (by decide +kernel)), (gBig_tab 1 (by decide +kernel) (by decide +kernel)), (gBig_tab 473 (by decide +kernel) (by decide +kernel)), rfl, by decide +kernel, by decide +kernel, by decide +kernel⟩
theorem lk_RL_44 : gLV RL 44 RX10 yX10_law cX10_law 4 (some .int) 0 := ⟨(gBig_tab 1275 (by decide +kernel) (by decide +kernel)), (gBig_tab 1276 (by decide +kernel) (by decide +kernel)), (gBig_tab 1277 (by decide +kernel) (by decide +kernel)), (gBig_tab 11 (by decide +kernel) (by decide +kernel)), (gBig_tab 1278 (by decide +kernel) (by decide +kernel)), rfl, by decide +kernel, by decide +kernel, by decide +kernel⟩
set_option maxHeartbeats 4000000 in
set_option maxRecDepth 100000 in
theorem lc_law {p : Program} {l : Launch} {e : Env} {s : State} {m : MethodId} {below : List Frame} {meth : Method} {c : Code} {G : gE} {b L CE SL : Nat} {xs : Nat → Int32} (hC : gLx p s m meth c G b L xs) (hce : CE ≤ 600000) (hsl : SL ≤ 7302250) {Inv : gS → Prop} (hS : S_law Inv) (σ : gS) (hI : Inv σ) (x3 : Int32) (h1 : vp_in (x3 + 1) L) (h2 : vp_in (x3 + 2) L) (h3 : vp_in (x3 + 3) L) (h4 : vp_in (x3 + 4) L) (h5 : vp_in (x3 + 5) L) (kk : ∀ τ : gS, Inv τ → gU p l e s m below meth c G b CE SL τ 1477 [(0, .ref b), (1, .ref (G.2.1 0)), (2, .ref (G.2.1 52)), (3, .int x3)] []) : gU p l e s m below meth c G b CE SL σ 410 [(0, .ref b), (1, .ref (G.2.1 0)), (2, .ref (G.2.1 52)), (3, .int x3)] [] := by
  refine l_aload_n (pc := 410) (q := 1) hC dL_law_410 rfl rfl ?_
  obtain ⟨r, σ1, σ2, e1, e2, e3⟩ := hS σ  hI
  refine l_call (pc := 411) (As := []) (rest := []) hC hce hsl lk_RL_40 kX9 (kx := 0) rfl (tX9_law _ _ σ ) e1 rfl rfl (Nat.le_of_ble_eq_true rfl) ⟨rfl, rfl, Nat.le_of_ble_eq_true rfl, Nat.le_of_ble_eq_true rfl⟩ dL_law_411 ?_
  show gU p l e s m below meth c G b CE SL σ1 414 [(0, .ref b), (1, .ref (G.2.1 0)), (2, .ref (G.2.1 52)), (3, .int x3)] [.int r]
  refine l_aload_n (pc := 414) (q := 2) hC dL_law_414 rfl rfl ?_
  refine l_call (pc := 415) (As := []) (rest := [.int r]) hC hce hsl lk_RL_44 kX10 (kx := 52) rfl (tX10_law _ _ σ1 ) e2 rfl rfl (Nat.le_of_ble_eq_true rfl) ⟨rfl, rfl, Nat.le_of_ble_eq_true rfl, Nat.le_of_ble_eq_true rfl⟩ dL_law_415 ?_
  show gU p l e s m below meth c G b CE SL σ2 418 [(0, .ref b), (1, .ref (G.2.1 0)), (2, .ref (G.2.1 52)), (3, .int x3)] [.int r, .int r]
  refine l_eq (pc := 418) (tgt := 1477) hC dL_law_418 (by decide) ?_
  exact kk σ2 e3
theorem lk_RL_45 : gLV RL 45 RX9 yX9_cold cX9_cold 4 (some .int) 2 := ⟨(gBig_tab 606 (by decide +kernel) (by decide +kernel)), (gBig_tab 607 (by decide +kernel) (by decide +kernel)), (gBig_tab 608 (by decide +kernel) (by decide +kernel)), (gBig_tab 1 (by decide +kernel) (by decide +kernel)), (gBig_tab 609 (by decide +kernel) (by decide +kernel)), rfl, by decide +kernel, by decide +kernel, by decide +kernel⟩
theorem lk_RL_48 : gLV RL 48 RX10 yX10_cold cX10_cold 4 (some .int) 2 := ⟨(gBig_tab 1326 (by decide +kernel) (by decide +kernel)), (gBig_tab 1327 (by decide +kernel) (by decide +kernel)), (gBig_tab 1328 (by decide +kernel) (by decide +kernel)), (gBig_tab 11 (by decide +kernel) (by decide +kernel)), (gBig_tab 1329 (by decide +kernel) (by decide +kernel)), rfl, by decide +kernel, by decide +kernel, by decide +kernel⟩
set_option maxHeartbeats 4000000 in
set_option maxRecDepth 100000 in
theorem lc_cold {p : Program} {l : Launch} {e : Env} {s : State} {m : MethodId} {below : List Frame} {meth : Method} {c : Code} {G : gE} {b L CE SL : Nat} {xs : Nat → Int32} (hC : gLx p s m meth c G b L xs) (hce : CE ≤ 600000) (hsl : SL ≤ 7302250) {Inv : gS → Prop} (hS : S_cold Inv) (σ : gS) (hI : Inv σ) (x3 : Int32) (h1 : vp_in (x3 + 1) L) (h2 : vp_in (x3 + 2) L) (h3 : vp_in (x3 + 3) L) (h4 : vp_in (x3 + 4) L) (h5 : vp_in (x3 + 5) L) (kk : ∀ τ : gS, Inv τ → gU p l e s m below meth c G b CE SL τ 1477 [(0, .ref b), (1, .ref (G.2.1 0)), (2, .ref (G.2.1 52)), (3, .int x3)] []) : gU p l e s m below meth c G b CE SL σ 423 [(0, .ref b), (1, .ref (G.2.1 0)), (2, .ref (G.2.1 52)), (3, .int x3)] [] := by
  refine l_aload_n (pc := 423) (q := 1) hC dL_law_423 rfl rfl ?_
  refine l_aload_n (pc := 424) (q := 0) hC dL_law_424 rfl rfl ?_
  refine l_iload_n (pc := 425) (q := 3) hC dL_law_425 rfl rfl ?_
  refine l_iconst (pc := 426) (v := 1) hC dL_law_426 (by decide) ?_
  refine l_iadd (pc := 427) hC dL_law_427 ?_
  refine l_sld (pc := 428) hC h1 dL_law_428 ?_
  refine l_aload_n (pc := 429) (q := 0) hC dL_law_429 rfl rfl ?_
  refine l_iload_n (pc := 430) (q := 3) hC dL_law_430 rfl rfl ?_
  refine l_iconst (pc := 431) (v := 2) hC dL_law_431 (by decide) ?_
  refine l_iadd (pc := 432) hC dL_law_432 ?_
  refine l_sld (pc := 433) hC h2 dL_law_433 ?_
  obtain ⟨r, σ1, σ2, e1, e2, e3⟩ := hS σ (xs (Int32.toNatClampNeg (x3 + 1))) (xs (Int32.toNatClampNeg (x3 + 2))) hI
  refine l_call (pc := 434) (As := [.int (xs (Int32.toNatClampNeg (x3 + 1))), .int (xs (Int32.toNatClampNeg (x3 + 2)))]) (rest := []) hC hce hsl lk_RL_45 kX9 (kx := 0) rfl (tX9_cold _ _ σ (xs (Int32.toNatClampNeg (x3 + 1))) (xs (Int32.toNatClampNeg (x3 + 2)))) e1 rfl rfl (Nat.le_of_ble_eq_true rfl) ⟨rfl, rfl, Nat.le_of_ble_eq_true rfl, Nat.le_of_ble_eq_true rfl⟩ dL_law_434 ?_
  show gU p l e s m below meth c G b CE SL σ1 437 [(0, .ref b), (1, .ref (G.2.1 0)), (2, .ref (G.2.1 52)), (3, .int x3)] [.int r]
  refine l_aload_n (pc := 437) (q := 2) hC dL_law_437 rfl rfl ?_
  refine l_aload_n (pc := 438) (q := 0) hC dL_law_438 rfl rfl ?_
  refine l_iload_n (pc := 439) (q := 3) hC dL_law_439 rfl rfl ?_
  refine l_iconst (pc := 440) (v := 1) hC dL_law_440 (by decide) ?_
  refine l_iadd (pc := 441) hC dL_law_441 ?_
  refine l_sld (pc := 442) hC h1 dL_law_442 ?_
  refine l_aload_n (pc := 443) (q := 0) hC dL_law_443 rfl rfl ?_
  refine l_iload_n (pc := 444) (q := 3) hC dL_law_444 rfl rfl ?_
  refine l_iconst (pc := 445) (v := 2) hC dL_law_445 (by decide) ?_
  refine l_iadd (pc := 446) hC dL_law_446 ?_
  refine l_sld (pc := 447) hC h2 dL_law_447 ?_
  refine l_call (pc := 448) (As := [.int (xs (Int32.toNatClampNeg (x3 + 1))), .int (xs (Int32.toNatClampNeg (x3 + 2)))]) (rest := [.int r]) hC hce hsl lk_RL_48 kX10 (kx := 52) rfl (tX10_cold _ _ σ1 (xs (Int32.toNatClampNeg (x3 + 1))) (xs (Int32.toNatClampNeg (x3 + 2)))) e2 rfl rfl (Nat.le_of_ble_eq_true rfl) ⟨rfl, rfl, Nat.le_of_ble_eq_true rfl, Nat.le_of_ble_eq_true rfl⟩ dL_law_448 ?_
  show gU p l e s m below meth c G b CE SL σ2 451 [(0, .ref b), (1, .ref (G.2.1 0)), (2, .ref (G.2.1 52)), (3, .int x3)] [.int r, .int r]
  refine l_eq (pc := 451) (tgt := 1477) hC dL_law_451 (by decide) ?_
  exact kk σ2 e3
theorem lk_RL_49 : gLV RL 49 RX9 yX9_plan cX9_plan 6 (some .int) 3 := ⟨(gBig_tab 671 (by decide +kernel) (by decide +kernel)), (gBig_tab 672 (by decide +kernel) (by decide +kernel)), (gBig_tab 673 (by decide +kernel) (by decide +kernel)), (gBig_tab 1 (by decide +kernel) (by decide +kernel)), (gBig_tab 674 (by decide +kernel) (by decide +kernel)), rfl, by decide +kernel, by decide +kernel, by decide +kernel⟩
theorem lk_RL_52 : gLV RL 52 RX10 yX10_plan cX10_plan 8 (some .int) 3 := ⟨(gBig_tab 1367 (by decide +kernel) (by decide +kernel)), (gBig_tab 1368 (by decide +kernel) (by decide +kernel)), (gBig_tab 1369 (by decide +kernel) (by decide +kernel)), (gBig_tab 11 (by decide +kernel) (by decide +kernel)), (gBig_tab 1370 (by decide +kernel) (by decide +kernel)), rfl, by decide +kernel, by decide +kernel, by decide +kernel⟩
set_option maxHeartbeats 4000000 in
set_option maxRecDepth 100000 in
theorem lc_plan {p : Program} {l : Launch} {e : Env} {s : State} {m : MethodId} {below : List Frame} {meth : Method} {c : Code} {G : gE} {b L CE SL : Nat} {xs : Nat → Int32} (hC : gLx p s m meth c G b L xs) (hce : CE ≤ 600000) (hsl : SL ≤ 7302250) {Inv : gS → Prop} (hS : S_plan Inv) (σ : gS) (hI : Inv σ) (x3 : Int32) (h1 : vp_in (x3 + 1) L) (h2 : vp_in (x3 + 2) L) (h3 : vp_in (x3 + 3) L) (h4 : vp_in (x3 + 4) L) (h5 : vp_in (x3 + 5) L) (kk : ∀ τ : gS, Inv τ → gU p l e s m below meth c G b CE SL τ 1477 [(0, .ref b), (1, .ref (G.2.1 0)), (2, .ref (G.2.1 52)), (3, .int x3)] []) : gU p l e s m below meth c G b CE SL σ 456 [(0, .ref b), (1, .ref (G.2.1 0)), (2, .ref (G.2.1 52)), (3, .int x3)] [] := by
  refine l_aload_n (pc := 456) (q := 1) hC dL_law_456 rfl rfl ?_
  refine l_aload_n (pc := 457) (q := 0) hC dL_law_457 rfl rfl ?_
  refine l_iload_n (pc := 458) (q := 3) hC dL_law_458 rfl rfl ?_
  refine l_iconst (pc := 459) (v := 1) hC dL_law_459 (by decide) ?_
  refine l_iadd (pc := 460) hC dL_law_460 ?_
  refine l_sld (pc := 461) hC h1 dL_law_461 ?_
  refine l_aload_n (pc := 462) (q := 0) hC dL_law_462 rfl rfl ?_
  refine l_iload_n (pc := 463) (q := 3) hC dL_law_463 rfl rfl ?_
  refine l_iconst (pc := 464) (v := 2) hC dL_law_464 (by decide) ?_
  refine l_iadd (pc := 465) hC dL_law_465 ?_
  refine l_sld (pc := 466) hC h2 dL_law_466 ?_
  refine l_aload_n (pc := 467) (q := 0) hC dL_law_467 rfl rfl ?_
  refine l_iload_n (pc := 468) (q := 3) hC dL_law_468 rfl rfl ?_
  refine l_iconst (pc := 469) (v := 3) hC dL_law_469 (by decide) ?_
  refine l_iadd (pc := 470) hC dL_law_470 ?_
  refine l_sld (pc := 471) hC h3 dL_law_471 ?_
  obtain ⟨r, σ1, σ2, e1, e2, e3⟩ := hS σ (xs (Int32.toNatClampNeg (x3 + 1))) (xs (Int32.toNatClampNeg (x3 + 2))) (xs (Int32.toNatClampNeg (x3 + 3))) hI
  refine l_call (pc := 472) (As := [.int (xs (Int32.toNatClampNeg (x3 + 1))), .int (xs (Int32.toNatClampNeg (x3 + 2))), .int (xs (Int32.toNatClampNeg (x3 + 3)))]) (rest := []) hC hce hsl lk_RL_49 kX9 (kx := 0) rfl (tX9_plan _ _ σ (xs (Int32.toNatClampNeg (x3 + 1))) (xs (Int32.toNatClampNeg (x3 + 2))) (xs (Int32.toNatClampNeg (x3 + 3)))) e1 rfl rfl (Nat.le_of_ble_eq_true rfl) ⟨rfl, rfl, Nat.le_of_ble_eq_true rfl, Nat.le_of_ble_eq_true rfl⟩ dL_law_472 ?_
  show gU p l e s m below meth c G b CE SL σ1 475 [(0, .ref b), (1, .ref (G.2.1 0)), (2, .ref (G.2.1 52)), (3, .int x3)] [.int r]
  refine l_aload_n (pc := 475) (q := 2) hC dL_law_475 rfl rfl ?_
  refine l_aload_n (pc := 476) (q := 0) hC dL_law_476 rfl rfl ?_
  refine l_iload_n (pc := 477) (q := 3) hC dL_law_477 rfl rfl ?_
  refine l_iconst (pc := 478) (v := 1) hC dL_law_478 (by decide) ?_
  refine l_iadd (pc := 479) hC dL_law_479 ?_
  refine l_sld (pc := 480) hC h1 dL_law_480 ?_
  refine l_aload_n (pc := 481) (q := 0) hC dL_law_481 rfl rfl ?_
  refine l_iload_n (pc := 482) (q := 3) hC dL_law_482 rfl rfl ?_
  refine l_iconst (pc := 483) (v := 2) hC dL_law_483 (by decide) ?_
  refine l_iadd (pc := 484) hC dL_law_484 ?_
  refine l_sld (pc := 485) hC h2 dL_law_485 ?_
  refine l_aload_n (pc := 486) (q := 0) hC dL_law_486 rfl rfl ?_
  refine l_iload_n (pc := 487) (q := 3) hC dL_law_487 rfl rfl ?_
  refine l_iconst (pc := 488) (v := 3) hC dL_law_488 (by decide) ?_
  refine l_iadd (pc := 489) hC dL_law_489 ?_
  refine l_sld (pc := 490) hC h3 dL_law_490 ?_
  refine l_call (pc := 491) (As := [.int (xs (Int32.toNatClampNeg (x3 + 1))), .int (xs (Int32.toNatClampNeg (x3 + 2))), .int (xs (Int32.toNatClampNeg (x3 + 3)))]) (rest := [.int r]) hC hce hsl lk_RL_52 kX10 (kx := 52) rfl (tX10_plan _ _ σ1 (xs (Int32.toNatClampNeg (x3 + 1))) (xs (Int32.toNatClampNeg (x3 + 2))) (xs (Int32.toNatClampNeg (x3 + 3)))) e2 rfl rfl (Nat.le_of_ble_eq_true rfl) ⟨rfl, rfl, Nat.le_of_ble_eq_true rfl, Nat.le_of_ble_eq_true rfl⟩ dL_law_491 ?_
  show gU p l e s m below meth c G b CE SL σ2 494 [(0, .ref b), (1, .ref (G.2.1 0)), (2, .ref (G.2.1 52)), (3, .int x3)] [.int r, .int r]
  refine l_eq (pc := 494) (tgt := 1477) hC dL_law_494 (by decide) ?_
  exact kk σ2 e3
theorem lk_RL_53 : gLV RL 53 RX9 yX9_gives cX9_gives 4 (some .int) 2 := ⟨(gBig_tab 704 (by decide +kernel) (by decide +kernel)), (gBig_tab 705 (by decide +kernel) (by decide +kernel)), (gBig_tab 706 (by decide +kernel) (by decide +kernel)), (gBig_tab 1 (by decide +kernel) (by decide +kernel)), (gBig_tab 707 (by decide +kernel) (by decide +kernel)), rfl, by decide +kernel, by decide +kernel, by decide +kernel⟩
theorem lk_RL_56 : gLV RL 56 RX10 yX10_gives cX10_gives 5 (some .int) 2 := ⟨(gBig_tab 1391 (by decide +kernel) (by decide +kernel)), (gBig_tab 1392 (by decide +kernel) (by decide +kernel)), (gBig_tab 1393 (by decide +kernel) (by decide +kernel)), (gBig_tab 11 (by decide +kernel) (by decide +kernel)), (gBig_tab 1394 (by decide +kernel) (by decide +kernel)), rfl, by decide +kernel, by decide +kernel, by decide +kernel⟩
set_option maxHeartbeats 4000000 in
set_option maxRecDepth 100000 in
theorem lc_gives {p : Program} {l : Launch} {e : Env} {s : State} {m : MethodId} {below : List Frame} {meth : Method} {c : Code} {G : gE} {b L CE SL : Nat} {xs : Nat → Int32} (hC : gLx p s m meth c G b L xs) (hce : CE ≤ 600000) (hsl : SL ≤ 7302250) {Inv : gS → Prop} (hS : S_gives Inv) (σ : gS) (hI : Inv σ) (x3 : Int32) (h1 : vp_in (x3 + 1) L) (h2 : vp_in (x3 + 2) L) (h3 : vp_in (x3 + 3) L) (h4 : vp_in (x3 + 4) L) (h5 : vp_in (x3 + 5) L) (kk : ∀ τ : gS, Inv τ → gU p l e s m below meth c G b CE SL τ 1477 [(0, .ref b), (1, .ref (G.2.1 0)), (2, .ref (G.2.1 52)), (3, .int x3)] []) : gU p l e s m below meth c G b CE SL σ 499 [(0, .ref b), (1, .ref (G.2.1 0)), (2, .ref (G.2.1 52)), (3, .int x3)] [] := by
  refine l_aload_n (pc := 499) (q := 1) hC dL_law_499 rfl rfl ?_
  refine l_aload_n (pc := 500) (q := 0) hC dL_law_500 rfl rfl ?_
  refine l_iload_n (pc := 501) (q := 3) hC dL_law_501 rfl rfl ?_
  refine l_iconst (pc := 502) (v := 1) hC dL_law_502 (by decide) ?_
  refine l_iadd (pc := 503) hC dL_law_503 ?_
  refine l_sld (pc := 504) hC h1 dL_law_504 ?_
  refine l_aload_n (pc := 505) (q := 0) hC dL_law_505 rfl rfl ?_
  refine l_iload_n (pc := 506) (q := 3) hC dL_law_506 rfl rfl ?_
  refine l_iconst (pc := 507) (v := 2) hC dL_law_507 (by decide) ?_
  refine l_iadd (pc := 508) hC dL_law_508 ?_
  refine l_sld (pc := 509) hC h2 dL_law_509 ?_
  obtain ⟨r, σ1, σ2, e1, e2, e3⟩ := hS σ (xs (Int32.toNatClampNeg (x3 + 1))) (xs (Int32.toNatClampNeg (x3 + 2))) hI
  refine l_call (pc := 510) (As := [.int (xs (Int32.toNatClampNeg (x3 + 1))), .int (xs (Int32.toNatClampNeg (x3 + 2)))]) (rest := []) hC hce hsl lk_RL_53 kX9 (kx := 0) rfl (tX9_gives _ _ σ (xs (Int32.toNatClampNeg (x3 + 1))) (xs (Int32.toNatClampNeg (x3 + 2)))) e1 rfl rfl (Nat.le_of_ble_eq_true rfl) ⟨rfl, rfl, Nat.le_of_ble_eq_true rfl, Nat.le_of_ble_eq_true rfl⟩ dL_law_510 ?_
  show gU p l e s m below meth c G b CE SL σ1 513 [(0, .ref b), (1, .ref (G.2.1 0)), (2, .ref (G.2.1 52)), (3, .int x3)] [.int r]
  refine l_aload_n (pc := 513) (q := 2) hC dL_law_513 rfl rfl ?_
  refine l_aload_n (pc := 514) (q := 0) hC dL_law_514 rfl rfl ?_
  refine l_iload_n (pc := 515) (q := 3) hC dL_law_515 rfl rfl ?_
  refine l_iconst (pc := 516) (v := 1) hC dL_law_516 (by decide) ?_
  refine l_iadd (pc := 517) hC dL_law_517 ?_
  refine l_sld (pc := 518) hC h1 dL_law_518 ?_
  refine l_aload_n (pc := 519) (q := 0) hC dL_law_519 rfl rfl ?_
  refine l_iload_n (pc := 520) (q := 3) hC dL_law_520 rfl rfl ?_
  refine l_iconst (pc := 521) (v := 2) hC dL_law_521 (by decide) ?_
  refine l_iadd (pc := 522) hC dL_law_522 ?_
  refine l_sld (pc := 523) hC h2 dL_law_523 ?_
  refine l_call (pc := 524) (As := [.int (xs (Int32.toNatClampNeg (x3 + 1))), .int (xs (Int32.toNatClampNeg (x3 + 2)))]) (rest := [.int r]) hC hce hsl lk_RL_56 kX10 (kx := 52) rfl (tX10_gives _ _ σ1 (xs (Int32.toNatClampNeg (x3 + 1))) (xs (Int32.toNatClampNeg (x3 + 2)))) e2 rfl rfl (Nat.le_of_ble_eq_true rfl) ⟨rfl, rfl, Nat.le_of_ble_eq_true rfl, Nat.le_of_ble_eq_true rfl⟩ dL_law_524 ?_
  show gU p l e s m below meth c G b CE SL σ2 527 [(0, .ref b), (1, .ref (G.2.1 0)), (2, .ref (G.2.1 52)), (3, .int x3)] [.int r, .int r]
  refine l_eq (pc := 527) (tgt := 1477) hC dL_law_527 (by decide) ?_
  exact kk σ2 e3
theorem lk_RL_57 : gLV RL 57 RX9 yX9_idle cX9_idle 2 (some .int) 1 := ⟨(gBig_tab 712 (by decide +kernel) (by decide +kernel)), (gBig_tab 713 (by decide +kernel) (by decide +kernel)), (gBig_tab 714 (by decide +kernel) (by decide +kernel)), (gBig_tab 1 (by decide +kernel) (by decide +kernel)), (gBig_tab 715 (by decide +kernel) (by decide +kernel)), rfl, by decide +kernel, by decide +kernel, by decide +kernel⟩
theorem lk_RL_60 : gLV RL 60 RX10 yX10_idle cX10_idle 2 (some .int) 1 := ⟨(gBig_tab 1395 (by decide +kernel) (by decide +kernel)), (gBig_tab 1396 (by decide +kernel) (by decide +kernel)), (gBig_tab 1397 (by decide +kernel) (by decide +kernel)), (gBig_tab 11 (by decide +kernel) (by decide +kernel)), (gBig_tab 1398 (by decide +kernel) (by decide +kernel)), rfl, by decide +kernel, by decide +kernel, by decide +kernel⟩
set_option maxHeartbeats 4000000 in
set_option maxRecDepth 100000 in
theorem lc_idle {p : Program} {l : Launch} {e : Env} {s : State} {m : MethodId} {below : List Frame} {meth : Method} {c : Code} {G : gE} {b L CE SL : Nat} {xs : Nat → Int32} (hC : gLx p s m meth c G b L xs) (hce : CE ≤ 600000) (hsl : SL ≤ 7302250) {Inv : gS → Prop} (hS : S_idle Inv) (σ : gS) (hI : Inv σ) (x3 : Int32) (h1 : vp_in (x3 + 1) L) (h2 : vp_in (x3 + 2) L) (h3 : vp_in (x3 + 3) L) (h4 : vp_in (x3 + 4) L) (h5 : vp_in (x3 + 5) L) (kk : ∀ τ : gS, Inv τ → gU p l e s m below meth c G b CE SL τ 1477 [(0, .ref b), (1, .ref (G.2.1 0)), (2, .ref (G.2.1 52)), (3, .int x3)] []) : gU p l e s m below meth c G b CE SL σ 532 [(0, .ref b), (1, .ref (G.2.1 0)), (2, .ref (G.2.1 52)), (3, .int x3)] [] := by
  refine l_aload_n (pc := 532) (q := 1) hC dL_law_532 rfl rfl ?_
  refine l_aload_n (pc := 533) (q := 0) hC dL_law_533 rfl rfl ?_
  refine l_iload_n (pc := 534) (q := 3) hC dL_law_534 rfl rfl ?_
  refine l_iconst (pc := 535) (v := 1) hC dL_law_535 (by decide) ?_
  refine l_iadd (pc := 536) hC dL_law_536 ?_
  refine l_sld (pc := 537) hC h1 dL_law_537 ?_
  obtain ⟨r, σ1, σ2, e1, e2, e3⟩ := hS σ (xs (Int32.toNatClampNeg (x3 + 1))) hI
  refine l_call (pc := 538) (As := [.int (xs (Int32.toNatClampNeg (x3 + 1)))]) (rest := []) hC hce hsl lk_RL_57 kX9 (kx := 0) rfl (tX9_idle _ _ σ (xs (Int32.toNatClampNeg (x3 + 1)))) e1 rfl rfl (Nat.le_of_ble_eq_true rfl) ⟨rfl, rfl, Nat.le_of_ble_eq_true rfl, Nat.le_of_ble_eq_true rfl⟩ dL_law_538 ?_
  show gU p l e s m below meth c G b CE SL σ1 541 [(0, .ref b), (1, .ref (G.2.1 0)), (2, .ref (G.2.1 52)), (3, .int x3)] [.int r]
  refine l_aload_n (pc := 541) (q := 2) hC dL_law_541 rfl rfl ?_
  refine l_aload_n (pc := 542) (q := 0) hC dL_law_542 rfl rfl ?_
  refine l_iload_n (pc := 543) (q := 3) hC dL_law_543 rfl rfl ?_
  refine l_iconst (pc := 544) (v := 1) hC dL_law_544 (by decide) ?_
  refine l_iadd (pc := 545) hC dL_law_545 ?_
  refine l_sld (pc := 546) hC h1 dL_law_546 ?_
  refine l_call (pc := 547) (As := [.int (xs (Int32.toNatClampNeg (x3 + 1)))]) (rest := [.int r]) hC hce hsl lk_RL_60 kX10 (kx := 52) rfl (tX10_idle _ _ σ1 (xs (Int32.toNatClampNeg (x3 + 1)))) e2 rfl rfl (Nat.le_of_ble_eq_true rfl) ⟨rfl, rfl, Nat.le_of_ble_eq_true rfl, Nat.le_of_ble_eq_true rfl⟩ dL_law_547 ?_
  show gU p l e s m below meth c G b CE SL σ2 550 [(0, .ref b), (1, .ref (G.2.1 0)), (2, .ref (G.2.1 52)), (3, .int x3)] [.int r, .int r]
  refine l_eq (pc := 550) (tgt := 1477) hC dL_law_550 (by decide) ?_
  exact kk σ2 e3
theorem lk_RL_61 : gLV RL 61 RX9 yX9_best cX9_best 3 (some .int) 2 := ⟨(gBig_tab 717 (by decide +kernel) (by decide +kernel)), (gBig_tab 718 (by decide +kernel) (by decide +kernel)), (gBig_tab 719 (by decide +kernel) (by decide +kernel)), (gBig_tab 1 (by decide +kernel) (by decide +kernel)), (gBig_tab 720 (by decide +kernel) (by decide +kernel)), rfl, by decide +kernel, by decide +kernel, by decide +kernel⟩
theorem lk_RL_64 : gLV RL 64 RX10 yX10_best cX10_best 4 (some .int) 2 := ⟨(gBig_tab 1399 (by decide +kernel) (by decide +kernel)), (gBig_tab 1400 (by decide +kernel) (by decide +kernel)), (gBig_tab 1401 (by decide +kernel) (by decide +kernel)), (gBig_tab 11 (by decide +kernel) (by decide +kernel)), (gBig_tab 1402 (by decide +kernel) (by decide +kernel)), rfl, by decide +kernel, by decide +kernel, by decide +kernel⟩
set_option maxHeartbeats 4000000 in
set_option maxRecDepth 100000 in
theorem lc_best {p : Program} {l : Launch} {e : Env} {s : State} {m : MethodId} {below : List Frame} {meth : Method} {c : Code} {G : gE} {b L CE SL : Nat} {xs : Nat → Int32} (hC : gLx p s m meth c G b L xs) (hce : CE ≤ 600000) (hsl : SL ≤ 7302250) {Inv : gS → Prop} (hS : S_best Inv) (σ : gS) (hI : Inv σ) (x3 : Int32) (h1 : vp_in (x3 + 1) L) (h2 : vp_in (x3 + 2) L) (h3 : vp_in (x3 + 3) L) (h4 : vp_in (x3 + 4) L) (h5 : vp_in (x3 + 5) L) (kk : ∀ τ : gS, Inv τ → gU p l e s m below meth c G b CE SL τ 1477 [(0, .ref b), (1, .ref (G.2.1 0)), (2, .ref (G.2.1 52)), (3, .int x3)] []) : gU p l e s m below meth c G b CE SL σ 555 [(0, .ref b), (1, .ref (G.2.1 0)), (2, .ref (G.2.1 52)), (3, .int x3)] [] := by
  refine l_aload_n (pc := 555) (q := 1) hC dL_law_555 rfl rfl ?_
  refine l_aload_n (pc := 556) (q := 0) hC dL_law_556 rfl rfl ?_
  refine l_iload_n (pc := 557) (q := 3) hC dL_law_557 rfl rfl ?_
  refine l_iconst (pc := 558) (v := 1) hC dL_law_558 (by decide) ?_
  refine l_iadd (pc := 559) hC dL_law_559 ?_
  refine l_sld (pc := 560) hC h1 dL_law_560 ?_
  refine l_aload_n (pc := 561) (q := 0) hC dL_law_561 rfl rfl ?_
  refine l_iload_n (pc := 562) (q := 3) hC dL_law_562 rfl rfl ?_
  refine l_iconst (pc := 563) (v := 2) hC dL_law_563 (by decide) ?_
  refine l_iadd (pc := 564) hC dL_law_564 ?_
  refine l_sld (pc := 565) hC h2 dL_law_565 ?_
  obtain ⟨r, σ1, σ2, e1, e2, e3⟩ := hS σ (xs (Int32.toNatClampNeg (x3 + 1))) (xs (Int32.toNatClampNeg (x3 + 2))) hI
  refine l_call (pc := 566) (As := [.int (xs (Int32.toNatClampNeg (x3 + 1))), .int (xs (Int32.toNatClampNeg (x3 + 2)))]) (rest := []) hC hce hsl lk_RL_61 kX9 (kx := 0) rfl (tX9_best _ _ σ (xs (Int32.toNatClampNeg (x3 + 1))) (xs (Int32.toNatClampNeg (x3 + 2)))) e1 rfl rfl (Nat.le_of_ble_eq_true rfl) ⟨rfl, rfl, Nat.le_of_ble_eq_true rfl, Nat.le_of_ble_eq_true rfl⟩ dL_law_566 ?_
  show gU p l e s m below meth c G b CE SL σ1 569 [(0, .ref b), (1, .ref (G.2.1 0)), (2, .ref (G.2.1 52)), (3, .int x3)] [.int r]
  refine l_aload_n (pc := 569) (q := 2) hC dL_law_569 rfl rfl ?_
  refine l_aload_n (pc := 570) (q := 0) hC dL_law_570 rfl rfl ?_
  refine l_iload_n (pc := 571) (q := 3) hC dL_law_571 rfl rfl ?_
  refine l_iconst (pc := 572) (v := 1) hC dL_law_572 (by decide) ?_
  refine l_iadd (pc := 573) hC dL_law_573 ?_
  refine l_sld (pc := 574) hC h1 dL_law_574 ?_
  refine l_aload_n (pc := 575) (q := 0) hC dL_law_575 rfl rfl ?_
  refine l_iload_n (pc := 576) (q := 3) hC dL_law_576 rfl rfl ?_
  refine l_iconst (pc := 577) (v := 2) hC dL_law_577 (by decide) ?_
  refine l_iadd (pc := 578) hC dL_law_578 ?_
  refine l_sld (pc := 579) hC h2 dL_law_579 ?_
  refine l_call (pc := 580) (As := [.int (xs (Int32.toNatClampNeg (x3 + 1))), .int (xs (Int32.toNatClampNeg (x3 + 2)))]) (rest := [.int r]) hC hce hsl lk_RL_64 kX10 (kx := 52) rfl (tX10_best _ _ σ1 (xs (Int32.toNatClampNeg (x3 + 1))) (xs (Int32.toNatClampNeg (x3 + 2)))) e2 rfl rfl (Nat.le_of_ble_eq_true rfl) ⟨rfl, rfl, Nat.le_of_ble_eq_true rfl, Nat.le_of_ble_eq_true rfl⟩ dL_law_580 ?_
  show gU p l e s m below meth c G b CE SL σ2 583 [(0, .ref b), (1, .ref (G.2.1 0)), (2, .ref (G.2.1 52)), (3, .int x3)] [.int r, .int r]
  refine l_eq (pc := 583) (tgt := 1477) hC dL_law_583 (by decide) ?_
  exact kk σ2 e3
theorem lk_RL_65 : gLV RL 65 RX9 yX9_all cX9_all 2 (some .int) 1 := ⟨(gBig_tab 742 (by decide +kernel) (by decide +kernel)), (gBig_tab 743 (by decide +kernel) (by decide +kernel)), (gBig_tab 744 (by decide +kernel) (by decide +kernel)), (gBig_tab 1 (by decide +kernel) (by decide +kernel)), (gBig_tab 745 (by decide +kernel) (by decide +kernel)), rfl, by decide +kernel, by decide +kernel, by decide +kernel⟩
theorem lk_RL_68 : gLV RL 68 RX10 yX10_all cX10_all 3 (some .int) 1 := ⟨(gBig_tab 1412 (by decide +kernel) (by decide +kernel)), (gBig_tab 1413 (by decide +kernel) (by decide +kernel)), (gBig_tab 1414 (by decide +kernel) (by decide +kernel)), (gBig_tab 11 (by decide +kernel) (by decide +kernel)), (gBig_tab 1415 (by decide +kernel) (by decide +kernel)), rfl, by decide +kernel, by decide +kernel, by decide +kernel⟩
set_option maxHeartbeats 4000000 in
set_option maxRecDepth 100000 in
theorem lc_all {p : Program} {l : Launch} {e : Env} {s : State} {m : MethodId} {below : List Frame} {meth : Method} {c : Code} {G : gE} {b L CE SL : Nat} {xs : Nat → Int32} (hC : gLx p s m meth c G b L xs) (hce : CE ≤ 600000) (hsl : SL ≤ 7302250) {Inv : gS → Prop} (hS : S_all Inv) (σ : gS) (hI : Inv σ) (x3 : Int32) (h1 : vp_in (x3 + 1) L) (h2 : vp_in (x3 + 2) L) (h3 : vp_in (x3 + 3) L) (h4 : vp_in (x3 + 4) L) (h5 : vp_in (x3 + 5) L) (kk : ∀ τ : gS, Inv τ → gU p l e s m below meth c G b CE SL τ 1477 [(0, .ref b), (1, .ref (G.2.1 0)), (2, .ref (G.2.1 52)), (3, .int x3)] []) : gU p l e s m below meth c G b CE SL σ 588 [(0, .ref b), (1, .ref (G.2.1 0)), (2, .ref (G.2.1 52)), (3, .int x3)] [] := by
  refine l_aload_n (pc := 588) (q := 1) hC dL_law_588 rfl rfl ?_
  refine l_aload_n (pc := 589) (q := 0) hC dL_law_589 rfl rfl ?_
  refine l_iload_n (pc := 590) (q := 3) hC dL_law_590 rfl rfl ?_
  refine l_iconst (pc := 591) (v := 1) hC dL_law_591 (by decide) ?_
  refine l_iadd (pc := 592) hC dL_law_592 ?_
  refine l_sld (pc := 593) hC h1 dL_law_593 ?_
  obtain ⟨r, σ1, σ2, e1, e2, e3⟩ := hS σ (xs (Int32.toNatClampNeg (x3 + 1))) hI
  refine l_call (pc := 594) (As := [.int (xs (Int32.toNatClampNeg (x3 + 1)))]) (rest := []) hC hce hsl lk_RL_65 kX9 (kx := 0) rfl (tX9_all _ _ σ (xs (Int32.toNatClampNeg (x3 + 1)))) e1 rfl rfl (Nat.le_of_ble_eq_true rfl) ⟨rfl, rfl, Nat.le_of_ble_eq_true rfl, Nat.le_of_ble_eq_true rfl⟩ dL_law_594 ?_
  show gU p l e s m below meth c G b CE SL σ1 597 [(0, .ref b), (1, .ref (G.2.1 0)), (2, .ref (G.2.1 52)), (3, .int x3)] [.int r]
  refine l_aload_n (pc := 597) (q := 2) hC dL_law_597 rfl rfl ?_
  refine l_aload_n (pc := 598) (q := 0) hC dL_law_598 rfl rfl ?_
  refine l_iload_n (pc := 599) (q := 3) hC dL_law_599 rfl rfl ?_
  refine l_iconst (pc := 600) (v := 1) hC dL_law_600 (by decide) ?_
  refine l_iadd (pc := 601) hC dL_law_601 ?_
  refine l_sld (pc := 602) hC h1 dL_law_602 ?_
  refine l_call (pc := 603) (As := [.int (xs (Int32.toNatClampNeg (x3 + 1)))]) (rest := [.int r]) hC hce hsl lk_RL_68 kX10 (kx := 52) rfl (tX10_all _ _ σ1 (xs (Int32.toNatClampNeg (x3 + 1)))) e2 rfl rfl (Nat.le_of_ble_eq_true rfl) ⟨rfl, rfl, Nat.le_of_ble_eq_true rfl, Nat.le_of_ble_eq_true rfl⟩ dL_law_603 ?_
  show gU p l e s m below meth c G b CE SL σ2 606 [(0, .ref b), (1, .ref (G.2.1 0)), (2, .ref (G.2.1 52)), (3, .int x3)] [.int r, .int r]
  refine l_eq (pc := 606) (tgt := 1477) hC dL_law_606 (by decide) ?_
  exact kk σ2 e3
theorem lk_RL_69 : gLV RL 69 RX9 yX9_vote cX9_vote 4 (some .int) 2 := ⟨(gBig_tab 768 (by decide +kernel) (by decide +kernel)), (gBig_tab 769 (by decide +kernel) (by decide +kernel)), (gBig_tab 770 (by decide +kernel) (by decide +kernel)), (gBig_tab 1 (by decide +kernel) (by decide +kernel)), (gBig_tab 771 (by decide +kernel) (by decide +kernel)), rfl, by decide +kernel, by decide +kernel, by decide +kernel⟩
theorem lk_RL_72 : gLV RL 72 RX10 yX10_vote cX10_vote 6 (some .int) 2 := ⟨(gBig_tab 1424 (by decide +kernel) (by decide +kernel)), (gBig_tab 1425 (by decide +kernel) (by decide +kernel)), (gBig_tab 1426 (by decide +kernel) (by decide +kernel)), (gBig_tab 11 (by decide +kernel) (by decide +kernel)), (gBig_tab 1427 (by decide +kernel) (by decide +kernel)), rfl, by decide +kernel, by decide +kernel, by decide +kernel⟩
set_option maxHeartbeats 4000000 in
set_option maxRecDepth 100000 in
theorem lc_vote {p : Program} {l : Launch} {e : Env} {s : State} {m : MethodId} {below : List Frame} {meth : Method} {c : Code} {G : gE} {b L CE SL : Nat} {xs : Nat → Int32} (hC : gLx p s m meth c G b L xs) (hce : CE ≤ 600000) (hsl : SL ≤ 7302250) {Inv : gS → Prop} (hS : S_vote Inv) (σ : gS) (hI : Inv σ) (x3 : Int32) (h1 : vp_in (x3 + 1) L) (h2 : vp_in (x3 + 2) L) (h3 : vp_in (x3 + 3) L) (h4 : vp_in (x3 + 4) L) (h5 : vp_in (x3 + 5) L) (kk : ∀ τ : gS, Inv τ → gU p l e s m below meth c G b CE SL τ 1477 [(0, .ref b), (1, .ref (G.2.1 0)), (2, .ref (G.2.1 52)), (3, .int x3)] []) : gU p l e s m below meth c G b CE SL σ 611 [(0, .ref b), (1, .ref (G.2.1 0)), (2, .ref (G.2.1 52)), (3, .int x3)] [] := by
  refine l_aload_n (pc := 611) (q := 1) hC dL_law_611 rfl rfl ?_
  refine l_aload_n (pc := 612) (q := 0) hC dL_law_612 rfl rfl ?_
  refine l_iload_n (pc := 613) (q := 3) hC dL_law_613 rfl rfl ?_
  refine l_iconst (pc := 614) (v := 1) hC dL_law_614 (by decide) ?_
  refine l_iadd (pc := 615) hC dL_law_615 ?_
  refine l_sld (pc := 616) hC h1 dL_law_616 ?_
  refine l_aload_n (pc := 617) (q := 0) hC dL_law_617 rfl rfl ?_
  refine l_iload_n (pc := 618) (q := 3) hC dL_law_618 rfl rfl ?_
  refine l_iconst (pc := 619) (v := 2) hC dL_law_619 (by decide) ?_
  refine l_iadd (pc := 620) hC dL_law_620 ?_
  refine l_sld (pc := 621) hC h2 dL_law_621 ?_
  obtain ⟨r, σ1, σ2, e1, e2, e3⟩ := hS σ (xs (Int32.toNatClampNeg (x3 + 1))) (xs (Int32.toNatClampNeg (x3 + 2))) hI
  refine l_call (pc := 622) (As := [.int (xs (Int32.toNatClampNeg (x3 + 1))), .int (xs (Int32.toNatClampNeg (x3 + 2)))]) (rest := []) hC hce hsl lk_RL_69 kX9 (kx := 0) rfl (tX9_vote _ _ σ (xs (Int32.toNatClampNeg (x3 + 1))) (xs (Int32.toNatClampNeg (x3 + 2)))) e1 rfl rfl (Nat.le_of_ble_eq_true rfl) ⟨rfl, rfl, Nat.le_of_ble_eq_true rfl, Nat.le_of_ble_eq_true rfl⟩ dL_law_622 ?_
  show gU p l e s m below meth c G b CE SL σ1 625 [(0, .ref b), (1, .ref (G.2.1 0)), (2, .ref (G.2.1 52)), (3, .int x3)] [.int r]
  refine l_aload_n (pc := 625) (q := 2) hC dL_law_625 rfl rfl ?_
  refine l_aload_n (pc := 626) (q := 0) hC dL_law_626 rfl rfl ?_
  refine l_iload_n (pc := 627) (q := 3) hC dL_law_627 rfl rfl ?_
  refine l_iconst (pc := 628) (v := 1) hC dL_law_628 (by decide) ?_
  refine l_iadd (pc := 629) hC dL_law_629 ?_
  refine l_sld (pc := 630) hC h1 dL_law_630 ?_
  refine l_aload_n (pc := 631) (q := 0) hC dL_law_631 rfl rfl ?_
  refine l_iload_n (pc := 632) (q := 3) hC dL_law_632 rfl rfl ?_
  refine l_iconst (pc := 633) (v := 2) hC dL_law_633 (by decide) ?_
  refine l_iadd (pc := 634) hC dL_law_634 ?_
  refine l_sld (pc := 635) hC h2 dL_law_635 ?_
  refine l_call (pc := 636) (As := [.int (xs (Int32.toNatClampNeg (x3 + 1))), .int (xs (Int32.toNatClampNeg (x3 + 2)))]) (rest := [.int r]) hC hce hsl lk_RL_72 kX10 (kx := 52) rfl (tX10_vote _ _ σ1 (xs (Int32.toNatClampNeg (x3 + 1))) (xs (Int32.toNatClampNeg (x3 + 2)))) e2 rfl rfl (Nat.le_of_ble_eq_true rfl) ⟨rfl, rfl, Nat.le_of_ble_eq_true rfl, Nat.le_of_ble_eq_true rfl⟩ dL_law_636 ?_
  show gU p l e s m below meth c G b CE SL σ2 639 [(0, .ref b), (1, .ref (G.2.1 0)), (2, .ref (G.2.1 52)), (3, .int x3)] [.int r, .int r]
  refine l_eq (pc := 639) (tgt := 1477) hC dL_law_639 (by decide) ?_
  exact kk σ2 e3
theorem lk_RL_73 : gLV RL 73 RX9 yX9_most cX9_most 3 (some .int) 1 := ⟨(gBig_tab 793 (by decide +kernel) (by decide +kernel)), (gBig_tab 794 (by decide +kernel) (by decide +kernel)), (gBig_tab 795 (by decide +kernel) (by decide +kernel)), (gBig_tab 1 (by decide +kernel) (by decide +kernel)), (gBig_tab 796 (by decide +kernel) (by decide +kernel)), rfl, by decide +kernel, by decide +kernel, by decide +kernel⟩
theorem lk_RL_76 : gLV RL 76 RX10 yX10_most cX10_most 3 (some .int) 1 := ⟨(gBig_tab 1443 (by decide +kernel) (by decide +kernel)), (gBig_tab 1444 (by decide +kernel) (by decide +kernel)), (gBig_tab 1445 (by decide +kernel) (by decide +kernel)), (gBig_tab 11 (by decide +kernel) (by decide +kernel)), (gBig_tab 1446 (by decide +kernel) (by decide +kernel)), rfl, by decide +kernel, by decide +kernel, by decide +kernel⟩
set_option maxHeartbeats 4000000 in
set_option maxRecDepth 100000 in
theorem lc_most {p : Program} {l : Launch} {e : Env} {s : State} {m : MethodId} {below : List Frame} {meth : Method} {c : Code} {G : gE} {b L CE SL : Nat} {xs : Nat → Int32} (hC : gLx p s m meth c G b L xs) (hce : CE ≤ 600000) (hsl : SL ≤ 7302250) {Inv : gS → Prop} (hS : S_most Inv) (σ : gS) (hI : Inv σ) (x3 : Int32) (h1 : vp_in (x3 + 1) L) (h2 : vp_in (x3 + 2) L) (h3 : vp_in (x3 + 3) L) (h4 : vp_in (x3 + 4) L) (h5 : vp_in (x3 + 5) L) (kk : ∀ τ : gS, Inv τ → gU p l e s m below meth c G b CE SL τ 1477 [(0, .ref b), (1, .ref (G.2.1 0)), (2, .ref (G.2.1 52)), (3, .int x3)] []) : gU p l e s m below meth c G b CE SL σ 644 [(0, .ref b), (1, .ref (G.2.1 0)), (2, .ref (G.2.1 52)), (3, .int x3)] [] := by
  refine l_aload_n (pc := 644) (q := 1) hC dL_law_644 rfl rfl ?_
  refine l_aload_n (pc := 645) (q := 0) hC dL_law_645 rfl rfl ?_
  refine l_iload_n (pc := 646) (q := 3) hC dL_law_646 rfl rfl ?_
  refine l_iconst (pc := 647) (v := 1) hC dL_law_647 (by decide) ?_
  refine l_iadd (pc := 648) hC dL_law_648 ?_
  refine l_sld (pc := 649) hC h1 dL_law_649 ?_
  obtain ⟨r, σ1, σ2, e1, e2, e3⟩ := hS σ (xs (Int32.toNatClampNeg (x3 + 1))) hI
  refine l_call (pc := 650) (As := [.int (xs (Int32.toNatClampNeg (x3 + 1)))]) (rest := []) hC hce hsl lk_RL_73 kX9 (kx := 0) rfl (tX9_most _ _ σ (xs (Int32.toNatClampNeg (x3 + 1)))) e1 rfl rfl (Nat.le_of_ble_eq_true rfl) ⟨rfl, rfl, Nat.le_of_ble_eq_true rfl, Nat.le_of_ble_eq_true rfl⟩ dL_law_650 ?_
  show gU p l e s m below meth c G b CE SL σ1 653 [(0, .ref b), (1, .ref (G.2.1 0)), (2, .ref (G.2.1 52)), (3, .int x3)] [.int r]
  refine l_aload_n (pc := 653) (q := 2) hC dL_law_653 rfl rfl ?_
  refine l_aload_n (pc := 654) (q := 0) hC dL_law_654 rfl rfl ?_
  refine l_iload_n (pc := 655) (q := 3) hC dL_law_655 rfl rfl ?_
  refine l_iconst (pc := 656) (v := 1) hC dL_law_656 (by decide) ?_
  refine l_iadd (pc := 657) hC dL_law_657 ?_
  refine l_sld (pc := 658) hC h1 dL_law_658 ?_
  refine l_call (pc := 659) (As := [.int (xs (Int32.toNatClampNeg (x3 + 1)))]) (rest := [.int r]) hC hce hsl lk_RL_76 kX10 (kx := 52) rfl (tX10_most _ _ σ1 (xs (Int32.toNatClampNeg (x3 + 1)))) e2 rfl rfl (Nat.le_of_ble_eq_true rfl) ⟨rfl, rfl, Nat.le_of_ble_eq_true rfl, Nat.le_of_ble_eq_true rfl⟩ dL_law_659 ?_
  show gU p l e s m below meth c G b CE SL σ2 662 [(0, .ref b), (1, .ref (G.2.1 0)), (2, .ref (G.2.1 52)), (3, .int x3)] [.int r, .int r]
  refine l_eq (pc := 662) (tgt := 1477) hC dL_law_662 (by decide) ?_
  exact kk σ2 e3
theorem lk_RL_77 : gLV RL 77 RX9 yX9_power cX9_power 6 (some .long) 2 := ⟨(gBig_tab 797 (by decide +kernel) (by decide +kernel)), (gBig_tab 798 (by decide +kernel) (by decide +kernel)), (gBig_tab 799 (by decide +kernel) (by decide +kernel)), (gBig_tab 1 (by decide +kernel) (by decide +kernel)), (gBig_tab 800 (by decide +kernel) (by decide +kernel)), rfl, by decide +kernel, by decide +kernel, by decide +kernel⟩
theorem lk_RL_81 : gLV RL 81 RX10 yX10_power cX10_power 7 (some .long) 2 := ⟨(gBig_tab 1447 (by decide +kernel) (by decide +kernel)), (gBig_tab 1448 (by decide +kernel) (by decide +kernel)), (gBig_tab 1449 (by decide +kernel) (by decide +kernel)), (gBig_tab 11 (by decide +kernel) (by decide +kernel)), (gBig_tab 1450 (by decide +kernel) (by decide +kernel)), rfl, by decide +kernel, by decide +kernel, by decide +kernel⟩
set_option maxHeartbeats 4000000 in
set_option maxRecDepth 100000 in
theorem lc_power {p : Program} {l : Launch} {e : Env} {s : State} {m : MethodId} {below : List Frame} {meth : Method} {c : Code} {G : gE} {b L CE SL : Nat} {xs : Nat → Int32} (hC : gLx p s m meth c G b L xs) (hce : CE ≤ 600000) (hsl : SL ≤ 7302250) {Inv : gS → Prop} (hS : S_power Inv) (σ : gS) (hI : Inv σ) (x3 : Int32) (h1 : vp_in (x3 + 1) L) (h2 : vp_in (x3 + 2) L) (h3 : vp_in (x3 + 3) L) (h4 : vp_in (x3 + 4) L) (h5 : vp_in (x3 + 5) L) (kk : ∀ τ : gS, Inv τ → gU p l e s m below meth c G b CE SL τ 1477 [(0, .ref b), (1, .ref (G.2.1 0)), (2, .ref (G.2.1 52)), (3, .int x3)] []) : gU p l e s m below meth c G b CE SL σ 667 [(0, .ref b), (1, .ref (G.2.1 0)), (2, .ref (G.2.1 52)), (3, .int x3)] [] := by
  refine l_aload_n (pc := 667) (q := 1) hC dL_law_667 rfl rfl ?_
  refine l_aload_n (pc := 668) (q := 0) hC dL_law_668 rfl rfl ?_
  refine l_iload_n (pc := 669) (q := 3) hC dL_law_669 rfl rfl ?_
  refine l_iconst (pc := 670) (v := 1) hC dL_law_670 (by decide) ?_
  refine l_iadd (pc := 671) hC dL_law_671 ?_
  refine l_sld (pc := 672) hC h1 dL_law_672 ?_
  refine l_aload_n (pc := 673) (q := 0) hC dL_law_673 rfl rfl ?_
  refine l_iload_n (pc := 674) (q := 3) hC dL_law_674 rfl rfl ?_
  refine l_iconst (pc := 675) (v := 2) hC dL_law_675 (by decide) ?_
  refine l_iadd (pc := 676) hC dL_law_676 ?_
  refine l_sld (pc := 677) hC h2 dL_law_677 ?_
  obtain ⟨r, σ1, σ2, e1, e2, e3⟩ := hS σ (xs (Int32.toNatClampNeg (x3 + 1))) (xs (Int32.toNatClampNeg (x3 + 2))) hI
  refine l_call (pc := 678) (As := [.int (xs (Int32.toNatClampNeg (x3 + 1))), .int (xs (Int32.toNatClampNeg (x3 + 2)))]) (rest := []) hC hce hsl lk_RL_77 kX9 (kx := 0) rfl (tX9_power _ _ σ (xs (Int32.toNatClampNeg (x3 + 1))) (xs (Int32.toNatClampNeg (x3 + 2)))) e1 rfl rfl (Nat.le_of_ble_eq_true rfl) ⟨rfl, rfl, Nat.le_of_ble_eq_true rfl, Nat.le_of_ble_eq_true rfl⟩ dL_law_678 ?_
  show gU p l e s m below meth c G b CE SL σ1 681 [(0, .ref b), (1, .ref (G.2.1 0)), (2, .ref (G.2.1 52)), (3, .int x3)] [.long r]
  refine l_aload_n (pc := 681) (q := 2) hC dL_law_681 rfl rfl ?_
  refine l_aload_n (pc := 682) (q := 0) hC dL_law_682 rfl rfl ?_
  refine l_iload_n (pc := 683) (q := 3) hC dL_law_683 rfl rfl ?_
  refine l_iconst (pc := 684) (v := 1) hC dL_law_684 (by decide) ?_
  refine l_iadd (pc := 685) hC dL_law_685 ?_
  refine l_sld (pc := 686) hC h1 dL_law_686 ?_
  refine l_aload_n (pc := 687) (q := 0) hC dL_law_687 rfl rfl ?_
  refine l_iload_n (pc := 688) (q := 3) hC dL_law_688 rfl rfl ?_
  refine l_iconst (pc := 689) (v := 2) hC dL_law_689 (by decide) ?_
  refine l_iadd (pc := 690) hC dL_law_690 ?_
  refine l_sld (pc := 691) hC h2 dL_law_691 ?_
  refine l_call (pc := 692) (As := [.int (xs (Int32.toNatClampNeg (x3 + 1))), .int (xs (Int32.toNatClampNeg (x3 + 2)))]) (rest := [.long r]) hC hce hsl lk_RL_81 kX10 (kx := 52) rfl (tX10_power _ _ σ1 (xs (Int32.toNatClampNeg (x3 + 1))) (xs (Int32.toNatClampNeg (x3 + 2)))) e2 rfl rfl (Nat.le_of_ble_eq_true rfl) ⟨rfl, rfl, Nat.le_of_ble_eq_true rfl, Nat.le_of_ble_eq_true rfl⟩ dL_law_692 ?_
  show gU p l e s m below meth c G b CE SL σ2 695 [(0, .ref b), (1, .ref (G.2.1 0)), (2, .ref (G.2.1 52)), (3, .int x3)] [.long r, .long r]
  refine l_lcmp (pc := 695) hC dL_law_695 ?_
  refine l_ifeq (pc := 696) (tgt := 1477) hC (lgc_refl _) dL_law_696 (by decide) ?_
  exact kk σ2 e3
theorem lk_RL_82 : gLV RL 82 RX9 yX9_agenda cX9_agenda 5 (some .int) 2 := ⟨(gBig_tab 809 (by decide +kernel) (by decide +kernel)), (gBig_tab 810 (by decide +kernel) (by decide +kernel)), (gBig_tab 811 (by decide +kernel) (by decide +kernel)), (gBig_tab 1 (by decide +kernel) (by decide +kernel)), (gBig_tab 812 (by decide +kernel) (by decide +kernel)), rfl, by decide +kernel, by decide +kernel, by decide +kernel⟩
theorem lk_RL_85 : gLV RL 85 RX10 yX10_agenda cX10_agenda 7 (some .int) 2 := ⟨(gBig_tab 1452 (by decide +kernel) (by decide +kernel)), (gBig_tab 1453 (by decide +kernel) (by decide +kernel)), (gBig_tab 1454 (by decide +kernel) (by decide +kernel)), (gBig_tab 11 (by decide +kernel) (by decide +kernel)), (gBig_tab 1455 (by decide +kernel) (by decide +kernel)), rfl, by decide +kernel, by decide +kernel, by decide +kernel⟩
set_option maxHeartbeats 4000000 in
set_option maxRecDepth 100000 in
theorem lc_agenda {p : Program} {l : Launch} {e : Env} {s : State} {m : MethodId} {below : List Frame} {meth : Method} {c : Code} {G : gE} {b L CE SL : Nat} {xs : Nat → Int32} (hC : gLx p s m meth c G b L xs) (hce : CE ≤ 600000) (hsl : SL ≤ 7302250) {Inv : gS → Prop} (hS : S_agenda Inv) (σ : gS) (hI : Inv σ) (x3 : Int32) (h1 : vp_in (x3 + 1) L) (h2 : vp_in (x3 + 2) L) (h3 : vp_in (x3 + 3) L) (h4 : vp_in (x3 + 4) L) (h5 : vp_in (x3 + 5) L) (kk : ∀ τ : gS, Inv τ → gU p l e s m below meth c G b CE SL τ 1477 [(0, .ref b), (1, .ref (G.2.1 0)), (2, .ref (G.2.1 52)), (3, .int x3)] []) : gU p l e s m below meth c G b CE SL σ 701 [(0, .ref b), (1, .ref (G.2.1 0)), (2, .ref (G.2.1 52)), (3, .int x3)] [] := by
  refine l_aload_n (pc := 701) (q := 1) hC dL_law_701 rfl rfl ?_
  refine l_aload_n (pc := 702) (q := 0) hC dL_law_702 rfl rfl ?_
  refine l_iload_n (pc := 703) (q := 3) hC dL_law_703 rfl rfl ?_
  refine l_iconst (pc := 704) (v := 1) hC dL_law_704 (by decide) ?_
  refine l_iadd (pc := 705) hC dL_law_705 ?_
  refine l_sld (pc := 706) hC h1 dL_law_706 ?_
  refine l_aload_n (pc := 707) (q := 0) hC dL_law_707 rfl rfl ?_
  refine l_iload_n (pc := 708) (q := 3) hC dL_law_708 rfl rfl ?_
  refine l_iconst (pc := 709) (v := 2) hC dL_law_709 (by decide) ?_
  refine l_iadd (pc := 710) hC dL_law_710 ?_
  refine l_sld (pc := 711) hC h2 dL_law_711 ?_
  obtain ⟨r, σ1, σ2, e1, e2, e3⟩ := hS σ (xs (Int32.toNatClampNeg (x3 + 1))) (xs (Int32.toNatClampNeg (x3 + 2))) hI
  refine l_call (pc := 712) (As := [.int (xs (Int32.toNatClampNeg (x3 + 1))), .int (xs (Int32.toNatClampNeg (x3 + 2)))]) (rest := []) hC hce hsl lk_RL_82 kX9 (kx := 0) rfl (tX9_agenda _ _ σ (xs (Int32.toNatClampNeg (x3 + 1))) (xs (Int32.toNatClampNeg (x3 + 2)))) e1 rfl rfl (Nat.le_of_ble_eq_true rfl) ⟨rfl, rfl, Nat.le_of_ble_eq_true rfl, Nat.le_of_ble_eq_true rfl⟩ dL_law_712 ?_
  show gU p l e s m below meth c G b CE SL σ1 715 [(0, .ref b), (1, .ref (G.2.1 0)), (2, .ref (G.2.1 52)), (3, .int x3)] [.int r]
  refine l_aload_n (pc := 715) (q := 2) hC dL_law_715 rfl rfl ?_
  refine l_aload_n (pc := 716) (q := 0) hC dL_law_716 rfl rfl ?_
  refine l_iload_n (pc := 717) (q := 3) hC dL_law_717 rfl rfl ?_
  refine l_iconst (pc := 718) (v := 1) hC dL_law_718 (by decide) ?_
  refine l_iadd (pc := 719) hC dL_law_719 ?_
  refine l_sld (pc := 720) hC h1 dL_law_720 ?_
  refine l_aload_n (pc := 721) (q := 0) hC dL_law_721 rfl rfl ?_
  refine l_iload_n (pc := 722) (q := 3) hC dL_law_722 rfl rfl ?_
  refine l_iconst (pc := 723) (v := 2) hC dL_law_723 (by decide) ?_
  refine l_iadd (pc := 724) hC dL_law_724 ?_
  refine l_sld (pc := 725) hC h2 dL_law_725 ?_
  refine l_call (pc := 726) (As := [.int (xs (Int32.toNatClampNeg (x3 + 1))), .int (xs (Int32.toNatClampNeg (x3 + 2)))]) (rest := [.int r]) hC hce hsl lk_RL_85 kX10 (kx := 52) rfl (tX10_agenda _ _ σ1 (xs (Int32.toNatClampNeg (x3 + 1))) (xs (Int32.toNatClampNeg (x3 + 2)))) e2 rfl rfl (Nat.le_of_ble_eq_true rfl) ⟨rfl, rfl, Nat.le_of_ble_eq_true rfl, Nat.le_of_ble_eq_true rfl⟩ dL_law_726 ?_
  show gU p l e s m below meth c G b CE SL σ2 729 [(0, .ref b), (1, .ref (G.2.1 0)), (2, .ref (G.2.1 52)), (3, .int x3)] [.int r, .int r]
  refine l_eq (pc := 729) (tgt := 1477) hC dL_law_729 (by decide) ?_
  exact kk σ2 e3
theorem lk_RL_86 : gLV RL 86 RX9 yX9_price cX9_price 3 (some .int) 2 := ⟨(gBig_tab 818 (by decide +kernel) (by decide +kernel)), (gBig_tab 819 (by decide +kernel) (by decide +kernel)), (gBig_tab 820 (by decide +kernel) (by decide +kernel)), (gBig_tab 1 (by decide +kernel) (by decide +kernel)), (gBig_tab 821 (by decide +kernel) (by decide +kernel)), rfl, by decide +kernel, by decide +kernel, by decide +kernel⟩
theorem lk_RL_89 : gLV RL 89 RX10 yX10_price cX10_price 5 (some .int) 2 := ⟨(gBig_tab 1457 (by decide +kernel) (by decide +kernel)), (gBig_tab 1458 (by decide +kernel) (by decide +kernel)), (gBig_tab 1459 (by decide +kernel) (by decide +kernel)), (gBig_tab 11 (by decide +kernel) (by decide +kernel)), (gBig_tab 1460 (by decide +kernel) (by decide +kernel)), rfl, by decide +kernel, by decide +kernel, by decide +kernel⟩
set_option maxHeartbeats 4000000 in
set_option maxRecDepth 100000 in
theorem lc_price {p : Program} {l : Launch} {e : Env} {s : State} {m : MethodId} {below : List Frame} {meth : Method} {c : Code} {G : gE} {b L CE SL : Nat} {xs : Nat → Int32} (hC : gLx p s m meth c G b L xs) (hce : CE ≤ 600000) (hsl : SL ≤ 7302250) {Inv : gS → Prop} (hS : S_price Inv) (σ : gS) (hI : Inv σ) (x3 : Int32) (h1 : vp_in (x3 + 1) L) (h2 : vp_in (x3 + 2) L) (h3 : vp_in (x3 + 3) L) (h4 : vp_in (x3 + 4) L) (h5 : vp_in (x3 + 5) L) (kk : ∀ τ : gS, Inv τ → gU p l e s m below meth c G b CE SL τ 1477 [(0, .ref b), (1, .ref (G.2.1 0)), (2, .ref (G.2.1 52)), (3, .int x3)] []) : gU p l e s m below meth c G b CE SL σ 734 [(0, .ref b), (1, .ref (G.2.1 0)), (2, .ref (G.2.1 52)), (3, .int x3)] [] := by
  refine l_aload_n (pc := 734) (q := 1) hC dL_law_734 rfl rfl ?_
  refine l_aload_n (pc := 735) (q := 0) hC dL_law_735 rfl rfl ?_
  refine l_iload_n (pc := 736) (q := 3) hC dL_law_736 rfl rfl ?_
  refine l_iconst (pc := 737) (v := 1) hC dL_law_737 (by decide) ?_
  refine l_iadd (pc := 738) hC dL_law_738 ?_
  refine l_sld (pc := 739) hC h1 dL_law_739 ?_
  refine l_aload_n (pc := 740) (q := 0) hC dL_law_740 rfl rfl ?_
  refine l_iload_n (pc := 741) (q := 3) hC dL_law_741 rfl rfl ?_
  refine l_iconst (pc := 742) (v := 2) hC dL_law_742 (by decide) ?_
  refine l_iadd (pc := 743) hC dL_law_743 ?_
  refine l_sld (pc := 744) hC h2 dL_law_744 ?_
  obtain ⟨r, σ1, σ2, e1, e2, e3⟩ := hS σ (xs (Int32.toNatClampNeg (x3 + 1))) (xs (Int32.toNatClampNeg (x3 + 2))) hI
  refine l_call (pc := 745) (As := [.int (xs (Int32.toNatClampNeg (x3 + 1))), .int (xs (Int32.toNatClampNeg (x3 + 2)))]) (rest := []) hC hce hsl lk_RL_86 kX9 (kx := 0) rfl (tX9_price _ _ σ (xs (Int32.toNatClampNeg (x3 + 1))) (xs (Int32.toNatClampNeg (x3 + 2)))) e1 rfl rfl (Nat.le_of_ble_eq_true rfl) ⟨rfl, rfl, Nat.le_of_ble_eq_true rfl, Nat.le_of_ble_eq_true rfl⟩ dL_law_745 ?_
  show gU p l e s m below meth c G b CE SL σ1 748 [(0, .ref b), (1, .ref (G.2.1 0)), (2, .ref (G.2.1 52)), (3, .int x3)] [.int r]
  refine l_aload_n (pc := 748) (q := 2) hC dL_law_748 rfl rfl ?_
  refine l_aload_n (pc := 749) (q := 0) hC dL_law_749 rfl rfl ?_
  refine l_iload_n (pc := 750) (q := 3) hC dL_law_750 rfl rfl ?_
  refine l_iconst (pc := 751) (v := 1) hC dL_law_751 (by decide) ?_
  refine l_iadd (pc := 752) hC dL_law_752 ?_
  refine l_sld (pc := 753) hC h1 dL_law_753 ?_
  refine l_aload_n (pc := 754) (q := 0) hC dL_law_754 rfl rfl ?_
  refine l_iload_n (pc := 755) (q := 3) hC dL_law_755 rfl rfl ?_
  refine l_iconst (pc := 756) (v := 2) hC dL_law_756 (by decide) ?_
  refine l_iadd (pc := 757) hC dL_law_757 ?_
  refine l_sld (pc := 758) hC h2 dL_law_758 ?_
  refine l_call (pc := 759) (As := [.int (xs (Int32.toNatClampNeg (x3 + 1))), .int (xs (Int32.toNatClampNeg (x3 + 2)))]) (rest := [.int r]) hC hce hsl lk_RL_89 kX10 (kx := 52) rfl (tX10_price _ _ σ1 (xs (Int32.toNatClampNeg (x3 + 1))) (xs (Int32.toNatClampNeg (x3 + 2)))) e2 rfl rfl (Nat.le_of_ble_eq_true rfl) ⟨rfl, rfl, Nat.le_of_ble_eq_true rfl, Nat.le_of_ble_eq_true rfl⟩ dL_law_759 ?_
  show gU p l e s m below meth c G b CE SL σ2 762 [(0, .ref b), (1, .ref (G.2.1 0)), (2, .ref (G.2.1 52)), (3, .int x3)] [.int r, .int r]
  refine l_eq (pc := 762) (tgt := 1477) hC dL_law_762 (by decide) ?_
  exact kk σ2 e3
theorem lk_RL_90 : gLV RL 90 RX9 yX9_judge cX9_judge 3 (some .int) 1 := ⟨(gBig_tab 835 (by decide +kernel) (by decide +kernel)), (gBig_tab 836 (by decide +kernel) (by decide +kernel)), (gBig_tab 837 (by decide +kernel) (by decide +kernel)), (gBig_tab 1 (by decide +kernel) (by decide +kernel)), (gBig_tab 838 (by decide +kernel) (by decide +kernel)), rfl, by decide +kernel, by decide +kernel, by decide +kernel⟩
theorem lk_RL_93 : gLV RL 93 RX10 yX10_judge cX10_judge 3 (some .int) 1 := ⟨(gBig_tab 1465 (by decide +kernel) (by decide +kernel)), (gBig_tab 1466 (by decide +kernel) (by decide +kernel)), (gBig_tab 1467 (by decide +kernel) (by decide +kernel)), (gBig_tab 11 (by decide +kernel) (by decide +kernel)), (gBig_tab 1468 (by decide +kernel) (by decide +kernel)), rfl, by decide +kernel, by decide +kernel, by decide +kernel⟩
set_option maxHeartbeats 4000000 in
set_option maxRecDepth 100000 in
theorem lc_judge {p : Program} {l : Launch} {e : Env} {s : State} {m : MethodId} {below : List Frame} {meth : Method} {c : Code} {G : gE} {b L CE SL : Nat} {xs : Nat → Int32} (hC : gLx p s m meth c G b L xs) (hce : CE ≤ 600000) (hsl : SL ≤ 7302250) {Inv : gS → Prop} (hS : S_judge Inv) (σ : gS) (hI : Inv σ) (x3 : Int32) (h1 : vp_in (x3 + 1) L) (h2 : vp_in (x3 + 2) L) (h3 : vp_in (x3 + 3) L) (h4 : vp_in (x3 + 4) L) (h5 : vp_in (x3 + 5) L) (kk : ∀ τ : gS, Inv τ → gU p l e s m below meth c G b CE SL τ 1477 [(0, .ref b), (1, .ref (G.2.1 0)), (2, .ref (G.2.1 52)), (3, .int x3)] []) : gU p l e s m below meth c G b CE SL σ 767 [(0, .ref b), (1, .ref (G.2.1 0)), (2, .ref (G.2.1 52)), (3, .int x3)] [] := by
  refine l_aload_n (pc := 767) (q := 1) hC dL_law_767 rfl rfl ?_
  refine l_aload_n (pc := 768) (q := 0) hC dL_law_768 rfl rfl ?_
  refine l_iload_n (pc := 769) (q := 3) hC dL_law_769 rfl rfl ?_
  refine l_iconst (pc := 770) (v := 1) hC dL_law_770 (by decide) ?_
  refine l_iadd (pc := 771) hC dL_law_771 ?_
  refine l_sld (pc := 772) hC h1 dL_law_772 ?_
  obtain ⟨r, σ1, σ2, e1, e2, e3⟩ := hS σ (xs (Int32.toNatClampNeg (x3 + 1))) hI
  refine l_call (pc := 773) (As := [.int (xs (Int32.toNatClampNeg (x3 + 1)))]) (rest := []) hC hce hsl lk_RL_90 kX9 (kx := 0) rfl (tX9_judge _ _ σ (xs (Int32.toNatClampNeg (x3 + 1)))) e1 rfl rfl (Nat.le_of_ble_eq_true rfl) ⟨rfl, rfl, Nat.le_of_ble_eq_true rfl, Nat.le_of_ble_eq_true rfl⟩ dL_law_773 ?_
  show gU p l e s m below meth c G b CE SL σ1 776 [(0, .ref b), (1, .ref (G.2.1 0)), (2, .ref (G.2.1 52)), (3, .int x3)] [.int r]
  refine l_aload_n (pc := 776) (q := 2) hC dL_law_776 rfl rfl ?_
  refine l_aload_n (pc := 777) (q := 0) hC dL_law_777 rfl rfl ?_
  refine l_iload_n (pc := 778) (q := 3) hC dL_law_778 rfl rfl ?_
  refine l_iconst (pc := 779) (v := 1) hC dL_law_779 (by decide) ?_
  refine l_iadd (pc := 780) hC dL_law_780 ?_
  refine l_sld (pc := 781) hC h1 dL_law_781 ?_
  refine l_call (pc := 782) (As := [.int (xs (Int32.toNatClampNeg (x3 + 1)))]) (rest := [.int r]) hC hce hsl lk_RL_93 kX10 (kx := 52) rfl (tX10_judge _ _ σ1 (xs (Int32.toNatClampNeg (x3 + 1)))) e2 rfl rfl (Nat.le_of_ble_eq_true rfl) ⟨rfl, rfl, Nat.le_of_ble_eq_true rfl, Nat.le_of_ble_eq_true rfl⟩ dL_law_782 ?_
  show gU p l e s m below meth c G b CE SL σ2 785 [(0, .ref b), (1, .ref (G.2.1 0)), (2, .ref (G.2.1 52)), (3, .int x3)] [.int r, .int r]
  refine l_eq (pc := 785) (tgt := 1477) hC dL_law_785 (by decide) ?_
  exact kk σ2 e3
theorem lk_RL_94 : gLV RL 94 RX9 yX9_knock cX9_knock 5 (some .int) 2 := ⟨(gBig_tab 843 (by decide +kernel) (by decide +kernel)), (gBig_tab 844 (by decide +kernel) (by decide +kernel)), (gBig_tab 845 (by decide +kernel) (by decide +kernel)), (gBig_tab 1 (by decide +kernel) (by decide +kernel)), (gBig_tab 846 (by decide +kernel) (by decide +kernel)), rfl, by decide +kernel, by decide +kernel, by decide +kernel⟩
theorem lk_RL_97 : gLV RL 97 RX10 yX10_knock cX10_knock 9 (some .int) 2 := ⟨(gBig_tab 1473 (by decide +kernel) (by decide +kernel)), (gBig_tab 1474 (by decide +kernel) (by decide +kernel)), (gBig_tab 1475 (by decide +kernel) (by decide +kernel)), (gBig_tab 11 (by decide +kernel) (by decide +kernel)), (gBig_tab 1476 (by decide +kernel) (by decide +kernel)), rfl, by decide +kernel, by decide +kernel, by decide +kernel⟩
set_option maxHeartbeats 4000000 in
set_option maxRecDepth 100000 in
theorem lc_knock {p : Program} {l : Launch} {e : Env} {s : State} {m : MethodId} {below : List Frame} {meth : Method} {c : Code} {G : gE} {b L CE SL : Nat} {xs : Nat → Int32} (hC : gLx p s m meth c G b L xs) (hce : CE ≤ 600000) (hsl : SL ≤ 7302250) {Inv : gS → Prop} (hS : S_knock Inv) (σ : gS) (hI : Inv σ) (x3 : Int32) (h1 : vp_in (x3 + 1) L) (h2 : vp_in (x3 + 2) L) (h3 : vp_in (x3 + 3) L) (h4 : vp_in (x3 + 4) L) (h5 : vp_in (x3 + 5) L) (kk : ∀ τ : gS, Inv τ → gU p l e s m below meth c G b CE SL τ 1477 [(0, .ref b), (1, .ref (G.2.1 0)), (2, .ref (G.2.1 52)), (3, .int x3)] []) : gU p l e s m below meth c G b CE SL σ 790 [(0, .ref b), (1, .ref (G.2.1 0)), (2, .ref (G.2.1 52)), (3, .int x3)] [] := by
  refine l_aload_n (pc := 790) (q := 1) hC dL_law_790 rfl rfl ?_
  refine l_aload_n (pc := 791) (q := 0) hC dL_law_791 rfl rfl ?_
  refine l_iload_n (pc := 792) (q := 3) hC dL_law_792 rfl rfl ?_
  refine l_iconst (pc := 793) (v := 1) hC dL_law_793 (by decide) ?_
  refine l_iadd (pc := 794) hC dL_law_794 ?_
  refine l_sld (pc := 795) hC h1 dL_law_795 ?_
  refine l_aload_n (pc := 796) (q := 0) hC dL_law_796 rfl rfl ?_
  refine l_iload_n (pc := 797) (q := 3) hC dL_law_797 rfl rfl ?_
  refine l_iconst (pc := 798) (v := 2) hC dL_law_798 (by decide) ?_
  refine l_iadd (pc := 799) hC dL_law_799 ?_
  refine l_sld (pc := 800) hC h2 dL_law_800 ?_
  obtain ⟨r, σ1, σ2, e1, e2, e3⟩ := hS σ (xs (Int32.toNatClampNeg (x3 + 1))) (xs (Int32.toNatClampNeg (x3 + 2))) hI
  refine l_call (pc := 801) (As := [.int (xs (Int32.toNatClampNeg (x3 + 1))), .int (xs (Int32.toNatClampNeg (x3 + 2)))]) (rest := []) hC hce hsl lk_RL_94 kX9 (kx := 0) rfl (tX9_knock _ _ σ (xs (Int32.toNatClampNeg (x3 + 1))) (xs (Int32.toNatClampNeg (x3 + 2)))) e1 rfl rfl (Nat.le_of_ble_eq_true rfl) ⟨rfl, rfl, Nat.le_of_ble_eq_true rfl, Nat.le_of_ble_eq_true rfl⟩ dL_law_801 ?_
  show gU p l e s m below meth c G b CE SL σ1 804 [(0, .ref b), (1, .ref (G.2.1 0)), (2, .ref (G.2.1 52)), (3, .int x3)] [.int r]
  refine l_aload_n (pc := 804) (q := 2) hC dL_law_804 rfl rfl ?_
  refine l_aload_n (pc := 805) (q := 0) hC dL_law_805 rfl rfl ?_
  refine l_iload_n (pc := 806) (q := 3) hC dL_law_806 rfl rfl ?_
  refine l_iconst (pc := 807) (v := 1) hC dL_law_807 (by decide) ?_
  refine l_iadd (pc := 808) hC dL_law_808 ?_
  refine l_sld (pc := 809) hC h1 dL_law_809 ?_
  refine l_aload_n (pc := 810) (q := 0) hC dL_law_810 rfl rfl ?_
  refine l_iload_n (pc := 811) (q := 3) hC dL_law_811 rfl rfl ?_
  refine l_iconst (pc := 812) (v := 2) hC dL_law_812 (by decide) ?_
  refine l_iadd (pc := 813) hC dL_law_813 ?_
  refine l_sld (pc := 814) hC h2 dL_law_814 ?_
  refine l_call (pc := 815) (As := [.int (xs (Int32.toNatClampNeg (x3 + 1))), .int (xs (Int32.toNatClampNeg (x3 + 2)))]) (rest := [.int r]) hC hce hsl lk_RL_97 kX10 (kx := 52) rfl (tX10_knock _ _ σ1 (xs (Int32.toNatClampNeg (x3 + 1))) (xs (Int32.toNatClampNeg (x3 + 2)))) e2 rfl rfl (Nat.le_of_ble_eq_true rfl) ⟨rfl, rfl, Nat.le_of_ble_eq_true rfl, Nat.le_of_ble_eq_true rfl⟩ dL_law_815 ?_
  show gU p l e s m below meth c G b CE SL σ2 818 [(0, .ref b), (1, .ref (G.2.1 0)), (2, .ref (G.2.1 52)), (3, .int x3)] [.int r, .int r]
  refine l_eq (pc := 818) (tgt := 1477) hC dL_law_818 (by decide) ?_
  exact kk σ2 e3
theorem lk_RL_98 : gLV RL 98 RX9 yX9_bore cX9_bore 5 (some .int) 2 := ⟨(gBig_tab 859 (by decide +kernel) (by decide +kernel)), (gBig_tab 860 (by decide +kernel) (by decide +kernel)), (gBig_tab 861 (by decide +kernel) (by decide +kernel)), (gBig_tab 1 (by decide +kernel) (by decide +kernel)), (gBig_tab 862 (by decide +kernel) (by decide +kernel)), rfl, by decide +kernel, by decide +kernel, by decide +kernel⟩
theorem lk_RL_101 : gLV RL 101 RX10 yX10_bore cX10_bore 7 (some .int) 2 := ⟨(gBig_tab 1477 (by decide +kernel) (by decide +kernel)), (gBig_tab 1478 (by decide +kernel) (by decide +kernel)), (gBig_tab 1479 (by decide +kernel) (by decide +kernel)), (gBig_tab 11 (by decide +kernel) (by decide +kernel)), (gBig_tab 1480 (by decide +kernel) (by decide +kernel)), rfl, by decide +kernel, by decide +kernel, by decide +kernel⟩
set_option maxHeartbeats 4000000 in
set_option maxRecDepth 100000 in
theorem lc_bore {p : Program} {l : Launch} {e : Env} {s : State} {m : MethodId} {below : List Frame} {meth : Method} {c : Code} {G : gE} {b L CE SL : Nat} {xs : Nat → Int32} (hC : gLx p s m meth c G b L xs) (hce : CE ≤ 600000) (hsl : SL ≤ 7302250) {Inv : gS → Prop} (hS : S_bore Inv) (σ : gS) (hI : Inv σ) (x3 : Int32) (h1 : vp_in (x3 + 1) L) (h2 : vp_in (x3 + 2) L) (h3 : vp_in (x3 + 3) L) (h4 : vp_in (x3 + 4) L) (h5 : vp_in (x3 + 5) L) (kk : ∀ τ : gS, Inv τ → gU p l e s m below meth c G b CE SL τ 1477 [(0, .ref b), (1, .ref (G.2.1 0)), (2, .ref (G.2.1 52)), (3, .int x3)] []) : gU p l e s m below meth c G b CE SL σ 823 [(0, .ref b), (1, .ref (G.2.1 0)), (2, .ref (G.2.1 52)), (3, .int x3)] [] := by
  refine l_aload_n (pc := 823) (q := 1) hC dL_law_823 rfl rfl ?_
  refine l_aload_n (pc := 824) (q := 0) hC dL_law_824 rfl rfl ?_
  refine l_iload_n (pc := 825) (q := 3) hC dL_law_825 rfl rfl ?_
  refine l_iconst (pc := 826) (v := 1) hC dL_law_826 (by decide) ?_
  refine l_iadd (pc := 827) hC dL_law_827 ?_
  refine l_sld (pc := 828) hC h1 dL_law_828 ?_
  refine l_aload_n (pc := 829) (q := 0) hC dL_law_829 rfl rfl ?_
  refine l_iload_n (pc := 830) (q := 3) hC dL_law_830 rfl rfl ?_
  refine l_iconst (pc := 831) (v := 2) hC dL_law_831 (by decide) ?_
  refine l_iadd (pc := 832) hC dL_law_832 ?_
  refine l_sld (pc := 833) hC h2 dL_law_833 ?_
  obtain ⟨r, σ1, σ2, e1, e2, e3⟩ := hS σ (xs (Int32.toNatClampNeg (x3 + 1))) (xs (Int32.toNatClampNeg (x3 + 2))) hI
  refine l_call (pc := 834) (As := [.int (xs (Int32.toNatClampNeg (x3 + 1))), .int (xs (Int32.toNatClampNeg (x3 + 2)))]) (rest := []) hC hce hsl lk_RL_98 kX9 (kx := 0) rfl (tX9_bore _ _ σ (xs (Int32.toNatClampNeg (x3 + 1))) (xs (Int32.toNatClampNeg (x3 + 2)))) e1 rfl rfl (Nat.le_of_ble_eq_true rfl) ⟨rfl, rfl, Nat.le_of_ble_eq_true rfl, Nat.le_of_ble_eq_true rfl⟩ dL_law_834 ?_
  show gU p l e s m below meth c G b CE SL σ1 837 [(0, .ref b), (1, .ref (G.2.1 0)), (2, .ref (G.2.1 52)), (3, .int x3)] [.int r]
  refine l_aload_n (pc := 837) (q := 2) hC dL_law_837 rfl rfl ?_
  refine l_aload_n (pc := 838) (q := 0) hC dL_law_838 rfl rfl ?_
  refine l_iload_n (pc := 839) (q := 3) hC dL_law_839 rfl rfl ?_
  refine l_iconst (pc := 840) (v := 1) hC dL_law_840 (by decide) ?_
  refine l_iadd (pc := 841) hC dL_law_841 ?_
  refine l_sld (pc := 842) hC h1 dL_law_842 ?_
  refine l_aload_n (pc := 843) (q := 0) hC dL_law_843 rfl rfl ?_
  refine l_iload_n (pc := 844) (q := 3) hC dL_law_844 rfl rfl ?_
  refine l_iconst (pc := 845) (v := 2) hC dL_law_845 (by decide) ?_
  refine l_iadd (pc := 846) hC dL_law_846 ?_
  refine l_sld (pc := 847) hC h2 dL_law_847 ?_
  refine l_call (pc := 848) (As := [.int (xs (Int32.toNatClampNeg (x3 + 1))), .int (xs (Int32.toNatClampNeg (x3 + 2)))]) (rest := [.int r]) hC hce hsl lk_RL_101 kX10 (kx := 52) rfl (tX10_bore _ _ σ1 (xs (Int32.toNatClampNeg (x3 + 1))) (xs (Int32.toNatClampNeg (x3 + 2)))) e2 rfl rfl (Nat.le_of_ble_eq_true rfl) ⟨rfl, rfl, Nat.le_of_ble_eq_true rfl, Nat.le_of_ble_eq_true rfl⟩ dL_law_848 ?_
  show gU p l e s m below meth c G b CE SL σ2 851 [(0, .ref b), (1, .ref (G.2.1 0)), (2, .ref (G.2.1 52)), (3, .int x3)] [.int r, .int r]
  refine l_eq (pc := 851) (tgt := 1477) hC dL_law_851 (by decide) ?_
  exact kk σ2 e3
theorem lk_RL_102 : gLV RL 102 RX9 yX9_byTurns cX9_byTurns 11 (some .int) 3 := ⟨(gBig_tab 867 (by decide +kernel) (by decide +kernel)), (gBig_tab 868 (by decide +kernel) (by decide +kernel)), (gBig_tab 869 (by decide +kernel) (by decide +kernel)), (gBig_tab 1 (by decide +kernel) (by decide +kernel)), (gBig_tab 870 (by decide +kernel) (by decide +kernel)), rfl, by decide +kernel, by decide +kernel, by decide +kernel⟩
theorem lk_RL_105 : gLV RL 105 RX10 yX10_byTurns cX10_byTurns 8 (some .int) 3 := ⟨(gBig_tab 1481 (by decide +kernel) (by decide +kernel)), (gBig_tab 1482 (by decide +kernel) (by decide +kernel)), (gBig_tab 1483 (by decide +kernel) (by decide +kernel)), (gBig_tab 11 (by decide +kernel) (by decide +kernel)), (gBig_tab 1484 (by decide +kernel) (by decide +kernel)), rfl, by decide +kernel, by decide +kernel, by decide +kernel⟩
set_option maxHeartbeats 4000000 in
set_option maxRecDepth 100000 in
theorem lc_byTurns {p : Program} {l : Launch} {e : Env} {s : State} {m : MethodId} {below : List Frame} {meth : Method} {c : Code} {G : gE} {b L CE SL : Nat} {xs : Nat → Int32} (hC : gLx p s m meth c G b L xs) (hce : CE ≤ 600000) (hsl : SL ≤ 7302250) {Inv : gS → Prop} (hS : S_byTurns Inv) (σ : gS) (hI : Inv σ) (x3 : Int32) (h1 : vp_in (x3 + 1) L) (h2 : vp_in (x3 + 2) L) (h3 : vp_in (x3 + 3) L) (h4 : vp_in (x3 + 4) L) (h5 : vp_in (x3 + 5) L) (kk : ∀ τ : gS, Inv τ → gU p l e s m below meth c G b CE SL τ 1477 [(0, .ref b), (1, .ref (G.2.1 0)), (2, .ref (G.2.1 52)), (3, .int x3)] []) : gU p l e s m below meth c G b CE SL σ 856 [(0, .ref b), (1, .ref (G.2.1 0)), (2, .ref (G.2.1 52)), (3, .int x3)] [] := by
  refine l_aload_n (pc := 856) (q := 1) hC dL_law_856 rfl rfl ?_
  refine l_aload_n (pc := 857) (q := 0) hC dL_law_857 rfl rfl ?_
  refine l_iload_n (pc := 858) (q := 3) hC dL_law_858 rfl rfl ?_
  refine l_iconst (pc := 859) (v := 1) hC dL_law_859 (by decide) ?_
  refine l_iadd (pc := 860) hC dL_law_860 ?_
  refine l_sld (pc := 861) hC h1 dL_law_861 ?_
  refine l_aload_n (pc := 862) (q := 0) hC dL_law_862 rfl rfl ?_
  refine l_iload_n (pc := 863) (q := 3) hC dL_law_863 rfl rfl ?_
  refine l_iconst (pc := 864) (v := 2) hC dL_law_864 (by decide) ?_
  refine l_iadd (pc := 865) hC dL_law_865 ?_
  refine l_sld (pc := 866) hC h2 dL_law_866 ?_
  refine l_aload_n (pc := 867) (q := 0) hC dL_law_867 rfl rfl ?_
  refine l_iload_n (pc := 868) (q := 3) hC dL_law_868 rfl rfl ?_
  refine l_iconst (pc := 869) (v := 3) hC dL_law_869 (by decide) ?_
  refine l_iadd (pc := 870) hC dL_law_870 ?_
  refine l_sld (pc := 871) hC h3 dL_law_871 ?_
  obtain ⟨r, σ1, σ2, e1, e2, e3⟩ := hS σ (xs (Int32.toNatClampNeg (x3 + 1))) (xs (Int32.toNatClampNeg (x3 + 2))) (xs (Int32.toNatClampNeg (x3 + 3))) hI
  refine l_call (pc := 872) (As := [.int (xs (Int32.toNatClampNeg (x3 + 1))), .int (xs (Int32.toNatClampNeg (x3 + 2))), .int (xs (Int32.toNatClampNeg (x3 + 3)))]) (rest := []) hC hce hsl lk_RL_102 kX9 (kx := 0) rfl (tX9_byTurns _ _ σ (xs (Int32.toNatClampNeg (x3 + 1))) (xs (Int32.toNatClampNeg (x3 + 2))) (xs (Int32.toNatClampNeg (x3 + 3)))) e1 rfl rfl (Nat.le_of_ble_eq_true rfl) ⟨rfl, rfl, Nat.le_of_ble_eq_true rfl, Nat.le_of_ble_eq_true rfl⟩ dL_law_872 ?_
  show gU p l e s m below meth c G b CE SL σ1 875 [(0, .ref b), (1, .ref (G.2.1 0)), (2, .ref (G.2.1 52)), (3, .int x3)] [.int r]
  refine l_aload_n (pc := 875) (q := 2) hC dL_law_875 rfl rfl ?_
  refine l_aload_n (pc := 876) (q := 0) hC dL_law_876 rfl rfl ?_
  refine l_iload_n (pc := 877) (q := 3) hC dL_law_877 rfl rfl ?_
  refine l_iconst (pc := 878) (v := 1) hC dL_law_878 (by decide) ?_
  refine l_iadd (pc := 879) hC dL_law_879 ?_
  refine l_sld (pc := 880) hC h1 dL_law_880 ?_
  refine l_aload_n (pc := 881) (q := 0) hC dL_law_881 rfl rfl ?_
  refine l_iload_n (pc := 882) (q := 3) hC dL_law_882 rfl rfl ?_
  refine l_iconst (pc := 883) (v := 2) hC dL_law_883 (by decide) ?_
  refine l_iadd (pc := 884) hC dL_law_884 ?_
  refine l_sld (pc := 885) hC h2 dL_law_885 ?_
  refine l_aload_n (pc := 886) (q := 0) hC dL_law_886 rfl rfl ?_
  refine l_iload_n (pc := 887) (q := 3) hC dL_law_887 rfl rfl ?_
  refine l_iconst (pc := 888) (v := 3) hC dL_law_888 (by decide) ?_
  refine l_iadd (pc := 889) hC dL_law_889 ?_
  refine l_sld (pc := 890) hC h3 dL_law_890 ?_
  refine l_call (pc := 891) (As := [.int (xs (Int32.toNatClampNeg (x3 + 1))), .int (xs (Int32.toNatClampNeg (x3 + 2))), .int (xs (Int32.toNatClampNeg (x3 + 3)))]) (rest := [.int r]) hC hce hsl lk_RL_105 kX10 (kx := 52) rfl (tX10_byTurns _ _ σ1 (xs (Int32.toNatClampNeg (x3 + 1))) (xs (Int32.toNatClampNeg (x3 + 2))) (xs (Int32.toNatClampNeg (x3 + 3)))) e2 rfl rfl (Nat.le_of_ble_eq_true rfl) ⟨rfl, rfl, Nat.le_of_ble_eq_true rfl, Nat.le_of_ble_eq_true rfl⟩ dL_law_891 ?_
  show gU p l e s m below meth c G b CE SL σ2 894 [(0, .ref b), (1, .ref (G.2.1 0)), (2, .ref (G.2.1 52)), (3, .int x3)] [.int r, .int r]
  refine l_eq (pc := 894) (tgt := 1477) hC dL_law_894 (by decide) ?_
  exact kk σ2 e3
theorem lk_RL_106 : gLV RL 106 RX9 yX9_drawn cX9_drawn 10 (some .int) 4 := ⟨(gBig_tab 880 (by decide +kernel) (by decide +kernel)), (gBig_tab 881 (by decide +kernel) (by decide +kernel)), (gBig_tab 882 (by decide +kernel) (by decide +kernel)), (gBig_tab 1 (by decide +kernel) (by decide +kernel)), (gBig_tab 883 (by decide +kernel) (by decide +kernel)), rfl, by decide +kernel, by decide +kernel, by decide +kernel⟩
theorem lk_RL_110 : gLV RL 110 RX10 yX10_drawn cX10_drawn 15 (some .int) 4 := ⟨(gBig_tab 1493 (by decide +kernel) (by decide +kernel)), (gBig_tab 1494 (by decide +kernel) (by decide +kernel)), (gBig_tab 1495 (by decide +kernel) (by decide +kernel)), (gBig_tab 11 (by decide +kernel) (by decide +kernel)), (gBig_tab 1496 (by decide +kernel) (by decide +kernel)), rfl, by decide +kernel, by decide +kernel, by decide +kernel⟩
set_option maxHeartbeats 4000000 in
set_option maxRecDepth 100000 in
theorem lc_drawn {p : Program} {l : Launch} {e : Env} {s : State} {m : MethodId} {below : List Frame} {meth : Method} {c : Code} {G : gE} {b L CE SL : Nat} {xs : Nat → Int32} (hC : gLx p s m meth c G b L xs) (hce : CE ≤ 600000) (hsl : SL ≤ 7302250) {Inv : gS → Prop} (hS : S_drawn Inv) (σ : gS) (hI : Inv σ) (x3 : Int32) (h1 : vp_in (x3 + 1) L) (h2 : vp_in (x3 + 2) L) (h3 : vp_in (x3 + 3) L) (h4 : vp_in (x3 + 4) L) (h5 : vp_in (x3 + 5) L) (kk : ∀ τ : gS, Inv τ → gU p l e s m below meth c G b CE SL τ 1477 [(0, .ref b), (1, .ref (G.2.1 0)), (2, .ref (G.2.1 52)), (3, .int x3)] []) : gU p l e s m below meth c G b CE SL σ 899 [(0, .ref b), (1, .ref (G.2.1 0)), (2, .ref (G.2.1 52)), (3, .int x3)] [] := by
  refine l_aload_n (pc := 899) (q := 1) hC dL_law_899 rfl rfl ?_
  refine l_aload_n (pc := 900) (q := 0) hC dL_law_900 rfl rfl ?_
  refine l_iload_n (pc := 901) (q := 3) hC dL_law_901 rfl rfl ?_
  refine l_iconst (pc := 902) (v := 1) hC dL_law_902 (by decide) ?_
  refine l_iadd (pc := 903) hC dL_law_903 ?_
  refine l_sld (pc := 904) hC h1 dL_law_904 ?_
  refine l_aload_n (pc := 905) (q := 0) hC dL_law_905 rfl rfl ?_
  refine l_iload_n (pc := 906) (q := 3) hC dL_law_906 rfl rfl ?_
  refine l_iconst (pc := 907) (v := 2) hC dL_law_907 (by decide) ?_
  refine l_iadd (pc := 908) hC dL_law_908 ?_
  refine l_sld (pc := 909) hC h2 dL_law_909 ?_
  refine l_aload_n (pc := 910) (q := 0) hC dL_law_910 rfl rfl ?_
  refine l_iload_n (pc := 911) (q := 3) hC dL_law_911 rfl rfl ?_
  refine l_iconst (pc := 912) (v := 3) hC dL_law_912 (by decide) ?_
  refine l_iadd (pc := 913) hC dL_law_913 ?_
  refine l_sld (pc := 914) hC h3 dL_law_914 ?_
  refine l_aload_n (pc := 915) (q := 0) hC dL_law_915 rfl rfl ?_
  refine l_iload_n (pc := 916) (q := 3) hC dL_law_916 rfl rfl ?_
  refine l_iconst (pc := 917) (v := 4) hC dL_law_917 (by decide) ?_
  refine l_iadd (pc := 918) hC dL_law_918 ?_
  refine l_sld (pc := 919) hC h4 dL_law_919 ?_
  obtain ⟨r, σ1, σ2, e1, e2, e3⟩ := hS σ (xs (Int32.toNatClampNeg (x3 + 1))) (xs (Int32.toNatClampNeg (x3 + 2))) (xs (Int32.toNatClampNeg (x3 + 3))) (xs (Int32.toNatClampNeg (x3 + 4))) hI
  refine l_call (pc := 920) (As := [.int (xs (Int32.toNatClampNeg (x3 + 1))), .int (xs (Int32.toNatClampNeg (x3 + 2))), .int (xs (Int32.toNatClampNeg (x3 + 3))), .int (xs (Int32.toNatClampNeg (x3 + 4)))]) (rest := []) hC hce hsl lk_RL_106 kX9 (kx := 0) rfl (tX9_drawn _ _ σ (xs (Int32.toNatClampNeg (x3 + 1))) (xs (Int32.toNatClampNeg (x3 + 2))) (xs (Int32.toNatClampNeg (x3 + 3))) (xs (Int32.toNatClampNeg (x3 + 4)))) e1 rfl rfl (Nat.le_of_ble_eq_true rfl) ⟨rfl, rfl, Nat.le_of_ble_eq_true rfl, Nat.le_of_ble_eq_true rfl⟩ dL_law_920 ?_
  show gU p l e s m below meth c G b CE SL σ1 923 [(0, .ref b), (1, .ref (G.2.1 0)), (2, .ref (G.2.1 52)), (3, .int x3)] [.int r]
  refine l_aload_n (pc := 923) (q := 2) hC dL_law_923 rfl rfl ?_
  refine l_aload_n (pc := 924) (q := 0) hC dL_law_924 rfl rfl ?_
  refine l_iload_n (pc := 925) (q := 3) hC dL_law_925 rfl rfl ?_
  refine l_iconst (pc := 926) (v := 1) hC dL_law_926 (by decide) ?_
  refine l_iadd (pc := 927) hC dL_law_927 ?_
  refine l_sld (pc := 928) hC h1 dL_law_928 ?_
  refine l_aload_n (pc := 929) (q := 0) hC dL_law_929 rfl rfl ?_
  refine l_iload_n (pc := 930) (q := 3) hC dL_law_930 rfl rfl ?_
  refine l_iconst (pc := 931) (v := 2) hC dL_law_931 (by decide) ?_
  refine l_iadd (pc := 932) hC dL_law_932 ?_
  refine l_sld (pc := 933) hC h2 dL_law_933 ?_
  refine l_aload_n (pc := 934) (q := 0) hC dL_law_934 rfl rfl ?_
  refine l_iload_n (pc := 935) (q := 3) hC dL_law_935 rfl rfl ?_
  refine l_iconst (pc := 936) (v := 3) hC dL_law_936 (by decide) ?_
  refine l_iadd (pc := 937) hC dL_law_937 ?_
  refine l_sld (pc := 938) hC h3 dL_law_938 ?_
  refine l_aload_n (pc := 939) (q := 0) hC dL_law_939 rfl rfl ?_
  refine l_iload_n (pc := 940) (q := 3) hC dL_law_940 rfl rfl ?_
  refine l_iconst (pc := 941) (v := 4) hC dL_law_941 (by decide) ?_
  refine l_iadd (pc := 942) hC dL_law_942 ?_
  refine l_sld (pc := 943) hC h4 dL_law_943 ?_
  refine l_call (pc := 944) (As := [.int (xs (Int32.toNatClampNeg (x3 + 1))), .int (xs (Int32.toNatClampNeg (x3 + 2))), .int (xs (Int32.toNatClampNeg (x3 + 3))), .int (xs (Int32.toNatClampNeg (x3 + 4)))]) (rest := [.int r]) hC hce hsl lk_RL_110 kX10 (kx := 52) rfl (tX10_drawn _ _ σ1 (xs (Int32.toNatClampNeg (x3 + 1))) (xs (Int32.toNatClampNeg (x3 + 2))) (xs (Int32.toNatClampNeg (x3 + 3))) (xs (Int32.toNatClampNeg (x3 + 4)))) e2 rfl rfl (Nat.le_of_ble_eq_true rfl) ⟨rfl, rfl, Nat.le_of_ble_eq_true rfl, Nat.le_of_ble_eq_true rfl⟩ dL_law_944 ?_
  show gU p l e s m below meth c G b CE SL σ2 947 [(0, .ref b), (1, .ref (G.2.1 0)), (2, .ref (G.2.1 52)), (3, .int x3)] [.int r, .int r]
  refine l_eq (pc := 947) (tgt := 1477) hC dL_law_947 (by decide) ?_
  exact kk σ2 e3
theorem lk_RL_111 : gLV RL 111 RX9 yX9_pass cX9_pass 3 (some .int) 1 := ⟨(gBig_tab 897 (by decide +kernel) (by decide +kernel)), (gBig_tab 898 (by decide +kernel) (by decide +kernel)), (gBig_tab 899 (by decide +kernel) (by decide +kernel)), (gBig_tab 1 (by decide +kernel) (by decide +kernel)), (gBig_tab 900 (by decide +kernel) (by decide +kernel)), rfl, by decide +kernel, by decide +kernel, by decide +kernel⟩
theorem lk_RL_114 : gLV RL 114 RX10 yX10_pass cX10_pass 4 (some .int) 1 := ⟨(gBig_tab 1498 (by decide +kernel) (by decide +kernel)), (gBig_tab 1499 (by decide +kernel) (by decide +kernel)), (gBig_tab 1500 (by decide +kernel) (by decide +kernel)), (gBig_tab 11 (by decide +kernel) (by decide +kernel)), (gBig_tab 1501 (by decide +kernel) (by decide +kernel)), rfl, by decide +kernel, by decide +kernel, by decide +kernel⟩
set_option maxHeartbeats 4000000 in
set_option maxRecDepth 100000 in
theorem lc_pass {p : Program} {l : Launch} {e : Env} {s : State} {m : MethodId} {below : List Frame} {meth : Method} {c : Code} {G : gE} {b L CE SL : Nat} {xs : Nat → Int32} (hC : gLx p s m meth c G b L xs) (hce : CE ≤ 600000) (hsl : SL ≤ 7302250) {Inv : gS → Prop} (hS : S_pass Inv) (σ : gS) (hI : Inv σ) (x3 : Int32) (h1 : vp_in (x3 + 1) L) (h2 : vp_in (x3 + 2) L) (h3 : vp_in (x3 + 3) L) (h4 : vp_in (x3 + 4) L) (h5 : vp_in (x3 + 5) L) (kk : ∀ τ : gS, Inv τ → gU p l e s m below meth c G b CE SL τ 1477 [(0, .ref b), (1, .ref (G.2.1 0)), (2, .ref (G.2.1 52)), (3, .int x3)] []) : gU p l e s m below meth c G b CE SL σ 952 [(0, .ref b), (1, .ref (G.2.1 0)), (2, .ref (G.2.1 52)), (3, .int x3)] [] := by
  refine l_aload_n (pc := 952) (q := 1) hC dL_law_952 rfl rfl ?_
  refine l_aload_n (pc := 953) (q := 0) hC dL_law_953 rfl rfl ?_
  refine l_iload_n (pc := 954) (q := 3) hC dL_law_954 rfl rfl ?_
  refine l_iconst (pc := 955) (v := 1) hC dL_law_955 (by decide) ?_
  refine l_iadd (pc := 956) hC dL_law_956 ?_
  refine l_sld (pc := 957) hC h1 dL_law_957 ?_
  obtain ⟨r, σ1, σ2, e1, e2, e3⟩ := hS σ (xs (Int32.toNatClampNeg (x3 + 1))) hI
  refine l_call (pc := 958) (As := [.int (xs (Int32.toNatClampNeg (x3 + 1)))]) (rest := []) hC hce hsl lk_RL_111 kX9 (kx := 0) rfl (tX9_pass _ _ σ (xs (Int32.toNatClampNeg (x3 + 1)))) e1 rfl rfl (Nat.le_of_ble_eq_true rfl) ⟨rfl, rfl, Nat.le_of_ble_eq_true rfl, Nat.le_of_ble_eq_true rfl⟩ dL_law_958 ?_
  show gU p l e s m below meth c G b CE SL σ1 961 [(0, .ref b), (1, .ref (G.2.1 0)), (2, .ref (G.2.1 52)), (3, .int x3)] [.int r]
  refine l_aload_n (pc := 961) (q := 2) hC dL_law_961 rfl rfl ?_
  refine l_aload_n (pc := 962) (q := 0) hC dL_law_962 rfl rfl ?_
  refine l_iload_n (pc := 963) (q := 3) hC dL_law_963 rfl rfl ?_
  refine l_iconst (pc := 964) (v := 1) hC dL_law_964 (by decide) ?_
  refine l_iadd (pc := 965) hC dL_law_965 ?_
  refine l_sld (pc := 966) hC h1 dL_law_966 ?_
  refine l_call (pc := 967) (As := [.int (xs (Int32.toNatClampNeg (x3 + 1)))]) (rest := [.int r]) hC hce hsl lk_RL_114 kX10 (kx := 52) rfl (tX10_pass _ _ σ1 (xs (Int32.toNatClampNeg (x3 + 1)))) e2 rfl rfl (Nat.le_of_ble_eq_true rfl) ⟨rfl, rfl, Nat.le_of_ble_eq_true rfl, Nat.le_of_ble_eq_true rfl⟩ dL_law_967 ?_
  show gU p l e s m below meth c G b CE SL σ2 970 [(0, .ref b), (1, .ref (G.2.1 0)), (2, .ref (G.2.1 52)), (3, .int x3)] [.int r, .int r]
  refine l_eq (pc := 970) (tgt := 1477) hC dL_law_970 (by decide) ?_
  exact kk σ2 e3
theorem lk_RL_115 : gLV RL 115 RX9 yX9_bring cX9_bring 2 (some .int) 1 := ⟨(gBig_tab 901 (by decide +kernel) (by decide +kernel)), (gBig_tab 902 (by decide +kernel) (by decide +kernel)), (gBig_tab 903 (by decide +kernel) (by decide +kernel)), (gBig_tab 1 (by decide +kernel) (by decide +kernel)), (gBig_tab 904 (by decide +kernel) (by decide +kernel)), rfl, by decide +kernel, by decide +kernel, by decide +kernel⟩
theorem lk_RL_118 : gLV RL 118 RX10 yX10_bring cX10_bring 2 (some .int) 1 := ⟨(gBig_tab 1502 (by decide +kernel) (by decide +kernel)), (gBig_tab 1503 (by decide +kernel) (by decide +kernel)), (gBig_tab 1504 (by decide +kernel) (by decide +kernel)), (gBig_tab 11 (by decide +kernel) (by decide +kernel)), (gBig_tab 1505 (by decide +kernel) (by decide +kernel)), rfl, by decide +kernel, by decide +kernel, by decide +kernel⟩
set_option maxHeartbeats 4000000 in
set_option maxRecDepth 100000 in
theorem lc_bring {p : Program} {l : Launch} {e : Env} {s : State} {m : MethodId} {below : List Frame} {meth : Method} {c : Code} {G : gE} {b L CE SL : Nat} {xs : Nat → Int32} (hC : gLx p s m meth c G b L xs) (hce : CE ≤ 600000) (hsl : SL ≤ 7302250) {Inv : gS → Prop} (hS : S_bring Inv) (σ : gS) (hI : Inv σ) (x3 : Int32) (h1 : vp_in (x3 + 1) L) (h2 : vp_in (x3 + 2) L) (h3 : vp_in (x3 + 3) L) (h4 : vp_in (x3 + 4) L) (h5 : vp_in (x3 + 5) L) (kk : ∀ τ : gS, Inv τ → gU p l e s m below meth c G b CE SL τ 1477 [(0, .ref b), (1, .ref (G.2.1 0)), (2, .ref (G.2.1 52)), (3, .int x3)] []) : gU p l e s m below meth c G b CE SL σ 975 [(0, .ref b), (1, .ref (G.2.1 0)), (2, .ref (G.2.1 52)), (3, .int x3)] [] := by
  refine l_aload_n (pc := 975) (q := 1) hC dL_law_975 rfl rfl ?_
  refine l_aload_n (pc := 976) (q := 0) hC dL_law_976 rfl rfl ?_
  refine l_iload_n (pc := 977) (q := 3) hC dL_law_977 rfl rfl ?_
  refine l_iconst (pc := 978) (v := 1) hC dL_law_978 (by decide) ?_
  refine l_iadd (pc := 979) hC dL_law_979 ?_
  refine l_sld (pc := 980) hC h1 dL_law_980 ?_
  obtain ⟨r, σ1, σ2, e1, e2, e3⟩ := hS σ (xs (Int32.toNatClampNeg (x3 + 1))) hI
  refine l_call (pc := 981) (As := [.int (xs (Int32.toNatClampNeg (x3 + 1)))]) (rest := []) hC hce hsl lk_RL_115 kX9 (kx := 0) rfl (tX9_bring _ _ σ (xs (Int32.toNatClampNeg (x3 + 1)))) e1 rfl rfl (Nat.le_of_ble_eq_true rfl) ⟨rfl, rfl, Nat.le_of_ble_eq_true rfl, Nat.le_of_ble_eq_true rfl⟩ dL_law_981 ?_
  show gU p l e s m below meth c G b CE SL σ1 984 [(0, .ref b), (1, .ref (G.2.1 0)), (2, .ref (G.2.1 52)), (3, .int x3)] [.int r]
  refine l_aload_n (pc := 984) (q := 2) hC dL_law_984 rfl rfl ?_
  refine l_aload_n (pc := 985) (q := 0) hC dL_law_985 rfl rfl ?_
  refine l_iload_n (pc := 986) (q := 3) hC dL_law_986 rfl rfl ?_
  refine l_iconst (pc := 987) (v := 1) hC dL_law_987 (by decide) ?_
  refine l_iadd (pc := 988) hC dL_law_988 ?_
  refine l_sld (pc := 989) hC h1 dL_law_989 ?_
  refine l_call (pc := 990) (As := [.int (xs (Int32.toNatClampNeg (x3 + 1)))]) (rest := [.int r]) hC hce hsl lk_RL_118 kX10 (kx := 52) rfl (tX10_bring _ _ σ1 (xs (Int32.toNatClampNeg (x3 + 1)))) e2 rfl rfl (Nat.le_of_ble_eq_true rfl) ⟨rfl, rfl, Nat.le_of_ble_eq_true rfl, Nat.le_of_ble_eq_true rfl⟩ dL_law_990 ?_
  show gU p l e s m below meth c G b CE SL σ2 993 [(0, .ref b), (1, .ref (G.2.1 0)), (2, .ref (G.2.1 52)), (3, .int x3)] [.int r, .int r]
  refine l_eq (pc := 993) (tgt := 1477) hC dL_law_993 (by decide) ?_
  exact kk σ2 e3
theorem lk_RL_119 : gLV RL 119 RX9 yX9_boards cX9_boards 1 (some .int) 0 := ⟨(gBig_tab 905 (by decide +kernel) (by decide +kernel)), (gBig_tab 906 (by decide +kernel) (by decide +kernel)), (gBig_tab 907 (by decide +kernel) (by decide +kernel)), (gBig_tab 1 (by decide +kernel) (by decide +kernel)), (gBig_tab 908 (by decide +kernel) (by decide +kernel)), rfl, by decide +kernel, by decide +kernel, by decide +kernel⟩
theorem lk_RL_122 : gLV RL 122 RX10 yX10_boards cX10_boards 1 (some .int) 0 := ⟨(gBig_tab 1506 (by decide +kernel) (by decide +kernel)), (gBig_tab 1507 (by decide +kernel) (by decide +kernel)), (gBig_tab 1508 (by decide +kernel) (by decide +kernel)), (gBig_tab 11 (by decide +kernel) (by decide +kernel)), (gBig_tab 1509 (by decide +kernel) (by decide +kernel)), rfl, by decide +kernel, by decide +kernel, by decide +kernel⟩
set_option maxHeartbeats 4000000 in
set_option maxRecDepth 100000 in
theorem lc_boards {p : Program} {l : Launch} {e : Env} {s : State} {m : MethodId} {below : List Frame} {meth : Method} {c : Code} {G : gE} {b L CE SL : Nat} {xs : Nat → Int32} (hC : gLx p s m meth c G b L xs) (hce : CE ≤ 600000) (hsl : SL ≤ 7302250) {Inv : gS → Prop} (hS : S_boards Inv) (σ : gS) (hI : Inv σ) (x3 : Int32) (h1 : vp_in (x3 + 1) L) (h2 : vp_in (x3 + 2) L) (h3 : vp_in (x3 + 3) L) (h4 : vp_in (x3 + 4) L) (h5 : vp_in (x3 + 5) L) (kk : ∀ τ : gS, Inv τ → gU p l e s m below meth c G b CE SL τ 1477 [(0, .ref b), (1, .ref (G.2.1 0)), (2, .ref (G.2.1 52)), (3, .int x3)] []) : gU p l e s m below meth c G b CE SL σ 998 [(0, .ref b), (1, .ref (G.2.1 0)), (2, .ref (G.2.1 52)), (3, .int x3)] [] := by
  refine l_aload_n (pc := 998) (q := 1) hC dL_law_998 rfl rfl ?_
  obtain ⟨r, σ1, σ2, e1, e2, e3⟩ := hS σ  hI
  refine l_call (pc := 999) (As := []) (rest := []) hC hce hsl lk_RL_119 kX9 (kx := 0) rfl (tX9_boards _ _ σ ) e1 rfl rfl (Nat.le_of_ble_eq_true rfl) ⟨rfl, rfl, Nat.le_of_ble_eq_true rfl, Nat.le_of_ble_eq_true rfl⟩ dL_law_999 ?_
  show gU p l e s m below meth c G b CE SL σ1 1002 [(0, .ref b), (1, .ref (G.2.1 0)), (2, .ref (G.2.1 52)), (3, .int x3)] [.int r]
  refine l_aload_n (pc := 1002) (q := 2) hC dL_law_1002 rfl rfl ?_
  refine l_call (pc := 1003) (As := []) (rest := [.int r]) hC hce hsl lk_RL_122 kX10 (kx := 52) rfl (tX10_boards _ _ σ1 ) e2 rfl rfl (Nat.le_of_ble_eq_true rfl) ⟨rfl, rfl, Nat.le_of_ble_eq_true rfl, Nat.le_of_ble_eq_true rfl⟩ dL_law_1003 ?_
  show gU p l e s m below meth c G b CE SL σ2 1006 [(0, .ref b), (1, .ref (G.2.1 0)), (2, .ref (G.2.1 52)), (3, .int x3)] [.int r, .int r]
  refine l_eq (pc := 1006) (tgt := 1477) hC dL_law_1006 (by decide) ?_
  exact kk σ2 e3
theorem lk_RL_123 : gLV RL 123 RX9 yX9_led cX9_led 2 (some .int) 1 := ⟨(gBig_tab 909 (by decide +kernel) (by decide +kernel)), (gBig_tab 910 (by decide +kernel) (by decide +kernel)), (gBig_tab 911 (by decide +kernel) (by decide +kernel)), (gBig_tab 1 (by decide +kernel) (by decide +kernel)), (gBig_tab 912 (by decide +kernel) (by decide +kernel)), rfl, by decide +kernel, by decide +kernel, by decide +kernel⟩
theorem lk_RL_126 : gLV RL 126 RX10 yX10_led cX10_led 2 (some .int) 1 := ⟨(gBig_tab 1510 (by decide +kernel) (by decide +kernel)), (gBig_tab 1511 (by decide +kernel) (by decide +kernel)), (gBig_tab 1512 (by decide +kernel) (by decide +kernel)), (gBig_tab 11 (by decide +kernel) (by decide +kernel)), (gBig_tab 1513 (by decide +kernel) (by decide +kernel)), rfl, by decide +kernel, by decide +kernel, by decide +kernel⟩
set_option maxHeartbeats 4000000 in
set_option maxRecDepth 100000 in
theorem lc_led {p : Program} {l : Launch} {e : Env} {s : State} {m : MethodId} {below : List Frame} {meth : Method} {c : Code} {G : gE} {b L CE SL : Nat} {xs : Nat → Int32} (hC : gLx p s m meth c G b L xs) (hce : CE ≤ 600000) (hsl : SL ≤ 7302250) {Inv : gS → Prop} (hS : S_led Inv) (σ : gS) (hI : Inv σ) (x3 : Int32) (h1 : vp_in (x3 + 1) L) (h2 : vp_in (x3 + 2) L) (h3 : vp_in (x3 + 3) L) (h4 : vp_in (x3 + 4) L) (h5 : vp_in (x3 + 5) L) (kk : ∀ τ : gS, Inv τ → gU p l e s m below meth c G b CE SL τ 1477 [(0, .ref b), (1, .ref (G.2.1 0)), (2, .ref (G.2.1 52)), (3, .int x3)] []) : gU p l e s m below meth c G b CE SL σ 1011 [(0, .ref b), (1, .ref (G.2.1 0)), (2, .ref (G.2.1 52)), (3, .int x3)] [] := by
  refine l_aload_n (pc := 1011) (q := 1) hC dL_law_1011 rfl rfl ?_
  refine l_aload_n (pc := 1012) (q := 0) hC dL_law_1012 rfl rfl ?_
  refine l_iload_n (pc := 1013) (q := 3) hC dL_law_1013 rfl rfl ?_
  refine l_iconst (pc := 1014) (v := 1) hC dL_law_1014 (by decide) ?_
  refine l_iadd (pc := 1015) hC dL_law_1015 ?_
  refine l_sld (pc := 1016) hC h1 dL_law_1016 ?_
  obtain ⟨r, σ1, σ2, e1, e2, e3⟩ := hS σ (xs (Int32.toNatClampNeg (x3 + 1))) hI
  refine l_call (pc := 1017) (As := [.int (xs (Int32.toNatClampNeg (x3 + 1)))]) (rest := []) hC hce hsl lk_RL_123 kX9 (kx := 0) rfl (tX9_led _ _ σ (xs (Int32.toNatClampNeg (x3 + 1)))) e1 rfl rfl (Nat.le_of_ble_eq_true rfl) ⟨rfl, rfl, Nat.le_of_ble_eq_true rfl, Nat.le_of_ble_eq_true rfl⟩ dL_law_1017 ?_
  show gU p l e s m below meth c G b CE SL σ1 1020 [(0, .ref b), (1, .ref (G.2.1 0)), (2, .ref (G.2.1 52)), (3, .int x3)] [.int r]
  refine l_aload_n (pc := 1020) (q := 2) hC dL_law_1020 rfl rfl ?_
  refine l_aload_n (pc := 1021) (q := 0) hC dL_law_1021 rfl rfl ?_
  refine l_iload_n (pc := 1022) (q := 3) hC dL_law_1022 rfl rfl ?_
  refine l_iconst (pc := 1023) (v := 1) hC dL_law_1023 (by decide) ?_
  refine l_iadd (pc := 1024) hC dL_law_1024 ?_
  refine l_sld (pc := 1025) hC h1 dL_law_1025 ?_
  refine l_call (pc := 1026) (As := [.int (xs (Int32.toNatClampNeg (x3 + 1)))]) (rest := [.int r]) hC hce hsl lk_RL_126 kX10 (kx := 52) rfl (tX10_led _ _ σ1 (xs (Int32.toNatClampNeg (x3 + 1)))) e2 rfl rfl (Nat.le_of_ble_eq_true rfl) ⟨rfl, rfl, Nat.le_of_ble_eq_true rfl, Nat.le_of_ble_eq_true rfl⟩ dL_law_1026 ?_
  show gU p l e s m below meth c G b CE SL σ2 1029 [(0, .ref b), (1, .ref (G.2.1 0)), (2, .ref (G.2.1 52)), (3, .int x3)] [.int r, .int r]
  refine l_eq (pc := 1029) (tgt := 1477) hC dL_law_1029 (by decide) ?_
  exact kk σ2 e3
theorem lk_RL_127 : gLV RL 127 RX9 yX9_image cX9_image 1 (some .int) 0 := ⟨(gBig_tab 913 (by decide +kernel) (by decide +kernel)), (gBig_tab 914 (by decide +kernel) (by decide +kernel)), (gBig_tab 915 (by decide +kernel) (by decide +kernel)), (gBig_tab 1 (by decide +kernel) (by decide +kernel)), (gBig_tab 916 (by decide +kernel) (by decide +kernel)), rfl, by decide +kernel, by decide +kernel, by decide +kernel⟩
theorem lk_RL_130 : gLV RL 130 RX10 yX10_image cX10_image 2 (some .int) 0 := ⟨(gBig_tab 1514 (by decide +kernel) (by decide +kernel)), (gBig_tab 1515 (by decide +kernel) (by decide +kernel)), (gBig_tab 1516 (by decide +kernel) (by decide +kernel)), (gBig_tab 11 (by decide +kernel) (by decide +kernel)), (gBig_tab 1517 (by decide +kernel) (by decide +kernel)), rfl, by decide +kernel, by decide +kernel, by decide +kernel⟩
set_option maxHeartbeats 4000000 in
set_option maxRecDepth 100000 in
theorem lc_image {p : Program} {l : Launch} {e : Env} {s : State} {m : MethodId} {below : List Frame} {meth : Method} {c : Code} {G : gE} {b L CE SL : Nat} {xs : Nat → Int32} (hC : gLx p s m meth c G b L xs) (hce : CE ≤ 600000) (hsl : SL ≤ 7302250) {Inv : gS → Prop} (hS : S_image Inv) (σ : gS) (hI : Inv σ) (x3 : Int32) (h1 : vp_in (x3 + 1) L) (h2 : vp_in (x3 + 2) L) (h3 : vp_in (x3 + 3) L) (h4 : vp_in (x3 + 4) L) (h5 : vp_in (x3 + 5) L) (kk : ∀ τ : gS, Inv τ → gU p l e s m below meth c G b CE SL τ 1477 [(0, .ref b), (1, .ref (G.2.1 0)), (2, .ref (G.2.1 52)), (3, .int x3)] []) : gU p l e s m below meth c G b CE SL σ 1034 [(0, .ref b), (1, .ref (G.2.1 0)), (2, .ref (G.2.1 52)), (3, .int x3)] [] := by
  refine l_aload_n (pc := 1034) (q := 1) hC dL_law_1034 rfl rfl ?_
  obtain ⟨r, σ1, σ2, e1, e2, e3⟩ := hS σ  hI
  refine l_call (pc := 1035) (As := []) (rest := []) hC hce hsl lk_RL_127 kX9 (kx := 0) rfl (tX9_image _ _ σ ) e1 rfl rfl (Nat.le_of_ble_eq_true rfl) ⟨rfl, rfl, Nat.le_of_ble_eq_true rfl, Nat.le_of_ble_eq_true rfl⟩ dL_law_1035 ?_
  show gU p l e s m below meth c G b CE SL σ1 1038 [(0, .ref b), (1, .ref (G.2.1 0)), (2, .ref (G.2.1 52)), (3, .int x3)] [.int r]
  refine l_aload_n (pc := 1038) (q := 2) hC dL_law_1038 rfl rfl ?_
  refine l_call (pc := 1039) (As := []) (rest := [.int r]) hC hce hsl lk_RL_130 kX10 (kx := 52) rfl (tX10_image _ _ σ1 ) e2 rfl rfl (Nat.le_of_ble_eq_true rfl) ⟨rfl, rfl, Nat.le_of_ble_eq_true rfl, Nat.le_of_ble_eq_true rfl⟩ dL_law_1039 ?_
  show gU p l e s m below meth c G b CE SL σ2 1042 [(0, .ref b), (1, .ref (G.2.1 0)), (2, .ref (G.2.1 52)), (3, .int x3)] [.int r, .int r]
  refine l_eq (pc := 1042) (tgt := 1477) hC dL_law_1042 (by decide) ?_
  exact kk σ2 e3
theorem lk_RL_131 : gLV RL 131 RX9 yX9_back cX9_back 1 (some .int) 0 := ⟨(gBig_tab 921 (by decide +kernel) (by decide +kernel)), (gBig_tab 922 (by decide +kernel) (by decide +kernel)), (gBig_tab 923 (by decide +kernel) (by decide +kernel)), (gBig_tab 1 (by decide +kernel) (by decide +kernel)), (gBig_tab 924 (by decide +kernel) (by decide +kernel)), rfl, by decide +kernel, by decide +kernel, by decide +kernel⟩
theorem lk_RL_134 : gLV RL 134 RX10 yX10_back cX10_back 2 (some .int) 0 := ⟨(gBig_tab 1518 (by decide +kernel) (by decide +kernel)), (gBig_tab 1519 (by decide +kernel) (by decide +kernel)), (gBig_tab 1520 (by decide +kernel) (by decide +kernel)), (gBig_tab 11 (by decide +kernel) (by decide +kernel)), (gBig_tab 1521 (by decide +kernel) (by decide +kernel)), rfl, by decide +kernel, by decide +kernel, by decide +kernel⟩
set_option maxHeartbeats 4000000 in
set_option maxRecDepth 100000 in
theorem lc_back {p : Program} {l : Launch} {e : Env} {s : State} {m : MethodId} {below : List Frame} {meth : Method} {c : Code} {G : gE} {b L CE SL : Nat} {xs : Nat → Int32} (hC : gLx p s m meth c G b L xs) (hce : CE ≤ 600000) (hsl : SL ≤ 7302250) {Inv : gS → Prop} (hS : S_back Inv) (σ : gS) (hI : Inv σ) (x3 : Int32) (h1 : vp_in (x3 + 1) L) (h2 : vp_in (x3 + 2) L) (h3 : vp_in (x3 + 3) L) (h4 : vp_in (x3 + 4) L) (h5 : vp_in (x3 + 5) L) (kk : ∀ τ : gS, Inv τ → gU p l e s m below meth c G b CE SL τ 1477 [(0, .ref b), (1, .ref (G.2.1 0)), (2, .ref (G.2.1 52)), (3, .int x3)] []) : gU p l e s m below meth c G b CE SL σ 1047 [(0, .ref b), (1, .ref (G.2.1 0)), (2, .ref (G.2.1 52)), (3, .int x3)] [] := by
  refine l_aload_n (pc := 1047) (q := 1) hC dL_law_1047 rfl rfl ?_
  obtain ⟨r, σ1, σ2, e1, e2, e3⟩ := hS σ  hI
  refine l_call (pc := 1048) (As := []) (rest := []) hC hce hsl lk_RL_131 kX9 (kx := 0) rfl (tX9_back _ _ σ ) e1 rfl rfl (Nat.le_of_ble_eq_true rfl) ⟨rfl, rfl, Nat.le_of_ble_eq_true rfl, Nat.le_of_ble_eq_true rfl⟩ dL_law_1048 ?_
  show gU p l e s m below meth c G b CE SL σ1 1051 [(0, .ref b), (1, .ref (G.2.1 0)), (2, .ref (G.2.1 52)), (3, .int x3)] [.int r]
  refine l_aload_n (pc := 1051) (q := 2) hC dL_law_1051 rfl rfl ?_
  refine l_call (pc := 1052) (As := []) (rest := [.int r]) hC hce hsl lk_RL_134 kX10 (kx := 52) rfl (tX10_back _ _ σ1 ) e2 rfl rfl (Nat.le_of_ble_eq_true rfl) ⟨rfl, rfl, Nat.le_of_ble_eq_true rfl, Nat.le_of_ble_eq_true rfl⟩ dL_law_1052 ?_
  show gU p l e s m below meth c G b CE SL σ2 1055 [(0, .ref b), (1, .ref (G.2.1 0)), (2, .ref (G.2.1 52)), (3, .int x3)] [.int r, .int r]
  refine l_eq (pc := 1055) (tgt := 1477) hC dL_law_1055 (by decide) ?_
  exact kk σ2 e3
theorem lk_RL_135 : gLV RL 135 RX9 yX9_undo cX9_undo 2 (some .int) 0 := ⟨(gBig_tab 925 (by decide +kernel) (by decide +kernel)), (gBig_tab 926 (by decide +kernel) (by decide +kernel)), (gBig_tab 927 (by decide +kernel) (by decide +kernel)), (gBig_tab 1 (by decide +kernel) (by decide +kernel)), (gBig_tab 928 (by decide +kernel) (by decide +kernel)), rfl, by decide +kernel, by decide +kernel, by decide +kernel⟩
theorem lk_RL_138 : gLV RL 138 RX10 yX10_undo cX10_undo 1 (some .int) 0 := ⟨(gBig_tab 1263 (by decide +kernel) (by decide +kernel)), (gBig_tab 1264 (by decide +kernel) (by decide +kernel)), (gBig_tab 1265 (by decide +kernel) (by decide +kernel)), (gBig_tab 11 (by decide +kernel) (by decide +kernel)), (gBig_tab 1266 (by decide +kernel) (by decide +kernel)), rfl, by decide +kernel, by decide +kernel, by decide +kernel⟩
set_option maxHeartbeats 4000000 in
set_option maxRecDepth 100000 in
theorem lc_undo {p : Program} {l : Launch} {e : Env} {s : State} {m : MethodId} {below : List Frame} {meth : Method} {c : Code} {G : gE} {b L CE SL : Nat} {xs : Nat → Int32} (hC : gLx p s m meth c G b L xs) (hce : CE ≤ 600000) (hsl : SL ≤ 7302250) {Inv : gS → Prop} (hS : S_undo Inv) (σ : gS) (hI : Inv σ) (x3 : Int32) (h1 : vp_in (x3 + 1) L) (h2 : vp_in (x3 + 2) L) (h3 : vp_in (x3 + 3) L) (h4 : vp_in (x3 + 4) L) (h5 : vp_in (x3 + 5) L) (kk : ∀ τ : gS, Inv τ → gU p l e s m below meth c G b CE SL τ 1477 [(0, .ref b), (1, .ref (G.2.1 0)), (2, .ref (G.2.1 52)), (3, .int x3)] []) : gU p l e s m below meth c G b CE SL σ 1060 [(0, .ref b), (1, .ref (G.2.1 0)), (2, .ref (G.2.1 52)), (3, .int x3)] [] := by
  refine l_aload_n (pc := 1060) (q := 1) hC dL_law_1060 rfl rfl ?_
  obtain ⟨r, σ1, σ2, e1, e2, e3⟩ := hS σ  hI
  refine l_call (pc := 1061) (As := []) (rest := []) hC hce hsl lk_RL_135 kX9 (kx := 0) rfl (tX9_undo _ _ σ ) e1 rfl rfl (Nat.le_of_ble_eq_true rfl) ⟨rfl, rfl, Nat.le_of_ble_eq_true rfl, Nat.le_of_ble_eq_true rfl⟩ dL_law_1061 ?_
  show gU p l e s m below meth c G b CE SL σ1 1064 [(0, .ref b), (1, .ref (G.2.1 0)), (2, .ref (G.2.1 52)), (3, .int x3)] [.int r]
  refine l_aload_n (pc := 1064) (q := 2) hC dL_law_1064 rfl rfl ?_
  refine l_call (pc := 1065) (As := []) (rest := [.int r]) hC hce hsl lk_RL_138 kX10 (kx := 52) rfl (tX10_undo _ _ σ1 ) e2 rfl rfl (Nat.le_of_ble_eq_true rfl) ⟨rfl, rfl, Nat.le_of_ble_eq_true rfl, Nat.le_of_ble_eq_true rfl⟩ dL_law_1065 ?_
  show gU p l e s m below meth c G b CE SL σ2 1068 [(0, .ref b), (1, .ref (G.2.1 0)), (2, .ref (G.2.1 52)), (3, .int x3)] [.int r, .int r]
  refine l_eq (pc := 1068) (tgt := 1477) hC dL_law_1068 (by decide) ?_
  exact kk σ2 e3
theorem lk_RL_139 : gLV RL 139 RX9 yX9_redo cX9_redo 2 (some .int) 0 := ⟨(gBig_tab 933 (by decide +kernel) (by decide +kernel)), (gBig_tab 934 (by decide +kernel) (by decide +kernel)), (gBig_tab 935 (by decide +kernel) (by decide +kernel)), (gBig_tab 1 (by decide +kernel) (by decide +kernel)), (gBig_tab 936 (by decide +kernel) (by decide +kernel)), rfl, by decide +kernel, by decide +kernel, by decide +kernel⟩
theorem lk_RL_142 : gLV RL 142 RX10 yX10_redo cX10_redo 1 (some .int) 0 := ⟨(gBig_tab 1267 (by decide +kernel) (by decide +kernel)), (gBig_tab 1268 (by decide +kernel) (by decide +kernel)), (gBig_tab 1269 (by decide +kernel) (by decide +kernel)), (gBig_tab 11 (by decide +kernel) (by decide +kernel)), (gBig_tab 1270 (by decide +kernel) (by decide +kernel)), rfl, by decide +kernel, by decide +kernel, by decide +kernel⟩
set_option maxHeartbeats 4000000 in
set_option maxRecDepth 100000 in
theorem lc_redo {p : Program} {l : Launch} {e : Env} {s : State} {m : MethodId} {below : List Frame} {meth : Method} {c : Code} {G : gE} {b L CE SL : Nat} {xs : Nat → Int32} (hC : gLx p s m meth c G b L xs) (hce : CE ≤ 600000) (hsl : SL ≤ 7302250) {Inv : gS → Prop} (hS : S_redo Inv) (σ : gS) (hI : Inv σ) (x3 : Int32) (h1 : vp_in (x3 + 1) L) (h2 : vp_in (x3 + 2) L) (h3 : vp_in (x3 + 3) L) (h4 : vp_in (x3 + 4) L) (h5 : vp_in (x3 + 5) L) (kk : ∀ τ : gS, Inv τ → gU p l e s m below meth c G b CE SL τ 1477 [(0, .ref b), (1, .ref (G.2.1 0)), (2, .ref (G.2.1 52)), (3, .int x3)] []) : gU p l e s m below meth c G b CE SL σ 1073 [(0, .ref b), (1, .ref (G.2.1 0)), (2, .ref (G.2.1 52)), (3, .int x3)] [] := by
  refine l_aload_n (pc := 1073) (q := 1) hC dL_law_1073 rfl rfl ?_
  obtain ⟨r, σ1, σ2, e1, e2, e3⟩ := hS σ  hI
  refine l_call (pc := 1074) (As := []) (rest := []) hC hce hsl lk_RL_139 kX9 (kx := 0) rfl (tX9_redo _ _ σ ) e1 rfl rfl (Nat.le_of_ble_eq_true rfl) ⟨rfl, rfl, Nat.le_of_ble_eq_true rfl, Nat.le_of_ble_eq_true rfl⟩ dL_law_1074 ?_
  show gU p l e s m below meth c G b CE SL σ1 1077 [(0, .ref b), (1, .ref (G.2.1 0)), (2, .ref (G.2.1 52)), (3, .int x3)] [.int r]
  refine l_aload_n (pc := 1077) (q := 2) hC dL_law_1077 rfl rfl ?_
  refine l_call (pc := 1078) (As := []) (rest := [.int r]) hC hce hsl lk_RL_142 kX10 (kx := 52) rfl (tX10_redo _ _ σ1 ) e2 rfl rfl (Nat.le_of_ble_eq_true rfl) ⟨rfl, rfl, Nat.le_of_ble_eq_true rfl, Nat.le_of_ble_eq_true rfl⟩ dL_law_1078 ?_
  show gU p l e s m below meth c G b CE SL σ2 1081 [(0, .ref b), (1, .ref (G.2.1 0)), (2, .ref (G.2.1 52)), (3, .int x3)] [.int r, .int r]
  refine l_eq (pc := 1081) (tgt := 1477) hC dL_law_1081 (by decide) ?_
  exact kk σ2 e3
theorem lk_RL_143 : gLV RL 143 RX9 yX9_body cX9_body 2 (some .int) 1 := ⟨(gBig_tab 941 (by decide +kernel) (by decide +kernel)), (gBig_tab 942 (by decide +kernel) (by decide +kernel)), (gBig_tab 943 (by decide +kernel) (by decide +kernel)), (gBig_tab 1 (by decide +kernel) (by decide +kernel)), (gBig_tab 944 (by decide +kernel) (by decide +kernel)), rfl, by decide +kernel, by decide +kernel, by decide +kernel⟩
theorem lk_RL_146 : gLV RL 146 RX10 yX10_body cX10_body 2 (some .int) 1 := ⟨(gBig_tab 1522 (by decide +kernel) (by decide +kernel)), (gBig_tab 1523 (by decide +kernel) (by decide +kernel)), (gBig_tab 1524 (by decide +kernel) (by decide +kernel)), (gBig_tab 11 (by decide +kernel) (by decide +kernel)), (gBig_tab 1525 (by decide +kernel) (by decide +kernel)), rfl, by decide +kernel, by decide +kernel, by decide +kernel⟩
set_option maxHeartbeats 4000000 in
set_option maxRecDepth 100000 in
theorem lc_body {p : Program} {l : Launch} {e : Env} {s : State} {m : MethodId} {below : List Frame} {meth : Method} {c : Code} {G : gE} {b L CE SL : Nat} {xs : Nat → Int32} (hC : gLx p s m meth c G b L xs) (hce : CE ≤ 600000) (hsl : SL ≤ 7302250) {Inv : gS → Prop} (hS : S_body Inv) (σ : gS) (hI : Inv σ) (x3 : Int32) (h1 : vp_in (x3 + 1) L) (h2 : vp_in (x3 + 2) L) (h3 : vp_in (x3 + 3) L) (h4 : vp_in (x3 + 4) L) (h5 : vp_in (x3 + 5) L) (kk : ∀ τ : gS, Inv τ → gU p l e s m below meth c G b CE SL τ 1477 [(0, .ref b), (1, .ref (G.2.1 0)), (2, .ref (G.2.1 52)), (3, .int x3)] []) : gU p l e s m below meth c G b CE SL σ 1086 [(0, .ref b), (1, .ref (G.2.1 0)), (2, .ref (G.2.1 52)), (3, .int x3)] [] := by
  refine l_aload_n (pc := 1086) (q := 1) hC dL_law_1086 rfl rfl ?_
  refine l_aload_n (pc := 1087) (q := 0) hC dL_law_1087 rfl rfl ?_
  refine l_iload_n (pc := 1088) (q := 3) hC dL_law_1088 rfl rfl ?_
  refine l_iconst (pc := 1089) (v := 1) hC dL_law_1089 (by decide) ?_
  refine l_iadd (pc := 1090) hC dL_law_1090 ?_
  refine l_sld (pc := 1091) hC h1 dL_law_1091 ?_
  obtain ⟨r, σ1, σ2, e1, e2, e3⟩ := hS σ (xs (Int32.toNatClampNeg (x3 + 1))) hI
  refine l_call (pc := 1092) (As := [.int (xs (Int32.toNatClampNeg (x3 + 1)))]) (rest := []) hC hce hsl lk_RL_143 kX9 (kx := 0) rfl (tX9_body _ _ σ (xs (Int32.toNatClampNeg (x3 + 1)))) e1 rfl rfl (Nat.le_of_ble_eq_true rfl) ⟨rfl, rfl, Nat.le_of_ble_eq_true rfl, Nat.le_of_ble_eq_true rfl⟩ dL_law_1092 ?_
  show gU p l e s m below meth c G b CE SL σ1 1095 [(0, .ref b), (1, .ref (G.2.1 0)), (2, .ref (G.2.1 52)), (3, .int x3)] [.int r]
  refine l_aload_n (pc := 1095) (q := 2) hC dL_law_1095 rfl rfl ?_
  refine l_aload_n (pc := 1096) (q := 0) hC dL_law_1096 rfl rfl ?_
  refine l_iload_n (pc := 1097) (q := 3) hC dL_law_1097 rfl rfl ?_
  refine l_iconst (pc := 1098) (v := 1) hC dL_law_1098 (by decide) ?_
  refine l_iadd (pc := 1099) hC dL_law_1099 ?_
  refine l_sld (pc := 1100) hC h1 dL_law_1100 ?_
  refine l_call (pc := 1101) (As := [.int (xs (Int32.toNatClampNeg (x3 + 1)))]) (rest := [.int r]) hC hce hsl lk_RL_146 kX10 (kx := 52) rfl (tX10_body _ _ σ1 (xs (Int32.toNatClampNeg (x3 + 1)))) e2 rfl rfl (Nat.le_of_ble_eq_true rfl) ⟨rfl, rfl, Nat.le_of_ble_eq_true rfl, Nat.le_of_ble_eq_true rfl⟩ dL_law_1101 ?_
  show gU p l e s m below meth c G b CE SL σ2 1104 [(0, .ref b), (1, .ref (G.2.1 0)), (2, .ref (G.2.1 52)), (3, .int x3)] [.int r, .int r]
  refine l_eq (pc := 1104) (tgt := 1477) hC dL_law_1104 (by decide) ?_
  exact kk σ2 e3
theorem lk_RL_147 : gLV RL 147 RX9 yX9_act cX9_act 4 (some .int) 3 := ⟨(gBig_tab 949 (by decide +kernel) (by decide +kernel)), (gBig_tab 950 (by decide +kernel) (by decide +kernel)), (gBig_tab 951 (by decide +kernel) (by decide +kernel)), (gBig_tab 1 (by decide +kernel) (by decide +kernel)), (gBig_tab 952 (by decide +kernel) (by decide +kernel)), rfl, by decide +kernel, by decide +kernel, by decide +kernel⟩
theorem lk_RL_150 : gLV RL 150 RX10 yX10_act cX10_act 5 (some .int) 3 := ⟨(gBig_tab 1526 (by decide +kernel) (by decide +kernel)), (gBig_tab 1527 (by decide +kernel) (by decide +kernel)), (gBig_tab 1528 (by decide +kernel) (by decide +kernel)), (gBig_tab 11 (by decide +kernel) (by decide +kernel)), (gBig_tab 1529 (by decide +kernel) (by decide +kernel)), rfl, by decide +kernel, by decide +kernel, by decide +kernel⟩
set_option maxHeartbeats 4000000 in
set_option maxRecDepth 100000 in
theorem lc_act {p : Program} {l : Launch} {e : Env} {s : State} {m : MethodId} {below : List Frame} {meth : Method} {c : Code} {G : gE} {b L CE SL : Nat} {xs : Nat → Int32} (hC : gLx p s m meth c G b L xs) (hce : CE ≤ 600000) (hsl : SL ≤ 7302250) {Inv : gS → Prop} (hS : S_act Inv) (σ : gS) (hI : Inv σ) (x3 : Int32) (h1 : vp_in (x3 + 1) L) (h2 : vp_in (x3 + 2) L) (h3 : vp_in (x3 + 3) L) (h4 : vp_in (x3 + 4) L) (h5 : vp_in (x3 + 5) L) (kk : ∀ τ : gS, Inv τ → gU p l e s m below meth c G b CE SL τ 1477 [(0, .ref b), (1, .ref (G.2.1 0)), (2, .ref (G.2.1 52)), (3, .int x3)] []) : gU p l e s m below meth c G b CE SL σ 1109 [(0, .ref b), (1, .ref (G.2.1 0)), (2, .ref (G.2.1 52)), (3, .int x3)] [] := by
  refine l_aload_n (pc := 1109) (q := 1) hC dL_law_1109 rfl rfl ?_
  refine l_aload_n (pc := 1110) (q := 0) hC dL_law_1110 rfl rfl ?_
  refine l_iload_n (pc := 1111) (q := 3) hC dL_law_1111 rfl rfl ?_
  refine l_iconst (pc := 1112) (v := 1) hC dL_law_1112 (by decide) ?_
  refine l_iadd (pc := 1113) hC dL_law_1113 ?_
  refine l_sld (pc := 1114) hC h1 dL_law_1114 ?_
  refine l_aload_n (pc := 1115) (q := 0) hC dL_law_1115 rfl rfl ?_
  refine l_iload_n (pc := 1116) (q := 3) hC dL_law_1116 rfl rfl ?_
  refine l_iconst (pc := 1117) (v := 2) hC dL_law_1117 (by decide) ?_
  refine l_iadd (pc := 1118) hC dL_law_1118 ?_
  refine l_sld (pc := 1119) hC h2 dL_law_1119 ?_
  refine l_aload_n (pc := 1120) (q := 0) hC dL_law_1120 rfl rfl ?_
  refine l_iload_n (pc := 1121) (q := 3) hC dL_law_1121 rfl rfl ?_
  refine l_iconst (pc := 1122) (v := 3) hC dL_law_1122 (by decide) ?_
  refine l_iadd (pc := 1123) hC dL_law_1123 ?_
  refine l_sld (pc := 1124) hC h3 dL_law_1124 ?_
  obtain ⟨r, σ1, σ2, e1, e2, e3⟩ := hS σ (xs (Int32.toNatClampNeg (x3 + 1))) (xs (Int32.toNatClampNeg (x3 + 2))) (xs (Int32.toNatClampNeg (x3 + 3))) hI
  refine l_call (pc := 1125) (As := [.int (xs (Int32.toNatClampNeg (x3 + 1))), .int (xs (Int32.toNatClampNeg (x3 + 2))), .int (xs (Int32.toNatClampNeg (x3 + 3)))]) (rest := []) hC hce hsl lk_RL_147 kX9 (kx := 0) rfl (tX9_act _ _ σ (xs (Int32.toNatClampNeg (x3 + 1))) (xs (Int32.toNatClampNeg (x3 + 2))) (xs (Int32.toNatClampNeg (x3 + 3)))) e1 rfl rfl (Nat.le_of_ble_eq_true rfl) ⟨rfl, rfl, Nat.le_of_ble_eq_true rfl, Nat.le_of_ble_eq_true rfl⟩ dL_law_1125 ?_
  show gU p l e s m below meth c G b CE SL σ1 1128 [(0, .ref b), (1, .ref (G.2.1 0)), (2, .ref (G.2.1 52)), (3, .int x3)] [.int r]
  refine l_aload_n (pc := 1128) (q := 2) hC dL_law_1128 rfl rfl ?_
  refine l_aload_n (pc := 1129) (q := 0) hC dL_law_1129 rfl rfl ?_
  refine l_iload_n (pc := 1130) (q := 3) hC dL_law_1130 rfl rfl ?_
  refine l_iconst (pc := 1131) (v := 1) hC dL_law_1131 (by decide) ?_
  refine l_iadd (pc := 1132) hC dL_law_1132 ?_
  refine l_sld (pc := 1133) hC h1 dL_law_1133 ?_
  refine l_aload_n (pc := 1134) (q := 0) hC dL_law_1134 rfl rfl ?_
  refine l_iload_n (pc := 1135) (q := 3) hC dL_law_1135 rfl rfl ?_
  refine l_iconst (pc := 1136) (v := 2) hC dL_law_1136 (by decide) ?_
  refine l_iadd (pc := 1137) hC dL_law_1137 ?_
  refine l_sld (pc := 1138) hC h2 dL_law_1138 ?_
  refine l_aload_n (pc := 1139) (q := 0) hC dL_law_1139 rfl rfl ?_
  refine l_iload_n (pc := 1140) (q := 3) hC dL_law_1140 rfl rfl ?_
  refine l_iconst (pc := 1141) (v := 3) hC dL_law_1141 (by decide) ?_
  refine l_iadd (pc := 1142) hC dL_law_1142 ?_
  refine l_sld (pc := 1143) hC h3 dL_law_1143 ?_
  refine l_call (pc := 1144) (As := [.int (xs (Int32.toNatClampNeg (x3 + 1))), .int (xs (Int32.toNatClampNeg (x3 + 2))), .int (xs (Int32.toNatClampNeg (x3 + 3)))]) (rest := [.int r]) hC hce hsl lk_RL_150 kX10 (kx := 52) rfl (tX10_act _ _ σ1 (xs (Int32.toNatClampNeg (x3 + 1))) (xs (Int32.toNatClampNeg (x3 + 2))) (xs (Int32.toNatClampNeg (x3 + 3)))) e2 rfl rfl (Nat.le_of_ble_eq_true rfl) ⟨rfl, rfl, Nat.le_of_ble_eq_true rfl, Nat.le_of_ble_eq_true rfl⟩ dL_law_1144 ?_
  show gU p l e s m below meth c G b CE SL σ2 1147 [(0, .ref b), (1, .ref (G.2.1 0)), (2, .ref (G.2.1 52)), (3, .int x3)] [.int r, .int r]
  refine l_eq (pc := 1147) (tgt := 1477) hC dL_law_1147 (by decide) ?_
  exact kk σ2 e3
theorem lk_RL_151 : gLV RL 151 RX9 yX9_trace cX9_trace 2 (some .int) 1 := ⟨(gBig_tab 989 (by decide +kernel) (by decide +kernel)), (gBig_tab 990 (by decide +kernel) (by decide +kernel)), (gBig_tab 991 (by decide +kernel) (by decide +kernel)), (gBig_tab 1 (by decide +kernel) (by decide +kernel)), (gBig_tab 992 (by decide +kernel) (by decide +kernel)), rfl, by decide +kernel, by decide +kernel, by decide +kernel⟩
theorem lk_RL_154 : gLV RL 154 RX10 yX10_trace cX10_trace 2 (some .int) 1 := ⟨(gBig_tab 1553 (by decide +kernel) (by decide +kernel)), (gBig_tab 1554 (by decide +kernel) (by decide +kernel)), (gBig_tab 1555 (by decide +kernel) (by decide +kernel)), (gBig_tab 11 (by decide +kernel) (by decide +kernel)), (gBig_tab 1556 (by decide +kernel) (by decide +kernel)), rfl, by decide +kernel, by decide +kernel, by decide +kernel⟩
set_option maxHeartbeats 4000000 in
set_option maxRecDepth 100000 in
theorem lc_trace {p : Program} {l : Launch} {e : Env} {s : State} {m : MethodId} {below : List Frame} {meth : Method} {c : Code} {G : gE} {b L CE SL : Nat} {xs : Nat → Int32} (hC : gLx p s m meth c G b L xs) (hce : CE ≤ 600000) (hsl : SL ≤ 7302250) {Inv : gS → Prop} (hS : S_trace Inv) (σ : gS) (hI : Inv σ) (x3 : Int32) (h1 : vp_in (x3 + 1) L) (h2 : vp_in (x3 + 2) L) (h3 : vp_in (x3 + 3) L) (h4 : vp_in (x3 + 4) L) (h5 : vp_in (x3 + 5) L) (kk : ∀ τ : gS, Inv τ → gU p l e s m below meth c G b CE SL τ 1477 [(0, .ref b), (1, .ref (G.2.1 0)), (2, .ref (G.2.1 52)), (3, .int x3)] []) : gU p l e s m below meth c G b CE SL σ 1152 [(0, .ref b), (1, .ref (G.2.1 0)), (2, .ref (G.2.1 52)), (3, .int x3)] [] := by
  refine l_aload_n (pc := 1152) (q := 1) hC dL_law_1152 rfl rfl ?_
  refine l_aload_n (pc := 1153) (q := 0) hC dL_law_1153 rfl rfl ?_
  refine l_iload_n (pc := 1154) (q := 3) hC dL_law_1154 rfl rfl ?_
  refine l_iconst (pc := 1155) (v := 1) hC dL_law_1155 (by decide) ?_
  refine l_iadd (pc := 1156) hC dL_law_1156 ?_
  refine l_sld (pc := 1157) hC h1 dL_law_1157 ?_
  obtain ⟨r, σ1, σ2, e1, e2, e3⟩ := hS σ (xs (Int32.toNatClampNeg (x3 + 1))) hI
  refine l_call (pc := 1158) (As := [.int (xs (Int32.toNatClampNeg (x3 + 1)))]) (rest := []) hC hce hsl lk_RL_151 kX9 (kx := 0) rfl (tX9_trace _ _ σ (xs (Int32.toNatClampNeg (x3 + 1)))) e1 rfl rfl (Nat.le_of_ble_eq_true rfl) ⟨rfl, rfl, Nat.le_of_ble_eq_true rfl, Nat.le_of_ble_eq_true rfl⟩ dL_law_1158 ?_
  show gU p l e s m below meth c G b CE SL σ1 1161 [(0, .ref b), (1, .ref (G.2.1 0)), (2, .ref (G.2.1 52)), (3, .int x3)] [.int r]
  refine l_aload_n (pc := 1161) (q := 2) hC dL_law_1161 rfl rfl ?_
  refine l_aload_n (pc := 1162) (q := 0) hC dL_law_1162 rfl rfl ?_
  refine l_iload_n (pc := 1163) (q := 3) hC dL_law_1163 rfl rfl ?_
  refine l_iconst (pc := 1164) (v := 1) hC dL_law_1164 (by decide) ?_
  refine l_iadd (pc := 1165) hC dL_law_1165 ?_
  refine l_sld (pc := 1166) hC h1 dL_law_1166 ?_
  refine l_call (pc := 1167) (As := [.int (xs (Int32.toNatClampNeg (x3 + 1)))]) (rest := [.int r]) hC hce hsl lk_RL_154 kX10 (kx := 52) rfl (tX10_trace _ _ σ1 (xs (Int32.toNatClampNeg (x3 + 1)))) e2 rfl rfl (Nat.le_of_ble_eq_true rfl) ⟨rfl, rfl, Nat.le_of_ble_eq_true rfl, Nat.le_of_ble_eq_true rfl⟩ dL_law_1167 ?_
  show gU p l e s m below meth c G b CE SL σ2 1170 [(0, .ref b), (1, .ref (G.2.1 0)), (2, .ref (G.2.1 52)), (3, .int x3)] [.int r, .int r]
  refine l_eq (pc := 1170) (tgt := 1477) hC dL_law_1170 (by decide) ?_
  exact kk σ2 e3
theorem lk_RL_155 : gLV RL 155 RX9 yX9_keep cX9_keep 4 (some .int) 2 := ⟨(gBig_tab 998 (by decide +kernel) (by decide +kernel)), (gBig_tab 999 (by decide +kernel) (by decide +kernel)), (gBig_tab 1000 (by decide +kernel) (by decide +kernel)), (gBig_tab 1 (by decide +kernel) (by decide +kernel)), (gBig_tab 1001 (by decide +kernel) (by decide +kernel)), rfl, by decide +kernel, by decide +kernel, by decide +kernel⟩
theorem lk_RL_158 : gLV RL 158 RX10 yX10_keep cX10_keep 3 (some .int) 2 := ⟨(gBig_tab 1557 (by decide +kernel) (by decide +kernel)), (gBig_tab 1558 (by decide +kernel) (by decide +kernel)), (gBig_tab 1559 (by decide +kernel) (by decide +kernel)), (gBig_tab 11 (by decide +kernel) (by decide +kernel)), (gBig_tab 1560 (by decide +kernel) (by decide +kernel)), rfl, by decide +kernel, by decide +kernel, by decide +kernel⟩
set_option maxHeartbeats 4000000 in
set_option maxRecDepth 100000 in
theorem lc_keep {p : Program} {l : Launch} {e : Env} {s : State} {m : MethodId} {below : List Frame} {meth : Method} {c : Code} {G : gE} {b L CE SL : Nat} {xs : Nat → Int32} (hC : gLx p s m meth c G b L xs) (hce : CE ≤ 600000) (hsl : SL ≤ 7302250) {Inv : gS → Prop} (hS : S_keep Inv) (σ : gS) (hI : Inv σ) (x3 : Int32) (h1 : vp_in (x3 + 1) L) (h2 : vp_in (x3 + 2) L) (h3 : vp_in (x3 + 3) L) (h4 : vp_in (x3 + 4) L) (h5 : vp_in (x3 + 5) L) (kk : ∀ τ : gS, Inv τ → gU p l e s m below meth c G b CE SL τ 1477 [(0, .ref b), (1, .ref (G.2.1 0)), (2, .ref (G.2.1 52)), (3, .int x3)] []) : gU p l e s m below meth c G b CE SL σ 1175 [(0, .ref b), (1, .ref (G.2.1 0)), (2, .ref (G.2.1 52)), (3, .int x3)] [] := by
  refine l_aload_n (pc := 1175) (q := 1) hC dL_law_1175 rfl rfl ?_
  refine l_aload_n (pc := 1176) (q := 0) hC dL_law_1176 rfl rfl ?_
  refine l_iload_n (pc := 1177) (q := 3) hC dL_law_1177 rfl rfl ?_
  refine l_iconst (pc := 1178) (v := 1) hC dL_law_1178 (by decide) ?_
  refine l_iadd (pc := 1179) hC dL_law_1179 ?_
  refine l_sld (pc := 1180) hC h1 dL_law_1180 ?_
  refine l_aload_n (pc := 1181) (q := 0) hC dL_law_1181 rfl rfl ?_
  refine l_iload_n (pc := 1182) (q := 3) hC dL_law_1182 rfl rfl ?_
  refine l_iconst (pc := 1183) (v := 2) hC dL_law_1183 (by decide) ?_
  refine l_iadd (pc := 1184) hC dL_law_1184 ?_
  refine l_sld (pc := 1185) hC h2 dL_law_1185 ?_
  obtain ⟨r, σ1, σ2, e1, e2, e3⟩ := hS σ (xs (Int32.toNatClampNeg (x3 + 1))) (xs (Int32.toNatClampNeg (x3 + 2))) hI
  refine l_call (pc := 1186) (As := [.int (xs (Int32.toNatClampNeg (x3 + 1))), .int (xs (Int32.toNatClampNeg (x3 + 2)))]) (rest := []) hC hce hsl lk_RL_155 kX9 (kx := 0) rfl (tX9_keep _ _ σ (xs (Int32.toNatClampNeg (x3 + 1))) (xs (Int32.toNatClampNeg (x3 + 2)))) e1 rfl rfl (Nat.le_of_ble_eq_true rfl) ⟨rfl, rfl, Nat.le_of_ble_eq_true rfl, Nat.le_of_ble_eq_true rfl⟩ dL_law_1186 ?_
  show gU p l e s m below meth c G b CE SL σ1 1189 [(0, .ref b), (1, .ref (G.2.1 0)), (2, .ref (G.2.1 52)), (3, .int x3)] [.int r]
  refine l_aload_n (pc := 1189) (q := 2) hC dL_law_1189 rfl rfl ?_
  refine l_aload_n (pc := 1190) (q := 0) hC dL_law_1190 rfl rfl ?_
  refine l_iload_n (pc := 1191) (q := 3) hC dL_law_1191 rfl rfl ?_
  refine l_iconst (pc := 1192) (v := 1) hC dL_law_1192 (by decide) ?_
  refine l_iadd (pc := 1193) hC dL_law_1193 ?_
  refine l_sld (pc := 1194) hC h1 dL_law_1194 ?_
  refine l_aload_n (pc := 1195) (q := 0) hC dL_law_1195 rfl rfl ?_
  refine l_iload_n (pc := 1196) (q := 3) hC dL_law_1196 rfl rfl ?_
  refine l_iconst (pc := 1197) (v := 2) hC dL_law_1197 (by decide) ?_
  refine l_iadd (pc := 1198) hC dL_law_1198 ?_
  refine l_sld (pc := 1199) hC h2 dL_law_1199 ?_
  refine l_call (pc := 1200) (As := [.int (xs (Int32.toNatClampNeg (x3 + 1))), .int (xs (Int32.toNatClampNeg (x3 + 2)))]) (rest := [.int r]) hC hce hsl lk_RL_158 kX10 (kx := 52) rfl (tX10_keep _ _ σ1 (xs (Int32.toNatClampNeg (x3 + 1))) (xs (Int32.toNatClampNeg (x3 + 2)))) e2 rfl rfl (Nat.le_of_ble_eq_true rfl) ⟨rfl, rfl, Nat.le_of_ble_eq_true rfl, Nat.le_of_ble_eq_true rfl⟩ dL_law_1200 ?_
  show gU p l e s m below meth c G b CE SL σ2 1203 [(0, .ref b), (1, .ref (G.2.1 0)), (2, .ref (G.2.1 52)), (3, .int x3)] [.int r, .int r]
  refine l_eq (pc := 1203) (tgt := 1477) hC dL_law_1203 (by decide) ?_
  exact kk σ2 e3
theorem lk_RL_159 : gLV RL 159 RX9 yX9_row cX9_row 5 (some .int) 3 := ⟨(gBig_tab 1003 (by decide +kernel) (by decide +kernel)), (gBig_tab 1004 (by decide +kernel) (by decide +kernel)), (gBig_tab 1005 (by decide +kernel) (by decide +kernel)), (gBig_tab 1 (by decide +kernel) (by decide +kernel)), (gBig_tab 1006 (by decide +kernel) (by decide +kernel)), rfl, by decide +kernel, by decide +kernel, by decide +kernel⟩
theorem lk_RL_162 : gLV RL 162 RX10 yX10_row cX10_row 5 (some .int) 3 := ⟨(gBig_tab 1561 (by decide +kernel) (by decide +kernel)), (gBig_tab 1562 (by decide +kernel) (by decide +kernel)), (gBig_tab 1563 (by decide +kernel) (by decide +kernel)), (gBig_tab 11 (by decide +kernel) (by decide +kernel)), (gBig_tab 1564 (by decide +kernel) (by decide +kernel)), rfl, by decide +kernel, by decide +kernel, by decide +kernel⟩
set_option maxHeartbeats 4000000 in
set_option maxRecDepth 100000 in
theorem lc_row {p : Program} {l : Launch} {e : Env} {s : State} {m : MethodId} {below : List Frame} {meth : Method} {c : Code} {G : gE} {b L CE SL : Nat} {xs : Nat → Int32} (hC : gLx p s m meth c G b L xs) (hce : CE ≤ 600000) (hsl : SL ≤ 7302250) {Inv : gS → Prop} (hS : S_row Inv) (σ : gS) (hI : Inv σ) (x3 : Int32) (h1 : vp_in (x3 + 1) L) (h2 : vp_in (x3 + 2) L) (h3 : vp_in (x3 + 3) L) (h4 : vp_in (x3 + 4) L) (h5 : vp_in (x3 + 5) L) (kk : ∀ τ : gS, Inv τ → gU p l e s m below meth c G b CE SL τ 1477 [(0, .ref b), (1, .ref (G.2.1 0)), (2, .ref (G.2.1 52)), (3, .int x3)] []) : gU p l e s m below meth c G b CE SL σ 1208 [(0, .ref b), (1, .ref (G.2.1 0)), (2, .ref (G.2.1 52)), (3, .int x3)] [] := by
  refine l_aload_n (pc := 1208) (q := 1) hC dL_law_1208 rfl rfl ?_
  refine l_aload_n (pc := 1209) (q := 0) hC dL_law_1209 rfl rfl ?_
  refine l_iload_n (pc := 1210) (q := 3) hC dL_law_1210 rfl rfl ?_
  refine l_iconst (pc := 1211) (v := 1) hC dL_law_1211 (by decide) ?_
  refine l_iadd (pc := 1212) hC dL_law_1212 ?_
  refine l_sld (pc := 1213) hC h1 dL_law_1213 ?_
  refine l_aload_n (pc := 1214) (q := 0) hC dL_law_1214 rfl rfl ?_
  refine l_iload_n (pc := 1215) (q := 3) hC dL_law_1215 rfl rfl ?_
  refine l_iconst (pc := 1216) (v := 2) hC dL_law_1216 (by decide) ?_
  refine l_iadd (pc := 1217) hC dL_law_1217 ?_
  refine l_sld (pc := 1218) hC h2 dL_law_1218 ?_
  refine l_aload_n (pc := 1219) (q := 0) hC dL_law_1219 rfl rfl ?_
  refine l_iload_n (pc := 1220) (q := 3) hC dL_law_1220 rfl rfl ?_
  refine l_iconst (pc := 1221) (v := 3) hC dL_law_1221 (by decide) ?_
  refine l_iadd (pc := 1222) hC dL_law_1222 ?_
  refine l_sld (pc := 1223) hC h3 dL_law_1223 ?_
  obtain ⟨r, σ1, σ2, e1, e2, e3⟩ := hS σ (xs (Int32.toNatClampNeg (x3 + 1))) (xs (Int32.toNatClampNeg (x3 + 2))) (xs (Int32.toNatClampNeg (x3 + 3))) hI
  refine l_call (pc := 1224) (As := [.int (xs (Int32.toNatClampNeg (x3 + 1))), .int (xs (Int32.toNatClampNeg (x3 + 2))), .int (xs (Int32.toNatClampNeg (x3 + 3)))]) (rest := []) hC hce hsl lk_RL_159 kX9 (kx := 0) rfl (tX9_row _ _ σ (xs (Int32.toNatClampNeg (x3 + 1))) (xs (Int32.toNatClampNeg (x3 + 2))) (xs (Int32.toNatClampNeg (x3 + 3)))) e1 rfl rfl (Nat.le_of_ble_eq_true rfl) ⟨rfl, rfl, Nat.le_of_ble_eq_true rfl, Nat.le_of_ble_eq_true rfl⟩ dL_law_1224 ?_
  show gU p l e s m below meth c G b CE SL σ1 1227 [(0, .ref b), (1, .ref (G.2.1 0)), (2, .ref (G.2.1 52)), (3, .int x3)] [.int r]
  refine l_aload_n (pc := 1227) (q := 2) hC dL_law_1227 rfl rfl ?_
  refine l_aload_n (pc := 1228) (q := 0) hC dL_law_1228 rfl rfl ?_
  refine l_iload_n (pc := 1229) (q := 3) hC dL_law_1229 rfl rfl ?_
  refine l_iconst (pc := 1230) (v := 1) hC dL_law_1230 (by decide) ?_
  refine l_iadd (pc := 1231) hC dL_law_1231 ?_
  refine l_sld (pc := 1232) hC h1 dL_law_1232 ?_
  refine l_aload_n (pc := 1233) (q := 0) hC dL_law_1233 rfl rfl ?_
  refine l_iload_n (pc := 1234) (q := 3) hC dL_law_1234 rfl rfl ?_
  refine l_iconst (pc := 1235) (v := 2) hC dL_law_1235 (by decide) ?_
  refine l_iadd (pc := 1236) hC dL_law_1236 ?_
  refine l_sld (pc := 1237) hC h2 dL_law_1237 ?_
  refine l_aload_n (pc := 1238) (q := 0) hC dL_law_1238 rfl rfl ?_
  refine l_iload_n (pc := 1239) (q := 3) hC dL_law_1239 rfl rfl ?_
  refine l_iconst (pc := 1240) (v := 3) hC dL_law_1240 (by decide) ?_
  refine l_iadd (pc := 1241) hC dL_law_1241 ?_
  refine l_sld (pc := 1242) hC h3 dL_law_1242 ?_
  refine l_call (pc := 1243) (As := [.int (xs (Int32.toNatClampNeg (x3 + 1))), .int (xs (Int32.toNatClampNeg (x3 + 2))), .int (xs (Int32.toNatClampNeg (x3 + 3)))]) (rest := [.int r]) hC hce hsl lk_RL_162 kX10 (kx := 52) rfl (tX10_row _ _ σ1 (xs (Int32.toNatClampNeg (x3 + 1))) (xs (Int32.toNatClampNeg (x3 + 2))) (xs (Int32.toNatClampNeg (x3 + 3)))) e2 rfl rfl (Nat.le_of_ble_eq_true rfl) ⟨rfl, rfl, Nat.le_of_ble_eq_true rfl, Nat.le_of_ble_eq_true rfl⟩ dL_law_1243 ?_
  show gU p l e s m below meth c G b CE SL σ2 1246 [(0, .ref b), (1, .ref (G.2.1 0)), (2, .ref (G.2.1 52)), (3, .int x3)] [.int r, .int r]
  refine l_eq (pc := 1246) (tgt := 1477) hC dL_law_1246 (by decide) ?_
  exact kk σ2 e3
theorem cst_RL_163 : Cond.constantLong RL 163 4294967295 ∈ gBig := (gBig_tab 1592 (by decide +kernel) (by decide +kernel))
theorem lk_RL_165 : gLV RL 165 RX9 yX9_put cX9_put 6 (some .int) 3 := ⟨(gBig_tab 1014 (by decide +kernel) (by decide +kernel)), (gBig_tab 1015 (by decide +kernel) (by decide +kernel)), (gBig_tab 1016 (by decide +kernel) (by decide +kernel)), (gBig_tab 1 (by decide +kernel) (by decide +kernel)), (gBig_tab 1017 (by decide +kernel) (by decide +kernel)), rfl, by decide +kernel, by decide +kernel, by decide +kernel⟩
theorem lk_RL_169 : gLV RL 169 RX10 yX10_put cX10_put 5 (some .int) 3 := ⟨(gBig_tab 1565 (by decide +kernel) (by decide +kernel)), (gBig_tab 1566 (by decide +kernel) (by decide +kernel)), (gBig_tab 1567 (by decide +kernel) (by decide +kernel)), (gBig_tab 11 (by decide +kernel) (by decide +kernel)), (gBig_tab 1568 (by decide +kernel) (by decide +kernel)), rfl, by decide +kernel, by decide +kernel, by decide +kernel⟩
set_option maxHeartbeats 4000000 in
set_option maxRecDepth 100000 in
theorem lc_put {p : Program} {l : Launch} {e : Env} {s : State} {m : MethodId} {below : List Frame} {meth : Method} {c : Code} {G : gE} {b L CE SL : Nat} {xs : Nat → Int32} (hC : gLx p s m meth c G b L xs) (hce : CE ≤ 600000) (hsl : SL ≤ 7302250) {Inv : gS → Prop} (hS : S_put Inv) (σ : gS) (hI : Inv σ) (x3 : Int32) (h1 : vp_in (x3 + 1) L) (h2 : vp_in (x3 + 2) L) (h3 : vp_in (x3 + 3) L) (h4 : vp_in (x3 + 4) L) (h5 : vp_in (x3 + 5) L) (kk : ∀ τ : gS, Inv τ → gU p l e s m below meth c G b CE SL τ 1477 [(0, .ref b), (1, .ref (G.2.1 0)), (2, .ref (G.2.1 52)), (3, .int x3)] []) : gU p l e s m below meth c G b CE SL σ 1251 [(0, .ref b), (1, .ref (G.2.1 0)), (2, .ref (G.2.1 52)), (3, .int x3)] [] := by
  refine l_aload_n (pc := 1251) (q := 1) hC dL_law_1251 rfl rfl ?_
  refine l_aload_n (pc := 1252) (q := 0) hC dL_law_1252 rfl rfl ?_
  refine l_iload_n (pc := 1253) (q := 3) hC dL_law_1253 rfl rfl ?_
  refine l_iconst (pc := 1254) (v := 1) hC dL_law_1254 (by decide) ?_
  refine l_iadd (pc := 1255) hC dL_law_1255 ?_
  refine l_sld (pc := 1256) hC h1 dL_law_1256 ?_
  refine l_aload_n (pc := 1257) (q := 0) hC dL_law_1257 rfl rfl ?_
  refine l_iload_n (pc := 1258) (q := 3) hC dL_law_1258 rfl rfl ?_
  refine l_iconst (pc := 1259) (v := 2) hC dL_law_1259 (by decide) ?_
  refine l_iadd (pc := 1260) hC dL_law_1260 ?_
  refine l_sld (pc := 1261) hC h2 dL_law_1261 ?_
  refine l_aload_n (pc := 1262) (q := 0) hC dL_law_1262 rfl rfl ?_
  refine l_iload_n (pc := 1263) (q := 3) hC dL_law_1263 rfl rfl ?_
  refine l_iconst (pc := 1264) (v := 3) hC dL_law_1264 (by decide) ?_
  refine l_iadd (pc := 1265) hC dL_law_1265 ?_
  refine l_sld (pc := 1266) hC h3 dL_law_1266 ?_
  refine l_i2l (pc := 1267) hC dL_law_1267 ?_
  refine l_bipush (pc := 1268) (v := 32) hC dL_law_1268 (by decide) ?_
  refine l_lshl (pc := 1270) hC dL_law_1270 ?_
  refine l_aload_n (pc := 1271) (q := 0) hC dL_law_1271 rfl rfl ?_
  refine l_iload_n (pc := 1272) (q := 3) hC dL_law_1272 rfl rfl ?_
  refine l_iconst (pc := 1273) (v := 4) hC dL_law_1273 (by decide) ?_
  refine l_iadd (pc := 1274) hC dL_law_1274 ?_
  refine l_sld (pc := 1275) hC h4 dL_law_1275 ?_
  refine l_i2l (pc := 1276) hC dL_law_1276 ?_
  refine l_ldc2 (pc := 1277) (v := 4294967295) hC dL_law_1277 cst_RL_163 ?_
  refine l_land (pc := 1280) hC dL_law_1280 ?_
  refine l_lor (pc := 1281) hC dL_law_1281 ?_
  obtain ⟨r, σ1, σ2, e1, e2, e3⟩ := hS σ (xs (Int32.toNatClampNeg (x3 + 1))) (xs (Int32.toNatClampNeg (x3 + 2))) (((Int32.toInt64 (xs (Int32.toNatClampNeg (x3 + 3)))) <<< (Int32.toInt64 32 &&& 63)) ||| ((Int32.toInt64 (xs (Int32.toNatClampNeg (x3 + 4)))) &&& 4294967295)) hI
  refine l_call (pc := 1282) (As := [.int (xs (Int32.toNatClampNeg (x3 + 1))), .int (xs (Int32.toNatClampNeg (x3 + 2))), .long (((Int32.toInt64 (xs (Int32.toNatClampNeg (x3 + 3)))) <<< (Int32.toInt64 32 &&& 63)) ||| ((Int32.toInt64 (xs (Int32.toNatClampNeg (x3 + 4)))) &&& 4294967295))]) (rest := []) hC hce hsl lk_RL_165 kX9 (kx := 0) rfl (tX9_put _ _ σ (xs (Int32.toNatClampNeg (x3 + 1))) (xs (Int32.toNatClampNeg (x3 + 2))) (((Int32.toInt64 (xs (Int32.toNatClampNeg (x3 + 3)))) <<< (Int32.toInt64 32 &&& 63)) ||| ((Int32.toInt64 (xs (Int32.toNatClampNeg (x3 + 4)))) &&& 4294967295))) e1 rfl rfl (Nat.le_of_ble_eq_true rfl) ⟨rfl, rfl, Nat.le_of_ble_eq_true rfl, Nat.le_of_ble_eq_true rfl⟩ dL_law_1282 ?_
  show gU p l e s m below meth c G b CE SL σ1 1285 [(0, .ref b), (1, .ref (G.2.1 0)), (2, .ref (G.2.1 52)), (3, .int x3)] [.int r]
  refine l_aload_n (pc := 1285) (q := 2) hC dL_law_1285 rfl rfl ?_
  refine l_aload_n (pc := 1286) (q := 0) hC dL_law_1286 rfl rfl ?_
  refine l_iload_n (pc := 1287) (q := 3) hC dL_law_1287 rfl rfl ?_
  refine l_iconst (pc := 1288) (v := 1) hC dL_law_1288 (by decide) ?_
  refine l_iadd (pc := 1289) hC dL_law_1289 ?_
  refine l_sld (pc := 1290) hC h1 dL_law_1290 ?_
  refine l_aload_n (pc := 1291) (q := 0) hC dL_law_1291 rfl rfl ?_
  refine l_iload_n (pc := 1292) (q := 3) hC dL_law_1292 rfl rfl ?_
  refine l_iconst (pc := 1293) (v := 2) hC dL_law_1293 (by decide) ?_
  refine l_iadd (pc := 1294) hC dL_law_1294 ?_
  refine l_sld (pc := 1295) hC h2 dL_law_1295 ?_
  refine l_aload_n (pc := 1296) (q := 0) hC dL_law_1296 rfl rfl ?_
  refine l_iload_n (pc := 1297) (q := 3) hC dL_law_1297 rfl rfl ?_
  refine l_iconst (pc := 1298) (v := 3) hC dL_law_1298 (by decide) ?_
  refine l_iadd (pc := 1299) hC dL_law_1299 ?_
  refine l_sld (pc := 1300) hC h3 dL_law_1300 ?_
  refine l_i2l (pc := 1301) hC dL_law_1301 ?_
  refine l_bipush (pc := 1302) (v := 32) hC dL_law_1302 (by decide) ?_
  refine l_lshl (pc := 1304) hC dL_law_1304 ?_
  refine l_aload_n (pc := 1305) (q := 0) hC dL_law_1305 rfl rfl ?_
  refine l_iload_n (pc := 1306) (q := 3) hC dL_law_1306 rfl rfl ?_
  refine l_iconst (pc := 1307) (v := 4) hC dL_law_1307 (by decide) ?_
  refine l_iadd (pc := 1308) hC dL_law_1308 ?_
  refine l_sld (pc := 1309) hC h4 dL_law_1309 ?_
  refine l_i2l (pc := 1310) hC dL_law_1310 ?_
  refine l_ldc2 (pc := 1311) (v := 4294967295) hC dL_law_1311 cst_RL_163 ?_
  refine l_land (pc := 1314) hC dL_law_1314 ?_
  refine l_lor (pc := 1315) hC dL_law_1315 ?_
  refine l_call (pc := 1316) (As := [.int (xs (Int32.toNatClampNeg (x3 + 1))), .int (xs (Int32.toNatClampNeg (x3 + 2))), .long (((Int32.toInt64 (xs (Int32.toNatClampNeg (x3 + 3)))) <<< (Int32.toInt64 32 &&& 63)) ||| ((Int32.toInt64 (xs (Int32.toNatClampNeg (x3 + 4)))) &&& 4294967295))]) (rest := [.int r]) hC hce hsl lk_RL_169 kX10 (kx := 52) rfl (tX10_put _ _ σ1 (xs (Int32.toNatClampNeg (x3 + 1))) (xs (Int32.toNatClampNeg (x3 + 2))) (((Int32.toInt64 (xs (Int32.toNatClampNeg (x3 + 3)))) <<< (Int32.toInt64 32 &&& 63)) ||| ((Int32.toInt64 (xs (Int32.toNatClampNeg (x3 + 4)))) &&& 4294967295))) e2 rfl rfl (Nat.le_of_ble_eq_true rfl) ⟨rfl, rfl, Nat.le_of_ble_eq_true rfl, Nat.le_of_ble_eq_true rfl⟩ dL_law_1316 ?_
  show gU p l e s m below meth c G b CE SL σ2 1319 [(0, .ref b), (1, .ref (G.2.1 0)), (2, .ref (G.2.1 52)), (3, .int x3)] [.int r, .int r]
  refine l_eq (pc := 1319) (tgt := 1477) hC dL_law_1319 (by decide) ?_
  exact kk σ2 e3
theorem lk_RL_170 : gLV RL 170 RX9 yX9_element cX9_element 3 (some .long) 2 := ⟨(gBig_tab 1025 (by decide +kernel) (by decide +kernel)), (gBig_tab 1026 (by decide +kernel) (by decide +kernel)), (gBig_tab 1027 (by decide +kernel) (by decide +kernel)), (gBig_tab 1 (by decide +kernel) (by decide +kernel)), (gBig_tab 1028 (by decide +kernel) (by decide +kernel)), rfl, by decide +kernel, by decide +kernel, by decide +kernel⟩
theorem lk_RL_173 : gLV RL 173 RX10 yX10_element cX10_element 3 (some .long) 2 := ⟨(gBig_tab 1576 (by decide +kernel) (by decide +kernel)), (gBig_tab 1577 (by decide +kernel) (by decide +kernel)), (gBig_tab 1578 (by decide +kernel) (by decide +kernel)), (gBig_tab 11 (by decide +kernel) (by decide +kernel)), (gBig_tab 1579 (by decide +kernel) (by decide +kernel)), rfl, by decide +kernel, by decide +kernel, by decide +kernel⟩
set_option maxHeartbeats 4000000 in
set_option maxRecDepth 100000 in
theorem lc_element {p : Program} {l : Launch} {e : Env} {s : State} {m : MethodId} {below : List Frame} {meth : Method} {c : Code} {G : gE} {b L CE SL : Nat} {xs : Nat → Int32} (hC : gLx p s m meth c G b L xs) (hce : CE ≤ 600000) (hsl : SL ≤ 7302250) {Inv : gS → Prop} (hS : S_element Inv) (σ : gS) (hI : Inv σ) (x3 : Int32) (h1 : vp_in (x3 + 1) L) (h2 : vp_in (x3 + 2) L) (h3 : vp_in (x3 + 3) L) (h4 : vp_in (x3 + 4) L) (h5 : vp_in (x3 + 5) L) (kk : ∀ τ : gS, Inv τ → gU p l e s m below meth c G b CE SL τ 1477 [(0, .ref b), (1, .ref (G.2.1 0)), (2, .ref (G.2.1 52)), (3, .int x3)] []) : gU p l e s m below meth c G b CE SL σ 1324 [(0, .ref b), (1, .ref (G.2.1 0)), (2, .ref (G.2.1 52)), (3, .int x3)] [] := by
  refine l_aload_n (pc := 1324) (q := 1) hC dL_law_1324 rfl rfl ?_
  refine l_aload_n (pc := 1325) (q := 0) hC dL_law_1325 rfl rfl ?_
  refine l_iload_n (pc := 1326) (q := 3) hC dL_law_1326 rfl rfl ?_
  refine l_iconst (pc := 1327) (v := 1) hC dL_law_1327 (by decide) ?_
  refine l_iadd (pc := 1328) hC dL_law_1328 ?_
  refine l_sld (pc := 1329) hC h1 dL_law_1329 ?_
  refine l_aload_n (pc := 1330) (q := 0) hC dL_law_1330 rfl rfl ?_
  refine l_iload_n (pc := 1331) (q := 3) hC dL_law_1331 rfl rfl ?_
  refine l_iconst (pc := 1332) (v := 2) hC dL_law_1332 (by decide) ?_
  refine l_iadd (pc := 1333) hC dL_law_1333 ?_
  refine l_sld (pc := 1334) hC h2 dL_law_1334 ?_
  obtain ⟨r, σ1, σ2, e1, e2, e3⟩ := hS σ (xs (Int32.toNatClampNeg (x3 + 1))) (xs (Int32.toNatClampNeg (x3 + 2))) hI
  refine l_call (pc := 1335) (As := [.int (xs (Int32.toNatClampNeg (x3 + 1))), .int (xs (Int32.toNatClampNeg (x3 + 2)))]) (rest := []) hC hce hsl lk_RL_170 kX9 (kx := 0) rfl (tX9_element _ _ σ (xs (Int32.toNatClampNeg (x3 + 1))) (xs (Int32.toNatClampNeg (x3 + 2)))) e1 rfl rfl (Nat.le_of_ble_eq_true rfl) ⟨rfl, rfl, Nat.le_of_ble_eq_true rfl, Nat.le_of_ble_eq_true rfl⟩ dL_law_1335 ?_
  show gU p l e s m below meth c G b CE SL σ1 1338 [(0, .ref b), (1, .ref (G.2.1 0)), (2, .ref (G.2.1 52)), (3, .int x3)] [.long r]
  refine l_aload_n (pc := 1338) (q := 2) hC dL_law_1338 rfl rfl ?_
  refine l_aload_n (pc := 1339) (q := 0) hC dL_law_1339 rfl rfl ?_
  refine l_iload_n (pc := 1340) (q := 3) hC dL_law_1340 rfl rfl ?_
  refine l_iconst (pc := 1341) (v := 1) hC dL_law_1341 (by decide) ?_
  refine l_iadd (pc := 1342) hC dL_law_1342 ?_
  refine l_sld (pc := 1343) hC h1 dL_law_1343 ?_
  refine l_aload_n (pc := 1344) (q := 0) hC dL_law_1344 rfl rfl ?_
  refine l_iload_n (pc := 1345) (q := 3) hC dL_law_1345 rfl rfl ?_
  refine l_iconst (pc := 1346) (v := 2) hC dL_law_1346 (by decide) ?_
  refine l_iadd (pc := 1347) hC dL_law_1347 ?_
  refine l_sld (pc := 1348) hC h2 dL_law_1348 ?_
  refine l_call (pc := 1349) (As := [.int (xs (Int32.toNatClampNeg (x3 + 1))), .int (xs (Int32.toNatClampNeg (x3 + 2)))]) (rest := [.long r]) hC hce hsl lk_RL_173 kX10 (kx := 52) rfl (tX10_element _ _ σ1 (xs (Int32.toNatClampNeg (x3 + 1))) (xs (Int32.toNatClampNeg (x3 + 2)))) e2 rfl rfl (Nat.le_of_ble_eq_true rfl) ⟨rfl, rfl, Nat.le_of_ble_eq_true rfl, Nat.le_of_ble_eq_true rfl⟩ dL_law_1349 ?_
  show gU p l e s m below meth c G b CE SL σ2 1352 [(0, .ref b), (1, .ref (G.2.1 0)), (2, .ref (G.2.1 52)), (3, .int x3)] [.long r, .long r]
  refine l_lcmp (pc := 1352) hC dL_law_1352 ?_
  refine l_ifeq (pc := 1353) (tgt := 1477) hC (lgc_refl _) dL_law_1353 (by decide) ?_
  exact kk σ2 e3
theorem lk_RL_174 : gLV RL 174 RX9 yX9_shift cX9_shift 8 (some .int) 5 := ⟨(gBig_tab 1029 (by decide +kernel) (by decide +kernel)), (gBig_tab 1030 (by decide +kernel) (by decide +kernel)), (gBig_tab 1031 (by decide +kernel) (by decide +kernel)), (gBig_tab 1 (by decide +kernel) (by decide +kernel)), (gBig_tab 1032 (by decide +kernel) (by decide +kernel)), rfl, by decide +kernel, by decide +kernel, by decide +kernel⟩
theorem lk_RL_178 : gLV RL 178 RX10 yX10_shift cX10_shift 7 (some .int) 5 := ⟨(gBig_tab 1580 (by decide +kernel) (by decide +kernel)), (gBig_tab 1581 (by decide +kernel) (by decide +kernel)), (gBig_tab 1582 (by decide +kernel) (by decide +kernel)), (gBig_tab 11 (by decide +kernel) (by decide +kernel)), (gBig_tab 1583 (by decide +kernel) (by decide +kernel)), rfl, by decide +kernel, by decide +kernel, by decide +kernel⟩
set_option maxHeartbeats 4000000 in
set_option maxRecDepth 100000 in
theorem lc_shift {p : Program} {l : Launch} {e : Env} {s : State} {m : MethodId} {below : List Frame} {meth : Method} {c : Code} {G : gE} {b L CE SL : Nat} {xs : Nat → Int32} (hC : gLx p s m meth c G b L xs) (hce : CE ≤ 600000) (hsl : SL ≤ 7302250) {Inv : gS → Prop} (hS : S_shift Inv) (σ : gS) (hI : Inv σ) (x3 : Int32) (h1 : vp_in (x3 + 1) L) (h2 : vp_in (x3 + 2) L) (h3 : vp_in (x3 + 3) L) (h4 : vp_in (x3 + 4) L) (h5 : vp_in (x3 + 5) L) (kk : ∀ τ : gS, Inv τ → gU p l e s m below meth c G b CE SL τ 1477 [(0, .ref b), (1, .ref (G.2.1 0)), (2, .ref (G.2.1 52)), (3, .int x3)] []) : gU p l e s m below meth c G b CE SL σ 1358 [(0, .ref b), (1, .ref (G.2.1 0)), (2, .ref (G.2.1 52)), (3, .int x3)] [] := by
  refine l_aload_n (pc := 1358) (q := 1) hC dL_law_1358 rfl rfl ?_
  refine l_aload_n (pc := 1359) (q := 0) hC dL_law_1359 rfl rfl ?_
  refine l_iload_n (pc := 1360) (q := 3) hC dL_law_1360 rfl rfl ?_
  refine l_iconst (pc := 1361) (v := 1) hC dL_law_1361 (by decide) ?_
  refine l_iadd (pc := 1362) hC dL_law_1362 ?_
  refine l_sld (pc := 1363) hC h1 dL_law_1363 ?_
  refine l_aload_n (pc := 1364) (q := 0) hC dL_law_1364 rfl rfl ?_
  refine l_iload_n (pc := 1365) (q := 3) hC dL_law_1365 rfl rfl ?_
  refine l_iconst (pc := 1366) (v := 2) hC dL_law_1366 (by decide) ?_
  refine l_iadd (pc := 1367) hC dL_law_1367 ?_
  refine l_sld (pc := 1368) hC h2 dL_law_1368 ?_
  refine l_aload_n (pc := 1369) (q := 0) hC dL_law_1369 rfl rfl ?_
  refine l_iload_n (pc := 1370) (q := 3) hC dL_law_1370 rfl rfl ?_
  refine l_iconst (pc := 1371) (v := 3) hC dL_law_1371 (by decide) ?_
  refine l_iadd (pc := 1372) hC dL_law_1372 ?_
  refine l_sld (pc := 1373) hC h3 dL_law_1373 ?_
  refine l_aload_n (pc := 1374) (q := 0) hC dL_law_1374 rfl rfl ?_
  refine l_iload_n (pc := 1375) (q := 3) hC dL_law_1375 rfl rfl ?_
  refine l_iconst (pc := 1376) (v := 4) hC dL_law_1376 (by decide) ?_
  refine l_iadd (pc := 1377) hC dL_law_1377 ?_
  refine l_sld (pc := 1378) hC h4 dL_law_1378 ?_
  refine l_aload_n (pc := 1379) (q := 0) hC dL_law_1379 rfl rfl ?_
  refine l_iload_n (pc := 1380) (q := 3) hC dL_law_1380 rfl rfl ?_
  refine l_iconst (pc := 1381) (v := 5) hC dL_law_1381 (by decide) ?_
  refine l_iadd (pc := 1382) hC dL_law_1382 ?_
  refine l_sld (pc := 1383) hC h5 dL_law_1383 ?_
  obtain ⟨r, σ1, σ2, e1, e2, e3⟩ := hS σ (xs (Int32.toNatClampNeg (x3 + 1))) (xs (Int32.toNatClampNeg (x3 + 2))) (xs (Int32.toNatClampNeg (x3 + 3))) (xs (Int32.toNatClampNeg (x3 + 4))) (xs (Int32.toNatClampNeg (x3 + 5))) hI
  refine l_call (pc := 1384) (As := [.int (xs (Int32.toNatClampNeg (x3 + 1))), .int (xs (Int32.toNatClampNeg (x3 + 2))), .int (xs (Int32.toNatClampNeg (x3 + 3))), .int (xs (Int32.toNatClampNeg (x3 + 4))), .int (xs (Int32.toNatClampNeg (x3 + 5)))]) (rest := []) hC hce hsl lk_RL_174 kX9 (kx := 0) rfl (tX9_shift _ _ σ (xs (Int32.toNatClampNeg (x3 + 1))) (xs (Int32.toNatClampNeg (x3 + 2))) (xs (Int32.toNatClampNeg (x3 + 3))) (xs (Int32.toNatClampNeg (x3 + 4))) (xs (Int32.toNatClampNeg (x3 + 5)))) e1 rfl rfl (Nat.le_of_ble_eq_true rfl) ⟨rfl, rfl, Nat.le_of_ble_eq_true rfl, Nat.le_of_ble_eq_true rfl⟩ dL_law_1384 ?_
  show gU p l e s m below meth c G b CE SL σ1 1387 [(0, .ref b), (1, .ref (G.2.1 0)), (2, .ref (G.2.1 52)), (3, .int x3)] [.int r]
  refine l_aload_n (pc := 1387) (q := 2) hC dL_law_1387 rfl rfl ?_
  refine l_aload_n (pc := 1388) (q := 0) hC dL_law_1388 rfl rfl ?_
  refine l_iload_n (pc := 1389) (q := 3) hC dL_law_1389 rfl rfl ?_
  refine l_iconst (pc := 1390) (v := 1) hC dL_law_1390 (by decide) ?_
  refine l_iadd (pc := 1391) hC dL_law_1391 ?_
  refine l_sld (pc := 1392) hC h1 dL_law_1392 ?_
  refine l_aload_n (pc := 1393) (q := 0) hC dL_law_1393 rfl rfl ?_
  refine l_iload_n (pc := 1394) (q := 3) hC dL_law_1394 rfl rfl ?_
  refine l_iconst (pc := 1395) (v := 2) hC dL_law_1395 (by decide) ?_
  refine l_iadd (pc := 1396) hC dL_law_1396 ?_
  refine l_sld (pc := 1397) hC h2 dL_law_1397 ?_
  refine l_aload_n (pc := 1398) (q := 0) hC dL_law_1398 rfl rfl ?_
  refine l_iload_n (pc := 1399) (q := 3) hC dL_law_1399 rfl rfl ?_
  refine l_iconst (pc := 1400) (v := 3) hC dL_law_1400 (by decide) ?_
  refine l_iadd (pc := 1401) hC dL_law_1401 ?_
  refine l_sld (pc := 1402) hC h3 dL_law_1402 ?_
  refine l_aload_n (pc := 1403) (q := 0) hC dL_law_1403 rfl rfl ?_
  refine l_iload_n (pc := 1404) (q := 3) hC dL_law_1404 rfl rfl ?_
  refine l_iconst (pc := 1405) (v := 4) hC dL_law_1405 (by decide) ?_
  refine l_iadd (pc := 1406) hC dL_law_1406 ?_
  refine l_sld (pc := 1407) hC h4 dL_law_1407 ?_
  refine l_aload_n (pc := 1408) (q := 0) hC dL_law_1408 rfl rfl ?_
  refine l_iload_n (pc := 1409) (q := 3) hC dL_law_1409 rfl rfl ?_
  refine l_iconst (pc := 1410) (v := 5) hC dL_law_1410 (by decide) ?_
  refine l_iadd (pc := 1411) hC dL_law_1411 ?_
  refine l_sld (pc := 1412) hC h5 dL_law_1412 ?_
  refine l_call (pc := 1413) (As := [.int (xs (Int32.toNatClampNeg (x3 + 1))), .int (xs (Int32.toNatClampNeg (x3 + 2))), .int (xs (Int32.toNatClampNeg (x3 + 3))), .int (xs (Int32.toNatClampNeg (x3 + 4))), .int (xs (Int32.toNatClampNeg (x3 + 5)))]) (rest := [.int r]) hC hce hsl lk_RL_178 kX10 (kx := 52) rfl (tX10_shift _ _ σ1 (xs (Int32.toNatClampNeg (x3 + 1))) (xs (Int32.toNatClampNeg (x3 + 2))) (xs (Int32.toNatClampNeg (x3 + 3))) (xs (Int32.toNatClampNeg (x3 + 4))) (xs (Int32.toNatClampNeg (x3 + 5)))) e2 rfl rfl (Nat.le_of_ble_eq_true rfl) ⟨rfl, rfl, Nat.le_of_ble_eq_true rfl, Nat.le_of_ble_eq_true rfl⟩ dL_law_1413 ?_
  show gU p l e s m below meth c G b CE SL σ2 1416 [(0, .ref b), (1, .ref (G.2.1 0)), (2, .ref (G.2.1 52)), (3, .int x3)] [.int r, .int r]
  refine l_eq (pc := 1416) (tgt := 1477) hC dL_law_1416 (by decide) ?_
  exact kk σ2 e3
theorem lk_RL_179 : gLV RL 179 RX9 yX9_taken cX9_taken 4 (some .int) 2 := ⟨(gBig_tab 1034 (by decide +kernel) (by decide +kernel)), (gBig_tab 1035 (by decide +kernel) (by decide +kernel)), (gBig_tab 1036 (by decide +kernel) (by decide +kernel)), (gBig_tab 1 (by decide +kernel) (by decide +kernel)), (gBig_tab 1037 (by decide +kernel) (by decide +kernel)), rfl, by decide +kernel, by decide +kernel, by decide +kernel⟩
theorem lk_RL_182 : gLV RL 182 RX10 yX10_taken cX10_taken 5 (some .int) 2 := ⟨(gBig_tab 1584 (by decide +kernel) (by decide +kernel)), (gBig_tab 1585 (by decide +kernel) (by decide +kernel)), (gBig_tab 1586 (by decide +kernel) (by decide +kernel)), (gBig_tab 11 (by decide +kernel) (by decide +kernel)), (gBig_tab 1587 (by decide +kernel) (by decide +kernel)), rfl, by decide +kernel, by decide +kernel, by decide +kernel⟩
set_option maxHeartbeats 4000000 in
set_option maxRecDepth 100000 in
theorem lc_taken {p : Program} {l : Launch} {e : Env} {s : State} {m : MethodId} {below : List Frame} {meth : Method} {c : Code} {G : gE} {b L CE SL : Nat} {xs : Nat → Int32} (hC : gLx p s m meth c G b L xs) (hce : CE ≤ 600000) (hsl : SL ≤ 7302250) {Inv : gS → Prop} (hS : S_taken Inv) (σ : gS) (hI : Inv σ) (x3 : Int32) (h1 : vp_in (x3 + 1) L) (h2 : vp_in (x3 + 2) L) (h3 : vp_in (x3 + 3) L) (h4 : vp_in (x3 + 4) L) (h5 : vp_in (x3 + 5) L) (kk : ∀ τ : gS, Inv τ → gU p l e s m below meth c G b CE SL τ 1477 [(0, .ref b), (1, .ref (G.2.1 0)), (2, .ref (G.2.1 52)), (3, .int x3)] []) : gU p l e s m below meth c G b CE SL σ 1421 [(0, .ref b), (1, .ref (G.2.1 0)), (2, .ref (G.2.1 52)), (3, .int x3)] [] := by
  refine l_aload_n (pc := 1421) (q := 1) hC dL_law_1421 rfl rfl ?_
  refine l_aload_n (pc := 1422) (q := 0) hC dL_law_1422 rfl rfl ?_
  refine l_iload_n (pc := 1423) (q := 3) hC dL_law_1423 rfl rfl ?_
  refine l_iconst (pc := 1424) (v := 1) hC dL_law_1424 (by decide) ?_
  refine l_iadd (pc := 1425) hC dL_law_1425 ?_
  refine l_sld (pc := 1426) hC h1 dL_law_1426 ?_
  refine l_aload_n (pc := 1427) (q := 0) hC dL_law_1427 rfl rfl ?_
  refine l_iload_n (pc := 1428) (q := 3) hC dL_law_1428 rfl rfl ?_
  refine l_iconst (pc := 1429) (v := 2) hC dL_law_1429 (by decide) ?_
  refine l_iadd (pc := 1430) hC dL_law_1430 ?_
  refine l_sld (pc := 1431) hC h2 dL_law_1431 ?_
  obtain ⟨r, σ1, σ2, e1, e2, e3⟩ := hS σ (xs (Int32.toNatClampNeg (x3 + 1))) (xs (Int32.toNatClampNeg (x3 + 2))) hI
  refine l_call (pc := 1432) (As := [.int (xs (Int32.toNatClampNeg (x3 + 1))), .int (xs (Int32.toNatClampNeg (x3 + 2)))]) (rest := []) hC hce hsl lk_RL_179 kX9 (kx := 0) rfl (tX9_taken _ _ σ (xs (Int32.toNatClampNeg (x3 + 1))) (xs (Int32.toNatClampNeg (x3 + 2)))) e1 rfl rfl (Nat.le_of_ble_eq_true rfl) ⟨rfl, rfl, Nat.le_of_ble_eq_true rfl, Nat.le_of_ble_eq_true rfl⟩ dL_law_1432 ?_
  show gU p l e s m below meth c G b CE SL σ1 1435 [(0, .ref b), (1, .ref (G.2.1 0)), (2, .ref (G.2.1 52)), (3, .int x3)] [.int r]
  refine l_aload_n (pc := 1435) (q := 2) hC dL_law_1435 rfl rfl ?_
  refine l_aload_n (pc := 1436) (q := 0) hC dL_law_1436 rfl rfl ?_
  refine l_iload_n (pc := 1437) (q := 3) hC dL_law_1437 rfl rfl ?_
  refine l_iconst (pc := 1438) (v := 1) hC dL_law_1438 (by decide) ?_
  refine l_iadd (pc := 1439) hC dL_law_1439 ?_
  refine l_sld (pc := 1440) hC h1 dL_law_1440 ?_
  refine l_aload_n (pc := 1441) (q := 0) hC dL_law_1441 rfl rfl ?_
  refine l_iload_n (pc := 1442) (q := 3) hC dL_law_1442 rfl rfl ?_
  refine l_iconst (pc := 1443) (v := 2) hC dL_law_1443 (by decide) ?_
  refine l_iadd (pc := 1444) hC dL_law_1444 ?_
  refine l_sld (pc := 1445) hC h2 dL_law_1445 ?_
  refine l_call (pc := 1446) (As := [.int (xs (Int32.toNatClampNeg (x3 + 1))), .int (xs (Int32.toNatClampNeg (x3 + 2)))]) (rest := [.int r]) hC hce hsl lk_RL_182 kX10 (kx := 52) rfl (tX10_taken _ _ σ1 (xs (Int32.toNatClampNeg (x3 + 1))) (xs (Int32.toNatClampNeg (x3 + 2)))) e2 rfl rfl (Nat.le_of_ble_eq_true rfl) ⟨rfl, rfl, Nat.le_of_ble_eq_true rfl, Nat.le_of_ble_eq_true rfl⟩ dL_law_1446 ?_
  show gU p l e s m below meth c G b CE SL σ2 1449 [(0, .ref b), (1, .ref (G.2.1 0)), (2, .ref (G.2.1 52)), (3, .int x3)] [.int r, .int r]
  refine l_eq (pc := 1449) (tgt := 1477) hC dL_law_1449 (by decide) ?_
  exact kk σ2 e3
theorem lk_RL_183 : gLV RL 183 RX9 yX9_count cX9_count 2 (some .int) 1 := ⟨(gBig_tab 1043 (by decide +kernel) (by decide +kernel)), (gBig_tab 1044 (by decide +kernel) (by decide +kernel)), (gBig_tab 1045 (by decide +kernel) (by decide +kernel)), (gBig_tab 1 (by decide +kernel) (by decide +kernel)), (gBig_tab 1046 (by decide +kernel) (by decide +kernel)), rfl, by decide +kernel, by decide +kernel, by decide +kernel⟩
theorem lk_RL_186 : gLV RL 186 RX10 yX10_count cX10_count 2 (some .int) 1 := ⟨(gBig_tab 1588 (by decide +kernel) (by decide +kernel)), (gBig_tab 1589 (by decide +kernel) (by decide +kernel)), (gBig_tab 1590 (by decide +kernel) (by decide +kernel)), (gBig_tab 11 (by decide +kernel) (by decide +kernel)), (gBig_tab 1591 (by decide +kernel) (by decide +kernel)), rfl, by decide +kernel, by decide +kernel, by decide +kernel⟩
set_option maxHeartbeats 4000000 in
set_option maxRecDepth 100000 in
theorem lc_count {p : Program} {l : Launch} {e : Env} {s : State} {m : MethodId} {below : List Frame} {meth : Method} {c : Code} {G : gE} {b L CE SL : Nat} {xs : Nat → Int32} (hC : gLx p s m meth c G b L xs) (hce : CE ≤ 600000) (hsl : SL ≤ 7302250) {Inv : gS → Prop} (hS : S_count Inv) (σ : gS) (hI : Inv σ) (x3 : Int32) (h1 : vp_in (x3 + 1) L) (h2 : vp_in (x3 + 2) L) (h3 : vp_in (x3 + 3) L) (h4 : vp_in (x3 + 4) L) (h5 : vp_in (x3 + 5) L) (kk : ∀ τ : gS, Inv τ → gU p l e s m below meth c G b CE SL τ 1477 [(0, .ref b), (1, .ref (G.2.1 0)), (2, .ref (G.2.1 52)), (3, .int x3)] []) : gU p l e s m below meth c G b CE SL σ 1454 [(0, .ref b), (1, .ref (G.2.1 0)), (2, .ref (G.2.1 52)), (3, .int x3)] [] := by
  refine l_aload_n (pc := 1454) (q := 1) hC dL_law_1454 rfl rfl ?_
  refine l_aload_n (pc := 1455) (q := 0) hC dL_law_1455 rfl rfl ?_
  refine l_iload_n (pc := 1456) (q := 3) hC dL_law_1456 rfl rfl ?_
  refine l_iconst (pc := 1457) (v := 1) hC dL_law_1457 (by decide) ?_
  refine l_iadd (pc := 1458) hC dL_law_1458 ?_
  refine l_sld (pc := 1459) hC h1 dL_law_1459 ?_
  obtain ⟨r, σ1, σ2, e1, e2, e3⟩ := hS σ (xs (Int32.toNatClampNeg (x3 + 1))) hI
  refine l_call (pc := 1460) (As := [.int (xs (Int32.toNatClampNeg (x3 + 1)))]) (rest := []) hC hce hsl lk_RL_183 kX9 (kx := 0) rfl (tX9_count _ _ σ (xs (Int32.toNatClampNeg (x3 + 1)))) e1 rfl rfl (Nat.le_of_ble_eq_true rfl) ⟨rfl, rfl, Nat.le_of_ble_eq_true rfl, Nat.le_of_ble_eq_true rfl⟩ dL_law_1460 ?_
  show gU p l e s m below meth c G b CE SL σ1 1463 [(0, .ref b), (1, .ref (G.2.1 0)), (2, .ref (G.2.1 52)), (3, .int x3)] [.int r]
  refine l_aload_n (pc := 1463) (q := 2) hC dL_law_1463 rfl rfl ?_
  refine l_aload_n (pc := 1464) (q := 0) hC dL_law_1464 rfl rfl ?_
  refine l_iload_n (pc := 1465) (q := 3) hC dL_law_1465 rfl rfl ?_
  refine l_iconst (pc := 1466) (v := 1) hC dL_law_1466 (by decide) ?_
  refine l_iadd (pc := 1467) hC dL_law_1467 ?_
  refine l_sld (pc := 1468) hC h1 dL_law_1468 ?_
  refine l_call (pc := 1469) (As := [.int (xs (Int32.toNatClampNeg (x3 + 1)))]) (rest := [.int r]) hC hce hsl lk_RL_186 kX10 (kx := 52) rfl (tX10_count _ _ σ1 (xs (Int32.toNatClampNeg (x3 + 1)))) e2 rfl rfl (Nat.le_of_ble_eq_true rfl) ⟨rfl, rfl, Nat.le_of_ble_eq_true rfl, Nat.le_of_ble_eq_true rfl⟩ dL_law_1469 ?_
  show gU p l e s m below meth c G b CE SL σ2 1472 [(0, .ref b), (1, .ref (G.2.1 0)), (2, .ref (G.2.1 52)), (3, .int x3)] [.int r, .int r]
  refine l_eq (pc := 1472) (tgt := 1477) hC dL_law_1472 (by decide) ?_
  exact kk σ2 e3
