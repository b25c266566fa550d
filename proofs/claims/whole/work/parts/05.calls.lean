/-- q is an address of the world -/
def inW (ws : va_W) (q : Nat) : Prop := ∃ (k : Nat) (e : va_E), ws[k]? = some (q, e)
/-- same addresses, place by place -/
theorem fst_at {ws ws' : va_W} (h : ws'.map Prod.fst = ws.map Prod.fst) {k : Nat} {q : Nat × va_E} (hk : ws'[k]? = some q) : ∃ e, ws[k]? = some (q.1, e) := by
  have h1 : (ws'.map Prod.fst)[k]? = some q.1 := by rw [List.getElem?_map, hk]; rfl
  rw [h, List.getElem?_map] at h1
  cases hw : ws[k]? with
  | none => rw [hw] at h1; cases h1
  | some z =>
    rw [hw] at h1
    obtain ⟨a, b⟩ := z
    cases h1
    exact ⟨b, rfl⟩
theorem va_D_fst {A : Nat → Prop} {ws ws' : va_W} (h : ws'.map Prod.fst = ws.map Prod.fst) (hD : va_D A ws) : va_D A ws' := by
  refine ⟨fun i j x y hi hj hxy => ?_, fun k q hk => ?_⟩
  · obtain ⟨e1, h1⟩ := fst_at h hi
    obtain ⟨e2, h2⟩ := fst_at h hj
    exact hD.1 i j _ _ h1 h2 hxy
  · obtain ⟨e1, h1⟩ := fst_at h hk
    exact hD.2 k (q.1, e1) h1
/-- what a method is promised to do that makes nothing and throws nothing -/
def QN (g : wG) (ws ws' : va_W) (o : Option Value) : Array Value → State → Outcome → State → Prop := fun _ st oc t => oc = .returned o ∧ va_P g.1 vwCl ws' t.heap ∧ va_F (inW ws) st t
def PN (g : wG) (av : List Value) (ws : va_W) : Array Value → State → Prop := va_Pc av (fun U => va_P g.1 vwCl ws U.heap ∧ va_K g.1 vwCl (tysOf g) U ∧ nW U ∧ va_D (fun _ => True) ws)
def MetN (l : Launch) (g : wG) (y : MethodName) (cc : ByteArray) (maxL : Nat) (ret : Option FieldType) (rm : Room) (av : List Value) (ws ws' : va_W) (o : Option Value) : Prop :=
  Met l y (Cond.code y cc maxL ret :: gtbl) rm (PN g av ws) (QN g ws ws' o) 0 0 (inW ws)
theorem PN_blind {g : wG} {av : List Value} {ws : va_W} : FrameBlind (PN g av ws) := fun a U gg mk q => by
  obtain ⟨q0, qP, qK, qN, qD⟩ := q
  exact ⟨q0, qP, va_K.moved (u := U) (U := U.calling gg mk a) (Vm.Alike.refl U.vm) qK, nW.same (u := U) (U := U.calling gg mk a) rfl qN, qD⟩
/-- the walk's end, as the contract has it -/
def EN (below : List Frame) (args : Array Value) (s : State) (g : wG) (ws ws' : va_W) (o : Option Value) : State → Prop := MQ below (QN g ws ws' o) args s 0 0 (inW ws)
theorem MetN.of {l : Launch} {g : wG} {y : MethodName} {cc : ByteArray} {maxL : Nat} {ret : Option FieldType} {rm : Room} {av : List Value} {ws ws' : va_W} {o : Option Value} (hy : plainFor y = true) (hlen : (lg_sl av).length ≤ maxL)
    (body : ∀ (p : Program) (e : Env) (s : State) (m : MethodId) (args : Array Value) (below : List Frame) (meth : Method) (c : Code), vG p s m args meth c (inW ws) g cc y.cls maxL → meth.sig.returnType = ret → V p l e rm s m args below meth c (inW ws) (EN below args s g ws ws' o) g maxL ws 0 0 0 (lv_args 0 av) []) : MetN l g y cc maxL ret rm av ws ws' o := by
  refine va_MetF (cc := cc) (maxL := maxL) (ret := ret) hy rfl ?_
  intro p e s m args below meth c s₁ B hml hv
  obtain ⟨rfl, hP, hK, hN, hD0⟩ := hv
  have hts := atoms_spec (ws := Cond.code y cc maxL ret :: gtbl) B.pre
  have hv := body p e s m av.toArray below meth c ⟨B.exec, B.bytes, fun w hw => hts w (List.mem_cons_of_mem _ hw), findClass_of_methodNamed B.named, hK, hN, hml, B.notSynchronized⟩ B.returns
  rw [lg_entry_eq]
  exact hv s.heap [] _ hP ⟨hD0.1, fun k q hk => ⟨k, q.2, hk⟩⟩ va_S.rf (lv_entry av hlen)
/-- what a caller must know of an instance method, of a static one -/
def iwd (y : MethodName) (cc : ByteArray) (maxL : Nat) (ret : Option FieldType) (n : Nat) : Prop :=
  Cond.instanceMethod y ∈ gtbl ∧ Cond.selects y.cls y y ∈ gtbl ∧ Cond.initialized y.cls ∈ gtbl ∧ Cond.code y cc maxL ret ∈ gtbl ∧ (y.cls ≠ "java/lang/invoke/MethodHandle" ∧ y.cls ≠ "java/lang/invoke/VarHandle") ∧ (parseMethodDescriptor y.desc).map (fun d => d.parameters.length) = some n
def swd (y : MethodName) (cc : ByteArray) (maxL : Nat) (ret : Option FieldType) (n : Nat) : Prop :=
  Cond.static y ∈ gtbl ∧ Cond.initialized y.cls ∈ gtbl ∧ Cond.code y cc maxL ret ∈ gtbl ∧ (y.cls ≠ "java/lang/invoke/MethodHandle" ∧ y.cls ≠ "java/lang/invoke/VarHandle") ∧ (parseMethodDescriptor y.desc).map (fun d => d.parameters.length) = some n
theorem gtbl_pay {args : Array Value} {s : State} (hts : ∀ w ∈ gtbl, w.before args s = true) (y : Cond) (hy : y ∈ gtbl) : ∀ w ∈ y :: gtbl, ∀ (a' : Array Value) (U : State), s.WarmedH U.vm → w.before a' U = true := by
  intro w hw a' U hW
  rcases List.mem_cons.mp hw with rfl | hw
  · exact word_at hW (good_of_word (gtbl_good _ hy)) (hts _ hy)
  · exact word_at hW (good_of_word (gtbl_good _ hw)) (hts _ hw)
theorem MetN.of2 {l : Launch} {g : wG} {y : MethodName} {cc : ByteArray} {maxL : Nat} {ret : Option FieldType} {rm : Room} {av : List Value} {ws ws' : va_W} {o : Option Value} (ls0 : List (Nat × Value)) (hls : lv_args 0 av = ls0) (hy : plainFor y = true) (hlen : (lg_sl av).length ≤ maxL)
    (body : ∀ (p : Program) (e : Env) (s : State) (m : MethodId) (args : Array Value) (below : List Frame) (meth : Method) (c : Code), vG p s m args meth c (inW ws) g cc y.cls maxL → meth.sig.returnType = ret → V p l e rm s m args below meth c (inW ws) (EN below args s g ws ws' o) g maxL ws 0 0 0 ls0 []) : MetN l g y cc maxL ret rm av ws ws' o := by
  subst hls
  exact MetN.of hy hlen body
section VC
variable {p : Program} {l : Launch} {e : Env} {R : Room} {s : State} {m : MethodId} {args : Array Value} {below : List Frame} {meth : Method} {c : Code} {A : Nat → Prop} {Q : State → Prop} {g : wG} {cc : ByteArray} {own : String} {nL : Nat}
variable {ws ws' ws0 : va_W} {k n pc : Nat} {ls : List (Nat × Value)} {st : List Value} {o : Option Value}
theorem EN_q {H : Heap} {locs : List Loc} (hP : va_P g.1 vwCl ws H) (hS : va_S (inW ws0) s.heap H locs) (t : State) (ht : t.heap = H) : QN g ws0 ws o args s (.returned o) t :=
  ⟨rfl, by rw [ht]; exact hP, by rw [ht]; exact hS.1, fun q h1 h2 => by rw [ht]; exact hS.2.1 q h1 h2⟩
theorem v_iret {x : Int32} (hG : vG p s m args meth c (inW ws0) g cc own nL) (hr : meth.sig.returnType = some .int) (hd : decode cc pc = .ok (.ireturn, 1)) : V p l e R s m args below meth c (inW ws0) (EN below args s g ws0 ws (some (.int x))) g nL ws 0 0 pc ls [.int x] := fun H locs la hP hD hS hla =>
  W.iret hG.1 hG.2.1 hr (fun t ht _ => EN_q hP hS t ht) hS.2.2 hd hG.2.2.2.2.2.2.2
theorem v_zret {x : Int32} (hG : vG p s m args meth c (inW ws0) g cc own nL) (hr : meth.sig.returnType = some .boolean) (hx : narrow .boolean (.int x) = .int x) (hd : decode cc pc = .ok (.ireturn, 1)) : V p l e R s m args below meth c (inW ws0) (EN below args s g ws0 ws (some (.int x))) g nL ws 0 0 pc ls [.int x] := fun H locs la hP hD hS hla =>
  W.zret hG.1 hG.2.1 hr hx (fun t ht _ => EN_q hP hS t ht) hS.2.2 hd hG.2.2.2.2.2.2.2
theorem v_lret {x : Int64} (hG : vG p s m args meth c (inW ws0) g cc own nL) (hr : meth.sig.returnType = some .long) (hd : decode cc pc = .ok (.lreturn, 1)) : V p l e R s m args below meth c (inW ws0) (EN below args s g ws0 ws (some (.long x))) g nL ws 0 0 pc ls [.long x] := fun H locs la hP hD hS hla =>
  W.lret hG.1 hG.2.1 hr (fun t ht _ => EN_q hP hS t ht) hS.2.2 hd hG.2.2.2.2.2.2.2
theorem v_vret (hG : vG p s m args meth c (inW ws0) g cc own nL) (hr : meth.sig.returnType = none) (hd : decode cc pc = .ok (.return_, 1)) : V p l e R s m args below meth c (inW ws0) (EN below args s g ws0 ws none) g nL ws 0 0 pc ls [] := fun H locs la hP hD hS hla =>
  W.vret hG.1 hG.2.1 hr (fun t ht _ => EN_q hP hS t ht) hS.2.2 hd hG.2.2.2.2.2.2.2
/-- behind a call: the callee's world is some of the caller's, the rest is as it was -/
theorem v_back {wc wc' : va_W} {H : Heap} {locs : List Loc} {la : Array Slot} {stk : List Value} {av : Array Value} (hr : va_Run p l e R s m args below meth c H locs k n 0 0 (F0 m pc la stk) st (QN g wc wc' o av) (inW wc))
    (hsub : ∀ q, inW wc q → inW ws q) (hnew : ∀ H1 : Heap, va_P g.1 vwCl wc' H1 → (∀ q, q < H.size → ¬ inW wc q → H1[q]? = H[q]?) → va_P g.1 vwCl ws' H1) (hs : ws'.map Prod.fst = ws.map Prod.fst)
    (hD : va_D A ws) (hS : va_S A s.heap H locs) (hla : lv_has la nL ls) (kk : V p l e R s m args below meth c A Q g nL ws' k n (pc + 3) ls (o.toList ++ st)) : W p l e R s m args below meth c H locs k n Q (F0 m pc la stk) := by
  intro T hT X
  obtain ⟨v, st0, t, T', L, h0, X', hL, e1, e2, ⟨ho, hP', hF⟩, go⟩ := hr T hT X
  cases ho
  rw [va_F, h0] at hF
  have hA : ∀ q, inW wc q → A q := fun q hq => by obtain ⟨k9, e9, h9⟩ := hsub q hq; exact hD.2 k9 _ h9
  obtain ⟨t2, a1, b1⟩ := kk t.heap (locs ++ L) la (hnew t.heap hP' hF.2) (va_D_fst hs hD) ⟨Nat.le_trans hS.1 hF.1, fun q h1 h2 => (hF.2 q (Nat.lt_of_lt_of_le h1 hS.1) (fun z => h2 (hA q z))).trans (hS.2.1 q h1 h2), fun q hq => by
    rcases List.mem_append.mp hq with h | h
    · exact hS.2.2 q h
    · exact hA _ (hL q h)⟩ hla T' e1 X'
  exact ⟨t2, go t2 a1, b1⟩
theorem va_P_off {D : va_G} {wc : va_W} {H H1 : Heap} (hP : va_P D vwCl ws H) (hk : ∀ q, q < H.size → ¬ inW wc q → H1[q]? = H[q]?) (hoff : ∀ q, inW ws q → ¬ inW wc q) : va_P D vwCl ws H1 := hP.kept (fun k9 q h9 => hk q.1 ((hP k9 q h9).lt) (hoff q.1 ⟨k9, q.2, h9⟩))
/-- an instance method of this world is called -/
theorem v_callV (hG : vG p s m args meth c A g cc own nL) {y : MethodName} {bytes : ByteArray} {maxL nA index b : Nat} {ret : Option FieldType} {rm : Room} {As : List Value} {stk : List Value} (q0 ci : Nat) {fs : List Value} {cT : u_T} {cN : Nat} (hM : MetN l g y bytes maxL ret rm (.ref b :: As) ws ws' o) (hw : iwd y bytes maxL ret nA) (hl : Cond.methodLink own index y ∈ gtbl) (he : ws[q0]? = some (b, .inr (ci, fs))) (hc : vwCl[ci]? = some (y.cls, cT, cN)) (hR : rm.cells = 0 ∧ rm.slots = 0 ∧ rm.frames + 1 ≤ R.frames ∧ 8 + (maxL + 11) + rm.locals ≤ R.locals) (hk : k ≤ R.cells ∧ n ≤ R.slots) (hA : As.length = nA) (hst : stk = As.reverse ++ .ref b :: st) (hW : (st.map fun v => v.category).sum ≤ 8) (hs : ws'.map Prod.fst = ws.map Prod.fst) (hd : decode cc pc = .ok (.invokevirtual index, 3)) (kk : V p l e R s m args below meth c A Q g nL ws' k n (pc + 3) ls (o.toList ++ st)) : V p l e R s m args below meth c A Q g nL ws k n pc ls stk := fun H locs la hP hD hS hla => by
  obtain ⟨w1, w2, w3, w4, w5, w6⟩ := hw
  have hts := hG.2.2.1
  refine v_back (wc := ws) (wc' := ws') (st := st) (va_runV (Ts := gtbl) (C := y.cls) (b := b) (As := As) (n := nA) (bytes := bytes) (maxL := maxL) (ret := ret) ⟨hG.1, hG.2.1, hG.2.2.2.2.2.2.1, hG.2.2.2.1, hts⟩ hM ⟨⟨hR.1, hR.2.1, hR.2.2.1, hR.2.2.2, gtbl_pay hts _ w4, List.mem_cons_self, hts _ w4, hts _ w3, w5, fun sig h => ?_, hts _ hl⟩, hts _ w1, hts _ w2⟩ ⟨PN_blind, va_recv hG.2.2.2.2.1 hP hc he, fun U hU hWm => ⟨rfl, by rw [hU]; exact hP, va_K.moved hWm.alike hG.2.2.2.2.1, nW.warm hWm hG.2.2.2.2.2.1, hD.weaken (fun _ _ _ _ => trivial)⟩⟩ rfl hA hla.1 hst (lv_room hW) hd ⟨hk.1, hk.2⟩) (fun _ h => h) (fun H1 h _ => h) hs hD hS hla kk
  rw [h] at w6
  exact (Option.some.inj w6).symm
/-- a static method that sees numbers alone -/
theorem v_callP (hG : vG p s m args meth c A g cc own nL) {y : MethodName} {bytes : ByteArray} {maxL nA index : Nat} {ret : Option FieldType} {rm : Room} {As : List Value} {stk : List Value} (hM : MetN l g y bytes maxL ret rm As [] [] o) (hw : swd y bytes maxL ret nA) (hl : Cond.methodLink own index y ∈ gtbl) (hR : rm.cells = 0 ∧ rm.slots = 0 ∧ rm.frames + 1 ≤ R.frames ∧ 8 + (maxL + 11) + rm.locals ≤ R.locals) (hk : k ≤ R.cells ∧ n ≤ R.slots) (hA : As.length = nA) (hst : stk = As.reverse ++ st) (hW : (st.map fun v => v.category).sum ≤ 8) (hd : decode cc pc = .ok (.invokestatic index, 3)) (kk : V p l e R s m args below meth c A Q g nL ws k n (pc + 3) ls (o.toList ++ st)) : V p l e R s m args below meth c A Q g nL ws k n pc ls stk := fun H locs la hP hD hS hla => by
  obtain ⟨w1, w3, w4, w5, w6⟩ := hw
  have hts := hG.2.2.1
  have hno : ∀ q, ¬ inW [] q := fun q ⟨k9, e9, h9⟩ => by simp at h9
  refine v_back (wc := []) (wc' := []) (ws := ws) (ws' := ws) (st := st) (va_runS (Ts := gtbl) (As := As) (n := nA) (bytes := bytes) (maxL := maxL) (ret := ret) ⟨hG.1, hG.2.1, hG.2.2.2.2.2.2.1, hG.2.2.2.1, hts⟩ hM ⟨⟨hR.1, hR.2.1, hR.2.2.1, hR.2.2.2, gtbl_pay hts _ w4, List.mem_cons_self, hts _ w4, hts _ w3, w5, fun sig h => ?_, hts _ hl⟩, hts _ w1⟩ ⟨PN_blind, fun U hU hWm => ⟨rfl, fun k9 q9 h9 => by simp at h9, va_K.moved hWm.alike hG.2.2.2.2.1, nW.warm hWm hG.2.2.2.2.2.1, ⟨fun i j x y h9 => by simp at h9, fun _ _ _ => trivial⟩⟩⟩ rfl hA hla.1 hst (lv_room hW) hd ⟨hk.1, hk.2⟩) (fun q h => absurd h (hno q)) (fun H1 _ h => va_P_off hP h (fun q _ => hno q)) rfl hD hS hla kk
  rw [h] at w6
  exact (Option.some.inj w6).symm
theorem v_callPN (hG : vG p s m args meth c A g cc own nL) {y : MethodName} {bytes : ByteArray} {maxL nA index : Nat} {ret : Option FieldType} {rm : Room} {As : List Value} {stk : List Value} (hM : MetN l g y bytes maxL ret rm As [] [] o) (hw : swd y bytes maxL ret nA) (hl : (own, index, y) ∈ nestWs) (hR : rm.cells = 0 ∧ rm.slots = 0 ∧ rm.frames + 1 ≤ R.frames ∧ 8 + (maxL + 11) + rm.locals ≤ R.locals) (hk : k ≤ R.cells ∧ n ≤ R.slots) (hA : As.length = nA) (hst : stk = As.reverse ++ st) (hW : (st.map fun v => v.category).sum ≤ 8) (hd : decode cc pc = .ok (.invokestatic index, 3)) (kk : V p l e R s m args below meth c A Q g nL ws k n (pc + 3) ls (o.toList ++ st)) : V p l e R s m args below meth c A Q g nL ws k n pc ls stk := fun H locs la hP hD hS hla => by
  obtain ⟨w1, w3, w4, w5, w6⟩ := hw
  have hts := hG.2.2.1
  have hno : ∀ q, ¬ inW [] q := fun q ⟨k9, e9, h9⟩ => by simp at h9
  have hl9 : va_Nw (.methodLinkNest own index y RX8) s := hG.2.2.2.2.2.1 _ hl
  refine v_back (wc := []) (wc' := []) (ws := ws) (ws' := ws) (st := st) (va_runSN (Ts := gtbl) (host := RX8) (As := As) (n := nA) (bytes := bytes) (maxL := maxL) (ret := ret) ⟨hG.1, hG.2.1, hG.2.2.2.2.2.2.1, hG.2.2.2.1, hts⟩ hM ⟨⟨⟨hR.1, hR.2.1, hR.2.2.1, hR.2.2.2, gtbl_pay hts _ w4, List.mem_cons_self⟩, hts _ w4, hts _ w3, w5, fun sig h => ?_, va_Nw.use rfl hl9⟩, hts _ w1, trivial⟩ ⟨PN_blind, fun U hU hWm => ⟨rfl, fun k9 q9 h9 => by simp at h9, va_K.moved hWm.alike hG.2.2.2.2.1, nW.warm hWm hG.2.2.2.2.2.1, ⟨fun i j x y h9 => by simp at h9, fun _ _ _ => trivial⟩⟩⟩ rfl hA hla.1 hst (lv_room hW) hd ⟨hk.1, hk.2⟩) (fun q h => absurd h (hno q)) (fun H1 _ h => va_P_off hP h (fun q _ => hno q)) rfl hD hS hla kk
  rw [h] at w6
  exact (Option.some.inj w6).symm
theorem v_sub (ls9 : List (Nat × Value)) (ks : List Nat) (h : lv_pick ls ks = ls9) (kk : V p l e R s m args below meth c A Q g nL ws k n pc ls9 st) : V p l e R s m args below meth c A Q g nL ws k n pc ls st := fun H locs la hP hD hS hla => kk H locs la hP hD hS (lv_sub hla ks h)
/-- System.arraycopy of 12 longs, of 12 ints -/
def acW (own : String) (index : Nat) : Prop := Cond.methodLink own index arraycopyName ∈ gtbl
theorem v_copyl (hG : vG p s m args meth c A g cc own nL) (q0 q1 : Nat) {a0 a1 index : Nat} {f0 f1 : Nat → Int64} (ws9 : va_W) (h0 : ws[q0]? = some (a0, .inl (g.2.2.1, 12, .inr (.inl f0)))) (h1 : ws[q1]? = some (a1, .inl (g.2.2.1, 12, .inr (.inl f1)))) (hs : ws.set q1 (a1, .inl (g.2.2.1, 12, .inr (.inl (va_cpy f0 f1 0 0 12)))) = ws9) (hl : acW own index) (hnat : Cond.native arraycopyName ∈ gtbl) (hstat : Cond.static arraycopyName ∈ gtbl) (hini : Cond.initialized "java/lang/System" ∈ gtbl) (hR : 1 ≤ R.frames ∧ (st.map fun v => v.category).sum + (nativeFrameWords "java/lang/System" "arraycopy" 5 + 11) ≤ R.locals) (hd : decode cc pc = .ok (.invokestatic index, 3)) (kk : V p l e R s m args below meth c A Q g nL ws9 k n (pc + 3) ls st) : V p l e R s m args below meth c A Q g nL ws k n pc ls (.int 12 :: .int 0 :: .ref a1 :: .int 0 :: .ref a0 :: st) := fun H locs la hP hD hS hla => by
  subst hs
  have hts := hG.2.2.1
  exact va_copyl (sp := 0) (dp := 0) (n := 12) hG.1 hG.2.1 (hG.2.2.2.2.2.2.1.trans hla.1.symm) hG.2.2.2.1 (hts _ hl) (hts _ hnat) (hts _ hstat) (hts _ hini) hG.2.2.2.2.1 hP hD hS q0 q1 1 1 h0 h1 rfl rfl rfl (by decide) (by decide) (by decide) (by decide) (by decide) (fun _ _ => rfl) hR.1 hR.2 hd (fun H1 locs1 hP hD hS => kk H1 locs1 la hP hD hS hla)
theorem v_copyi (hG : vG p s m args meth c A g cc own nL) (q0 q1 : Nat) {a0 a1 index : Nat} {f0 f1 : Nat → Int32} (ws9 : va_W) (h0 : ws[q0]? = some (a0, .inl (g.2.1, 12, .inl f0))) (h1 : ws[q1]? = some (a1, .inl (g.2.1, 12, .inl f1))) (hs : ws.set q1 (a1, .inl (g.2.1, 12, .inl (va_cpy f0 f1 0 0 12))) = ws9) (hl : acW own index) (hnat : Cond.native arraycopyName ∈ gtbl) (hstat : Cond.static arraycopyName ∈ gtbl) (hini : Cond.initialized "java/lang/System" ∈ gtbl) (hR : 1 ≤ R.frames ∧ (st.map fun v => v.category).sum + (nativeFrameWords "java/lang/System" "arraycopy" 5 + 11) ≤ R.locals) (hd : decode cc pc = .ok (.invokestatic index, 3)) (kk : V p l e R s m args below meth c A Q g nL ws9 k n (pc + 3) ls st) : V p l e R s m args below meth c A Q g nL ws k n pc ls (.int 12 :: .int 0 :: .ref a1 :: .int 0 :: .ref a0 :: st) := fun H locs la hP hD hS hla => by
  subst hs
  have hts := hG.2.2.1
  exact va_copyi (sp := 0) (dp := 0) (n := 12) hG.1 hG.2.1 (hG.2.2.2.2.2.2.1.trans hla.1.symm) hG.2.2.2.1 (hts _ hl) (hts _ hnat) (hts _ hstat) (hts _ hini) hG.2.2.2.2.1 hP hD hS q0 q1 0 0 h0 h1 rfl rfl rfl (by decide) (by decide) (by decide) (by decide) (by decide) (fun _ _ => rfl) hR.1 hR.2 hd (fun H1 locs1 hP hD hS => kk H1 locs1 la hP hD hS hla)
/-- a switch: one of its values; none of them -/
theorem v_tswE (hG : vG p s m args meth c A g cc own nL) {x : Int32} {dflt lo hi off : Int} {offs : Array Int} {len : Nat} (z : Int32) (tgt : Nat) {α : Type} {inst : Decidable (x = z)} {B C o9 : α} (hd : decode cc pc = .ok (.tableswitch dflt lo hi offs, len)) (h1 : ¬ z.toInt < lo) (h2 : ¬ hi < z.toInt) (ho : offs[(z.toInt - lo).toNat]? = some off) (ht : (pc : Int) + off = (tgt : Int)) (hf : @ite _ (x = z) inst B C = o9) (kt : B = o9 → V p l e R s m args below meth c A Q g nL ws k n tgt ls st) (kf : ¬ x = z → C = o9 → V p l e R s m args below meth c A Q g nL ws k n pc ls (.int x :: st)) : V p l e R s m args below meth c A Q g nL ws k n pc ls (.int x :: st) := by
  by_cases hx : x = z
  · subst hx
    have k2 := kt ((if_pos rfl).symm.trans hf)
    exact fun H locs la hP hD hS hla => lv_tableIn hG.1 hG.2.1 hd h1 h2 ho ht (k2 H locs la hP hD hS hla)
  · exact kf hx ((if_neg hx).symm.trans hf)
theorem v_tswD (hG : vG p s m args meth c A g cc own nL) {x : Int32} {dflt lo hi : Int} {offs : Array Int} {len : Nat} (tgt : Nat) (hd : decode cc pc = .ok (.tableswitch dflt lo hi offs, len)) (h : x.toInt < lo ∨ hi < x.toInt) (ht : (pc : Int) + dflt = (tgt : Int)) (kk : V p l e R s m args below meth c A Q g nL ws k n tgt ls st) : V p l e R s m args below meth c A Q g nL ws k n pc ls (.int x :: st) := fun H locs la hP hD hS hla => lv_tableOut hG.1 hG.2.1 hd h ht (kk H locs la hP hD hS hla)
/-- a boolean answer that isn't a constant -/
def isB (x : Int32) : Bool := x == 0 || x == 1
theorem isB_nar {x : Int32} (h : isB x = true) : narrow .boolean (.int x) = .int x := by
  unfold isB at h
  simp only [Bool.or_eq_true, beq_iff_eq] at h
  rcases h with rfl | rfl <;> rfl
theorem isB_fit {x : Int32} (h : isB x = true) : fits .boolean (.int x) = true := by
  unfold isB at h
  simp only [Bool.or_eq_true, beq_iff_eq] at h
  rcases h with rfl | rfl <;> rfl
/-- a loop: 'step' says what one turn does -/
def iter {S E : Type} (step : S → Option (S ⊕ E)) : Nat → S → Option E
  | 0, _ => none
  | n + 1, x => (step x).bind fun r => match r with
    | .inl y => iter step n y
    | .inr e => some e
theorem loop_v {S E : Type} {step : S → Option (S ⊕ E)} (Ph : S → Prop) (Pe : E → Prop) (h : ∀ x r, step x = some r → (∀ y, r = .inl y → Ph y) → (∀ z, r = .inr z → Pe z) → Ph x) : ∀ (n : Nat) (x : S) (z : E), iter step n x = some z → Pe z → Ph x
  | 0, _, _, hf, _ => by cases hf
  | n + 1, x, z, hf, hz => by
    obtain ⟨r, h1, h2⟩ := bd_some (x := step x) hf
    refine h x r h1 (fun y hy => ?_) (fun w hw => ?_)
    · subst hy; exact loop_v Ph Pe h n y z h2 hz
    · subst hw; cases h2; exact hz
end VC
