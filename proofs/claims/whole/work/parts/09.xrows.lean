/-- what the throwing rows need of a state's tables, of its heap -/
def xStr : List (Nat × String) := [(64, "there are 12 columns"), (79, "a bound or the cost is not as told"), (97, "there are 12 rows"), (101, "the kind or the right is not as told"), (271, "there is no such row"), (269, "there is no such column"), (117, "the coefficient is not -1000 .. 1000"), (126, "rules are not 0 .. 2047, or rounds not 1 .. 50"), (273, "there is no small"), (170, "which is not 0, 1, 2"), (188, "the small is not impossible"), (208, "no such act is kept"), (211, "what is not 0 .. 4"), (223, "no such place in the clique"), (275, "there is no small, or it is impossible"), (235, "the column is not there, or the number not within its bounds"), (240, "a column that is there was not put"), (277, "no point was turned back"), (279, "no best was found")]
def xCast : List String := ["java/lang/IllegalStateException", "java/lang/IllegalArgumentException", "java/lang/IndexOutOfBoundsException"]
def xDecl : List MethodName := [⟨"java/lang/RuntimeException", "<init>", "(Ljava/lang/String;)V"⟩, ⟨"java/lang/Exception", "<init>", "(Ljava/lang/String;)V"⟩, ⟨"java/lang/Throwable", "<init>", "(Ljava/lang/String;)V"⟩]
def xB : List Cond := xCast.map (fun q => .castable q q) ++ xDecl.map (fun y => .declares y)
def nX (U : State) : Prop := (∀ q ∈ xCast, va_Nw (.castable q q) U) ∧ (∀ y ∈ xDecl, va_Nw (.declares y) U) ∧ ∀ q ∈ xStr, ∃ a, vk_R RX8 q.1 q.2 a U
theorem nX.warm {s U : State} (hW : s.WarmedH U.vm) (h : nX s) : nX U := ⟨fun q hq => va_Nw.warmC hW (h.1 q hq), fun y hy => va_Nw.warmD hW (h.2.1 y hy), fun q hq => by obtain ⟨a, ha⟩ := h.2.2 q hq; exact ⟨a, vk_R.warm hW ha⟩⟩
theorem nX.same {u U : State} (hv : u.vm = U.vm) (h : nX u) : nX U := nX.warm (by rw [← hv]; exact State.WarmedH.refl u) h
theorem nX.B {U : State} {args : Array Value} (h : nX U) : ∀ w ∈ xB, w.before args U = true := by
  intro w hw
  rcases List.mem_append.mp hw with hw | hw
  · obtain ⟨q, hq, rfl⟩ := List.mem_map.mp hw
    exact va_Nw.use rfl (h.1 q hq)
  · obtain ⟨q, hq, rfl⟩ := List.mem_map.mp hw
    exact va_Nw.use rfl (h.2.1 q hq)
def zX (A : Nat → Prop) (U : State) (H : Heap) : Prop := vx_Zq Bundle.tN "UNASSIGNED_STACK" Bundle.steD A U H ∧ vx_Zq Bundle.tN "SUPPRESSED_SENTINEL" Bundle.listD A U H
theorem zX.moved {A : Nat → Prop} {u U : State} {H : Heap} (hvm : u.vm.Alike U.vm) (h : zX A u H) : zX A U H := ⟨vx_Zq.moved hvm h.1, vx_Zq.moved hvm h.2⟩
theorem zX.kept {A : Nat → Prop} {U : State} {H H1 : Heap} (h : zX A U H) (hq : ∀ a : Nat, a < H.size → ¬ A a → H1[a]? = H[a]?) : zX A U H1 := ⟨h.1.kept hq, h.2.kept hq⟩
theorem zX.narrow {A B : Nat → Prop} {U : State} {H : Heap} (h : zX A U H) (hAB : ∀ q, B q → A q) : zX B U H := ⟨h.1.narrow hAB, h.2.narrow hAB⟩
/-- how a method ends: it throws (the class of the exception, the world), or returns -/
abbrev xO : Type := (String × va_W) ⊕ (Option Value × va_W)
def QcX (g : wG) (ws : va_W) (oc : xO) : Array Value → State → Outcome → State → Prop := fun a st o t => ∃ v ws', oc = .inr (v, ws') ∧ QN g ws ws' v a st o t
def XcX (g : wG) (ws : va_W) (oc : xO) : String → State → State → Prop := fun E st t => ∃ ws', oc = .inl (E, ws') ∧ va_P g.1 vwCl ws' t.heap ∧ va_F (inW ws) st t
def PX (g : wG) (av : List Value) (ws : va_W) : Array Value → State → Prop := va_Pc av (fun U => va_P g.1 vwCl ws U.heap ∧ va_K g.1 vwCl (tysOf g) U ∧ nW U ∧ va_D (fun _ => True) ws ∧ nX U ∧ zX (inW ws) U U.heap)
def MetX (l : Launch) (g : wG) (y : MethodName) (cc : ByteArray) (maxL : Nat) (ret : Option FieldType) (rm : Room) (av : List Value) (ws : va_W) (oc : xO) (mc ms : Nat) : Prop :=
  vx_Met l y (Cond.code y cc maxL ret :: gtbl) rm (PX g av ws) (QcX g ws oc) (XcX g ws oc) mc ms (inW ws)
theorem PX_blind {g : wG} {av : List Value} {ws : va_W} : FrameBlind (PX g av ws) := fun a U gg mk q => by
  obtain ⟨q0, qP, qK, qN, qD, qX, qZ⟩ := q
  exact ⟨q0, qP, va_K.moved (u := U) (U := U.calling gg mk a) (Vm.Alike.refl U.vm) qK, nW.same (u := U) (U := U.calling gg mk a) rfl qN, qD, nX.same (u := U) (U := U.calling gg mk a) rfl qX, zX.moved (u := U) (U := U.calling gg mk a) (Vm.Alike.refl U.vm) qZ⟩
def EX (below : List Frame) (args : Array Value) (s : State) (g : wG) (ws : va_W) (oc : xO) (mc ms : Nat) : State → Prop := vx_MQ below (QcX g ws oc) (XcX g ws oc) args s mc ms (inW ws)
/-- what a throwing walk knows beside vG -/
def vX (l : Launch) (s : State) (c : Code) (A : Nat → Prop) : Prop := l.stackTraces = false ∧ nX s ∧ zX A s s.heap ∧ ∀ x ∈ c.exceptionTable.toList, False
theorem MetX.of2 {l : Launch} {g : wG} {y : MethodName} {cc : ByteArray} {maxL : Nat} {ret : Option FieldType} {rm : Room} {av : List Value} {ws : va_W} {oc : xO} {mc ms : Nat} (hl : l.stackTraces = false) (ls0 : List (Nat × Value)) (hls : lv_args 0 av = ls0) (hy : plainName y.cls = true) (hlen : (lg_sl av).length ≤ maxL)
    (body : ∀ (p : Program) (e : Env) (s : State) (m : MethodId) (args : Array Value) (below : List Frame) (meth : Method) (c : Code), vG p s m args meth c (inW ws) g cc y.cls maxL → meth.sig.returnType = ret → vX l s c (inW ws) → V p l e rm s m args below meth c (inW ws) (EX below args s g ws oc mc ms) g maxL ws 0 0 0 ls0 []) : MetX l g y cc maxL ret rm av ws oc mc ms := by
  subst hls
  refine vx_ofW (cc := cc) (maxL := maxL) (ret := ret) hy rfl ?_
  intro p e s m args below meth c s₁ B hml ht hv
  obtain ⟨rfl, hP, hK, hN, hD0, hX, hZ⟩ := hv
  have hts := atoms_spec (ws := Cond.code y cc maxL ret :: gtbl) B.pre
  have hv := body p e s m av.toArray below meth c ⟨B.exec, B.bytes, fun w hw => hts w (List.mem_cons_of_mem _ hw), findClass_of_methodNamed B.named, hK, hN, hml, B.notSynchronized⟩ B.returns ⟨hl, hX, hZ, ht⟩
  rw [lg_entry_eq]
  exact hv s.heap [] _ hP ⟨hD0.1, fun k q hk => ⟨k, q.2, hk⟩⟩ va_S.rf (lv_entry av hlen)
/-- the words of 'throw new E(text)' -/
def xThr (own : String) (ik ic : Nat) (cls : String) : Prop := Cond.classLink own ik cls ∈ gtbl ∧ Cond.initialized cls ∈ gtbl ∧ (∀ w ∈ (vx_atS own ic cls ["java/lang/RuntimeException", "java/lang/Exception"]).filter goodWord, w ∈ gtbl) ∧ (∀ w ∈ (vx_atS own ic cls ["java/lang/RuntimeException", "java/lang/Exception"]).filter (fun w => !goodWord w), w ∈ xB) ∧ (∀ w ∈ Cond.classLink own ik cls :: Cond.initialized cls :: vx_atS own ic cls ["java/lang/RuntimeException", "java/lang/Exception"], vx_ot w = true) ∧ Bundle.fit cls = true
def x_rm (f c n : Nat) : Room := { frames := f, cells := c, slots := 6 * c, locals := n }
section VX
variable {p : Program} {l : Launch} {e : Env} {R : Room} {s : State} {m : MethodId} {args : Array Value} {below : List Frame} {meth : Method} {c : Code} {A : Nat → Prop} {Q : State → Prop} {g : wG} {cc : ByteArray} {own : String} {nL : Nat}
variable {ws ws' ws0 : va_W} {k n pc mc ms : Nat} {ls : List (Nat × Value)} {st : List Value} {o : Option Value}
theorem x_iret {x : Int32} (hG : vG p s m args meth c (inW ws0) g cc own nL) (hr : meth.sig.returnType = some .int) (hk : k ≤ mc ∧ n ≤ ms) (hd : decode cc pc = .ok (.ireturn, 1)) : V p l e R s m args below meth c (inW ws0) (EX below args s g ws0 (.inr (some (.int x), ws)) mc ms) g nL ws k n pc ls [.int x] := fun H locs la hP hD hS hla =>
  vx_ret (W.widen hk.1 hk.2 (W.iret hG.1 hG.2.1 hr (fun t ht _ => ⟨_, _, rfl, EN_q hP hS t ht⟩) hS.2.2 hd hG.2.2.2.2.2.2.2))
theorem x_zret {x : Int32} (hG : vG p s m args meth c (inW ws0) g cc own nL) (hr : meth.sig.returnType = some .boolean) (hx : narrow .boolean (.int x) = .int x) (hk : k ≤ mc ∧ n ≤ ms) (hd : decode cc pc = .ok (.ireturn, 1)) : V p l e R s m args below meth c (inW ws0) (EX below args s g ws0 (.inr (some (.int x), ws)) mc ms) g nL ws k n pc ls [.int x] := fun H locs la hP hD hS hla =>
  vx_ret (W.widen hk.1 hk.2 (W.zret hG.1 hG.2.1 hr hx (fun t ht _ => ⟨_, _, rfl, EN_q hP hS t ht⟩) hS.2.2 hd hG.2.2.2.2.2.2.2))
theorem x_lret {x : Int64} (hG : vG p s m args meth c (inW ws0) g cc own nL) (hr : meth.sig.returnType = some .long) (hk : k ≤ mc ∧ n ≤ ms) (hd : decode cc pc = .ok (.lreturn, 1)) : V p l e R s m args below meth c (inW ws0) (EX below args s g ws0 (.inr (some (.long x), ws)) mc ms) g nL ws k n pc ls [.long x] := fun H locs la hP hD hS hla =>
  vx_ret (W.widen hk.1 hk.2 (W.lret hG.1 hG.2.1 hr (fun t ht _ => ⟨_, _, rfl, EN_q hP hS t ht⟩) hS.2.2 hd hG.2.2.2.2.2.2.2))
theorem x_vret (hG : vG p s m args meth c (inW ws0) g cc own nL) (hr : meth.sig.returnType = none) (hk : k ≤ mc ∧ n ≤ ms) (hd : decode cc pc = .ok (.return_, 1)) : V p l e R s m args below meth c (inW ws0) (EX below args s g ws0 (.inr (none, ws)) mc ms) g nL ws k n pc ls [] := fun H locs la hP hD hS hla =>
  vx_ret (W.widen hk.1 hk.2 (W.vret hG.1 hG.2.1 hr (fun t ht _ => ⟨_, _, rfl, EN_q hP hS t ht⟩) hS.2.2 hd hG.2.2.2.2.2.2.2))
theorem x_thrown {cls : String} {H : Heap} {locs : List Loc} (hP : va_P g.1 vwCl ws H) (hS : va_S (inW ws0) s.heap H locs) (t : State) (h1 : H.size ≤ t.heap.size) (h2 : ∀ q : Nat, q < H.size → t.heap[q]? = H[q]?) : XcX g ws0 (.inl (cls, ws)) cls s t :=
  ⟨ws, rfl, hP.kept (fun k9 q h9 => h2 q.1 ((hP k9 q h9).lt)), Nat.le_trans hS.1 h1, fun q h3 h4 => (h2 q (Nat.lt_of_lt_of_le h3 hS.1)).trans (hS.2.1 q h3 h4)⟩
theorem x_throw (hG : vG p s m args meth c (inW ws0) g cc own nL) (ho : own = RX8) (hX : vX l s c (inW ws0)) {ik is ic : Nat} (text cls : String) (hT : xThr own ik ic cls) (hs : (is, text) ∈ xStr) (d0 : decode cc pc = .ok (.new ik, 3)) (d3 : decode cc (pc + 3) = .ok (.dup, 1)) (d4 : decode cc (pc + 4) = .ok (.ldc is, 2)) (d6 : decode cc (pc + 6) = .ok (.invokespecial ic, 3)) (d9 : decode cc (pc + 9) = .ok (.athrow, 1)) (hR : 5 < R.frames ∧ (st.map fun v => v.category).sum + 82 ≤ R.locals ∧ k + 1 ≤ R.cells ∧ n + 6 ≤ R.slots) (hk : k + 1 ≤ mc ∧ n + 6 ≤ ms) : V p l e R s m args below meth c (inW ws0) (EX below args s g ws0 (.inl (cls, ws)) mc ms) g nL ws k n pc ls st := fun H locs la hP hD hS hla => by
  obtain ⟨t1, t2, t3, t4, t5, t6⟩ := hT
  obtain ⟨hl, hnX, hZ, hout⟩ := hX
  have hts := hG.2.2.1
  subst ho
  obtain ⟨sa, hsa⟩ := hnX.2.2 _ hs
  exact vx_throwS (names := ["java/lang/RuntimeException", "java/lang/Exception"]) (sa := sa) hG.1 hG.2.1 hl hG.2.2.2.1 t6 (by decide) (hts _ t1) (hts _ t2) hsa (vx_hat (fun w hw => hts w (t3 w hw)) t4 hnX.B) t5 hZ.1 hZ.2 hS (hla.1.trans hG.2.2.2.2.2.2.1.symm) d0 d3 d4 d6 d9 (fun x hx => (hout x hx).elim) hR.1 hR.2.1 hR.2.2.1 hR.2.2.2 hG.2.2.2.2.2.2.2 (fun t _ h1 h2 => x_thrown hP hS t h1 h2) hS.2.2 hk.1 hk.2
theorem x_throwW (hG : vG p s m args meth c (inW ws0) g cc own nL) (ho : own = RX8) (hX : vX l s c (inW ws0)) {ik is ic : Nat} (text cls : String) (hT : xThr own ik ic cls) (hs : (is, text) ∈ xStr) (d0 : decode cc pc = .ok (.new ik, 3)) (d3 : decode cc (pc + 3) = .ok (.dup, 1)) (d4 : decode cc (pc + 4) = .ok (.ldc_w is, 3)) (d6 : decode cc (pc + 7) = .ok (.invokespecial ic, 3)) (d9 : decode cc (pc + 10) = .ok (.athrow, 1)) (hR : 5 < R.frames ∧ (st.map fun v => v.category).sum + 82 ≤ R.locals ∧ k + 1 ≤ R.cells ∧ n + 6 ≤ R.slots) (hk : k + 1 ≤ mc ∧ n + 6 ≤ ms) : V p l e R s m args below meth c (inW ws0) (EX below args s g ws0 (.inl (cls, ws)) mc ms) g nL ws k n pc ls st := fun H locs la hP hD hS hla => by
  obtain ⟨t1, t2, t3, t4, t5, t6⟩ := hT
  obtain ⟨hl, hnX, hZ, hout⟩ := hX
  have hts := hG.2.2.1
  subst ho
  obtain ⟨sa, hsa⟩ := hnX.2.2 _ hs
  exact vx_throwSW (names := ["java/lang/RuntimeException", "java/lang/Exception"]) (sa := sa) hG.1 hG.2.1 hl hG.2.2.2.1 t6 (by decide) (hts _ t1) (hts _ t2) hsa (vx_hat (fun w hw => hts w (t3 w hw)) t4 hnX.B) t5 hZ.1 hZ.2 hS (hla.1.trans hG.2.2.2.2.2.2.1.symm) d0 d3 d4 d6 d9 (fun x hx => (hout x hx).elim) hR.1 hR.2.1 hR.2.2.1 hR.2.2.2 hG.2.2.2.2.2.2.2 (fun t _ h1 h2 => x_thrown hP hS t h1 h2) hS.2.2 hk.1 hk.2
/-- a call of a method that may throw: what comes back, in either way -/
theorem x_run {oc : xO} {rm : Room} {y : MethodName} {bytes : ByteArray} {maxL nA index b : Nat} {ret : Option FieldType} {As : List Value} {stk : List Value} (hG : vG p s m args meth c A g cc own nL) (q0 ci : Nat) {fs : List Value} {cT : u_T} {cN : Nat} (hM : MetX l g y bytes maxL ret rm (.ref b :: As) ws oc mc ms) (hnX : nX s) (hZ : zX A s s.heap) (hw : iwd y bytes maxL ret nA) (hl : Cond.methodLink own index y ∈ gtbl) (he : ws[q0]? = some (b, .inr (ci, fs))) (hc : vwCl[ci]? = some (y.cls, cT, cN)) (hR : rm.cells = mc ∧ rm.slots = ms ∧ rm.frames + 1 ≤ R.frames ∧ 8 + (maxL + 11) + rm.locals ≤ R.locals) (hk : k + mc ≤ R.cells ∧ n + ms ≤ R.slots) (hA : As.length = nA) (hst : stk = As.reverse ++ .ref b :: st) (hW : (st.map fun v => v.category).sum ≤ 8) (hd : decode cc pc = .ok (.invokevirtual index, 3)) {H : Heap} {locs : List Loc} {la : Array Slot} (hP : va_P g.1 vwCl ws H) (hD : va_D A ws) (hS : va_S A s.heap H locs) (hla : lv_has la nL ls) : vx_Run p l e R s m args below meth c H locs k n mc ms (F0 m pc la stk) st (QcX g ws oc (Value.ref b :: As).toArray) (XcX g ws oc) (inW ws) := by
  obtain ⟨w1, w2, w3, w4, w5, w6⟩ := hw
  have hts := hG.2.2.1
  refine vx_runV (Ts := gtbl) (C := y.cls) (b := b) (As := As) (n := nA) (bytes := bytes) (maxL := maxL) (ret := ret) ⟨hG.1, hG.2.1, hG.2.2.2.2.2.2.1, hG.2.2.2.1, hts⟩ hM ⟨⟨hR.1, hR.2.1, hR.2.2.1, hR.2.2.2, gtbl_pay hts _ w4, List.mem_cons_self, hts _ w4, hts _ w3, w5, fun sig h => ?_, hts _ hl⟩, hts _ w1, hts _ w2⟩ ⟨PX_blind, va_recv hG.2.2.2.2.1 hP hc he, fun U hU hWm => ⟨rfl, by rw [hU]; exact hP, va_K.moved hWm.alike hG.2.2.2.2.1, nW.warm hWm hG.2.2.2.2.2.1, hD.weaken (fun _ _ _ _ => trivial), nX.warm hWm hnX, ?_⟩⟩ rfl hA hla.1 hst (lv_room hW) hd hk
  · rw [h] at w6
    exact (Option.some.inj w6).symm
  · rw [hU]
    have hsub : ∀ q, inW ws q → A q := fun q ⟨k9, e9, h9⟩ => hD.2 k9 _ h9
    exact zX.narrow (zX.moved hWm.alike (hZ.kept hS.2.1)) hsub
theorem x_keep {wc : va_W} {H : Heap} {locs L : List Loc} {t st0 : State} (h0 : st0.heap = H) (hF : va_F (inW wc) st0 t) (hsub : ∀ q, inW wc q → A q) (hS : va_S A s.heap H locs) (hL : ∀ q ∈ L, inW wc q.base) : va_S A s.heap t.heap (locs ++ L) := by
  rw [va_F, h0] at hF
  exact ⟨Nat.le_trans hS.1 hF.1, fun q h1 h2 => (hF.2 q (Nat.lt_of_lt_of_le h1 hS.1) (fun z => h2 (hsub q z))).trans (hS.2.1 q h1 h2), fun q hq => by
    rcases List.mem_append.mp hq with h | h
    · exact hS.2.2 q h
    · exact hsub _ (hL q h)⟩
theorem x_callR {v : Option Value} {rm : Room} {y : MethodName} {bytes : ByteArray} {maxL nA index b : Nat} {ret : Option FieldType} {As : List Value} {stk : List Value} (hG : vG p s m args meth c A g cc own nL) (hX : vX l s c A) (q0 ci : Nat) {fs : List Value} {cT : u_T} {cN : Nat} (hM : MetX l g y bytes maxL ret rm (.ref b :: As) ws (.inr (v, ws')) mc ms) (hw : iwd y bytes maxL ret nA) (hl : Cond.methodLink own index y ∈ gtbl) (he : ws[q0]? = some (b, .inr (ci, fs))) (hc : vwCl[ci]? = some (y.cls, cT, cN)) (hR : rm.cells = mc ∧ rm.slots = ms ∧ rm.frames + 1 ≤ R.frames ∧ 8 + (maxL + 11) + rm.locals ≤ R.locals) (hk : k + mc ≤ R.cells ∧ n + ms ≤ R.slots) (hA : As.length = nA) (hst : stk = As.reverse ++ .ref b :: st) (hW : (st.map fun v => v.category).sum ≤ 8) (hs : ws'.map Prod.fst = ws.map Prod.fst) (hd : decode cc pc = .ok (.invokevirtual index, 3)) (kk : V p l e R s m args below meth c A Q g nL ws' (k + mc) (n + ms) (pc + 3) ls (v.toList ++ st)) : V p l e R s m args below meth c A Q g nL ws k n pc ls stk := fun H locs la hP hD hS hla => by
  have hr := x_run (e := e) (below := below) (ls := ls) hG q0 ci hM hX.2.1 hX.2.2.1 hw hl he hc hR hk hA hst hW hd hP hD hS hla
  have hsub : ∀ q, inW ws q → A q := fun q ⟨k9, e9, h9⟩ => hD.2 k9 _ h9
  intro T hT X
  rcases hr T hT X with ⟨v9, st0, t, T', L, h0, X', hL, e1, e2, ⟨v2, w2, hq, ho, hP', hF⟩, go⟩ | ⟨q, st0, t, T', L, E, ce, h0, X', hL, e1, e2, ⟨w2, hq, -⟩, -⟩
  · cases hq
    cases ho
    obtain ⟨t2, a1, b1⟩ := kk t.heap (locs ++ L) la hP' (va_D_fst hs hD) (x_keep h0 hF hsub hS hL) hla T' e1 X'
    exact ⟨t2, go t2 a1, b1⟩
  · cases hq
theorem x_callT {cls : String} {mc' ms' : Nat} {rm : Room} {y : MethodName} {bytes : ByteArray} {maxL nA index b : Nat} {ret : Option FieldType} {As : List Value} {stk : List Value} (hG : vG p s m args meth c (inW ws0) g cc own nL) (hX : vX l s c (inW ws0)) (q0 ci : Nat) {fs : List Value} {cT : u_T} {cN : Nat} (hM : MetX l g y bytes maxL ret rm (.ref b :: As) ws (.inl (cls, ws')) mc ms) (hw : iwd y bytes maxL ret nA) (hl : Cond.methodLink own index y ∈ gtbl) (he : ws[q0]? = some (b, .inr (ci, fs))) (hc : vwCl[ci]? = some (y.cls, cT, cN)) (hR : rm.cells = mc ∧ rm.slots = ms ∧ rm.frames + 1 ≤ R.frames ∧ 8 + (maxL + 11) + rm.locals ≤ R.locals) (hk : k + mc ≤ R.cells ∧ n + ms ≤ R.slots) (hA : As.length = nA) (hst : stk = As.reverse ++ .ref b :: st) (hW : (st.map fun v => v.category).sum ≤ 8) (hd : decode cc pc = .ok (.invokevirtual index, 3)) (hk2 : k + mc ≤ mc' ∧ n + ms ≤ ms') : V p l e R s m args below meth c (inW ws0) (EX below args s g ws0 (.inl (cls, ws')) mc' ms') g nL ws k n pc ls stk := fun H locs la hP hD hS hla => by
  have hr := x_run (e := e) (below := below) (ls := ls) hG q0 ci hM hX.2.1 hX.2.2.1 hw hl he hc hR hk hA hst hW hd hP hD hS hla
  have hsub : ∀ q, inW ws q → inW ws0 q := fun q ⟨k9, e9, h9⟩ => hD.2 k9 _ h9
  intro T hT X
  rcases hr T hT X with ⟨v9, st0, t, T', L, h0, X', hL, e1, e2, ⟨v2, w2, hq, -⟩, go⟩ | ⟨q, st0, t, T', L, E, ce, h0, X', hL, e1, e2, ⟨w2, hq, hP', hF⟩, hce, hcv, hcl, st9⟩
  · cases hq
  · cases hq
    have hS2 := x_keep h0 hF hsub hS hL
    have ho : vx_W p l e R s m args below meth c T'.heap (locs ++ L) (k + mc) (n + ms) (EX below args s g ws0 (.inl (cls, ws')) mc' ms') (F0 m pc la st) q := vx_out (ce := ce) (fun x hx => (hX.2.2.2 x hx).elim) hG.2.2.2.2.2.2.2 (by rw [e1]; exact hce) hcv hcl (fun t2 ht2 _ => ⟨ws', rfl, by rw [ht2, e1]; exact hP', by rw [ht2, e1]; exact hS2.1, fun q3 h3 h4 => by rw [ht2, e1]; exact hS2.2.1 q3 h3 h4⟩) hS2.2.2 hk2.1 hk2.2
    obtain ⟨t2, a1, b1⟩ := ho T' rfl X'
    exact ⟨t2, st9.trans a1, b1⟩
theorem v_widen {k9 n9 : Nat} (hk : k ≤ k9 ∧ n ≤ n9) (kk : V p l e R s m args below meth c A Q g nL ws k9 n9 pc ls st) : V p l e R s m args below meth c A Q g nL ws k n pc ls st := fun H locs la hP hD hS hla => W.widen hk.1 hk.2 (kk H locs la hP hD hS hla)
end VX
set_option maxRecDepth 100000 in
theorem thr_62 : xThr RX8 62 66 "java/lang/IllegalStateException" := ⟨by decide +kernel, by decide +kernel, by decide +kernel, by decide +kernel, by decide +kernel, by decide +kernel⟩
set_option maxRecDepth 100000 in
theorem thr_77 : xThr RX8 77 81 "java/lang/IllegalArgumentException" := ⟨by decide +kernel, by decide +kernel, by decide +kernel, by decide +kernel, by decide +kernel, by decide +kernel⟩
set_option maxRecDepth 100000 in
theorem thr_206 : xThr RX8 206 210 "java/lang/IndexOutOfBoundsException" := ⟨by decide +kernel, by decide +kernel, by decide +kernel, by decide +kernel, by decide +kernel, by decide +kernel⟩
