/-- the class's world and the law's own array of one long -/
abbrev LW : Type := CW × (Nat → Int64)
def oCell (g : wG) (ad : Nat → Nat) (f : Nat → Int64) : va_W := [(ad 73, .inl (g.2.2.1, 1, .inr (.inl f)))]
def lcells (g : wG) (ad : Nat → Nat) (w : LW) : va_W := ccells g ad w.1 ++ oCell g ad w.2
theorem lcells_fst (g : wG) (ad : Nat → Nat) (w w' : LW) : (lcells g ad w').map Prod.fst = (lcells g ad w).map Prod.fst := rfl
def ncPairs : List (String × String) := [("java/lang/IllegalArgumentException", "java/lang/IllegalStateException"), ("java/lang/IllegalArgumentException", "java/lang/IndexOutOfBoundsException"), ("java/lang/IllegalStateException", "java/lang/IllegalArgumentException"), ("java/lang/IllegalStateException", "java/lang/IndexOutOfBoundsException"), ("java/lang/IndexOutOfBoundsException", "java/lang/IllegalArgumentException"), ("java/lang/IndexOutOfBoundsException", "java/lang/IllegalStateException")]
def nC (U : State) : Prop := ∀ q ∈ ncPairs, va_Nc q.1 q.2 U
theorem nC.moved {u U : State} (hvm : u.vm.Alike U.vm) (h : nC u) : nC U := fun q hq => (h q hq).moved hvm
def PL (g : wG) (av : List Value) (ws : va_W) : Array Value → State → Prop := va_Pc av (fun U => va_P g.1 vwCl ws U.heap ∧ va_K g.1 vwCl (tysOf g) U ∧ nW U ∧ va_D (fun _ => True) ws ∧ nX U ∧ zX (inW ws) U U.heap ∧ nC U)
def MetL (l : Launch) (g : wG) (y : MethodName) (cc : ByteArray) (maxL : Nat) (ret : Option FieldType) (hh : List (Nat × Nat × Nat × Nat)) (rm : Room) (av : List Value) (ws ws' : va_W) (o : Option Value) (mc ms : Nat) : Prop :=
  Met l y (Cond.codeWith y cc maxL ret hh :: gtbl) rm (PL g av ws) (QN g ws ws' o) mc ms (inW ws)
theorem PL_blind {g : wG} {av : List Value} {ws : va_W} : FrameBlind (PL g av ws) := fun a U gg mk q => by
  obtain ⟨q0, qP, qK, qN, qD, qX, qZ, qC⟩ := q
  exact ⟨q0, qP, va_K.moved (u := U) (U := U.calling gg mk a) (Vm.Alike.refl U.vm) qK, nW.same (u := U) (U := U.calling gg mk a) rfl qN, qD, nX.same (u := U) (U := U.calling gg mk a) rfl qX, zX.moved (u := U) (U := U.calling gg mk a) (Vm.Alike.refl U.vm) qZ, nC.moved (u := U) (U := U.calling gg mk a) (Vm.Alike.refl U.vm) qC⟩
def EL (below : List Frame) (args : Array Value) (s : State) (g : wG) (ws ws' : va_W) (o : Option Value) (mc ms : Nat) : State → Prop := MQ below (QN g ws ws' o) args s mc ms (inW ws)
def vL (s : State) (c : Code) (A : Nat → Prop) (hh : List (Nat × Nat × Nat × Nat)) : Prop := nX s ∧ zX A s s.heap ∧ nC s ∧ c.exceptionTable.toList = tableOf hh
theorem MetL.of2 {l : Launch} {g : wG} {y : MethodName} {cc : ByteArray} {maxL : Nat} {ret : Option FieldType} {hh : List (Nat × Nat × Nat × Nat)} {rm : Room} {av : List Value} {ws ws' : va_W} {o : Option Value} {mc ms : Nat} (ls0 : List (Nat × Value)) (hls : lv_args 0 av = ls0) (hy : plainName y.cls = true) (hlen : (lg_sl av).length ≤ maxL)
    (body : ∀ (p : Program) (e : Env) (s : State) (m : MethodId) (args : Array Value) (below : List Frame) (meth : Method) (c : Code), vG p s m args meth c (inW ws) g cc y.cls maxL → meth.sig.returnType = ret → vL s c (inW ws) hh → V p l e rm s m args below meth c (inW ws) (EL below args s g ws ws' o mc ms) g maxL ws 0 0 0 ls0 []) : MetL l g y cc maxL ret hh rm av ws ws' o mc ms := by
  subst hls
  refine va_MetW (cc := cc) (maxL := maxL) (ret := ret) (hh := hh) hy rfl ?_
  intro p e s m args below meth c s₁ B hml hv
  obtain ⟨rfl, hP, hK, hN, hD0, hX, hZ, hC⟩ := hv
  have hts := atoms_spec (ws := Cond.codeWith y cc maxL ret hh :: gtbl) B.pre
  have hv := body p e s m av.toArray below meth c ⟨B.exec, B.bytes, fun w hw => hts w (List.mem_cons_of_mem _ hw), findClass_of_methodNamed B.named, hK, hN, hml, B.notSynchronized⟩ B.returns ⟨hX, hZ, hC, vx_table (x := y) B (hts _ List.mem_cons_self)⟩
  rw [lg_entry_eq]
  exact hv s.heap [] _ hP ⟨hD0.1, fun k q hk => ⟨k, q.2, hk⟩⟩ va_S.rf (lv_entry av hlen)
/-- parts of a world -/
theorem inW_l {a b : va_W} {q : Nat} (h : inW a q) : inW (a ++ b) q := by
  obtain ⟨k, e, hk⟩ := h
  exact ⟨k, e, by rw [List.getElem?_append_left (List.getElem?_eq_some_iff.mp hk).1]; exact hk⟩
theorem inW_r {a b : va_W} {q : Nat} (h : inW b q) : inW (a ++ b) q := by
  obtain ⟨k, e, hk⟩ := h
  exact ⟨a.length + k, e, by rw [List.getElem?_append_right (by omega), Nat.add_sub_cancel_left]; exact hk⟩
theorem va_P_l {D : va_G} {a b : va_W} {H : Heap} (h : va_P D vwCl (a ++ b) H) : va_P D vwCl a H := fun k q hk => h k q (by rw [List.getElem?_append_left (List.getElem?_eq_some_iff.mp hk).1]; exact hk)
theorem va_P_r {D : va_G} {a b : va_W} {H : Heap} (h : va_P D vwCl (a ++ b) H) : va_P D vwCl b H := fun k q hk => h (a.length + k) q (by rw [List.getElem?_append_right (by omega), Nat.add_sub_cancel_left]; exact hk)
theorem va_D_l {A : Nat → Prop} {a b : va_W} (h : va_D A (a ++ b)) : va_D A a := ⟨fun i j x y hi hj => h.1 i j x y (by rw [List.getElem?_append_left (List.getElem?_eq_some_iff.mp hi).1]; exact hi) (by rw [List.getElem?_append_left (List.getElem?_eq_some_iff.mp hj).1]; exact hj), fun k q hk => h.2 k q (by rw [List.getElem?_append_left (List.getElem?_eq_some_iff.mp hk).1]; exact hk)⟩
theorem va_D_r {A : Nat → Prop} {a b : va_W} (h : va_D A (a ++ b)) : va_D A b := ⟨fun i j x y hi hj hxy => by
    have := h.1 (a.length + i) (a.length + j) x y (by rw [List.getElem?_append_right (by omega), Nat.add_sub_cancel_left]; exact hi) (by rw [List.getElem?_append_right (by omega), Nat.add_sub_cancel_left]; exact hj) hxy
    omega, fun k q hk => h.2 (a.length + k) q (by rw [List.getElem?_append_right (by omega), Nat.add_sub_cancel_left]; exact hk)⟩
theorem va_D_x {A : Nat → Prop} {a b : va_W} (h : va_D A (a ++ b)) {q : Nat} (h1 : inW a q) (h2 : inW b q) : False := by
  obtain ⟨i, e1, hi⟩ := h1
  obtain ⟨j, e2, hj⟩ := h2
  have hl := (List.getElem?_eq_some_iff.mp hi).1
  have := h.1 i (a.length + j) (q, e1) (q, e2) (by rw [List.getElem?_append_left hl]; exact hi) (by rw [List.getElem?_append_right (by omega), Nat.add_sub_cancel_left]; exact hj) rfl
  omega
section VL
variable {p : Program} {l : Launch} {e : Env} {R : Room} {s : State} {m : MethodId} {args : Array Value} {below : List Frame} {meth : Method} {c : Code} {A : Nat → Prop} {Q : State → Prop} {g : wG} {cc : ByteArray} {own : String} {nL : Nat}
variable {ws ws' ws0 wc wc' ext : va_W} {k n pc mc ms : Nat} {ls : List (Nat × Value)} {st : List Value} {o : Option Value} {ad : Nat → Nat}
theorem l_iret {x : Int32} (hG : vG p s m args meth c (inW ws0) g cc own nL) (hr : meth.sig.returnType = some .int) (hk : k ≤ mc ∧ n ≤ ms) (hd : decode cc pc = .ok (.ireturn, 1)) : V p l e R s m args below meth c (inW ws0) (EL below args s g ws0 ws (some (.int x)) mc ms) g nL ws k n pc ls [.int x] := fun H locs la hP hD hS hla =>
  W.widen hk.1 hk.2 (W.iret hG.1 hG.2.1 hr (fun t ht _ => EN_q hP hS t ht) hS.2.2 hd hG.2.2.2.2.2.2.2)
theorem l_s_out (hG : vG p s m args meth c A g cc own nL) {w : LW} {i : Int32} {x : Int64} {inst : Decidable (inR i 1 = true)} {α : Type} {B : LW → Option α} {o : α} (hd : decode cc pc = .ok (.lastore, 1)) (hf : @ite _ (inR i 1 = true) inst (bnd (w.1, vp_updL w.2 i.toNatClampNeg x) B) none = some o) (kk : ∀ w1 : LW, B w1 = some o → V p l e R s m args below meth c A Q g nL (lcells g ad w1) k n (pc + 1) ls st) : V p l e R s m args below meth c A Q g nL (lcells g ad w) k n pc ls (.long x :: .int i :: .ref (ad 73) :: st) := v_last hG 73 (lcells g ad (w.1, vp_updL w.2 i.toNatClampNeg x)) rfl rfl hd hf (fun hf => kk _ hf)
theorem l_run {oc : xO} {rm : Room} {y : MethodName} {bytes : ByteArray} {maxL nA index b : Nat} {ret : Option FieldType} {As : List Value} {stk : List Value} (hG : vG p s m args meth c A g cc own nL) (q0 ci : Nat) {fs : List Value} {cT : u_T} {cN : Nat} (hM : MetX l g y bytes maxL ret rm (.ref b :: As) wc oc mc ms) (hnX : nX s) (hZ : zX A s s.heap) (hw : iwd y bytes maxL ret nA) (hl : Cond.methodLink own index y ∈ gtbl) (he : wc[q0]? = some (b, .inr (ci, fs))) (hc : vwCl[ci]? = some (y.cls, cT, cN)) (hR : rm.cells = mc ∧ rm.slots = ms ∧ rm.frames + 1 ≤ R.frames ∧ 8 + (maxL + 11) + rm.locals ≤ R.locals) (hk : k + mc ≤ R.cells ∧ n + ms ≤ R.slots) (hA : As.length = nA) (hst : stk = As.reverse ++ .ref b :: st) (hW : (st.map fun v => v.category).sum ≤ 8) (hd : decode cc pc = .ok (.invokevirtual index, 3)) {H : Heap} {locs : List Loc} {la : Array Slot} (hP : va_P g.1 vwCl (wc ++ ext) H) (hD : va_D A (wc ++ ext)) (hS : va_S A s.heap H locs) (hla : lv_has la nL ls) : vx_Run p l e R s m args below meth c H locs k n mc ms (F0 m pc la stk) st (QcX g wc oc (Value.ref b :: As).toArray) (XcX g wc oc) (inW wc) :=
  x_run (ls := ls) hG q0 ci hM hnX hZ hw hl he hc hR hk hA hst hW hd (va_P_l hP) (va_D_l hD) hS hla
theorem l_after {H : Heap} {t st0 : State} (h0 : st0.heap = H) (hF : va_F (inW wc) st0 t) (hP : va_P g.1 vwCl (wc ++ ext) H) (hD : va_D A (wc ++ ext)) (hP' : va_P g.1 vwCl wc' t.heap) : va_P g.1 vwCl (wc' ++ ext) t.heap := by
  rw [va_F, h0] at hF
  exact hP'.app (va_P_off (va_P_r hP) hF.2 (fun q h1 h2 => va_D_x hD h2 h1))
theorem l_callR {v : Option Value} {rm : Room} {y : MethodName} {bytes : ByteArray} {maxL nA index b : Nat} {ret : Option FieldType} {hh : List (Nat × Nat × Nat × Nat)} {As : List Value} {stk : List Value} (hG : vG p s m args meth c A g cc own nL) (hX : vL s c A hh) (q0 ci : Nat) {fs : List Value} {cT : u_T} {cN : Nat} (hM : MetX l g y bytes maxL ret rm (.ref b :: As) wc (.inr (v, wc')) mc ms) (hw : iwd y bytes maxL ret nA) (hl : Cond.methodLink own index y ∈ gtbl) (he : wc[q0]? = some (b, .inr (ci, fs))) (hc : vwCl[ci]? = some (y.cls, cT, cN)) (hR : rm.cells = mc ∧ rm.slots = ms ∧ rm.frames + 1 ≤ R.frames ∧ 8 + (maxL + 11) + rm.locals ≤ R.locals) (hk : k + mc ≤ R.cells ∧ n + ms ≤ R.slots) (hA : As.length = nA) (hst : stk = As.reverse ++ .ref b :: st) (hW : (st.map fun v => v.category).sum ≤ 8) (hs : (wc' ++ ext).map Prod.fst = (wc ++ ext).map Prod.fst) (hd : decode cc pc = .ok (.invokevirtual index, 3)) (kk : V p l e R s m args below meth c A Q g nL (wc' ++ ext) (k + mc) (n + ms) (pc + 3) ls (v.toList ++ st)) : V p l e R s m args below meth c A Q g nL (wc ++ ext) k n pc ls stk := fun H locs la hP hD hS hla => by
  have hr := l_run (e := e) (below := below) (ls := ls) hG q0 ci hM hX.1 hX.2.1 hw hl he hc hR hk hA hst hW hd hP hD hS hla
  have hsub : ∀ q, inW wc q → A q := fun q h => by obtain ⟨k9, e9, h9⟩ := inW_l (b := ext) h; exact hD.2 k9 _ h9
  intro T hT X
  rcases hr T hT X with ⟨v9, st0, t, T', L, h0, X', hL, e1, e2, ⟨v2, w2, hq, ho, hP', hF⟩, go⟩ | ⟨q, st0, t, T', L, E, ce, h0, X', hL, e1, e2, ⟨w2, hq, -⟩, -⟩
  · cases hq
    cases ho
    obtain ⟨t2, a1, b1⟩ := kk t.heap (locs ++ L) la (l_after h0 hF hP hD hP') (va_D_fst hs hD) (x_keep h0 hF hsub hS hL) hla T' e1 X'
    exact ⟨t2, go t2 a1, b1⟩
  · cases hq
/-- thrown in the call, caught here -/
theorem l_callC {cls : String} {rm : Room} {y : MethodName} {bytes : ByteArray} {maxL nA index b : Nat} {ret : Option FieldType} {hh : List (Nat × Nat × Nat × Nat)} {As : List Value} {stk : List Value} (hG : vG p s m args meth c A g cc own nL) (hX : vL s c A hh) (q0 ci : Nat) {fs : List Value} {cT : u_T} {cN : Nat} (pre : List ExceptionTableEntry) (x : ExceptionTableEntry) (suf : List ExceptionTableEntry) (hsplit : tableOf hh = pre ++ x :: suf) (hpass : ∀ z ∈ pre, z.catchType ≠ 0 ∧ ∃ nm : String, Cond.classLink own z.catchType nm ∈ gtbl ∧ (cls, nm) ∈ ncPairs) (hx : covers x pc = true) (h00 : x.catchType ≠ 0) (hlink : Cond.classLink own x.catchType cls ∈ gtbl) (hcast : cls ∈ xCast) (hM : MetX l g y bytes maxL ret rm (.ref b :: As) wc (.inl (cls, wc')) mc ms) (hw : iwd y bytes maxL ret nA) (hl : Cond.methodLink own index y ∈ gtbl) (he : wc[q0]? = some (b, .inr (ci, fs))) (hc : vwCl[ci]? = some (y.cls, cT, cN)) (hR : rm.cells = mc ∧ rm.slots = ms ∧ rm.frames + 1 ≤ R.frames ∧ 8 + (maxL + 11) + rm.locals ≤ R.locals) (hk : k + mc ≤ R.cells ∧ n + ms ≤ R.slots) (hA : As.length = nA) (hst : stk = As.reverse ++ .ref b :: st) (hW : (st.map fun v => v.category).sum ≤ 8) (hs : (wc' ++ ext).map Prod.fst = (wc ++ ext).map Prod.fst) (hd : decode cc pc = .ok (.invokevirtual index, 3)) (kk : ∀ q : Nat, V p l e R s m args below meth c A Q g nL (wc' ++ ext) (k + mc) (n + ms) x.handlerPc ls [.ref q]) : V p l e R s m args below meth c A Q g nL (wc ++ ext) k n pc ls stk := fun H locs la hP hD hS hla => by
  have hr := l_run (e := e) (below := below) (ls := ls) hG q0 ci hM hX.1 hX.2.1 hw hl he hc hR hk hA hst hW hd hP hD hS hla
  have hsub : ∀ q, inW wc q → A q := fun q h => by obtain ⟨k9, e9, h9⟩ := inW_l (b := ext) h; exact hD.2 k9 _ h9
  have hts := hG.2.2.1
  intro T hT X
  rcases hr T hT X with ⟨v9, st0, t, T', L, h0, X', hL, e1, e2, ⟨v2, w2, hq, -⟩, go⟩ | ⟨q, st0, t, T', L, E, ce, h0, X', hL, e1, e2, ⟨w2, hq, hP', hF⟩, hce, hcv, hcl, st9⟩
  · cases hq
  · cases hq
    have hS2 := x_keep h0 hF hsub hS hL
    have hk2 := kk q t.heap (locs ++ L) la (l_after h0 hF hP hD hP') (va_D_fst hs hD) hS2 hla
    have ho : vx_W p l e R s m args below meth c t.heap (locs ++ L) (k + mc) (n + ms) Q (F0 m pc la st) q := vx_catch (ce := ce) hG.2.2.2.1 pre x suf (hX.2.2.2.trans hsplit) (fun z hz => by
      obtain ⟨h1, nm, h2, h3⟩ := hpass z hz
      exact Or.inr ⟨h1, nm, hts _ h2, hX.2.2.1 _ h3⟩) hx h00 (hts _ hlink) (va_Nw.use rfl (hX.1.1 _ hcast)) hce hcv hcl hk2
    obtain ⟨t2, a1, b1⟩ := ho T' e1 X'
    exact ⟨t2, st9.trans a1, b1⟩
end VL
