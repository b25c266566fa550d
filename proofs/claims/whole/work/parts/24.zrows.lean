/-- the law's world: the class's object, the array, the reference's object -/
abbrev ZW : Type := LW × MW
def zcells (g : wG) (ad am : Nat → Nat) (w : ZW) : va_W := lcells g ad w.1 ++ mcells g am w.2
theorem zcells_fst (g : wG) (ad am : Nat → Nat) (w w' : ZW) : (zcells g ad am w').map Prod.fst = (zcells g ad am w).map Prod.fst := rfl
def vZ (s : State) (A : Nat → Prop) : Prop := nX s ∧ zX A s s.heap ∧ nC s
section VZ
variable {p : Program} {l : Launch} {e : Env} {R : Room} {s : State} {m : MethodId} {args : Array Value} {below : List Frame} {meth : Method} {c : Code} {A : Nat → Prop} {Q : State → Prop} {g : wG} {cc : ByteArray} {own : String} {nL : Nat}
variable {ws ws' ws0 wc wc' ext : va_W} {k n pc mc ms : Nat} {ls : List (Nat × Value)} {st : List Value} {o : Option Value} {ad am : Nat → Nat}
theorem v_sld (hG : vG p s m args meth c A g cc own nL) {b L : Nat} {xs : Nat → Int32} (hX : va_X b L xs s s.heap ∧ b < s.heap.size ∧ ¬ A b) {i x : Int32} (hin : vp_in i L) (hx : xs i.toNatClampNeg = x) (hd : decode cc pc = .ok (.iaload, 1)) (kk : V p l e R s m args below meth c A Q g nL ws k n (pc + 1) ls (.int x :: st)) : V p l e R s m args below meth c A Q g nL ws k n pc ls (.int i :: .ref b :: st) := fun H locs la hP hD hS hla => by
  subst hx
  exact va_sld hG.1 hG.2.1 hX.1 hX.2.1 hX.2.2 hS hin hd (kk H locs la hP hD hS hla)
theorem v_slen (hG : vG p s m args meth c A g cc own nL) {b L : Nat} {xs : Nat → Int32} (hX : va_X b L xs s s.heap ∧ b < s.heap.size ∧ ¬ A b) (hd : decode cc pc = .ok (.arraylength, 1)) (kk : V p l e R s m args below meth c A Q g nL ws k n (pc + 1) ls (.int (nI L) :: st)) : V p l e R s m args below meth c A Q g nL ws k n pc ls (.ref b :: st) := fun H locs la hP hD hS hla => va_slen hG.1 hG.2.1 hX.1 hX.2.1 hX.2.2 hS hd (kk H locs la hP hD hS hla)
theorem z_l_out (hG : vG p s m args meth c A g cc own nL) {w : ZW} {i : Int32} {α : Type} {inst : Decidable (inR i 1 = true)} {B : Option α} {o : α} (hd : decode cc pc = .ok (.laload, 1)) (hf : @ite _ (inR i 1 = true) inst B none = some o) (kk : B = some o → V p l e R s m args below meth c A Q g nL (zcells g ad am w) k n (pc + 1) ls (.long (w.1.2 i.toNatClampNeg) :: st)) : V p l e R s m args below meth c A Q g nL (zcells g ad am w) k n pc ls (.int i :: .ref (ad 73) :: st) := v_lald hG 73 rfl hd hf kk
/-- a method of the reference is called: its cells stand last -/
theorem z_callM (hG : vG p s m args meth c A g cc own nL) {y : MethodName} {bytes : ByteArray} {maxL nA index : Nat} {ret : Option FieldType} {rm : Room} {As : List Value} {stk : List Value} {lc : va_W} {mw mw' : MW} {cT : u_T} {cN : Nat} (hM : MetN l g y bytes maxL ret rm (.ref (am 0) :: As) (mcells g am mw) (mcells g am mw') o) (hw : iwd y bytes maxL ret nA) (hl : Cond.methodLink own index y ∈ gtbl) (hc : vwCl[9]? = some (y.cls, cT, cN)) (hR : rm.cells = 0 ∧ rm.slots = 0 ∧ rm.frames + 1 ≤ R.frames ∧ 8 + (maxL + 11) + rm.locals ≤ R.locals) (hk : k ≤ R.cells ∧ n ≤ R.slots) (hA : As.length = nA) (hst : stk = As.reverse ++ .ref (am 0) :: st) (hW : (st.map fun v => v.category).sum ≤ 8) (hd : decode cc pc = .ok (.invokevirtual index, 3)) (kk : V p l e R s m args below meth c A Q g nL (lc ++ mcells g am mw') k n (pc + 3) ls (o.toList ++ st)) : V p l e R s m args below meth c A Q g nL (lc ++ mcells g am mw) k n pc ls stk := fun H locs la hP hD hS hla => by
  obtain ⟨w1, w2, w3, w4, w5, w6⟩ := hw
  have hts := hG.2.2.1
  refine v_back (wc := mcells g am mw) (wc' := mcells g am mw') (ws := lc ++ mcells g am mw) (ws' := lc ++ mcells g am mw') (st := st) (va_runV (Ts := gtbl) (C := y.cls) (b := am 0) (As := As) (n := nA) (bytes := bytes) (maxL := maxL) (ret := ret) ⟨hG.1, hG.2.1, hG.2.2.2.2.2.2.1, hG.2.2.2.1, hts⟩ hM ⟨⟨hR.1, hR.2.1, hR.2.2.1, hR.2.2.2, gtbl_pay hts _ w4, List.mem_cons_self, hts _ w4, hts _ w3, w5, fun sig h => ?_, hts _ hl⟩, hts _ w1, hts _ w2⟩ ⟨PN_blind, va_recv (q0 := 0) (ci := 9) hG.2.2.2.2.1 (va_P_r hP) hc rfl, fun U hU hWm => ⟨rfl, by rw [hU]; exact va_P_r hP, va_K.moved hWm.alike hG.2.2.2.2.1, nW.warm hWm hG.2.2.2.2.2.1, (va_D_r hD).weaken (fun _ _ _ _ => trivial)⟩⟩ rfl hA hla.1 hst (lv_room hW) hd ⟨hk.1, hk.2⟩) (fun _ h => inW_r h) (fun H1 h1 h2 => va_P.app (va_P_off (va_P_l hP) h2 (fun q h3 h4 => va_D_x hD h3 h4)) h1) (by rw [List.map_append, List.map_append, mcells_fst]) hD hS hla kk
  rw [h] at w6
  exact (Option.some.inj w6).symm
/-- a method of the class that throws nothing: its cells stand first -/
theorem z_callC (hG : vG p s m args meth c A g cc own nL) {y : MethodName} {bytes : ByteArray} {maxL nA index b : Nat} {ret : Option FieldType} {rm : Room} {As : List Value} {stk : List Value} (q0 ci : Nat) {fs : List Value} {cT : u_T} {cN : Nat} (hM : MetN l g y bytes maxL ret rm (.ref b :: As) wc wc' o) (hw : iwd y bytes maxL ret nA) (hl : Cond.methodLink own index y ∈ gtbl) (he : wc[q0]? = some (b, .inr (ci, fs))) (hc : vwCl[ci]? = some (y.cls, cT, cN)) (hR : rm.cells = 0 ∧ rm.slots = 0 ∧ rm.frames + 1 ≤ R.frames ∧ 8 + (maxL + 11) + rm.locals ≤ R.locals) (hk : k ≤ R.cells ∧ n ≤ R.slots) (hA : As.length = nA) (hst : stk = As.reverse ++ .ref b :: st) (hW : (st.map fun v => v.category).sum ≤ 8) (hs : (wc' ++ ext).map Prod.fst = (wc ++ ext).map Prod.fst) (hd : decode cc pc = .ok (.invokevirtual index, 3)) (kk : V p l e R s m args below meth c A Q g nL (wc' ++ ext) k n (pc + 3) ls (o.toList ++ st)) : V p l e R s m args below meth c A Q g nL (wc ++ ext) k n pc ls stk := fun H locs la hP hD hS hla => by
  obtain ⟨w1, w2, w3, w4, w5, w6⟩ := hw
  have hts := hG.2.2.1
  refine v_back (wc := wc) (wc' := wc') (ws := wc ++ ext) (ws' := wc' ++ ext) (st := st) (va_runV (Ts := gtbl) (C := y.cls) (b := b) (As := As) (n := nA) (bytes := bytes) (maxL := maxL) (ret := ret) ⟨hG.1, hG.2.1, hG.2.2.2.2.2.2.1, hG.2.2.2.1, hts⟩ hM ⟨⟨hR.1, hR.2.1, hR.2.2.1, hR.2.2.2, gtbl_pay hts _ w4, List.mem_cons_self, hts _ w4, hts _ w3, w5, fun sig h => ?_, hts _ hl⟩, hts _ w1, hts _ w2⟩ ⟨PN_blind, va_recv (q0 := q0) (ci := ci) hG.2.2.2.2.1 (va_P_l hP) hc he, fun U hU hWm => ⟨rfl, by rw [hU]; exact va_P_l hP, va_K.moved hWm.alike hG.2.2.2.2.1, nW.warm hWm hG.2.2.2.2.2.1, (va_D_l hD).weaken (fun _ _ _ _ => trivial)⟩⟩ rfl hA hla.1 hst (lv_room hW) hd ⟨hk.1, hk.2⟩) (fun _ h => inW_l h) (fun H1 h1 h2 => va_P.app h1 (va_P_off (va_P_r hP) h2 (fun q h3 h4 => va_D_x hD h4 h3))) hs hD hS hla kk
  rw [h] at w6
  exact (Option.some.inj w6).symm
/-- a wrapper is called -/
def wwd (y : MethodName) (cc : ByteArray) (maxL : Nat) (ret : Option FieldType) (hh : List (Nat × Nat × Nat × Nat)) (n : Nat) : Prop :=
  Cond.static y ∈ gtbl ∧ Cond.initialized y.cls ∈ gtbl ∧ Cond.codeWith y cc maxL ret hh ∈ gtbl ∧ (y.cls ≠ "java/lang/invoke/MethodHandle" ∧ y.cls ≠ "java/lang/invoke/VarHandle") ∧ (parseMethodDescriptor y.desc).map (fun d => d.parameters.length) = some n
theorem z_callW (hG : vG p s m args meth c A g cc own nL) (hZ : vZ s A) {y : MethodName} {bytes : ByteArray} {maxL nA index : Nat} {ret : Option FieldType} {hh : List (Nat × Nat × Nat × Nat)} {rm : Room} {As : List Value} {stk : List Value} (hM : MetL l g y bytes maxL ret hh rm As wc wc' o mc ms) (hw : wwd y bytes maxL ret hh nA) (hl : Cond.methodLink own index y ∈ gtbl) (hR : rm.cells = mc ∧ rm.slots = ms ∧ rm.frames + 1 ≤ R.frames ∧ 8 + (maxL + 11) + rm.locals ≤ R.locals) (hk : k + mc ≤ R.cells ∧ n + ms ≤ R.slots) (hA : As.length = nA) (hst : stk = As.reverse ++ st) (hW : (st.map fun v => v.category).sum ≤ 8) (hs : (wc' ++ ext).map Prod.fst = (wc ++ ext).map Prod.fst) (hd : decode cc pc = .ok (.invokestatic index, 3)) (kk : V p l e R s m args below meth c A Q g nL (wc' ++ ext) (k + mc) (n + ms) (pc + 3) ls (o.toList ++ st)) : V p l e R s m args below meth c A Q g nL (wc ++ ext) k n pc ls stk := fun H locs la hP hD hS hla => by
  obtain ⟨w1, w3, w4, w5, w6⟩ := hw
  have hts := hG.2.2.1
  have hsub : ∀ q, inW wc q → A q := fun q h => by obtain ⟨k9, e9, h9⟩ := inW_l (b := ext) h; exact hD.2 k9 _ h9
  have hr : va_Run p l e R s m args below meth c H locs k n mc ms (F0 m pc la stk) st (QN g wc wc' o As.toArray) (inW wc) := by
    refine vx_runSW (Ts := gtbl) (As := As) (n := nA) (bytes := bytes) (maxL := maxL) (ret := ret) (hh := hh) ⟨hG.1, hG.2.1, hG.2.2.2.2.2.2.1, hG.2.2.2.1, hts⟩ hM ⟨⟨hR.1, hR.2.1, hR.2.2.1, hR.2.2.2, gtbl_pay hts _ w4, List.mem_cons_self⟩, hts _ w4, hts _ w3, w5, fun sig h => ?_, hts _ hl, hts _ w1⟩ ⟨PL_blind, fun U hU hWm => ⟨rfl, by rw [hU]; exact va_P_l hP, va_K.moved hWm.alike hG.2.2.2.2.1, nW.warm hWm hG.2.2.2.2.2.1, (va_D_l hD).weaken (fun _ _ _ _ => trivial), nX.warm hWm hZ.1, ?_, nC.moved hWm.alike hZ.2.2⟩⟩ rfl hA hla.1 hst (lv_room hW) hd hk
    · rw [h] at w6
      exact (Option.some.inj w6).symm
    · rw [hU]
      exact zX.narrow (zX.moved hWm.alike (hZ.2.1.kept hS.2.1)) hsub
  intro T hT X
  obtain ⟨v, st0, t, T', L, h0, X', hL, e1, e2, ⟨ho, hP', hF⟩, go⟩ := hr T hT X
  cases ho
  obtain ⟨t2, a1, b1⟩ := kk t.heap (locs ++ L) la (l_after h0 hF hP hD hP') (va_D_fst hs hD) (x_keep h0 hF hsub hS hL) hla T' e1 X'
  exact ⟨t2, go t2 a1, b1⟩
end VZ
