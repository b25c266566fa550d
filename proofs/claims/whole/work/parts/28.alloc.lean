def nA (U : State) : Prop := ∀ a : Array Value, (Cond.arrayOver (.array .long)).before a U = true
theorem nA.warm {s U : State} (hW : s.WarmedH U.vm) (h : nA s) : nA U := fun a => by
  have h1 : (Cond.arrayOver (.array .long)).before a U = (Cond.arrayOver (.array .long)).before a (s.setVm U.vm) := rfl
  rw [h1, Cond.arrayOver_setVmC hW.alike]
  exact h a
theorem nA.same {u U : State} (hv : u.vm = U.vm) (h : nA u) : nA U := nA.warm (by rw [← hv]; exact State.WarmedH.refl u) h
/-- what a walk that allocates knows beside vG -/
def vI (s : State) (A : Nat → Prop) : Prop := (∀ q, s.heap.size ≤ q → A q) ∧ nA s
def mxo (r : Nat → Nat) : Nat → Option Nat := fun i => if i < 12 then some (r i) else none
theorem mxo_eq {r r' : Nat → Nat} (h : ∀ i, i < 12 → r i = r' i) : mxo r = mxo r' := by
  funext i
  unfold mxo
  by_cases hi : i < 12
  · rw [if_pos hi, if_pos hi, h i hi]
  · rw [if_neg hi, if_neg hi]
section VA
variable {p : Program} {l : Launch} {e : Env} {R : Room} {s : State} {m : MethodId} {args : Array Value} {below : List Frame} {meth : Method} {c : Code} {A : Nat → Prop} {Q : State → Prop} {g : wG} {cc : ByteArray} {own : String} {nL : Nat}
variable {ws ws' ws0 : va_W} {k n pc mc ms : Nat} {ls : List (Nat × Value)} {st : List Value}
theorem v_new (hG : vG p s m args meth c A g cc own nL) (hI : vI s A) {C : String} {T : u_T} {N ci index : Nat} (ty : Nat → FieldType) (fs : List Value) (hin : ∀ w ∈ u_ws C T N, w ∈ gtbl) (hty : ∀ k, k < N → parseFieldDescriptor (T k).2.2.1 = some (ty k)) (h1 : Cond.classLink own index C ∈ gtbl) (h2 : Cond.instantiable C N ∈ gtbl) (h3 : Cond.initialized C ∈ gtbl) (hc : vwCl[ci]? = some (C, T, N)) (hfs : ∀ j, j < N → defaultValue (ty j) = vp_V fs j) (hk : k + 1 ≤ R.cells ∧ n + N ≤ R.slots) (hd : decode cc pc = .ok (.new index, 3)) (kk : ∀ q : Nat, V p l e R s m args below meth c A Q g nL (ws ++ [(q, .inr (ci, fs))]) (k + 1) (n + N) (pc + 3) ls (.ref q :: st)) : V p l e R s m args below meth c A Q g nL ws k n pc ls st := fun H locs la hP hD hS hla =>
  va_new (T := T) (N := N) (ci := ci) hG.1 hG.2.1 hG.2.2.1 hin ty hty hG.2.2.2.1 (hG.2.2.1 _ h1) (hG.2.2.1 _ h2) (hG.2.2.1 _ h3) hG.2.2.2.2.1 hP hD hS hI.1 hc hfs hk.1 hk.2 hd (fun q H1 hP hD hS => kk q H1 locs la hP hD hS hla)
theorem v_newI (hG : vG p s m args meth c A g cc own nL) (hI : vI s A) (N' : Nat) {x : Int32} (hw : Cond.arrayClass .int ∈ gtbl) (hn : ¬ x < 0) (hN : x.toNatClampNeg = N') (hb : N' * componentBytes .int ≤ 536870912) (hk : k + 1 ≤ R.cells ∧ n + N' ≤ R.slots) (hd : decode cc pc = .ok (.newarray .int, 2)) (kk : ∀ q : Nat, V p l e R s m args below meth c A Q g nL (ws ++ [(q, .inl (g.2.1, N', .inl (fun _ => 0)))]) (k + 1) (n + N') (pc + 2) ls (.ref q :: st)) : V p l e R s m args below meth c A Q g nL ws k n pc ls (.int x :: st) := fun H locs la hP hD hS hla =>
  va_newa (atype := .int) (ty := .int) (N' := N') (a0 := (N', .inl (fun _ => 0))) hG.1 hG.2.1 (hG.2.2.1 _ hw) rfl hG.2.2.2.2.1 hP hD hS hI.1 (fun _ => rfl) hn hN hb hk.1 hk.2 hd (fun q cA H1 hK2 hP hD hS => by
    have e1 : s.vm.findClass ("[" ++ (FieldType.int : FieldType).toString) = some cA := (hK2.2 4 _ rfl).2
    have e2 : s.vm.findClass ("[" ++ (FieldType.int : FieldType).toString) = some g.2.1 := (hG.2.2.2.2.1.2 0 _ rfl).2
    have e3 : cA = g.2.1 := Option.some.inj (e1.symm.trans e2)
    subst e3
    exact kk q H1 locs la hP hD hS hla)
theorem v_newL (hG : vG p s m args meth c A g cc own nL) (hI : vI s A) (N' : Nat) {x : Int32} (hw : Cond.arrayClass .long ∈ gtbl) (hn : ¬ x < 0) (hN : x.toNatClampNeg = N') (hb : N' * componentBytes .long ≤ 536870912) (hk : k + 1 ≤ R.cells ∧ n + N' ≤ R.slots) (hd : decode cc pc = .ok (.newarray .long, 2)) (kk : ∀ q : Nat, V p l e R s m args below meth c A Q g nL (ws ++ [(q, .inl (g.2.2.1, N', .inr (.inl (fun _ => 0))))]) (k + 1) (n + N') (pc + 2) ls (.ref q :: st)) : V p l e R s m args below meth c A Q g nL ws k n pc ls (.int x :: st) := fun H locs la hP hD hS hla =>
  va_newa (atype := .long) (ty := .long) (N' := N') (a0 := (N', .inr (.inl (fun _ => 0)))) hG.1 hG.2.1 (hG.2.2.1 _ hw) rfl hG.2.2.2.2.1 hP hD hS hI.1 (fun _ => rfl) hn hN hb hk.1 hk.2 hd (fun q cA H1 hK2 hP hD hS => by
    have e1 : s.vm.findClass ("[" ++ (FieldType.long : FieldType).toString) = some cA := (hK2.2 4 _ rfl).2
    have e2 : s.vm.findClass ("[" ++ (FieldType.long : FieldType).toString) = some g.2.2.1 := (hG.2.2.2.2.1.2 1 _ rfl).2
    have e3 : cA = g.2.2.1 := Option.some.inj (e1.symm.trans e2)
    subst e3
    exact kk q H1 locs la hP hD hS hla)
theorem v_newZ (hG : vG p s m args meth c A g cc own nL) (hI : vI s A) (N' : Nat) {x : Int32} (hw : Cond.arrayClass .boolean ∈ gtbl) (hn : ¬ x < 0) (hN : x.toNatClampNeg = N') (hb : N' * componentBytes .boolean ≤ 536870912) (hk : k + 1 ≤ R.cells ∧ n + N' ≤ R.slots) (hd : decode cc pc = .ok (.newarray .boolean, 2)) (kk : ∀ q : Nat, V p l e R s m args below meth c A Q g nL (ws ++ [(q, .inl (g.2.2.2.1, N', .inl (fun _ => 0)))]) (k + 1) (n + N') (pc + 2) ls (.ref q :: st)) : V p l e R s m args below meth c A Q g nL ws k n pc ls (.int x :: st) := fun H locs la hP hD hS hla =>
  va_newa (atype := .boolean) (ty := .boolean) (N' := N') (a0 := (N', .inl (fun _ => 0))) hG.1 hG.2.1 (hG.2.2.1 _ hw) rfl hG.2.2.2.2.1 hP hD hS hI.1 (fun _ => rfl) hn hN hb hk.1 hk.2 hd (fun q cA H1 hK2 hP hD hS => by
    have e1 : s.vm.findClass ("[" ++ (FieldType.boolean : FieldType).toString) = some cA := (hK2.2 4 _ rfl).2
    have e2 : s.vm.findClass ("[" ++ (FieldType.boolean : FieldType).toString) = some g.2.2.2.1 := (hG.2.2.2.2.1.2 2 _ rfl).2
    have e3 : cA = g.2.2.2.1 := Option.some.inj (e1.symm.trans e2)
    subst e3
    exact kk q H1 locs la hP hD hS hla)
theorem vr_outer (c : ClassId) (N h0 : Nat) : ∀ i : Nat, Jvm.Free.Multi.outerC c N h0 i = arrV c N (fun j => va_rf (if j < i then some (h0 + 1 + j) else none))
  | 0 => by
    show ({ cls := c, slots := Array.replicate N .null, vm := .none } : Cell) = _
    rw [arrV_new]
    refine congrArg (arrV c N) (funext fun j => ?_)
    simp [va_rf]
  | i + 1 => by
    show (Jvm.Free.Multi.outerC c N h0 i).setSlot i (.ref (h0 + 1 + i)) = _
    rw [vr_outer c N h0 i, arrV_store]
    refine congrArg (arrV c N) (funext fun j => ?_)
    by_cases e : j = i
    · subst e
      simp [updV, va_rf]
    · by_cases h : j < i
      · simp [updV, e, h, Nat.lt_succ_of_lt h]
      · simp [updV, e, h, show ¬ j < i + 1 by omega]
theorem v_mna (hG : vG p s m args meth c A g cc own nL) (hI : vI s A) {index : Nat} {x0 : Int32} (hx0 : ¬ x0 < 0) (hN : x0.toNatClampNeg = 12) (h1 : Cond.classLink own index "[[J" ∈ gtbl) (h2 : Cond.arrayClass .long ∈ gtbl) (hk : k + 13 ≤ R.cells ∧ n + 156 ≤ R.slots) (hd : decode cc pc = .ok (.multianewarray index 2, 4)) (kk : ∀ (q : Nat) (r : Nat → Nat), V p l e R s m args below meth c A Q g nL (ws ++ ((q, .inl (g.2.2.2.2, 12, .inr (.inr (.inr (.inr (mxo r)))))) :: [0, 1, 2, 3, 4, 5, 6, 7, 8, 9, 10, 11].map (fun i => (r i, .inl (g.2.2.1, 12, .inr (.inl (fun _ => 0))))))) (k + 13) (n + 156) (pc + 4) ls (.ref q :: st)) : V p l e R s m args below meth c A Q g nL ws k n pc ls (.int x0 :: .int x0 :: st) := fun H locs la hP hD hS hla => by
  intro T hT Xs
  obtain ⟨vm₁, cA, comp, -, fA, fC, hO, -, X', step⟩ := Xs.multianewarray2F (ty := .long) hG.1 hG.2.2.2.1 (hG.2.2.1 _ h1) (hI.2 _) (hG.2.2.1 _ h2) (g := F0 m pc la (.int x0 :: .int x0 :: st)) rfl (by rw [hG.2.1]; exact hd) rfl hx0 hx0 (by rw [hN]; decide) (by rw [hN]; decide) (by rw [hN]; decide) (by decide) (by decide) (by rw [hN]; exact hk.1) (by rw [hN]; exact hk.2)
  rw [hN] at X' step
  have e2 : s.vm.findClass ("[" ++ FieldType.long.toString) = some g.2.2.1 := (hG.2.2.2.2.1.2 1 _ rfl).2
  have ec : g.2.2.1 = comp := Option.some.inj (e2.symm.trans fC)
  have e4 : s.vm.findClass ("[" ++ (FieldType.array .long).toString) = some g.2.2.2.2 := (hG.2.2.2.2.1.2 3 _ rfl).2
  have ea : g.2.2.2.2 = cA := Option.some.inj (e4.symm.trans fA)
  subst ec
  subst ea
  generalize hF : Jvm.Free.Multi.fill (T.setVm vm₁) g.2.2.2.2 g.2.2.1 12 12 (defaultValue .long) 12 = F at X' step
  have hTh : (T.setVm vm₁).heap = H := hT
  obtain ⟨f1, f2, -, -⟩ := Jvm.Free.Multi.fill_facts (T.setVm vm₁) g.2.2.2.2 g.2.2.1 12 12 (defaultValue .long) 12
  rw [hF, hTh] at f1 f2
  have hold : ∀ x : Nat, x < H.size → F.heap[x]? = H[x]? := fun x hx => by
    have := Jvm.Free.Multi.fill_old (T.setVm vm₁) g.2.2.2.2 g.2.2.1 12 12 (defaultValue .long) (a := x) (by rw [hTh]; exact hx) 12
    rw [hF, hTh] at this
    exact this
  have hz : Jvm.Free.Multi.innerC g.2.2.1 12 (defaultValue .long) = vp_cell g.2.2.1 (12, .inr (.inl (fun _ => 0))) := by
    show ({ cls := g.2.2.1, slots := Array.replicate 12 (.long 0), vm := .none } : Cell) = arrV g.2.2.1 12 (fun _ => .long 0)
    rw [arrV_new]
  have hrow : ∀ j : Nat, j < 12 → F.heap[H.size + 1 + j]? = some (vp_cell g.2.2.1 (12, .inr (.inl (fun _ => 0)))) := fun j hj => by
    have := Jvm.Free.Multi.fill_inner (T.setVm vm₁) g.2.2.2.2 g.2.2.1 12 12 (defaultValue .long) 12 j hj
    rw [hF, hTh, hz] at this
    exact this
  have hout : Jvm.Free.Multi.outerC g.2.2.2.2 12 H.size 12 = vp_cell g.2.2.2.2 (12, .inr (.inr (.inr (.inr (mxo (fun i => H.size + 1 + i)))))) := by
    rw [vp_cell_q]
    exact vr_outer g.2.2.2.2 12 H.size 12
  rw [hout] at f2
  have hP0 : va_P g.1 vwCl ws F.heap := hP.kept (fun k9 x hx => hold x.1 ((hP k9 x hx).lt))
  have hnew : ∀ (k9 : Nat) (x : Nat × va_E), ((H.size, .inl (g.2.2.2.2, 12, .inr (.inr (.inr (.inr (mxo (fun i => H.size + 1 + i))))))) :: [0, 1, 2, 3, 4, 5, 6, 7, 8, 9, 10, 11].map (fun i => ((H.size + 1 + i, .inl (g.2.2.1, 12, .inr (.inl (fun _ => 0)))) : Nat × va_E)) : va_W)[k9]? = some x → x.1 = H.size + k9 ∧ va_at g.1 vwCl x F.heap := fun k9 x hx => by
    match k9, hx with
    | 0, hx => cases hx; exact ⟨rfl, f2⟩
    | 1, hx => cases hx; exact ⟨by show H.size + 1 + 0 = H.size + (0 + 1); omega, hrow 0 (by decide)⟩
    | 2, hx => cases hx; exact ⟨by show H.size + 1 + 1 = H.size + (1 + 1); omega, hrow 1 (by decide)⟩
    | 3, hx => cases hx; exact ⟨by show H.size + 1 + 2 = H.size + (2 + 1); omega, hrow 2 (by decide)⟩
    | 4, hx => cases hx; exact ⟨by show H.size + 1 + 3 = H.size + (3 + 1); omega, hrow 3 (by decide)⟩
    | 5, hx => cases hx; exact ⟨by show H.size + 1 + 4 = H.size + (4 + 1); omega, hrow 4 (by decide)⟩
    | 6, hx => cases hx; exact ⟨by show H.size + 1 + 5 = H.size + (5 + 1); omega, hrow 5 (by decide)⟩
    | 7, hx => cases hx; exact ⟨by show H.size + 1 + 6 = H.size + (6 + 1); omega, hrow 6 (by decide)⟩
    | 8, hx => cases hx; exact ⟨by show H.size + 1 + 7 = H.size + (7 + 1); omega, hrow 7 (by decide)⟩
    | 9, hx => cases hx; exact ⟨by show H.size + 1 + 8 = H.size + (8 + 1); omega, hrow 8 (by decide)⟩
    | 10, hx => cases hx; exact ⟨by show H.size + 1 + 9 = H.size + (9 + 1); omega, hrow 9 (by decide)⟩
    | 11, hx => cases hx; exact ⟨by show H.size + 1 + 10 = H.size + (10 + 1); omega, hrow 10 (by decide)⟩
    | 12, hx => cases hx; exact ⟨by show H.size + 1 + 11 = H.size + (11 + 1); omega, hrow 11 (by decide)⟩
    | i + 13, hx => exact absurd hx (by simp)
  have hP2 := hP0.app (fun k9 x hx => (hnew k9 x hx).2)
  have hD2 : va_D A (ws ++ ((H.size, .inl (g.2.2.2.2, 12, .inr (.inr (.inr (.inr (mxo (fun i => H.size + 1 + i))))))) :: [0, 1, 2, 3, 4, 5, 6, 7, 8, 9, 10, 11].map (fun i => ((H.size + 1 + i, .inl (g.2.2.1, 12, .inr (.inl (fun _ => 0)))) : Nat × va_E)))) := by
    generalize ((H.size, .inl (g.2.2.2.2, 12, .inr (.inr (.inr (.inr (mxo (fun i => H.size + 1 + i))))))) :: [0, 1, 2, 3, 4, 5, 6, 7, 8, 9, 10, 11].map (fun i => ((H.size + 1 + i, .inl (g.2.2.1, 12, .inr (.inl (fun _ => 0)))) : Nat × va_E)) : va_W) = W1 at hnew ⊢
    refine ⟨fun i j x y hi hj hxy => ?_, fun k9 x hx => ?_⟩
    · by_cases h1 : i < ws.length <;> by_cases h2 : j < ws.length
      · rw [List.getElem?_append_left h1] at hi
        rw [List.getElem?_append_left h2] at hj
        exact hD.1 i j x y hi hj hxy
      · rw [List.getElem?_append_left h1] at hi
        rw [List.getElem?_append_right (by omega)] at hj
        have := (hP _ _ hi).lt
        have := (hnew _ _ hj).1
        omega
      · rw [List.getElem?_append_right (by omega)] at hi
        rw [List.getElem?_append_left h2] at hj
        have := (hP _ _ hj).lt
        have := (hnew _ _ hi).1
        omega
      · rw [List.getElem?_append_right (by omega)] at hi hj
        have := (hnew _ _ hi).1
        have := (hnew _ _ hj).1
        omega
    · by_cases h1 : k9 < ws.length
      · rw [List.getElem?_append_left h1] at hx
        exact hD.2 k9 x hx
      · rw [List.getElem?_append_right (by omega)] at hx
        have := (hnew _ _ hx).1
        exact hI.1 _ (by have := hS.1; omega)
  obtain ⟨t, a1, b1⟩ := kk H.size (fun i => H.size + 1 + i) F.heap locs la hP2 hD2 ⟨by rw [f1]; have := hS.1; omega, fun x h1 h2 => (hold x (Nat.lt_of_lt_of_le h1 hS.1)).trans (hS.2.1 x h1 h2), hS.2.2⟩ hla F rfl X'
  refine ⟨t, step t ?_, b1⟩
  have e : T.heap.size = H.size := by rw [hT]
  rw [e]
  exact a1
theorem v_pick (idx : List Nat) (ws9 : va_W) (h : idx.map (fun i => ws[i]?) = ws9.map some) (hn : idx.Nodup) (kk : V p l e R s m args below meth c A Q g nL ws9 k n pc ls st) : V p l e R s m args below meth c A Q g nL ws k n pc ls st := fun H locs la hP hD hS hla => by
  have hat : ∀ (k9 : Nat) (x : Nat × va_E), ws9[k9]? = some x → ∃ i, idx[k9]? = some i ∧ ws[i]? = some x := fun k9 x hx => by
    have h1 : (ws9.map some)[k9]? = some (some x) := by rw [List.getElem?_map, hx]; rfl
    rw [← h, List.getElem?_map] at h1
    cases hi : idx[k9]? with
    | none => rw [hi] at h1; cases h1
    | some i => rw [hi] at h1; exact ⟨i, rfl, Option.some.inj h1⟩
  refine kk H locs la (fun k9 x hx => ?_) ⟨fun i j x y hi hj hxy => ?_, fun k9 x hx => ?_⟩ hS hla
  · obtain ⟨i, -, h2⟩ := hat k9 x hx
    exact hP i x h2
  · obtain ⟨i1, a1, a2⟩ := hat i x hi
    obtain ⟨j1, b1, b2⟩ := hat j y hj
    have hij := hD.1 i1 j1 x y a2 b2 hxy
    subst hij
    obtain ⟨l1, c1⟩ := List.getElem?_eq_some_iff.mp a1
    obtain ⟨l2, c2⟩ := List.getElem?_eq_some_iff.mp b1
    exact (List.getElem?_inj l1 hn).mp (a1.trans b1.symm)
  · obtain ⟨i, -, h2⟩ := hat k9 x hx
    exact hD.2 i x h2
theorem v_putF (hG : vG p s m args meth c A g cc own nL) (hin2 : meth.name = "<init>") {C nm ds : String} {T : u_T} {N ci index a : Nat} (q0 kf : Nat) {fs : List Value} {v : Value} (ws' : va_W) (hin : ∀ w ∈ u_ws C T N, w ∈ gtbl) (ty0 : Nat → FieldType) (hty : ∀ k, k < N → parseFieldDescriptor (T k).2.2.1 = some (ty0 k)) (hnm : ∀ a, a < N → ∀ b, b < N → a ≠ b → (T a).2.1 ≠ (T b).2.1) (he : ws[q0]? = some (a, .inr (ci, fs))) (hc : vwCl[ci]? = some (C, T, N)) (hk : kf < N) (hT : T kf = (own, nm, ds, true)) (hw : Cond.fieldLink own index own nm ds ∈ gtbl) (hn : narrow (ty0 kf) v = v) (hfit : fits (ty0 kf) v = true) (hl : kf < fs.length) (hs : ws.set q0 (a, .inr (ci, fs.set kf v)) = ws') (hd : decode cc pc = .ok (.putfield index, 3)) (kk : V p l e R s m args below meth c A Q g nL ws' k n (pc + 3) ls st) : V p l e R s m args below meth c A Q g nL ws k n pc ls (v :: .ref a :: st) := fun H locs la hP hD hS hla => by
  subst hs
  have e1 : (T kf).1 = own := by rw [hT]
  have e2 : (T kf).2.1 = nm := by rw [hT]
  have e3 : (T kf).2.2.1 = ds := by rw [hT]
  have hw2 : Cond.fieldLink own index own (T kf).2.1 (T kf).2.2.1 ∈ gtbl := by rw [e2, e3]; exact hw
  refine va_putF (ref := own) (ty := ty0 kf) hG.1 hG.2.1 hG.2.2.1 hin ty0 hty hnm hG.2.2.2.1 hG.2.2.2.2.1 hP hD hS q0 he hc kf hk (hG.2.2.1 _ hw2) (fun x hx => by rw [e1] at hx; exact hx) (by rw [hT]) hin2 e1 (hty kf hk) hn hfit hl hd (fun H1 locs1 hP hD hS => kk H1 locs1 la hP hD hS hla)
theorem v_objI (hG : vG p s m args meth c A g cc own nL) {index a : Nat} (h1 : Cond.methodLink own index objectInit ∈ gtbl) (h2 : Cond.instanceMethod objectInit ∈ gtbl) (h3 : Cond.code objectInit ⟨#[0xb1]⟩ 1 none ∈ gtbl) (hR : 1 ≤ R.frames ∧ (st.map fun v => v.category).sum + 12 ≤ R.locals) (hd : decode cc pc = .ok (.invokespecial index, 3)) (kk : V p l e R s m args below meth c A Q g nL ws k n (pc + 3) ls st) : V p l e R s m args below meth c A Q g nL ws k n pc ls (.ref a :: st) := fun H locs la hP hD hS hla =>
  W.objInit hG.1 hG.2.1 hG.2.2.2.1 (hG.2.2.1 _ h1) (hG.2.2.1 _ h2) (hG.2.2.1 _ h3) rfl (by rw [hG.2.2.2.2.2.2.1]; exact hla.1) rfl hd hR.1 (by
    have h9 : 2 * (F0 m pc la (.ref a :: st)).monitorRoom = 0 := rfl
    have h8 := hR.2
    omega) (kk H locs la hP hD hS hla)
/-- the contract of a constructor: the world before, the world behind (r: what was made), its cells and slots -/
def QC (g : wG) (ws : va_W) (sz : Nat) (F : (Nat → Nat) → va_W) : Array Value → State → Outcome → State → Prop := fun _ st oc t => oc = .returned none ∧ (∃ r : Nat → Nat, va_P g.1 vwCl (F r) t.heap ∧ va_D (fun q => inW ws q ∨ sz ≤ q) (F r)) ∧ va_F (inW ws) st t
def PC (g : wG) (av : List Value) (ws : va_W) (sz : Nat) : Array Value → State → Prop := va_Pc av (fun U => U.heap.size = sz ∧ va_P g.1 vwCl ws U.heap ∧ va_K g.1 vwCl (tysOf g) U ∧ nW U ∧ nA U ∧ va_D (fun _ => True) ws)
def MetC (l : Launch) (g : wG) (y : MethodName) (cc : ByteArray) (maxL : Nat) (rm : Room) (av : List Value) (ws : va_W) (sz : Nat) (F : (Nat → Nat) → va_W) (mc ms : Nat) : Prop :=
  Met l y (Cond.code y cc maxL none :: gtbl) rm (PC g av ws sz) (QC g ws sz F) mc ms (fun q => inW ws q ∨ sz ≤ q)
theorem PC_blind {av : List Value} {sz : Nat} : FrameBlind (PC g av ws sz) := fun a U gg mk q => by
  obtain ⟨q0, qs, qP, qK, qN, qA, qD⟩ := q
  exact ⟨q0, qs, qP, va_K.moved (u := U) (U := U.calling gg mk a) (Vm.Alike.refl U.vm) qK, nW.same (u := U) (U := U.calling gg mk a) rfl qN, nA.same (u := U) (U := U.calling gg mk a) rfl qA, qD⟩
def EC (below : List Frame) (args : Array Value) (s : State) (g : wG) (ws : va_W) (sz : Nat) (F : (Nat → Nat) → va_W) (mc ms : Nat) : State → Prop := MQ below (QC g ws sz F) args s mc ms (fun q => inW ws q ∨ sz ≤ q)
theorem MetC.of2 {y : MethodName} {maxL : Nat} {rm : Room} {av : List Value} {sz : Nat} {F : (Nat → Nat) → va_W} (ls0 : List (Nat × Value)) (hls : lv_args 0 av = ls0) (hy : plainFor y = true) (hlen : (lg_sl av).length ≤ maxL) (hn : y.name = "<init>")
    (body : ∀ (p : Program) (e : Env) (s : State) (m : MethodId) (args : Array Value) (below : List Frame) (meth : Method) (c : Code), s.heap.size = sz → vG p s m args meth c (fun q => inW ws q ∨ sz ≤ q) g cc y.cls maxL → meth.sig.returnType = none → meth.name = "<init>" → vI s (fun q => inW ws q ∨ sz ≤ q) → V p l e rm s m args below meth c (fun q => inW ws q ∨ sz ≤ q) (EC below args s g ws sz F mc ms) g maxL ws 0 0 0 ls0 []) : MetC l g y cc maxL rm av ws sz F mc ms := by
  subst hls
  refine va_MetF (cc := cc) (maxL := maxL) (ret := none) hy rfl ?_
  intro p e s m args below meth c s₁ B hml hv
  obtain ⟨rfl, hs, hP, hK, hN, hA, hD0⟩ := hv
  have hts := atoms_spec (ws := Cond.code y cc maxL none :: gtbl) B.pre
  have hv := body p e s m av.toArray below meth c hs ⟨B.exec, B.bytes, fun w hw => hts w (List.mem_cons_of_mem _ hw), findClass_of_methodNamed B.named, hK, hN, hml, B.notSynchronized⟩ B.returns ((name_of_methodNamed B.named B.method).1.trans hn) ⟨fun q hq => Or.inr (by rw [← hs]; exact hq), hA⟩
  rw [lg_entry_eq]
  exact hv s.heap [] _ hP ⟨hD0.1, fun k q hk => Or.inl ⟨k, q.2, hk⟩⟩ va_S.rf (lv_entry av hlen)
theorem v_cret {sz : Nat} {F : (Nat → Nat) → va_W} (hsz : s.heap.size = sz) (hG : vG p s m args meth c (fun q => inW ws0 q ∨ sz ≤ q) g cc own nL) (hr : meth.sig.returnType = none) (r : Nat → Nat) (hF : F r = ws) (hk : k ≤ mc ∧ n ≤ ms) (hd : decode cc pc = .ok (.return_, 1)) : V p l e R s m args below meth c (fun q => inW ws0 q ∨ sz ≤ q) (EC below args s g ws0 sz F mc ms) g nL ws k n pc ls [] := fun H locs la hP hD hS hla => by
  subst hF
  exact W.widen hk.1 hk.2 (W.vret hG.1 hG.2.1 hr (fun t ht _ => ⟨rfl, ⟨r, by rw [ht]; exact hP, hD⟩, by rw [ht]; exact hS.1, fun q h1 h2 => by rw [ht]; exact hS.2.1 q h1 (fun h => h.elim h2 (fun h => by omega))⟩) hS.2.2 hd hG.2.2.2.2.2.2.2)
/-- behind a constructor's call -/
theorem v_backC {X wc : va_W} {F : (Nat → Nat) → va_W} {H : Heap} {locs : List Loc} {la : Array Slot} {stk : List Value} {av : Array Value} (hI : vI s A) (hr : va_Run p l e R s m args below meth c H locs k n mc ms (F0 m pc la stk) st (QC g wc H.size F av) (fun q => inW wc q ∨ H.size ≤ q))
    (hP : va_P g.1 vwCl (X ++ wc) H) (hD : va_D A (X ++ wc)) (hS : va_S A s.heap H locs) (hla : lv_has la nL ls) (kk : ∀ r : Nat → Nat, V p l e R s m args below meth c A Q g nL (X ++ F r) (k + mc) (n + ms) (pc + 3) ls st) : W p l e R s m args below meth c H locs k n Q (F0 m pc la stk) := by
  intro T hT X0
  obtain ⟨v, st0, t, T', L, h0, X', hL, e1, e2, ⟨ho, ⟨r, hP', hD'⟩, hF⟩, go⟩ := hr T hT X0
  cases ho
  rw [va_F, h0] at hF
  have hXa : ∀ (k9 : Nat) (x : Nat × va_E), X[k9]? = some x → (X ++ wc)[k9]? = some x := fun k9 x hx => by
    rw [List.getElem?_append_left (List.getElem?_eq_some_iff.mp hx).1]; exact hx
  have hWa : ∀ (k9 : Nat) (x : Nat × va_E), wc[k9]? = some x → (X ++ wc)[X.length + k9]? = some x := fun k9 x hx => by
    rw [List.getElem?_append_right (by omega), show X.length + k9 - X.length = k9 by omega]; exact hx
  have hA : ∀ q, inW wc q ∨ H.size ≤ q → A q := fun q hq => by
    rcases hq with ⟨k9, e9, h9⟩ | hq
    · exact hD.2 _ _ (hWa k9 _ h9)
    · exact hI.1 q (Nat.le_trans hS.1 hq)
  have hXn : ∀ (k9 : Nat) (x : Nat × va_E), X[k9]? = some x → x.1 < H.size ∧ ¬ inW wc x.1 := fun k9 x hx => by
    refine ⟨(hP _ _ (hXa k9 x hx)).lt, fun ⟨j9, e9, h9⟩ => ?_⟩
    have h1 := hD.1 _ _ _ _ (hXa k9 x hx) (hWa j9 _ h9) rfl
    have h2 := (List.getElem?_eq_some_iff.mp hx).1
    omega
  have hP2 : va_P g.1 vwCl (X ++ F r) t.heap := by
    have hPX : va_P g.1 vwCl X t.heap := by
      have hP3 : va_P g.1 vwCl X H := fun k9 x hx => hP _ _ (hXa k9 x hx)
      exact hP3.kept (fun k9 x hx => hF.2 x.1 (hXn k9 x hx).1 (hXn k9 x hx).2)
    exact hPX.app hP'
  have hD2 : va_D A (X ++ F r) := by
    refine ⟨fun i j x y hi hj hxy => ?_, fun k9 x hx => ?_⟩
    · by_cases h1 : i < X.length <;> by_cases h2 : j < X.length
      · rw [List.getElem?_append_left h1] at hi
        rw [List.getElem?_append_left h2] at hj
        exact hD.1 i j x y (hXa _ _ hi) (hXa _ _ hj) hxy
      · rw [List.getElem?_append_left h1] at hi
        rw [List.getElem?_append_right (by omega)] at hj
        have h3 := hXn _ _ hi
        rcases hD'.2 _ _ hj with h4 | h4
        · rw [← hxy] at h4; exact absurd h4 h3.2
        · rw [← hxy] at h4; omega
      · rw [List.getElem?_append_right (by omega)] at hi
        rw [List.getElem?_append_left h2] at hj
        have h3 := hXn _ _ hj
        rcases hD'.2 _ _ hi with h4 | h4
        · rw [hxy] at h4; exact absurd h4 h3.2
        · rw [hxy] at h4; omega
      · rw [List.getElem?_append_right (by omega)] at hi hj
        have := hD'.1 _ _ _ _ hi hj hxy
        omega
    · by_cases h1 : k9 < X.length
      · rw [List.getElem?_append_left h1] at hx
        exact hD.2 _ _ (hXa _ _ hx)
      · rw [List.getElem?_append_right (by omega)] at hx
        exact hA _ (hD'.2 _ _ hx)
  obtain ⟨t2, a1, b1⟩ := kk r t.heap (locs ++ L) la hP2 hD2 ⟨Nat.le_trans hS.1 hF.1, fun q h1 h2 => (hF.2 q (Nat.lt_of_lt_of_le h1 hS.1) (fun z => h2 (hA q (Or.inl z)))).trans (hS.2.1 q h1 h2), fun q hq => by
    rcases List.mem_append.mp hq with h | h
    · exact hS.2.2 q h
    · exact hA _ (hL q h)⟩ hla T' e1 X'
  exact ⟨t2, go t2 a1, b1⟩
def cwd (y : MethodName) (cc : ByteArray) (maxL : Nat) (n : Nat) : Prop :=
  Cond.instanceMethod y ∈ gtbl ∧ Cond.initialized y.cls ∈ gtbl ∧ Cond.code y cc maxL none ∈ gtbl ∧ (y.cls ≠ "java/lang/invoke/MethodHandle" ∧ y.cls ≠ "java/lang/invoke/VarHandle") ∧ (parseMethodDescriptor y.desc).map (fun d => d.parameters.length) = some n ∧ y.name = "<init>"
theorem v_callI (hG : vG p s m args meth c A g cc own nL) (hI : vI s A) {y : MethodName} {bytes : ByteArray} {maxL nA0 index b : Nat} {rm : Room} {As : List Value} {stk : List Value} (X wc : va_W) (F : (Nat → Nat) → va_W) (hM : ∀ sz, MetC l g y bytes maxL rm (.ref b :: As) wc sz F mc ms) (hw : cwd y bytes maxL nA0) (hl : Cond.methodLink own index y ∈ gtbl) (hws : ws = X ++ wc) (hR : rm.cells = mc ∧ rm.slots = ms ∧ rm.frames + 1 ≤ R.frames ∧ 8 + (maxL + 11) + rm.locals ≤ R.locals) (hk : k + mc ≤ R.cells ∧ n + ms ≤ R.slots) (hAl : As.length = nA0) (hst : stk = As.reverse ++ .ref b :: st) (hW : (st.map fun v => v.category).sum ≤ 8) (hd : decode cc pc = .ok (.invokespecial index, 3)) (kk : ∀ r : Nat → Nat, V p l e R s m args below meth c A Q g nL (X ++ F r) (k + mc) (n + ms) (pc + 3) ls st) : V p l e R s m args below meth c A Q g nL ws k n pc ls stk := fun H locs la hP hD hS hla => by
  subst hws
  obtain ⟨w1, w3, w4, w5, w6, w7⟩ := hw
  have hts := hG.2.2.1
  have hPw : va_P g.1 vwCl wc H := fun k9 x hx => hP (X.length + k9) x (by rw [List.getElem?_append_right (by omega), show X.length + k9 - X.length = k9 by omega]; exact hx)
  have hDw : va_D (fun _ => True) wc := ⟨fun i j x y hi hj hxy => by
    have h9 := hD.1 (X.length + i) (X.length + j) x y (by rw [List.getElem?_append_right (by omega), show X.length + i - X.length = i by omega]; exact hi) (by rw [List.getElem?_append_right (by omega), show X.length + j - X.length = j by omega]; exact hj) hxy
    omega, fun _ _ _ => trivial⟩
  refine v_backC (st := st) hI (va_runI (Ts := gtbl) (b := b) (As := As) (n := nA0) (bytes := bytes) (maxL := maxL) ⟨hG.1, hG.2.1, hG.2.2.2.2.2.2.1, hG.2.2.2.1, hts⟩ (hM H.size) ⟨⟨hR.1, hR.2.1, hR.2.2.1, hR.2.2.2, gtbl_pay hts _ w4, List.mem_cons_self, hts _ w4, hts _ w3, w5, fun sig h => ?_, hts _ hl⟩, w7, hts _ w1⟩ ⟨PC_blind, fun U hU hWm => ⟨rfl, by rw [hU], by rw [hU]; exact hPw, va_K.moved hWm.alike hG.2.2.2.2.1, nW.warm hWm hG.2.2.2.2.2.1, nA.warm hWm hI.2, hDw⟩⟩ rfl hAl hla.1 hst (lv_room hW) hd hk) hP hD hS hla kk
  rw [h] at w6
  exact (Option.some.inj w6).symm
theorem v_callIN (hG : vG p s m args meth c A g cc own nL) (hI : vI s A) {y : MethodName} {bytes : ByteArray} {maxL nA0 index b : Nat} {rm : Room} {As : List Value} {stk : List Value} (X wc : va_W) (F : (Nat → Nat) → va_W) (hM : ∀ sz, MetC l g y bytes maxL rm (.ref b :: As) wc sz F mc ms) (hw : cwd y bytes maxL nA0) (hl : (own, index, y) ∈ nestWs) (hws : ws = X ++ wc) (hR : rm.cells = mc ∧ rm.slots = ms ∧ rm.frames + 1 ≤ R.frames ∧ 8 + (maxL + 11) + rm.locals ≤ R.locals) (hk : k + mc ≤ R.cells ∧ n + ms ≤ R.slots) (hAl : As.length = nA0) (hst : stk = As.reverse ++ .ref b :: st) (hW : (st.map fun v => v.category).sum ≤ 8) (hd : decode cc pc = .ok (.invokespecial index, 3)) (kk : ∀ r : Nat → Nat, V p l e R s m args below meth c A Q g nL (X ++ F r) (k + mc) (n + ms) (pc + 3) ls st) : V p l e R s m args below meth c A Q g nL ws k n pc ls stk := fun H locs la hP hD hS hla => by
  subst hws
  obtain ⟨w1, w3, w4, w5, w6, w7⟩ := hw
  have hts := hG.2.2.1
  have hPw : va_P g.1 vwCl wc H := fun k9 x hx => hP (X.length + k9) x (by rw [List.getElem?_append_right (by omega), show X.length + k9 - X.length = k9 by omega]; exact hx)
  have hDw : va_D (fun _ => True) wc := ⟨fun i j x y hi hj hxy => by
    have h9 := hD.1 (X.length + i) (X.length + j) x y (by rw [List.getElem?_append_right (by omega), show X.length + i - X.length = i by omega]; exact hi) (by rw [List.getElem?_append_right (by omega), show X.length + j - X.length = j by omega]; exact hj) hxy
    omega, fun _ _ _ => trivial⟩
  have hl9 : va_Nw (.methodLinkNest own index y RX8) s := hG.2.2.2.2.2.1 _ hl
  refine v_backC (st := st) hI (va_runIN (Ts := gtbl) (host := RX8) (b := b) (As := As) (n := nA0) (bytes := bytes) (maxL := maxL) ⟨hG.1, hG.2.1, hG.2.2.2.2.2.2.1, hG.2.2.2.1, hts⟩ (hM H.size) ⟨⟨⟨hR.1, hR.2.1, hR.2.2.1, hR.2.2.2, gtbl_pay hts _ w4, List.mem_cons_self⟩, hts _ w4, hts _ w3, w5, fun sig h => ?_, va_Nw.use rfl hl9⟩, w7, hts _ w1⟩ ⟨PC_blind, fun U hU hWm => ⟨rfl, by rw [hU], by rw [hU]; exact hPw, va_K.moved hWm.alike hG.2.2.2.2.1, nW.warm hWm hG.2.2.2.2.2.1, nA.warm hWm hI.2, hDw⟩⟩ rfl hAl hla.1 hst (lv_room hW) hd hk) hP hD hS hla kk
  rw [h] at w6
  exact (Option.some.inj w6).symm
end VA
