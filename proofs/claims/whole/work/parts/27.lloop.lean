/-! THE CLAIM OUT OF ONE WALK OF THE LAW'S BODY. Your part is whole_start (and what it stands on); all else here is the same for every law, but numbers. -/
def R_law : String := "RowPresolveLaw"
def lw_P (b : Addr) (xs : List Int32) (args : Array Value) (s : State) : Prop := args = #[.ref b] ∧ s.IntsAt b xs ∧ xs.length ≤ 2048 ∧ (Jvm.Cond.and given_1 narrow_1).before args s = true
def lw_Q (_ : Array Value) (s : State) (o : Outcome) (t : State) : Prop := o = .returned (some (.int 1)) ∧ Framed s o t [] 601024 7293034
def lw_Z (below : List Frame) (a : Array Value) (s : State) : State → Prop := fun t => ∃ o, t.status = .running ∧ Ended t below o ∧ lw_Q a s o t
/-- the law's own end, with 1 on the stack, nothing written that was there before, its room as the claim has it -/
theorem lw_ret {p : Program} {l : Launch} {e : Env} {s : State} {m : MethodId} {below : List Frame} {meth : Method} {c : Code} {b : Nat} (hx : p.tables.exec = Jvm.exec) (hb : c.code = code) (hr : meth.sig.returnType = ret) (hlocks : meth.locks = false) {pc : Nat} {H : Heap} {ls : Array Slot} (hdg : decode code pc = .ok (.ireturn, 1)) : W p l e room_1 s m #[Value.ref b] below meth c H [] 601024 7293034 (lw_Z below #[Value.ref b] s) (F0 m pc ls [.int 1]) := by
  intro T hT X
  obtain ⟨fs, hret, hrun, hended, hW, hframe⟩ := X.leave (v := some (.int 1)) (hlocks := hlocks) (fun h => by rw [hr] at h; cases h)
  have hmeth' : T.vm.method? m = some meth := X.method'
  refine ⟨T.setFrames fs, ?_, .returned (some (.int 1)), hrun, hended, rfl, ⟨_, rfl⟩, hW, hframe⟩
  jvm_step X.here [X.here.top, hx, hb, hdg, hmeth', hr, ret, narrow_b1]
  (try refine ⟨rfl, ?_⟩); (try refine ⟨rfl, ?_⟩)
  first | (intro acts; rw [hret _ acts rfl rfl rfl]) | rw [hret _ _ rfl rfl rfl]
  exact Steps.refl _
/-- what holds at the law's entry: the machine, the code, the tables' words (any of lw_tbl by 'hts w (by decide +kernel)'), the script of L ints xs at the cell b, what the Statement gives of the start (any of its parts by flat_of_before) -/
def lw_At (p : Program) (s : State) (m : MethodId) (meth : Method) (c : Code) (b L : Nat) (xs : Nat → Int32) : Prop :=
  p.tables.exec = Jvm.exec ∧ c.code = code ∧ meth.sig.returnType = ret ∧ c.maxLocals = 8 ∧ s.vm.findClass R_law = some m.cls ∧ (∀ w ∈ lw_tbl, w.before #[Value.ref b] s = true) ∧ va_X b L xs s s.heap ∧ b < s.heap.size ∧ meth.locks = false ∧ (Jvm.Cond.and given_1 narrow_1).before #[Value.ref b] s = true

def lawStep (x0 x1 x2 x3 : Int32) (w : ZW) : Option ZW := (if x0 &&& 31 = 0 then law_C0 x1 x2 x3 w else (if x0 &&& 31 = 1 then law_C1 x1 x2 x3 w else (if x0 &&& 31 = 2 then law_C2 x1 x2 x3 w else (if x0 &&& 31 = 3 then law_C3 x1 x2 x3 w else (if x0 &&& 31 = 4 then law_C4 x1 x2 x3 w else (if x0 &&& 31 = 5 then law_C5 x1 x2 x3 w else (if x0 &&& 31 = 6 then law_C6 x1 x2 x3 w else (if x0 &&& 31 = 7 then law_C7 x1 x2 x3 w else (if x0 &&& 31 = 8 then law_C8 x1 x2 x3 w else (if x0 &&& 31 = 9 then law_C9 x1 x2 x3 w else (if x0 &&& 31 = 10 then law_C10 x1 x2 x3 w else (if x0 &&& 31 = 11 then law_C11 x1 x2 x3 w else (if x0 &&& 31 = 12 then law_C12 x1 x2 x3 w else (if x0 &&& 31 = 13 then law_C13 x1 x2 x3 w else (if x0 &&& 31 = 14 then law_C14 x1 x2 x3 w else (if x0 &&& 31 = 15 then law_C15 x1 x2 x3 w else (if x0 &&& 31 = 16 then law_C16 x1 x2 x3 w else (if x0 &&& 31 = 17 then law_C17 x1 x2 x3 w else (if x0 &&& 31 = 18 then law_C18 x1 x2 x3 w else (if x0 &&& 31 = 19 then law_C19 x1 x2 x3 w else (if x0 &&& 31 = 20 then law_C20 x1 x2 x3 w else (if x0 &&& 31 = 21 then law_C21 x1 x2 x3 w else (if x0 &&& 31 = 22 then law_C22 x1 x2 x3 w else (if x0 &&& 31 = 23 then law_C23 x1 x2 x3 w else (if x0 &&& 31 = 24 then law_C24 x1 x2 x3 w else (if x0 &&& 31 = 25 then law_C25 x1 x2 x3 w else (if x0 &&& 31 = 26 then law_C26 x1 x2 x3 w else (if x0 &&& 31 = 27 then law_C27 x1 x2 x3 w else some w))))))))))))))))))))))))))))
def lawRun (xs : Nat → Int32) (L : Nat) : Nat → Nat → ZW → Option Unit
  | 0, _, _ => none
  | f + 1, j, w => if 4 * j + 4 ≤ L then (lawStep (xs (4 * j)) (xs (4 * j + 1)) (xs (4 * j + 2)) (xs (4 * j + 3)) w).bind (fun w' => lawRun xs L f (j + 1) w') else some ()
theorem ll_cond {L j : Nat} (hL : L ≤ 2048) (hj : j ≤ 512) : (nI L - 4 < nI (4 * j)) ↔ ¬ (4 * j + 4 ≤ L) := by
  have h4 : (4 : Int32) = nI 4 := rfl
  rw [h4, Int32.lt_iff_toInt_lt, pk_sub_toInt (by omega) (by omega), nI_toInt (by omega)]
  omega
theorem ll_28 {x : Int32} (h : 0 ≤ x.toInt ∧ x.toInt ≤ 27) : x = 0 ∨ x = 1 ∨ x = 2 ∨ x = 3 ∨ x = 4 ∨ x = 5 ∨ x = 6 ∨ x = 7 ∨ x = 8 ∨ x = 9 ∨ x = 10 ∨ x = 11 ∨ x = 12 ∨ x = 13 ∨ x = 14 ∨ x = 15 ∨ x = 16 ∨ x = 17 ∨ x = 18 ∨ x = 19 ∨ x = 20 ∨ x = 21 ∨ x = 22 ∨ x = 23 ∨ x = 24 ∨ x = 25 ∨ x = 26 ∨ x = 27 := by
  have hx : x = nI x.toInt.toNat := by
    rw [← Int32.toInt_inj, nI_toInt (by omega)]
    omega
  have hn : x.toInt.toNat < 28 := by omega
  generalize x.toInt.toNat = n at hx hn
  clear h
  subst hx
  revert hn
  revert n
  decide +kernel
set_option maxRecDepth 100000 in
set_option maxHeartbeats 4000000 in
theorem law_loop {p : Program} {l : Launch} {e : Env} {s : State} {m : MethodId} {below : List Frame} {meth : Method} {c : Code} {g : wG} {ad am : Nat → Nat} {b L : Nat} {xs : Nat → Int32} (hL : L ≤ 2048) (hl : l.stackTraces = false) (hr : meth.sig.returnType = ret) (hG : vG p s m #[Value.ref b] meth c (fun q : Nat => s.heap.size ≤ q) g cL_law RL 8) (hZ : vZ s (fun q : Nat => s.heap.size ≤ q)) (hX : va_X b L xs s s.heap ∧ b < s.heap.size ∧ ¬ (fun q : Nat => s.heap.size ≤ q) b) :
    ∀ (f j k n : Nat) (w : ZW), lawRun xs L f j w = some () → j ≤ 512 → k + 3 * (513 - j) ≤ room_1.cells ∧ n + 18 * (513 - j) ≤ room_1.slots → V p l e room_1 s m #[Value.ref b] below meth c (fun q : Nat => s.heap.size ≤ q) (lw_Z below #[Value.ref b] s) g 8 (zcells g ad am w) k n 23 [(0, .ref b), (1, .ref (ad 0)), (2, .ref (am 0)), (3, .ref (ad 73)), (4, .int (nI (4 * j)))] [] := by
  intro f
  induction f with
  | zero => intro j k n w hf; cases hf
  | succ f ih =>
    intro j k n w hf hj hk
    unfold lawRun at hf
    refine v_iload hG 4 rfl dL_law_23 ?_
    refine v_aload_n hG 0 rfl rfl dL_law_25 ?_
    refine v_slen hG hX dL_law_26 ?_
    refine v_iconst hG (v := 4) (by decide) dL_law_27 ?_
    refine v_isub hG dL_law_28 ?_
    by_cases hc : 4 * j + 4 ≤ L
    · rw [if_pos hc] at hf
      obtain ⟨w', hs, hf⟩ := bd_some hf
      have hif : (if nI L - 4 < nI (4 * j) then true else false) = false := if_neg (fun z => (ll_cond hL hj).mp z hc)
      refine v_icmp_gt hG 1749 dL_law_29 rfl hif (fun q => by cases q) (fun _ => ?_)
      have e0 : (nI (4 * j)).toNatClampNeg = 4 * j := nI_clamp (by omega)
      have e1 : (nI (4 * j) + 1).toNatClampNeg = 4 * j + 1 := by rw [show (1 : Int32) = nI 1 from rfl, nI_add, nI_clamp (by omega)]
      have e2 : (nI (4 * j) + 2).toNatClampNeg = 4 * j + 2 := by rw [show (2 : Int32) = nI 2 from rfl, nI_add, nI_clamp (by omega)]
      have e3 : (nI (4 * j) + 3).toNatClampNeg = 4 * j + 3 := by rw [show (3 : Int32) = nI 3 from rfl, nI_add, nI_clamp (by omega)]
      have h0 : vp_in (nI (4 * j)) L := vp_in_nI (by omega) (by omega)
      have h1 : vp_in (nI (4 * j) + 1) L := by rw [show (1 : Int32) = nI 1 from rfl, nI_add]; exact vp_in_nI (by omega) (by omega)
      have h2 : vp_in (nI (4 * j) + 2) L := by rw [show (2 : Int32) = nI 2 from rfl, nI_add]; exact vp_in_nI (by omega) (by omega)
      have h3 : vp_in (nI (4 * j) + 3) L := by rw [show (3 : Int32) = nI 3 from rfl, nI_add]; exact vp_in_nI (by omega) (by omega)
      have hkk : k + 3 ≤ room_1.cells ∧ n + 18 ≤ room_1.slots := ⟨by omega, by omega⟩
      have kk : V p l e room_1 s m #[Value.ref b] below meth c (fun q : Nat => s.heap.size ≤ q) (lw_Z below #[Value.ref b] s) g 8 (zcells g ad am w') (k + 3) (n + 18) 1743 [(0, .ref b), (1, .ref (ad 0)), (2, .ref (am 0)), (3, .ref (ad 73)), (4, .int (nI (4 * j)))] [] := by
        refine v_iinc hG 4 (v := nI (4 * (j + 1))) [(4, _), (0, _), (1, _), (2, _), (3, _)] dL_law_1743 rfl (by rw [show Int32.ofInt 4 = nI 4 from rfl, nI_add]; rfl) (by decide) rfl ?_
        refine v_goto hG 23 dL_law_1746 rfl ?_
        refine v_sub [(0, _), (1, _), (2, _), (3, _), (4, _)] [1, 2, 3, 4, 0] rfl ?_
        exact ih (j + 1) (k + 3) (n + 18) w' hf (by omega) ⟨by omega, by omega⟩
      refine v_aload_n hG 0 rfl rfl dL_law_32 ?_
      refine v_iload hG 4 rfl dL_law_33 ?_
      refine v_sld hG hX h0 (x := xs (4 * j)) (by rw [e0]) dL_law_35 ?_
      refine v_bipush hG (v := 31) (by decide) dL_law_36 ?_
      refine v_iand hG dL_law_38 ?_
      unfold lawStep at hs
      generalize xs (4 * j) &&& 31 = x at hs ⊢
      refine v_tswE hG 0 164 dL_law_39 (by decide) (by decide) rfl rfl hs (fun hs => lc_0 hl hG hZ hX (nI (4 * j)) (xs (4 * j + 1)) (xs (4 * j + 2)) (xs (4 * j + 3)) h1 h2 h3 (by rw [e1]) (by rw [e2]) (by rw [e3]) hkk w w' hs kk) (fun z0 hs => ?_)
      refine v_tswE hG 1 244 dL_law_39 (by decide) (by decide) rfl rfl hs (fun hs => lc_1 hl hG hZ hX (nI (4 * j)) (xs (4 * j + 1)) (xs (4 * j + 2)) (xs (4 * j + 3)) h1 h2 h3 (by rw [e1]) (by rw [e2]) (by rw [e3]) hkk w w' hs kk) (fun z1 hs => ?_)
      refine v_tswE hG 2 312 dL_law_39 (by decide) (by decide) rfl rfl hs (fun hs => lc_2 hl hG hZ hX (nI (4 * j)) (xs (4 * j + 1)) (xs (4 * j + 2)) (xs (4 * j + 3)) h1 h2 h3 (by rw [e1]) (by rw [e2]) (by rw [e3]) hkk w w' hs kk) (fun z2 hs => ?_)
      refine v_tswE hG 3 372 dL_law_39 (by decide) (by decide) rfl rfl hs (fun hs => lc_3 hl hG hZ hX (nI (4 * j)) (xs (4 * j + 1)) (xs (4 * j + 2)) (xs (4 * j + 3)) h1 h2 h3 (by rw [e1]) (by rw [e2]) (by rw [e3]) hkk w w' hs kk) (fun z3 hs => ?_)
      refine v_tswE hG 4 385 dL_law_39 (by decide) (by decide) rfl rfl hs (fun hs => lc_4 hl hG hZ hX (nI (4 * j)) (xs (4 * j + 1)) (xs (4 * j + 2)) (xs (4 * j + 3)) h1 h2 h3 (by rw [e1]) (by rw [e2]) (by rw [e3]) hkk w w' hs kk) (fun z4 hs => ?_)
      refine v_tswE hG 5 453 dL_law_39 (by decide) (by decide) rfl rfl hs (fun hs => lc_5 hl hG hZ hX (nI (4 * j)) (xs (4 * j + 1)) (xs (4 * j + 2)) (xs (4 * j + 3)) h1 h2 h3 (by rw [e1]) (by rw [e2]) (by rw [e3]) hkk w w' hs kk) (fun z5 hs => ?_)
      refine v_tswE hG 6 509 dL_law_39 (by decide) (by decide) rfl rfl hs (fun hs => lc_6 hl hG hZ hX (nI (4 * j)) (xs (4 * j + 1)) (xs (4 * j + 2)) (xs (4 * j + 3)) h1 h2 h3 (by rw [e1]) (by rw [e2]) (by rw [e3]) hkk w w' hs kk) (fun z6 hs => ?_)
      refine v_tswE hG 7 593 dL_law_39 (by decide) (by decide) rfl rfl hs (fun hs => lc_7 hl hG hZ hX (nI (4 * j)) (xs (4 * j + 1)) (xs (4 * j + 2)) (xs (4 * j + 3)) h1 h2 h3 (by rw [e1]) (by rw [e2]) (by rw [e3]) hkk w w' hs kk) (fun z7 hs => ?_)
      refine v_tswE hG 8 649 dL_law_39 (by decide) (by decide) rfl rfl hs (fun hs => lc_8 hl hG hZ hX (nI (4 * j)) (xs (4 * j + 1)) (xs (4 * j + 2)) (xs (4 * j + 3)) h1 h2 h3 (by rw [e1]) (by rw [e2]) (by rw [e3]) hkk w w' hs kk) (fun z8 hs => ?_)
      refine v_tswE hG 9 705 dL_law_39 (by decide) (by decide) rfl rfl hs (fun hs => lc_9 hl hG hZ hX (nI (4 * j)) (xs (4 * j + 1)) (xs (4 * j + 2)) (xs (4 * j + 3)) h1 h2 h3 (by rw [e1]) (by rw [e2]) (by rw [e3]) hkk w w' hs kk) (fun z9 hs => ?_)
      refine v_tswE hG 10 760 dL_law_39 (by decide) (by decide) rfl rfl hs (fun hs => lc_10 hl hG hZ hX (nI (4 * j)) (xs (4 * j + 1)) (xs (4 * j + 2)) (xs (4 * j + 3)) h1 h2 h3 (by rw [e1]) (by rw [e2]) (by rw [e3]) hkk w w' hs kk) (fun z10 hs => ?_)
      refine v_tswE hG 11 828 dL_law_39 (by decide) (by decide) rfl rfl hs (fun hs => lc_11 hl hG hZ hX (nI (4 * j)) (xs (4 * j + 1)) (xs (4 * j + 2)) (xs (4 * j + 3)) h1 h2 h3 (by rw [e1]) (by rw [e2]) (by rw [e3]) hkk w w' hs kk) (fun z11 hs => ?_)
      refine v_tswE hG 12 871 dL_law_39 (by decide) (by decide) rfl rfl hs (fun hs => lc_12 hl hG hZ hX (nI (4 * j)) (xs (4 * j + 1)) (xs (4 * j + 2)) (xs (4 * j + 3)) h1 h2 h3 (by rw [e1]) (by rw [e2]) (by rw [e3]) hkk w w' hs kk) (fun z12 hs => ?_)
      refine v_tswE hG 13 939 dL_law_39 (by decide) (by decide) rfl rfl hs (fun hs => lc_13 hl hG hZ hX (nI (4 * j)) (xs (4 * j + 1)) (xs (4 * j + 2)) (xs (4 * j + 3)) h1 h2 h3 (by rw [e1]) (by rw [e2]) (by rw [e3]) hkk w w' hs kk) (fun z13 hs => ?_)
      refine v_tswE hG 14 983 dL_law_39 (by decide) (by decide) rfl rfl hs (fun hs => lc_14 hl hG hZ hX (nI (4 * j)) (xs (4 * j + 1)) (xs (4 * j + 2)) (xs (4 * j + 3)) h1 h2 h3 (by rw [e1]) (by rw [e2]) (by rw [e3]) hkk w w' hs kk) (fun z14 hs => ?_)
      refine v_tswE hG 15 1027 dL_law_39 (by decide) (by decide) rfl rfl hs (fun hs => lc_15 hl hG hZ hX (nI (4 * j)) (xs (4 * j + 1)) (xs (4 * j + 2)) (xs (4 * j + 3)) h1 h2 h3 (by rw [e1]) (by rw [e2]) (by rw [e3]) hkk w w' hs kk) (fun z15 hs => ?_)
      refine v_tswE hG 16 1071 dL_law_39 (by decide) (by decide) rfl rfl hs (fun hs => lc_16 hl hG hZ hX (nI (4 * j)) (xs (4 * j + 1)) (xs (4 * j + 2)) (xs (4 * j + 3)) h1 h2 h3 (by rw [e1]) (by rw [e2]) (by rw [e3]) hkk w w' hs kk) (fun z16 hs => ?_)
      refine v_tswE hG 17 1138 dL_law_39 (by decide) (by decide) rfl rfl hs (fun hs => lc_17 hl hG hZ hX (nI (4 * j)) (xs (4 * j + 1)) (xs (4 * j + 2)) (xs (4 * j + 3)) h1 h2 h3 (by rw [e1]) (by rw [e2]) (by rw [e3]) hkk w w' hs kk) (fun z17 hs => ?_)
      refine v_tswE hG 18 1182 dL_law_39 (by decide) (by decide) rfl rfl hs (fun hs => lc_18 hl hG hZ hX (nI (4 * j)) (xs (4 * j + 1)) (xs (4 * j + 2)) (xs (4 * j + 3)) h1 h2 h3 (by rw [e1]) (by rw [e2]) (by rw [e3]) hkk w w' hs kk) (fun z18 hs => ?_)
      refine v_tswE hG 19 1238 dL_law_39 (by decide) (by decide) rfl rfl hs (fun hs => lc_19 hl hG hZ hX (nI (4 * j)) (xs (4 * j + 1)) (xs (4 * j + 2)) (xs (4 * j + 3)) h1 h2 h3 (by rw [e1]) (by rw [e2]) (by rw [e3]) hkk w w' hs kk) (fun z19 hs => ?_)
      refine v_tswE hG 20 1306 dL_law_39 (by decide) (by decide) rfl rfl hs (fun hs => lc_20 hl hG hZ hX (nI (4 * j)) (xs (4 * j + 1)) (xs (4 * j + 2)) (xs (4 * j + 3)) h1 h2 h3 (by rw [e1]) (by rw [e2]) (by rw [e3]) hkk w w' hs kk) (fun z20 hs => ?_)
      refine v_tswE hG 21 1381 dL_law_39 (by decide) (by decide) rfl rfl hs (fun hs => lc_21 hl hG hZ hX (nI (4 * j)) (xs (4 * j + 1)) (xs (4 * j + 2)) (xs (4 * j + 3)) h1 h2 h3 (by rw [e1]) (by rw [e2]) (by rw [e3]) hkk w w' hs kk) (fun z21 hs => ?_)
      refine v_tswE hG 22 1429 dL_law_39 (by decide) (by decide) rfl rfl hs (fun hs => lc_22 hl hG hZ hX (nI (4 * j)) (xs (4 * j + 1)) (xs (4 * j + 2)) (xs (4 * j + 3)) h1 h2 h3 (by rw [e1]) (by rw [e2]) (by rw [e3]) hkk w w' hs kk) (fun z22 hs => ?_)
      refine v_tswE hG 23 1473 dL_law_39 (by decide) (by decide) rfl rfl hs (fun hs => lc_23 hl hG hZ hX (nI (4 * j)) (xs (4 * j + 1)) (xs (4 * j + 2)) (xs (4 * j + 3)) h1 h2 h3 (by rw [e1]) (by rw [e2]) (by rw [e3]) hkk w w' hs kk) (fun z23 hs => ?_)
      refine v_tswE hG 24 1529 dL_law_39 (by decide) (by decide) rfl rfl hs (fun hs => lc_24 hl hG hZ hX (nI (4 * j)) (xs (4 * j + 1)) (xs (4 * j + 2)) (xs (4 * j + 3)) h1 h2 h3 (by rw [e1]) (by rw [e2]) (by rw [e3]) hkk w w' hs kk) (fun z24 hs => ?_)
      refine v_tswE hG 25 1572 dL_law_39 (by decide) (by decide) rfl rfl hs (fun hs => lc_25 hl hG hZ hX (nI (4 * j)) (xs (4 * j + 1)) (xs (4 * j + 2)) (xs (4 * j + 3)) h1 h2 h3 (by rw [e1]) (by rw [e2]) (by rw [e3]) hkk w w' hs kk) (fun z25 hs => ?_)
      refine v_tswE hG 26 1644 dL_law_39 (by decide) (by decide) rfl rfl hs (fun hs => lc_26 hl hG hZ hX (nI (4 * j)) (xs (4 * j + 1)) (xs (4 * j + 2)) (xs (4 * j + 3)) h1 h2 h3 (by rw [e1]) (by rw [e2]) (by rw [e3]) hkk w w' hs kk) (fun z26 hs => ?_)
      refine v_tswE hG 27 1687 dL_law_39 (by decide) (by decide) rfl rfl hs (fun hs => lc_27 hl hG hZ hX (nI (4 * j)) (xs (4 * j + 1)) (xs (4 * j + 2)) (xs (4 * j + 3)) h1 h2 h3 (by rw [e1]) (by rw [e2]) (by rw [e3]) hkk w w' hs kk) (fun z27 hs => ?_)
      refine v_tswD hG 1743 dL_law_39 ?_ rfl ?_
      · by_cases hlo : x.toInt < 0
        · exact Or.inl hlo
        · refine Or.inr (Int.not_le.mp (fun hhi => ?_))
          rcases ll_28 ⟨Int.not_lt.mp hlo, hhi⟩ with q | q | q | q | q | q | q | q | q | q | q | q | q | q | q | q | q | q | q | q | q | q | q | q | q | q | q | q
          · exact z0 q
          · exact z1 q
          · exact z2 q
          · exact z3 q
          · exact z4 q
          · exact z5 q
          · exact z6 q
          · exact z7 q
          · exact z8 q
          · exact z9 q
          · exact z10 q
          · exact z11 q
          · exact z12 q
          · exact z13 q
          · exact z14 q
          · exact z15 q
          · exact z16 q
          · exact z17 q
          · exact z18 q
          · exact z19 q
          · exact z20 q
          · exact z21 q
          · exact z22 q
          · exact z23 q
          · exact z24 q
          · exact z25 q
          · exact z26 q
          · exact z27 q
      · cases hs
        refine v_widen (k9 := k + 3) (n9 := n + 18) ⟨by omega, by omega⟩ ?_
        exact kk
    · have hif : (if nI L - 4 < nI (4 * j) then true else false) = true := if_pos ((ll_cond hL hj).mpr hc)
      refine v_icmp_gt hG 1749 dL_law_29 rfl hif (fun _ => ?_) (fun q => by cases q)
      refine v_iconst hG (v := 1) (by decide) dL_law_1749 ?_
      intro H locs la hP hD hS hla
      refine va_forget (fun q hq => hS.2.2 q hq) ?_
      refine W.widen (k := 601024) (n := 7293034) (Nat.le_trans (by omega) hk.1) (Nat.le_trans (by omega) hk.2) ?_
      exact lw_ret hG.1 hG.2.1 hr hG.2.2.2.2.2.2.2 dL_law_1750
