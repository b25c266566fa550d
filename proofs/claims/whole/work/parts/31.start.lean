theorem ao_spec {args : Array Value} {s : State} (h : (Cond.arrayOver (.array .long)).before args s = true) : ∃ (c : ClassId) (k : Class) (comp : ClassId), s.vm.findClass ("[" ++ (FieldType.array .long).toString) = some c ∧ s.vm.classes[c]? = some k ∧ k.kind = .array comp (.array .long) := by
  simp only [Cond.before, Cond.holds, Cond.value, beq_iff_eq] at h
  cases hc : s.vm.findClass (FieldType.array .long).toString with
  | none => simp [hc] at h
  | some comp =>
    simp only [hc, Option.bind_some, Option.bind_eq_some_iff, Option.map_eq_some_iff] at h
    obtain ⟨c, hi, k, hk, hb⟩ := h
    cases hkind : k.kind with
    | array component ty =>
      rw [hkind] at hb
      simp at hb
      exact ⟨c, k, component, hb.2, hk, by rw [hkind, hb.1]⟩
    | _ => rw [hkind] at hb; simp at hb
set_option maxRecDepth 100000 in
theorem st_nest : ∀ q ∈ nestWs, Cond.methodLinkNest q.1 q.2.1 q.2.2 RX8 ∈ lw_tbl := by decide +kernel
set_option maxRecDepth 100000 in
theorem st_cast : ∀ q ∈ xCast, Cond.castable q q ∈ lw_tbl := by decide +kernel
set_option maxRecDepth 100000 in
theorem st_decl : ∀ q ∈ xDecl, Cond.declares q ∈ lw_tbl := by decide +kernel
set_option maxRecDepth 100000 in
theorem st_str : ∀ q ∈ xStr, Cond.stringRef RX8 q.1 q.2 ∈ lw_tbl := by decide +kernel
set_option maxRecDepth 100000 in
theorem st_exa : ∀ q ∈ xStr, Cond.exactly (.string RX8 q.1) "java/lang/String" ∈ flatC (Jvm.Cond.and given_1 narrow_1) := by decide +kernel
set_option maxRecDepth 100000 in
theorem st_nc : ∀ q ∈ ncPairs, Cond.not (.castable q.1 q.2) ∈ flatC (Jvm.Cond.and given_1 narrow_1) := by decide +kernel
set_option maxRecDepth 100000 in
theorem st_ao : Cond.arrayOver (.array .long) ∈ lw_tbl := by decide +kernel
set_option maxRecDepth 100000 in
theorem st_z : Cond.laysStatic Bundle.tN "UNASSIGNED_STACK" Bundle.steD ∈ lw_tbl ∧ Cond.laysStatic Bundle.tN "SUPPRESSED_SENTINEL" Bundle.listD ∈ lw_tbl ∧ Cond.initialized Bundle.tN ∈ lw_tbl := by decide +kernel
set_option maxRecDepth 100000 in
theorem st_z2 : Cond.isRef (.static Bundle.tN "UNASSIGNED_STACK" Bundle.steD) ∈ flatC (Jvm.Cond.and given_1 narrow_1) ∧ Cond.isRef (.static Bundle.tN "SUPPRESSED_SENTINEL" Bundle.listD) ∈ flatC (Jvm.Cond.and given_1 narrow_1) := by decide +kernel
set_option maxRecDepth 100000 in
set_option maxHeartbeats 4000000 in
/-- the claim's walk out of the pure run -/
theorem whole_of (hpure : ∀ (xs : Nat → Int32) (L : Nat), L ≤ 2048 → lawRun xs L 600 0 zw0 = some ()) {p : Program} {e : Env} {s : State} {m : MethodId} {below : List Frame} {meth : Method} {c : Code} (l : Launch) (hl : l.stackTraces = false) {b L : Nat} {xs : Nat → Int32} (hL : L ≤ 2048) (C0 : lw_At p s m meth c b L xs) : W p l e room_1 s m #[Value.ref b] below meth c s.heap [] 0 0 (lw_Z below #[Value.ref b] s) (entryFrame m ([Value.ref b] : List Value).toArray 8) := by
  obtain ⟨hx, hcode, hret, hml, hown, hts, hX, hb, hlocks, hgv⟩ := C0
  have hg : ∀ w ∈ gtbl, w.before #[Value.ref b] s = true := fun w hw => hts w (List.mem_filter.mp hw).1
  have hfl := flat_of_before _ hgv
  obtain ⟨c0, i0, k0⟩ := u_known (C := RX0) (T := TX0) (N := 2) hg inX0 (hg _ wk_200)
  obtain ⟨c1, i1, k1⟩ := u_known (C := RX1) (T := TX1) (N := 2) hg inX1 (hg _ wk_298)
  obtain ⟨c2, i2, k2⟩ := u_known (C := RX2) (T := TX2) (N := 3) hg inX2 (hg _ wk_324)
  obtain ⟨c3, i3, k3⟩ := u_known (C := RX3) (T := TX3) (N := 4) hg inX3 (hg _ wk_279)
  obtain ⟨c4, i4, k4⟩ := u_known (C := RX4) (T := TX4) (N := 2) hg inX4 (hg _ wk_285)
  obtain ⟨c5, i5, k5⟩ := u_known (C := RX5) (T := TX5) (N := 12) hg inX5 (hg _ wk_192)
  obtain ⟨c6, i6, k6⟩ := u_known (C := RX6) (T := TX6) (N := 9) hg inX6 (hg _ wk_108)
  obtain ⟨c7, i7, k7⟩ := u_known (C := RX7) (T := TX7) (N := 4) hg inX7 (hg _ wk_341)
  obtain ⟨c8, i8, k8⟩ := u_known (C := RX8) (T := TX8) (N := 13) hg inX8 (hg _ wk_100)
  obtain ⟨c9, i9, k9⟩ := u_known (C := RX9) (T := TX9) (N := 43) hg inX9 (hg _ wk_1061)
  obtain ⟨aI, kI, mI, fI1, fI2, fI3⟩ := Cond.arrayClass_spec (hg _ wk_190)
  obtain ⟨aL, kL, mL, fL1, fL2, fL3⟩ := Cond.arrayClass_spec (hg _ wk_189)
  obtain ⟨aZ, kZ, mZ, fZ1, fZ2, fZ3⟩ := Cond.arrayClass_spec (hg _ wk_1196)
  have hao := hts _ st_ao
  obtain ⟨aA, kA, mA, fA1, fA2, fA3⟩ := ao_spec hao
  have hK : va_K ((fun c => match c with | 0 => c0 | 1 => c1 | 2 => c2 | 3 => c3 | 4 => c4 | 5 => c5 | 6 => c6 | 7 => c7 | 8 => c8 | _ => c9), (fun c => match c with | 0 => i0 | 1 => i1 | 2 => i2 | 3 => i3 | 4 => i4 | 5 => i5 | 6 => i6 | 7 => i7 | 8 => i8 | _ => i9)) vwCl [(aI, .int), (aL, .long), (aZ, .boolean), (aA, .array .long)] s := by
    refine ⟨fun c q hc => ?_, fun k q hk => ?_⟩
    · match c, hc with
      | 0, hc => cases hc; exact k0
      | 1, hc => cases hc; exact k1
      | 2, hc => cases hc; exact k2
      | 3, hc => cases hc; exact k3
      | 4, hc => cases hc; exact k4
      | 5, hc => cases hc; exact k5
      | 6, hc => cases hc; exact k6
      | 7, hc => cases hc; exact k7
      | 8, hc => cases hc; exact k8
      | 9, hc => cases hc; exact k9
      | n + 10, hc => exact absurd hc (by simp)
    · match k, hk with
      | 0, hk => cases hk; exact ⟨fun N z => ⟨(fun k h => by cases h), kI, fI2, mI, fI3⟩, fI1⟩
      | 1, hk => cases hk; exact ⟨fun N z => ⟨(fun k h => by cases h), kL, fL2, mL, fL3⟩, fL1⟩
      | 2, hk => cases hk; exact ⟨fun N z => ⟨(fun k h => by cases h), kZ, fZ2, mZ, fZ3⟩, fZ1⟩
      | 3, hk => cases hk; exact ⟨fun N z => ⟨(fun k h => by cases h), kA, fA2, mA, fA3⟩, fA1⟩
      | n + 4, hk => exact absurd hk (by simp)
  have hN : nW s := fun q hq => va_tabs rfl rfl (hts _ (st_nest q hq))
  have hnX : nX s := ⟨fun q hq => va_tabs rfl rfl (hts _ (st_cast q hq)), fun q hq => va_tabs rfl rfl (hts _ (st_decl q hq)), fun q hq => by
    obtain ⟨a, c, cell, k, h1, -⟩ := Cond.exactly_spec (hfl _ (st_exa q hq))
    exact ⟨a, vk_R.of (hts _ (st_str q hq)) h1⟩⟩
  have hZ : zX (fun q : Nat => s.heap.size ≤ q) s s.heap := ⟨vx_Zqof (hts _ st_z.1) (hts _ st_z.2.2) (hfl _ st_z2.1) (fun a ha h => Nat.not_le_of_lt ha h), vx_Zqof (hts _ st_z.2.1) (hts _ st_z.2.2) (hfl _ st_z2.2) (fun a ha h => Nat.not_le_of_lt ha h)⟩
  have hC : nC s := fun q hq => va_Nc.of (hfl _ (st_nc q hq))
  have hnA : nA s := fun a => by
    have h1 : (Cond.arrayOver (.array .long)).before a s = (Cond.arrayOver (.array .long)).before #[Value.ref b] s := rfl
    rw [h1]; exact hao
  have hG : vG p s m #[Value.ref b] meth c (fun q : Nat => s.heap.size ≤ q) (((fun c => match c with | 0 => c0 | 1 => c1 | 2 => c2 | 3 => c3 | 4 => c4 | 5 => c5 | 6 => c6 | 7 => c7 | 8 => c8 | _ => c9), (fun c => match c with | 0 => i0 | 1 => i1 | 2 => i2 | 3 => i3 | 4 => i4 | 5 => i5 | 6 => i6 | 7 => i7 | 8 => i8 | _ => i9)), aI, aL, aZ, aA) cL_law RL 8 := ⟨hx, hcode, hg, hown, hK, hN, hml, hlocks⟩
  have hI : vI s (fun q : Nat => s.heap.size ≤ q) := ⟨fun q hq => hq, hnA⟩
  have hv := law_start (p := p) (l := l) (e := e) (below := below) (b := b) (Q := lw_Z below #[Value.ref b] s) hG hI (fun ad am => law_loop (e := e) (below := below) (ad := ad) (am := am) hL hl hret hG ⟨hnX, hZ, hC⟩ ⟨hX, hb, Nat.not_le_of_lt hb⟩ 600 0 107 5568 zw0 (hpure xs L hL) (Nat.zero_le _) ⟨by decide, by decide⟩)
  rw [lg_entry_eq]
  exact hv s.heap [] _ (fun k q h => by simp at h) ⟨fun i j x y h => by simp at h, fun k q h => by simp at h⟩ va_S.rf (lv_entry [Value.ref b] (Nat.le_of_ble_eq_true rfl))
