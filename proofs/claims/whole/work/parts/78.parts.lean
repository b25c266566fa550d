/-! parts, on both sides -/
def ms (S : Nat → Bool) (n : Nat) : Int32 := orN (fun c => if S c = true then (1 : Int32) <<< (nI c &&& 31) else 0) n
theorem ms_congr {S S' : Nat → Bool} {n : Nat} (h : ∀ c, c < n → S c = S' c) : ms S n = ms S' n := orN_congr (fun c hc => by rw [h c hc])
theorem or4 (a x b y : Int32) : (a ||| x) ||| (b ||| y) = (a ||| b) ||| (x ||| y) := by
  rw [Int32.or_assoc, ← Int32.or_assoc x, Int32.or_comm x b, Int32.or_assoc b, ← Int32.or_assoc]
theorem ms_or (S S' : Nat → Bool) (n : Nat) : ms S n ||| ms S' n = ms (fun c => S c || S' c) n := by
  unfold ms
  induction n with
  | zero => exact Int32.or_self
  | succ n ih =>
    simp only [orN]
    rw [or4, ih]
    congr 1
    by_cases e1 : S n = true
    · have e3 : (S n || S' n) = true := by rw [e1]; rfl
      by_cases e2 : S' n = true
      · rw [if_pos e1, if_pos e2, if_pos e3, Int32.or_self]
      · rw [if_pos e1, if_neg e2, if_pos e3, Int32.or_zero]
    · have e1' : S n = false := by simpa using e1
      by_cases e2 : S' n = true
      · have e3 : (S n || S' n) = true := by rw [e2, Bool.or_true]
        rw [if_neg e1, if_pos e2, if_pos e3, Int32.zero_or]
      · have e2' : S' n = false := by simpa using e2
        have e3 : ¬ (S n || S' n) = true := by rw [e1', e2']; decide
        rw [if_neg e1, if_neg e2, if_neg e3, Int32.or_zero]
theorem and_or_r (x y z : Int32) : (x ||| y) &&& z = (x &&& z) ||| (y &&& z) := Int32.toBitVec_inj.mp (by
  rw [Int32.toBitVec_and, Int32.toBitVec_or, Int32.toBitVec_or, Int32.toBitVec_and, Int32.toBitVec_and]
  exact BitVec.and_or_distrib_right)
theorem shr_and (x y k : Int32) : ((x &&& y) >>> k) &&& 1 = ((x >>> k) &&& 1) &&& ((y >>> k) &&& 1) := by
  apply Int32.toBitVec_inj.mp
  simp only [Int32.toBitVec_and, Int32.toBitVec_shiftRight, BitVec.sshiftRight_eq', BitVec.sshiftRight_and_distrib]
  ext i hi
  simp only [BitVec.getElem_and]
  cases (x.toBitVec.sshiftRight (k.toBitVec.smod (BitVec.ofNat 32 32)).toNat)[i] <;> cases (y.toBitVec.sshiftRight (k.toBitVec.smod (BitVec.ofNat 32 32)).toNat)[i] <;> cases (Int32.toBitVec 1)[i] <;> rfl
theorem ms_bit (S : Nat → Bool) {c : Nat} (hc : c < 12) : ∀ {n : Nat}, n ≤ 12 → (ms S n >>> (nI c &&& 31)) &&& 1 = if c < n ∧ S c = true then 1 else 0
  | 0, _ => by
    rw [if_neg (by omega)]
    exact sh0 _
  | n + 1, hn => by
    have ih := ms_bit S hc (n := n) (by omega)
    show ((ms S n ||| (if S n = true then (1 : Int32) <<< (nI n &&& 31) else 0)) >>> (nI c &&& 31)) &&& 1 = _
    rw [shr_or, ih]
    by_cases e : c = n
    · subst e
      rw [if_neg (by omega)]
      by_cases hs : S c = true
      · rw [if_pos hs, bit_at hc hc, if_pos rfl, if_pos ⟨by omega, hs⟩]; rfl
      · rw [if_neg hs, sh0, if_neg (fun z => hs z.2)]; rfl
    · have z : ((if S n = true then (1 : Int32) <<< (nI n &&& 31) else 0) >>> (nI c &&& 31)) &&& 1 = 0 := by
        by_cases hs : S n = true
        · rw [if_pos hs, bit_at (by omega) hc, if_neg e]
        · rw [if_neg hs, sh0]
      rw [z, Int32.or_zero]
      by_cases hs : S c = true
      · by_cases h2 : c < n
        · rw [if_pos ⟨h2, hs⟩, if_pos ⟨by omega, hs⟩]
        · rw [if_neg (fun q => h2 q.1), if_neg (fun q => by omega)]
      · rw [if_neg (fun q => hs q.2), if_neg (fun q => hs q.2)]
theorem one_tab : ∀ c : Fin 12, ∀ c' : Fin 12, c.val ≠ c'.val → ((1 : Int32) <<< (nI c.val &&& 31)) &&& ((1 : Int32) <<< (nI c'.val &&& 31)) = 0 := by decide
theorem one_and (S : Nat → Bool) {c : Nat} (hc : c < 12) : ∀ {n : Nat}, n ≤ 12 → (c < n → S c = false) → ms S n &&& ((1 : Int32) <<< (nI c &&& 31)) = 0
  | 0, _, _ => Int32.zero_and
  | n + 1, hn, hs => by
    show (ms S n ||| (if S n = true then (1 : Int32) <<< (nI n &&& 31) else 0)) &&& _ = 0
    rw [and_or_r, one_and S hc (n := n) (by omega) (fun z => hs (by omega))]
    by_cases e : S n = true
    · have ne : n ≠ c := fun z => by
        subst z
        rw [hs (by omega)] at e
        exact absurd e (by decide)
      rw [if_pos e, one_tab ⟨n, by omega⟩ ⟨c, hc⟩ ne]; rfl
    · rw [if_neg e, Int32.zero_and]; rfl
theorem ms_and0 (S S' : Nat → Bool) {n : Nat} (hn : n ≤ 12) : ms S n &&& ms S' n = 0 ↔ ∀ c, c < n → ¬ (S c = true ∧ S' c = true) := by
  constructor
  · rintro h c hc ⟨h1, h2⟩
    have := shr_and (ms S n) (ms S' n) (nI c &&& 31)
    rw [h, sh0, ms_bit S (by omega) hn, ms_bit S' (by omega) hn, if_pos ⟨hc, h1⟩, if_pos ⟨hc, h2⟩] at this
    exact absurd this (by decide)
  · intro h
    have key : ∀ k, k ≤ n → ms S' k &&& ms S n = 0 := by
      intro k
      induction k with
      | zero => intro _; exact Int32.zero_and
      | succ k ih =>
        intro hk
        show (ms S' k ||| (if S' k = true then (1 : Int32) <<< (nI k &&& 31) else 0)) &&& ms S n = 0
        rw [and_or_r, ih (by omega)]
        by_cases e : S' k = true
        · rw [if_pos e, Int32.and_comm, one_and S (by omega) hn (fun hkn => by
            by_cases e2 : S k = true
            · exact absurd ⟨e2, e⟩ (h k hkn)
            · simpa using e2)]
          rfl
        · rw [if_neg e, Int32.zero_and]; rfl
    rw [Int32.and_comm]
    exact key n (Nat.le_refl _)
theorem ms_one {c n : Nat} (hn : n ≤ 12) : ms (fun x => x == c) n = if c < n then (1 : Int32) <<< (nI c &&& 31) else 0 := by
  induction n with
  | zero => rw [if_neg (by omega)]; rfl
  | succ n ih =>
    show ms (fun x => x == c) n ||| (if (n == c) = true then (1 : Int32) <<< (nI n &&& 31) else 0) = _
    rw [ih (by omega)]
    by_cases e : n = c
    · subst e
      rw [if_neg (by omega), if_pos (by simp), if_pos (by omega), Int32.zero_or]
    · have e2 : ¬ (n == c) = true := by simpa using e
      rw [if_neg e2, Int32.or_zero]
      by_cases h : c < n
      · rw [if_pos h, if_pos (by omega)]
      · rw [if_neg h, if_neg (by omega)]
/-- the terms of the rows that are there -/
def TT (m : MW) (r c : Nat) : Bool := decide (gM_gone m r = 0) && isT m r c
section SW
variable {C R : Nat} {F : FR} {N : Nat} {w : CW} {m : MW}
theorem cl_termSet (h : Rl C R F N w m) {r : Nat} (hr : r < R) (hg : gM_gone m r = 0) : X2_termSet w (nI r) = some (ms (TT m r) C) := by
  have hC := h.C12
  have hr12 : r < 12 := by have := h.R12; omega
  have e := iter_to (step := X2_termSet_L4 w (nI r)) C (fun i => (ms (TT m r) i, nI i)) (ms (TT m r) C) (fun i hi => by
    have hi12 : i < 12 := by omega
    have es : ms (TT m r) (i + 1) = ms (TT m r) i ||| (if TT m r i = true then (1 : Int32) <<< (nI i &&& 31) else 0) := rfl
    simp only [X2_termSet_L4, h.1.1, nC_le hC hi, if_false, inR12 hr12, cl12 hr12, inR12 hi12, cl12 hi12, if_true, h.a hr hg hi, X2_termSet_J37, nI_1]
    rw [es]
    by_cases ht : tm m r i = 0
    · have e2 : ¬ TT m r i = true := by simp [TT, isT, ht]
      rw [if_pos ht, if_neg e2, Int32.or_zero]
    · have e2 : TT m r i = true := by simp [TT, isT, ht, hg]
      rw [if_neg ht, if_pos e2]) (by
    simp only [X2_termSet_L4, h.1.1, Int32.le_refl, if_true]) (f := 5000) (by omega)
  have e2 : iter (X2_termSet_L4 w (nI r)) 5000 (0, 0) = some (ms (TT m r) C) := e
  simp only [X2_termSet, e2, Option.bind_some]
theorem cl_sweep (h : Rl C R F N w m) (S : Nat → Bool) : iter (X2_partOf_L20 w) 5000 (ms S C, 0) = some (ms (swp (TT m) C S R) C) := by
  have hC := h.C12
  have hR := h.R12
  have e := iter_to (step := X2_partOf_L20 w) R (fun i => (ms (swp (TT m) C S i) C, nI i)) (ms (swp (TT m) C S R) C) (fun i hi => by
    show X2_partOf_L20 w (ms (swp (TT m) C S i) C, nI i) = some (.inl (ms (stp (TT m) C (swp (TT m) C S i) i) C, nI (i + 1)))
    generalize swp (TT m) C S i = S1
    rcases gone01 h hi with hg | hg
    · simp only [X2_partOf_L20, h.1.2.1, nC_le hR hi, if_false, cl_gone h hi, hg, if_true, Option.bind_some, cl_termSet h hi hg, X2_partOf_J54, X2_partOf_J68, nI_1]
      by_cases hm : mt (TT m) C i S1 = true
      · have ne : ¬ (ms (TT m i) C &&& ms S1 C = 0) := fun z => by
          obtain ⟨c, hc, t1, t2⟩ := mt_iff.mp hm
          exact (ms_and0 _ _ hC).mp z c hc ⟨t1, t2⟩
        rw [if_neg ne, ms_or]
        congr 3
        exact ms_congr (fun c hc => by unfold stp; rw [hm, Bool.true_and])
      · have eq : ms (TT m i) C &&& ms S1 C = 0 := (ms_and0 _ _ hC).mpr (fun c hc z => hm (mt_iff.mpr ⟨c, hc, z.1, z.2⟩))
        rw [if_pos eq]
        congr 3
        have hm' : mt (TT m) C i S1 = false := by simpa using hm
        exact ms_congr (fun c hc => by unfold stp; rw [hm', Bool.false_and, Bool.or_false])
    · have hg0 : ¬ gM_gone m i = 0 := by rw [hg]; decide
      simp only [X2_partOf_L20, h.1.2.1, nC_le hR hi, if_false, cl_gone h hi, hg0, Option.bind_some, i10, X2_partOf_J54, Int32.zero_and, if_true, X2_partOf_J68, nI_1]
      congr 3
      exact ms_congr (fun c hc => by
        have : TT m i c = false := by simp [TT, hg0]
        unfold stp; rw [this, Bool.and_false, Bool.or_false])) (by
    simp only [X2_partOf_L20, h.1.2.1, Int32.le_refl, if_true]) (f := 5000) (by omega)
  exact e
theorem cl_partOf (h : Rl C R F N w m) {c : Nat} (hc : c < C) : X2_partOf w (nI c) = some (ms (Kc (TT m) R C c) C) := by
  have hC := h.C12
  have hR := h.R12
  have e := iter_to (step := X2_partOf_L6 w) R (fun i => (ms (pas (TT m) R C (fun x => x == c) i) C, nI i)) (ms (Kc (TT m) R C c) C) (fun i hi => by
    show X2_partOf_L6 w (ms (pas (TT m) R C (fun x => x == c) i) C, nI i) = some (.inl (ms (swp (TT m) C (pas (TT m) R C (fun x => x == c) i) R) C, nI (i + 1)))
    simp only [X2_partOf_L6, h.1.2.1, nC_le hR hi, if_false, cl_sweep h, Option.bind_some, nI_1]) (by
    simp only [X2_partOf_L6, h.1.2.1, Int32.le_refl, if_true] <;> rfl) (f := 5000) (by omega)
  have e2 : iter (X2_partOf_L6 w) 5000 ((1 : Int32) <<< (nI c &&& 31), 0) = some (ms (Kc (TT m) R C c) C) := by
    have z : ms (pas (TT m) R C (fun x => x == c) 0) C = (1 : Int32) <<< (nI c &&& 31) := by
      show ms (fun x => x == c) C = _
      rw [ms_one hC, if_pos hc]
    rw [← z]
    exact e
  simp only [X2_partOf, e2, Option.bind_some]
/-- c begins a part -/
def beg (m : MW) (R C i : Nat) : Bool := decide (gM_state m i = 0) && decide (jrd (TT m) R C (fun c => c) 12 i = i)
theorem TT_there {r c : Nat} (h : TT m r c = true) : gM_state m c = 0 := by
  unfold TT isT at h
  rw [Bool.and_eq_true] at h
  exact tm_state (m := m) (r := r) (fun z => by rw [z] at h; simp at h)
theorem there_cls : cls (TT m) R C (fun c => decide (gM_state m c = 0)) := fun r _ a b _ _ _ _ t2 => by
  have := TT_there t2
  simp [this]
theorem beg_iff (hC : C ≤ 12) {i : Nat} (hi : i < C) (hs : gM_state m i = 0) : beg m R C i = true ↔ ¬ ∃ c, c < i ∧ gM_state m c = 0 ∧ Kc (TT m) R C c i = true := by
  have f := fin_iff (T := TT m) (R := R) hC hi
  unfold beg
  rw [Bool.and_eq_true, decide_eq_true_eq, decide_eq_true_eq, f]
  constructor
  · rintro ⟨-, h⟩ ⟨c, hc, -, hk⟩
    exact h ⟨c, hc, hk⟩
  · intro h
    refine ⟨hs, ?_⟩
    rintro ⟨c, hc, hk⟩
    have k2 := Kc_sym hi hk
    have := Kc_min (there_cls (m := m) (R := R) (C := C)) (c := i) (by simp [hs]) c (by omega) k2
    exact h ⟨c, hc, by simpa using this, hk⟩
theorem cl_parts (h : Rl C R F N w m) : X2_countParts w = some (nI (cntN (beg m R C) C)) := by
  have hC := h.C12
  have hR := h.R12
  obtain ⟨e, q1, q2⟩ := iter_run (step := X2_countParts_L6 w) (fun d s => ∃ i S, i + d = C ∧ s = (ms S C, nI (cntN (beg m R C) i), nI i) ∧ ∀ x, x < C → (S x = true ↔ ∃ c, c < i ∧ gM_state m c = 0 ∧ Kc (TT m) R C c x = true)) (fun e => e = nI (cntN (beg m R C) C)) (fun d s hs => by
    obtain ⟨i, S, hid, rfl, hS⟩ := hs
    by_cases hi : i < C
    · have hi12 : i < 12 := by omega
      have st := (h.2.2.1 i hi).1.1
      by_cases hst : gM_state m i = 0
      · have mb := ms_bit S hi12 hC
        by_cases hb : S i = true
        · rw [if_pos ⟨hi, hb⟩] at mb
          have nb : beg m R C i = false := by
            have : ¬ beg m R C i = true := fun z => (beg_iff hC hi hst).mp z ((hS i hi).mp hb)
            simpa using this
          refine Or.inl ⟨_, by simp only [X2_countParts_L6, h.1.1, nC_le hC hi, if_false, X6_isThere, inR12 hi12, cl12 hi12, if_true, st, hst, Option.bind_some, i10, mb, X2_countParts_J47, nI_1] <;> rfl, d - 1, by omega, i + 1, S, by omega, ?_, fun x hx => ?_⟩
          · simp only [cntN, nb, Nat.add_zero, if_false, Bool.false_eq_true]
          · rw [hS x hx]
            constructor
            · rintro ⟨c, h1, h2, h3⟩
              exact ⟨c, by omega, h2, h3⟩
            · rintro ⟨c, h1, h2, h3⟩
              by_cases e : c = i
              · subst e
                obtain ⟨c0, y1, y2, y3⟩ := (hS c hi).mp hb
                exact ⟨c0, y1, y2, Kc_min (Kc_cls c0) y3 x hx h3⟩
              · exact ⟨c, by omega, h2, h3⟩
        · rw [if_neg (fun z => hb z.2)] at mb
          have yb : beg m R C i = true := (beg_iff hC hi hst).mpr (fun z => hb ((hS i hi).mpr z))
          have ct : cntN (beg m R C) (i + 1) = cntN (beg m R C) i + 1 := cntN_hit yb
          refine Or.inl ⟨(ms (fun x => S x || Kc (TT m) R C i x) C, nI (cntN (beg m R C) (i + 1)), nI (i + 1)), by simp only [X2_countParts_L6, h.1.1, nC_le hC hi, if_false, X6_isThere, inR12 hi12, cl12 hi12, if_true, st, hst, Option.bind_some, i10, mb, cl_partOf h hi, ms_or, X2_countParts_J47, nI_1, ct], d - 1, by omega, i + 1, _, by omega, rfl, fun x hx => ?_⟩
          rw [Bool.or_eq_true, hS x hx]
          constructor
          · rintro (⟨c, h1, h2, h3⟩ | h3)
            · exact ⟨c, by omega, h2, h3⟩
            · exact ⟨i, by omega, hst, h3⟩
          · rintro ⟨c, h1, h2, h3⟩
            by_cases e : c = i
            · subst e; exact Or.inr h3
            · exact Or.inl ⟨c, by omega, h2, h3⟩
      · have nb : beg m R C i = false := by simp [beg, hst]
        refine Or.inl ⟨_, by simp only [X2_countParts_L6, h.1.1, nC_le hC hi, if_false, X6_isThere, inR12 hi12, cl12 hi12, if_true, st, hst, Option.bind_some, X2_countParts_J47, nI_1] <;> rfl, d - 1, by omega, i + 1, S, by omega, ?_, fun x hx => ?_⟩
        · simp only [cntN, nb, Nat.add_zero, if_false, Bool.false_eq_true]
        · rw [hS x hx]
          constructor
          · rintro ⟨c, h1, h2, h3⟩
            exact ⟨c, by omega, h2, h3⟩
          · rintro ⟨c, h1, h2, h3⟩
            by_cases e : c = i
            · subst e; exact absurd h2 hst
            · exact ⟨c, by omega, h2, h3⟩
    · have e : i = C := by omega
      subst e
      exact Or.inr ⟨_, by simp only [X2_countParts_L6, h.1.1, Int32.le_refl, if_true], rfl⟩) C 5000 (0, 0, 0) (by omega) ⟨0, fun _ => false, by omega, by
        have z : ∀ n, ms (fun _ => false) n = 0 := fun n => by
          induction n with
          | zero => rfl
          | succ n ih => show ms (fun _ => false) n ||| (if false = true then _ else 0) = 0; rw [ih, if_neg (by decide), Int32.or_zero]
        rw [z]; rfl, fun x hx => ⟨fun z => (Bool.false_ne_true z).elim, fun ⟨c, z, _⟩ => absurd z (by omega)⟩⟩
  simp only [X2_countParts, q1, Option.bind_some, q2]
/-- labels as the reference keeps them -/
def lab (C : Nat) (P : Nat → Int32) (L : Nat → Nat) : Prop := ∀ c, c < C → P c = nI (L c) ∧ L c ≤ 12
theorem zmn_12 {T : Nat → Nat → Bool} {r : Nat} {L : Nat → Nat} : ∀ n, zmn T r L n ≤ 12
  | 0 => Nat.le_refl _
  | n + 1 => by
    have := zmn_12 (T := T) (r := r) (L := L) n
    simp only [zmn]
    split
    · split <;> omega
    · exact this
theorem rf_join (h : Rl C R F N w m) {P : Nat → Int32} {L : Nat → Nat} (hL : lab C P L) {r : Nat} (hr : r < R) : ∃ P', X9_joinParts (sM_part m P) (nI r) = some (sM_part m P') ∧ lab C P' (jn (TT m) C L r) := by
  have hC := h.C12
  have hR := h.R12
  have hr12 : r < 12 := by omega
  have mc : gM_columns (sM_part m P) = nI C := h.1.2.2.1
  have sg : gM_gone (sM_part m P) = gM_gone m := rfl
  have sp : gM_part (sM_part m P) = P := rfl
  rcases gone01 h hr with hg | hg
  · have tt : ∀ i, TT m r i = true ↔ tm m r i ≠ 0 := fun i => by simp [TT, isT, hg]
    have e1 := iter_to (step := X9_joinParts_L5 (sM_part m P) (nI r)) C (fun i => (nI (zmn (TT m) r L i), nI i)) (nI (zmn (TT m) r L C)) (fun i hi => by
      have hi12 : i < 12 := by omega
      have et : tm (sM_part m P) r i = tm m r i := rfl
      obtain ⟨l1, l2⟩ := hL i hi
      have z12 := zmn_12 (T := TT m) (r := r) (L := L) i
      simp only [X9_joinParts_L5, mc, nC_le hC hi, if_false, inR12 hr12, cl12 hr12, if_true, sg, hg, rf_term0 (sM_part m P) hr12 hi12, et, Option.bind_some, inR12 hi12, cl12 hi12, sp, l1, X9_joinParts_J50, X9_joinParts_J51, nI_1, zmn]
      by_cases ht : tm m r i = 0
      · have t2 : ¬ TT m r i = true := fun z => (tt i).mp z ht
        simp only [ht, if_true, t2, if_false, Bool.false_eq_true]
      · have t2 : TT m r i = true := (tt i).mpr ht
        by_cases hle : zmn (TT m) r L i ≤ L i
        · have hle' : nI (zmn (TT m) r L i) ≤ nI (L i) := by rw [nle (by omega) (by omega)]; exact hle
          simp only [ht, if_false, i10, t2, if_true, hle, hle']
        · have hle' : ¬ nI (zmn (TT m) r L i) ≤ nI (L i) := by rw [nle (by omega) (by omega)]; exact hle
          simp only [ht, if_false, i10, t2, if_true, hle, hle']) (by
      simp only [X9_joinParts_L5, mc, Int32.le_refl, if_true]) (f := 5000) (by omega)
    have e1' : iter (X9_joinParts_L5 (sM_part m P) (nI r)) 5000 (12, 0) = some (nI (zmn (TT m) r L C)) := e1
    obtain ⟨e, q1, P', q2, q3, q4⟩ := iter_run (step := X9_joinParts_L60 (nI r) (nI (zmn (TT m) r L C))) (fun d s => ∃ i P', i + d = C ∧ s = (sM_part m P', nI i) ∧ (∀ c, c < i → P' c = nI (jn (TT m) C L r c)) ∧ ∀ c, i ≤ c → P' c = P c) (fun e => ∃ P', e = sM_part m P' ∧ (∀ c, c < C → P' c = nI (jn (TT m) C L r c)) ∧ True) (fun d s hs => by
      obtain ⟨i, P', hid, rfl, h1, h2⟩ := hs
      have mc' : gM_columns (sM_part m P') = nI C := h.1.2.2.1
      have sg' : gM_gone (sM_part m P') = gM_gone m := rfl
      have sp' : gM_part (sM_part m P') = P' := rfl
      by_cases hi : i < C
      · have hi12 : i < 12 := by omega
        have et : tm (sM_part m P') r i = tm m r i := rfl
        obtain ⟨l1, l2⟩ := hL i hi
        have pi : P' i = nI (L i) := (h2 i (Nat.le_refl _)).trans l1
        refine Or.inl ⟨(sM_part m (upd P' i (nI (jn (TT m) C L r i))), nI (i + 1)), ?_, d - 1, by omega, i + 1, _, by omega, rfl, fun c hc => ?_, fun c hc => ?_⟩
        · simp only [X9_joinParts_L60, mc', nC_le hC hi, if_false, inR12 hr12, cl12 hr12, if_true, sg', hg, rf_term0 (sM_part m P') hr12 hi12, et, Option.bind_some, inR12 hi12, cl12 hi12, sp', pi, X9_joinParts_J101, bnd, nI_1, jn]
          by_cases ht : tm m r i = 0
          · have t2 : ¬ TT m r i = true := fun z => (tt i).mp z ht
            simp only [ht, if_true, t2, if_false, Bool.false_eq_true]
          · have t2 : TT m r i = true := (tt i).mpr ht
            simp only [ht, if_false, i10, t2, if_true]
        · unfold upd
          by_cases e : c = i
          · subst e; rw [if_pos rfl]
          · rw [if_neg e]; exact h1 c (by omega)
        · unfold upd; rw [if_neg (by omega)]; exact h2 c (by omega)
      · have e : i = C := by omega
        subst e
        exact Or.inr ⟨_, by simp only [X9_joinParts_L60, mc', Int32.le_refl, if_true] <;> rfl, P', rfl, h1, trivial⟩) C 5000 (sM_part m P, 0) (by omega) ⟨0, P, by omega, rfl, fun c hc => by omega, fun _ _ => rfl⟩
    subst q2
    refine ⟨P', by simp only [X9_joinParts, e1', Option.bind_some, q1], fun c hc => ⟨q3 c hc, ?_⟩⟩
    unfold jn
    split
    · exact zmn_12 C
    · exact (hL c hc).2
  · have hg0 : ¬ gM_gone m r = 0 := by rw [hg]; decide
    have e1 : iter (X9_joinParts_L5 (sM_part m P) (nI r)) 5000 (12, 0) = some 12 := iter_end (by
      simp only [X9_joinParts_L5, inR12 hr12, cl12 hr12, if_true, sg, hg0, if_false, ite_self]) (by omega)
    have e2 : iter (X9_joinParts_L60 (nI r) 12) 5000 (sM_part m P, 0) = some (sM_part m P) := iter_end (by
      simp only [X9_joinParts_L60, inR12 hr12, cl12 hr12, if_true, sg, hg0, if_false, ite_self]) (by omega)
    refine ⟨P, by simp only [X9_joinParts, e1, Option.bind_some, e2], fun c hc => ?_⟩
    have : ¬ TT m r c = true := by simp [TT, hg0]
    unfold jn
    rw [if_neg this]
    exact hL c hc
theorem rf_round (h : Rl C R F N w m) {P : Nat → Int32} {L : Nat → Nat} (hL : lab C P L) : ∃ P', iter (X9_parts_L55) 5000 (sM_part m P, 0) = some (sM_part m P') ∧ lab C P' (jsw (TT m) C L R) := by
  have hR := h.R12
  obtain ⟨e, q1, P', q2, q3⟩ := iter_run (step := X9_parts_L55) (fun d s => ∃ i P', i + d = R ∧ s = (sM_part m P', nI i) ∧ lab C P' (jsw (TT m) C L i)) (fun e => ∃ P', e = sM_part m P' ∧ lab C P' (jsw (TT m) C L R)) (fun d s hs => by
    obtain ⟨i, P', hid, rfl, h1⟩ := hs
    have mr : gM_rows (sM_part m P') = nI R := h.1.2.2.2.1
    by_cases hi : i < R
    · obtain ⟨P2, y1, y2⟩ := rf_join h h1 hi
      exact Or.inl ⟨(sM_part m P2, nI (i + 1)), by simp only [X9_parts_L55, mr, nC_le hR hi, if_false, y1, Option.bind_some, nI_1], d - 1, by omega, i + 1, P2, by omega, rfl, y2⟩
    · have e : i = R := by omega
      subst e
      exact Or.inr ⟨_, by simp only [X9_parts_L55, mr, Int32.le_refl, if_true] <;> rfl, P', rfl, h1⟩) R 5000 (sM_part m P, 0) (by omega) ⟨0, P, by omega, rfl, hL⟩
  subst q2
  exact ⟨P', q1, q3⟩
theorem rf_parts (h : Rl C R F N w m) : ∃ P z24, iter (X9_parts_L24) 5000 (m, 0) = some z24 ∧ iter (X9_parts_L47) 5000 (z24, 0) = some (sM_part m P) ∧ iter (X9_parts_L84 (sM_part m P)) 5000 (0, 0) = some (nI (cntN (beg m R C) C)) := by
  have hC := h.C12
  have hR := h.R12
  obtain ⟨z24, q1, P0, q2, q3⟩ := iter_run (step := X9_parts_L24) (fun d s => ∃ i P, i + d = C ∧ s = (sM_part m P, nI i) ∧ ∀ c, c < i → P c = nI c) (fun e => ∃ P, e = sM_part m P ∧ ∀ c, c < C → P c = nI c) (fun d s hs => by
    obtain ⟨i, P, hid, rfl, h1⟩ := hs
    have mc : gM_columns (sM_part m P) = nI C := h.1.2.2.1
    by_cases hi : i < C
    · have hi12 : i < 12 := by omega
      refine Or.inl ⟨_, by simp only [X9_parts_L24, mc, nC_le hC hi, if_false, inR12 hi12, cl12 hi12, if_true, bnd, nI_1] <;> rfl, d - 1, by omega, i + 1, upd P i (nI i), by omega, rfl, fun c hc => ?_⟩
      unfold upd
      by_cases e : c = i
      · subst e; rw [if_pos rfl]
      · rw [if_neg e]; exact h1 c (by omega)
    · have e : i = C := by omega
      subst e
      exact Or.inr ⟨_, by simp only [X9_parts_L24, mc, Int32.le_refl, if_true] <;> rfl, P, rfl, h1⟩) C 5000 (m, 0) (by omega) ⟨0, gM_part m, by omega, rfl, fun c hc => by omega⟩
  subst q2
  obtain ⟨z47, r1, P, r2, r3⟩ := iter_run (step := X9_parts_L47) (fun d s => ∃ i P, i + d = 12 ∧ s = (sM_part m P, nI i) ∧ lab C P (jrd (TT m) R C (fun c => c) i)) (fun e => ∃ P, e = sM_part m P ∧ lab C P (jrd (TT m) R C (fun c => c) 12)) (fun d s hs => by
    obtain ⟨i, P, hid, rfl, h1⟩ := hs
    by_cases hi : i < 12
    · obtain ⟨P2, y1, y2⟩ := rf_round h h1
      exact Or.inl ⟨(sM_part m P2, nI (i + 1)), by simp only [X9_parts_L47, show ¬ (12 : Int32) ≤ nI i from nC_le (C := 12) (by omega) hi, if_false, y1, Option.bind_some, nI_1], d - 1, by omega, i + 1, P2, by omega, rfl, y2⟩
    · have e : i = 12 := by omega
      subst e
      exact Or.inr ⟨_, by simp only [X9_parts_L47, show (12 : Int32) ≤ nI 12 from by decide, if_true] <;> rfl, P, rfl, h1⟩) 12 5000 (sM_part m P0, 0) (by omega) ⟨0, P0, by omega, rfl, fun c hc => ⟨q3 c hc, by show c ≤ 12; omega⟩⟩
  subst r2
  have mc : gM_columns (sM_part m P) = nI C := h.1.2.2.1
  have e := iter_to (step := X9_parts_L84 (sM_part m P)) C (fun i => (nI (cntN (beg m R C) i), nI i)) (nI (cntN (beg m R C) C)) (fun i hi => by
    have hi12 : i < 12 := by omega
    obtain ⟨l1, l2⟩ := r3 i hi
    have ss : gM_state (sM_part m P) = gM_state m := rfl
    have sp : gM_part (sM_part m P) = P := rfl
    simp only [X9_parts_L84, mc, nC_le hC hi, if_false, inR12 hi12, cl12 hi12, if_true, ss, sp, l1, X9_parts_J117, X9_parts_J116, nI_1, cntN]
    by_cases hs : gM_state m i = 0
    · by_cases hf : jrd (TT m) R C (fun c => c) 12 i = i
      · have b1 : beg m R C i = true := by simp [beg, hs, hf]
        simp only [hs, if_true, hf, b1, nI_1]
      · have b1 : beg m R C i = false := by simp [beg, hf]
        have n1 : ¬ nI (jrd (TT m) R C (fun c => c) 12 i) = nI i := by rw [neq (by omega) (by omega)]; exact hf
        simp only [hs, if_true, n1, if_false, b1, Bool.false_eq_true, Int32.add_zero, Nat.add_zero]
    · have b1 : beg m R C i = false := by simp [beg, hs]
      simp only [hs, if_false, b1, Bool.false_eq_true, Int32.add_zero, Nat.add_zero]) (by
    simp only [X9_parts_L84, mc, Int32.le_refl, if_true]) (f := 5000) (by omega)
  exact ⟨P, _, q1, r1, e⟩
end SW
theorem o_parts {w : CW} {m : MW} (h : Gl w m) : OpR w (X8_parts w) (X9_parts m) (fun x y => x = y) Ks := by
  have h' := h
  obtain ⟨C, R, hW, hS, hP, hT, hB⟩ := h'
  by_cases hs : gM_isSmall m = 0
  · exact Or.inl ⟨_, 1, 0, sM_thrown m 1, by simp only [X8_parts, cl_nSm0 hS hs, Option.bind_some, Sum.elim_inl] <;> rfl, by simp only [X9_parts, hs, if_true, X9_parts_J13, ps_1, Option.bind_some], rfl, Gl_thrown h 1, ⟨rfl, rfl⟩⟩
  · obtain ⟨F, hR⟩ := hS.rl hs
    obtain ⟨F0, hR0⟩ := Rl_fr (w' := w) (m' := sM_thrown m 0) hR rfl rfl rfl rfl rfl rfl
    obtain ⟨P, z24, p1, p2, p3⟩ := rf_parts hR0
    have gl : Gl w (sM_part (sM_thrown m 0) P) := by
      obtain ⟨C, R, hW, hS, hP, hT, hB⟩ := Gl_thrown h 0
      refine ⟨C, R, hW, ⟨hS.1, ?_⟩, hP, hT, hB⟩
      rcases hS.2 with e | ⟨e, F, hF⟩
      · exact Or.inl e
      · exact Or.inr ⟨e, Rl_fr hF rfl rfl rfl rfl rfl rfl⟩
    exact Or.inr ⟨_, _, sM_part (sM_thrown m 0) P, by simp only [X8_parts, cl_nSm1 hS hs, Option.bind_some, Sum.elim_inr, cl_parts hR0] <;> rfl, by simp only [X9_parts, hs, if_false, X9_parts_J13, ps_00, Option.bind_some, i10, p1, p2, p3] <;> rfl, rfl, rfl, gl⟩
