/-! parts: columns joined by rows -/
theorem cntN_lt {p q : Nat → Bool} {n x : Nat} (h : ∀ i, i < n → p i = true → q i = true) (hx : x < n) (hp : p x = false) (hq : q x = true) : cntN p n + 1 ≤ cntN q n := by
  have mono : ∀ n, (∀ i, i < n → p i = true → q i = true) → cntN p n ≤ cntN q n := by
    intro n
    induction n with
    | zero => intro _; exact Nat.le_refl _
    | succ n ih =>
      intro h
      have i1 := ih (fun i hi => h i (by omega))
      simp only [cntN]
      by_cases e : p n = true
      · rw [e, h n (by omega) e]; simp; exact i1
      · have e' : p n = false := by simpa using e
        rw [e']; simp; split <;> omega
  induction n with
  | zero => omega
  | succ n ih =>
    simp only [cntN]
    by_cases e : x = n
    · subst e
      have := mono x (fun i hi => h i (by omega))
      rw [hp, hq]; simp; exact this
    · have i1 := ih (fun i hi => h i (by omega)) (by omega)
      by_cases e2 : p n = true
      · rw [e2, h n (by omega) e2]; simp; omega
      · have e' : p n = false := by simpa using e2
        rw [e']; simp; split <;> omega
theorem cntN_full {p : Nat → Bool} {n : Nat} (h : n ≤ cntN p n) : ∀ i, i < n → p i = true := fun i hi => by
  by_cases e : p i = true
  · exact e
  · have e' : p i = false := by simpa using e
    have := cntN_lt (p := p) (q := fun _ => true) (fun _ _ _ => rfl) hi e' rfl
    have := cntN_le (fun _ => true) n
    omega
section PT
variable (T : Nat → Nat → Bool) (R C : Nat)
def cls (X : Nat → Bool) : Prop := ∀ r, r < R → ∀ a b, a < C → b < C → T r a = true → X a = true → T r b = true → X b = true
def mt (r : Nat) (S : Nat → Bool) : Bool := !(allN (fun c => !(T r c && S c)) C)
def stp (S : Nat → Bool) (r : Nat) : Nat → Bool := fun c => S c || (mt T C r S && T r c)
def swp (S : Nat → Bool) : Nat → Nat → Bool
  | 0 => S
  | n + 1 => stp T C (swp S n) n
def pas (S : Nat → Bool) : Nat → Nat → Bool
  | 0 => S
  | p + 1 => swp T C (pas S p) R
def ab (S : Nat → Bool) (r : Nat) : Bool := mt T C r S && allN (fun c => !(T r c) || S c) C
def Kc (c : Nat) : Nat → Bool := pas T R C (fun x => x == c) R
def zmn (r : Nat) (L : Nat → Nat) : Nat → Nat
  | 0 => 12
  | i + 1 => if T r i = true then (if zmn r L i ≤ L i then zmn r L i else L i) else zmn r L i
def jn (L : Nat → Nat) (r : Nat) : Nat → Nat := fun c => if T r c = true then zmn T r L C else L c
def jsw (L : Nat → Nat) : Nat → Nat → Nat
  | 0 => L
  | n + 1 => jn T C (jsw L n) n
def jrd (L : Nat → Nat) : Nat → Nat → Nat
  | 0 => L
  | t + 1 => jsw T C (jrd L t) R
variable {T R C}
theorem mt_iff {r : Nat} {S : Nat → Bool} : mt T C r S = true ↔ ∃ c, c < C ∧ T r c = true ∧ S c = true := by
  unfold mt
  constructor
  · intro h
    have h' : ¬ allN (fun c => !(T r c && S c)) C = true := by simpa using h
    apply Classical.byContradiction
    intro hn
    apply h'
    rw [allN_iff]
    intro c hc
    by_cases e : (T r c && S c) = true
    · rw [Bool.and_eq_true] at e
      exact absurd ⟨c, hc, e.1, e.2⟩ hn
    · have : (T r c && S c) = false := by simpa using e
      rw [this]; rfl
  · rintro ⟨c, hc, h1, h2⟩
    have h' : ¬ allN (fun c => !(T r c && S c)) C = true := fun z => by
      have := allN_iff.mp z c hc
      rw [h1, h2] at this
      exact absurd this (by decide)
    simpa using h'
theorem ab_iff {r : Nat} {S : Nat → Bool} : ab T C S r = true ↔ (∃ c, c < C ∧ T r c = true ∧ S c = true) ∧ ∀ c, c < C → T r c = true → S c = true := by
  unfold ab
  rw [Bool.and_eq_true, mt_iff, allN_iff]
  constructor
  · rintro ⟨h1, h2⟩
    exact ⟨h1, fun c hc ht => by have := h2 c hc; rw [ht] at this; simpa using this⟩
  · rintro ⟨h1, h2⟩
    refine ⟨h1, fun c hc => ?_⟩
    by_cases ht : T r c = true
    · rw [h2 c hc ht, Bool.or_true]
    · have : T r c = false := by simpa using ht
      rw [this]; rfl
theorem stp_up {S : Nat → Bool} {r c : Nat} (h : S c = true) : stp T C S r c = true := by unfold stp; rw [h]; rfl
theorem stp_in {S X : Nat → Bool} (hX : cls T R C X) {r : Nat} (hr : r < R) (h : ∀ c, c < C → S c = true → X c = true) : ∀ c, c < C → stp T C S r c = true → X c = true := fun c hc hs => by
  unfold stp at hs
  rw [Bool.or_eq_true, Bool.and_eq_true] at hs
  rcases hs with e | ⟨e1, e2⟩
  · exact h c hc e
  · obtain ⟨a, ha, t1, t2⟩ := mt_iff.mp e1
    exact hX r hr a c ha hc t1 (h a ha t2) e2
theorem swp_up {S : Nat → Bool} {c : Nat} (h : S c = true) : ∀ n, swp T C S n c = true
  | 0 => h
  | n + 1 => stp_up (swp_up h n)
theorem swp_in {S X : Nat → Bool} (hX : cls T R C X) (h : ∀ c, c < C → S c = true → X c = true) : ∀ n, n ≤ R → ∀ c, c < C → swp T C S n c = true → X c = true
  | 0, _ => h
  | n + 1, hn => stp_in hX (by omega) (swp_in hX h n (by omega))
theorem swp_abs {S : Nat → Bool} {r a b : Nat} (ha : a < C) (t1 : T r a = true) (s1 : S a = true) (t2 : T r b = true) : ∀ n, r < n → swp T C S n b = true
  | 0, h => absurd h (by omega)
  | n + 1, h => by
    by_cases e : r = n
    · subst e
      show stp T C (swp T C S r) r b = true
      unfold stp
      rw [mt_iff.mpr ⟨a, ha, t1, swp_up s1 r⟩, t2]
      simp
    · exact stp_up (swp_abs ha t1 s1 t2 n (by omega))
theorem pas_up {S : Nat → Bool} {c : Nat} (h : S c = true) : ∀ p, pas T R C S p c = true
  | 0 => h
  | p + 1 => swp_up (pas_up h p) R
theorem pas_in {S X : Nat → Bool} (hX : cls T R C X) (h : ∀ c, c < C → S c = true → X c = true) : ∀ p, ∀ c, c < C → pas T R C S p c = true → X c = true
  | 0 => h
  | p + 1 => swp_in hX (pas_in hX h p) R (Nat.le_refl _)
theorem cls_not {X : Nat → Bool} (h : ¬ cls T R C X) : ∃ r a b, r < R ∧ a < C ∧ b < C ∧ T r a = true ∧ X a = true ∧ T r b = true ∧ X b = false := by
  apply Classical.byContradiction
  intro hn
  apply h
  intro r hr a b ha hb t1 x1 t2
  by_cases e : X b = true
  · exact e
  · exact absurd ⟨r, a, b, hr, ha, hb, t1, x1, t2, by simpa using e⟩ hn
theorem cls_swp {S : Nat → Bool} (h : cls T R C S) : cls T R C (swp T C S R) := fun r hr a b ha hb t1 x1 t2 => swp_up (h r hr a b ha hb t1 (swp_in h (fun _ _ z => z) R (Nat.le_refl _) a ha x1) t2) R
theorem pas_cls (S : Nat → Bool) : cls T R C (pas T R C S R) := by
  have key : ∀ p, cls T R C (pas T R C S p) ∨ p ≤ cntN (ab T C (pas T R C S p)) R := by
    intro p
    induction p with
    | zero => exact Or.inr (Nat.zero_le _)
    | succ p ih =>
      by_cases hc : cls T R C (pas T R C S p)
      · exact Or.inl (cls_swp hc)
      · rcases ih with e | e
        · exact absurd e hc
        · obtain ⟨r, a, b, hr, ha, hb, t1, x1, t2, x2⟩ := cls_not hc
          refine Or.inr (Nat.le_trans (Nat.succ_le_succ e) (cntN_lt (p := ab T C (pas T R C S p)) (q := ab T C (pas T R C S (p + 1))) (fun i hi z => ?_) hr ?_ ?_))
          · obtain ⟨⟨c, hc1, hc2, hc3⟩, h2⟩ := ab_iff.mp z
            exact ab_iff.mpr ⟨⟨c, hc1, hc2, swp_up hc3 R⟩, fun c hc ht => swp_up (h2 c hc ht) R⟩
          · have : ¬ ab T C (pas T R C S p) r = true := fun z => by
              have := (ab_iff.mp z).2 b hb t2
              rw [x2] at this
              exact absurd this (by decide)
            simpa using this
          · exact ab_iff.mpr ⟨⟨a, ha, t1, swp_up x1 R⟩, fun c hc ht => swp_abs ha t1 x1 ht R hr⟩
  rcases key R with e | e
  · exact e
  · intro r hr a b ha hb t1 x1 t2
    exact (ab_iff.mp (cntN_full e r hr)).2 b hb t2
theorem Kc_self (c : Nat) : Kc T R C c c = true := pas_up (by simp) R
theorem Kc_cls (c : Nat) : cls T R C (Kc T R C c) := pas_cls _
theorem Kc_min {c : Nat} {X : Nat → Bool} (hX : cls T R C X) (h : X c = true) : ∀ x, x < C → Kc T R C c x = true → X x = true := pas_in hX (fun x _ e => by
  have : x = c := by simpa using e
  rw [this]; exact h) R
theorem Kc_sym {c x : Nat} (hx : x < C) (h : Kc T R C c x = true) : Kc T R C x c = true := by
  by_cases e : Kc T R C x c = true
  · exact e
  · have hX : cls T R C (fun y => !(Kc T R C x y)) := fun r hr a b ha hb t1 x1 t2 => by
      by_cases e2 : Kc T R C x b = true
      · have := Kc_cls x r hr b a hb ha t2 e2 t1
        dsimp only at x1
        rw [this] at x1
        exact absurd x1 (by decide)
      · have : Kc T R C x b = false := by simpa using e2
        dsimp only
        rw [this]; rfl
    have e3 : Kc T R C x c = false := by simpa using e
    have := Kc_min hX (c := c) (by rw [e3]; rfl) x hx h
    rw [Kc_self x] at this
    exact absurd this (by decide)
theorem zmn_le {r : Nat} {L : Nat → Nat} {c : Nat} (ht : T r c = true) : ∀ {n : Nat}, c < n → zmn T r L n ≤ L c
  | 0, h => absurd h (by omega)
  | n + 1, h => by
    simp only [zmn]
    by_cases e : c = n
    · subst e
      rw [if_pos ht]
      split <;> omega
    · have := zmn_le (L := L) ht (show c < n by omega)
      split
      · split <;> omega
      · exact this
theorem zmn_or {r : Nat} {L : Nat → Nat} : ∀ (n : Nat), zmn T r L n = 12 ∨ ∃ x, x < n ∧ T r x = true ∧ zmn T r L n = L x
  | 0 => Or.inl rfl
  | n + 1 => by
    simp only [zmn]
    have ih : zmn T r L n = 12 ∨ ∃ x, x < n + 1 ∧ T r x = true ∧ zmn T r L n = L x := by
      rcases zmn_or (r := r) (L := L) n with e | ⟨x, hx, h1, h2⟩
      · exact Or.inl e
      · exact Or.inr ⟨x, by omega, h1, h2⟩
    by_cases ht : T r n = true
    · rw [if_pos ht]
      split
      · exact ih
      · exact Or.inr ⟨n, by omega, ht, rfl⟩
    · rw [if_neg ht]; exact ih
def gdL (T : Nat → Nat → Bool) (R C : Nat) (L : Nat → Nat) : Prop := ∀ c, c < C → L c ≤ c ∧ ∀ X, cls T R C X → X c = true → X (L c) = true
theorem zmn_ex (hC : C ≤ 12) {L : Nat → Nat} (hL : gdL T R C L) {r c : Nat} (hc : c < C) (ht : T r c = true) : ∃ x, x < C ∧ T r x = true ∧ zmn T r L C = L x := by
  rcases zmn_or (T := T) (r := r) (L := L) C with e | e
  · have := zmn_le (L := L) ht hc
    have := (hL c hc).1
    omega
  · exact e
theorem gd_jn (hC : C ≤ 12) {L : Nat → Nat} (hL : gdL T R C L) {r : Nat} (hr : r < R) : gdL T R C (jn T C L r) := fun c hc => by
  unfold jn
  by_cases ht : T r c = true
  · rw [if_pos ht]
    obtain ⟨x, hx, t1, e⟩ := zmn_ex hC hL hc ht
    have := zmn_le (L := L) ht hc
    refine ⟨by have := (hL c hc).1; omega, fun X hX hc' => ?_⟩
    rw [e]
    exact (hL x hx).2 X hX (hX r hr c x hc hx ht hc' t1)
  · rw [if_neg ht]; exact hL c hc
theorem gd_jsw (hC : C ≤ 12) {L : Nat → Nat} (hL : gdL T R C L) : ∀ n, n ≤ R → gdL T R C (jsw T C L n)
  | 0, _ => hL
  | n + 1, hn => gd_jn hC (gd_jsw hC hL n (by omega)) (by omega)
theorem gd_id : gdL T R C (fun c => c) := fun c _ => ⟨Nat.le_refl _, fun _ _ h => h⟩
theorem gd_jrd (hC : C ≤ 12) : ∀ t, gdL T R C (jrd T R C (fun c => c) t)
  | 0 => gd_id
  | t + 1 => gd_jsw hC (gd_jrd hC t) R (Nat.le_refl _)
section CV
variable {i mu : Nat}
def Dm (T : Nat → Nat → Bool) (R C i mu : Nat) (L : Nat → Nat) (x : Nat) : Bool := Kc T R C i x && (L x == mu)
theorem Dm_iff {L : Nat → Nat} {x : Nat} : Dm T R C i mu L x = true ↔ Kc T R C i x = true ∧ L x = mu := by
  unfold Dm; rw [Bool.and_eq_true]; simp
theorem low_mu (hmu : ∀ y, y < mu → Kc T R C i y = false) {L : Nat → Nat} (hL : gdL T R C L) {x : Nat} (hx : x < C) (hk : Kc T R C i x = true) : mu ≤ L x := by
  have h1 := (hL x hx).2 _ (Kc_cls i) hk
  by_cases e : L x < mu
  · rw [hmu _ e] at h1; exact absurd h1 (by decide)
  · omega
theorem Dm_hit (hC : C ≤ 12) (hmu : ∀ y, y < mu → Kc T R C i y = false) {L : Nat → Nat} (hL : gdL T R C L) {r a b : Nat} (hr : r < R) (ha : a < C) (hb : b < C) (t1 : T r a = true) (d1 : Dm T R C i mu L a = true) (t2 : T r b = true) : Dm T R C i mu (jn T C L r) b = true := by
  obtain ⟨k1, l1⟩ := Dm_iff.mp d1
  have kb := Kc_cls i r hr a b ha hb t1 k1 t2
  obtain ⟨x, hx, tx, ex⟩ := zmn_ex hC hL ha t1
  have kx := Kc_cls i r hr a x ha hx t1 k1 tx
  have h1 := low_mu hmu hL hx kx
  have h2 := zmn_le (L := L) t1 ha
  refine Dm_iff.mpr ⟨kb, ?_⟩
  unfold jn
  rw [if_pos t2]
  omega
theorem Dm_jn (hC : C ≤ 12) (hmu : ∀ y, y < mu → Kc T R C i y = false) {L : Nat → Nat} (hL : gdL T R C L) {r x : Nat} (hr : r < R) (hx : x < C) (d1 : Dm T R C i mu L x = true) : Dm T R C i mu (jn T C L r) x = true := by
  by_cases ht : T r x = true
  · exact Dm_hit hC hmu hL hr hx hx ht d1 ht
  · obtain ⟨k1, l1⟩ := Dm_iff.mp d1
    refine Dm_iff.mpr ⟨k1, ?_⟩
    unfold jn
    rw [if_neg ht]; exact l1
theorem Dm_jsw (hC : C ≤ 12) (hmu : ∀ y, y < mu → Kc T R C i y = false) {L : Nat → Nat} (hL : gdL T R C L) {x : Nat} (hx : x < C) (d1 : Dm T R C i mu L x = true) : ∀ n, n ≤ R → Dm T R C i mu (jsw T C L n) x = true
  | 0, _ => d1
  | n + 1, hn => Dm_jn hC hmu (gd_jsw hC hL n (by omega)) (by omega) hx (Dm_jsw hC hmu hL hx d1 n (by omega))
theorem Dm_abs (hC : C ≤ 12) (hmu : ∀ y, y < mu → Kc T R C i y = false) {L : Nat → Nat} (hL : gdL T R C L) {r a b : Nat} (ha : a < C) (hb : b < C) (t1 : T r a = true) (d1 : Dm T R C i mu L a = true) (t2 : T r b = true) : ∀ n, n ≤ R → r < n → Dm T R C i mu (jsw T C L n) b = true
  | 0, _, h => absurd h (by omega)
  | n + 1, hn, h => by
    by_cases e : r = n
    · subst e
      exact Dm_hit hC hmu (gd_jsw hC hL r (by omega)) (by omega) ha hb t1 (Dm_jsw hC hmu hL ha d1 r (by omega)) t2
    · exact Dm_jn hC hmu (gd_jsw hC hL n (by omega)) (by omega) hb (Dm_abs hC hmu hL ha hb t1 d1 t2 n (by omega) (by omega))
theorem conv (hC : C ≤ 12) (hi : i < C) (hmC : mu < C) (hmi : mu < i) (hmu : ∀ y, y < mu → Kc T R C i y = false) (hk : Kc T R C i mu = true) : jrd T R C (fun c => c) 12 i ≠ i := by
  have key : ∀ t, Dm T R C i mu (jrd T R C (fun c => c) t) i = true ∨ t + 1 ≤ cntN (Dm T R C i mu (jrd T R C (fun c => c) t)) C := by
    intro t
    have dmu : ∀ t, Dm T R C i mu (jrd T R C (fun c => c) t) mu = true := fun t => by
      have h1 := low_mu hmu (gd_jrd hC t) hmC hk
      have h2 := (gd_jrd (T := T) (R := R) hC t mu hmC).1
      exact Dm_iff.mpr ⟨hk, by omega⟩
    induction t with
    | zero =>
      right
      have := cntN_lt (p := fun _ => false) (q := Dm T R C i mu (jrd T R C (fun c => c) 0)) (n := C) (x := mu) (fun _ _ z => absurd z (by decide)) hmC rfl (dmu 0)
      omega
    | succ t ih =>
      have gl := gd_jrd (T := T) (R := R) hC t
      by_cases hd : Dm T R C i mu (jrd T R C (fun c => c) t) i = true
      · exact Or.inl (Dm_jsw hC hmu gl hi hd R (Nat.le_refl _))
      · rcases ih with e | e
        · exact absurd e hd
        · right
          have ncl : ¬ cls T R C (Dm T R C i mu (jrd T R C (fun c => c) t)) := fun hc => hd (Kc_min hc (dmu t) i hi (Kc_sym hmC hk))
          obtain ⟨r, a, b, hr, ha, hb, t1, x1, t2, x2⟩ := cls_not ncl
          have := cntN_lt (p := Dm T R C i mu (jrd T R C (fun c => c) t)) (q := Dm T R C i mu (jrd T R C (fun c => c) (t + 1))) (n := C) (x := b) (fun x hx z => Dm_jsw hC hmu gl hx z R (Nat.le_refl _)) hb x2 (Dm_abs hC hmu gl ha hb t1 x1 t2 R (Nat.le_refl _) hr)
          omega
  rcases key 12 with e | e
  · have := (Dm_iff.mp e).2
    omega
  · have := cntN_le (Dm T R C i mu (jrd T R C (fun c => c) 12)) C
    omega
end CV
theorem fin_iff (hC : C ≤ 12) {i : Nat} (hi : i < C) : jrd T R C (fun c => c) 12 i = i ↔ ¬ ∃ c, c < i ∧ Kc T R C c i = true := by
  constructor
  · rintro h ⟨c, hc, hk⟩
    have hk2 := Kc_sym hi hk
    obtain ⟨s1, s2, s3, s4⟩ := fstN_spec (Kc T R C i) C 0
    have le : fstN (Kc T R C i) C 0 ≤ c := by
      by_cases e : c < fstN (Kc T R C i) C 0
      · have := s3 c (by omega) e
        rw [hk2] at this
        exact absurd this (by decide)
      · omega
    exact conv hC hi (by omega) (by omega) (fun y hy => s3 y (by omega) hy) (s4 (by omega)) h
  · intro h
    by_cases e : jrd T R C (fun c => c) 12 i = i
    · exact e
    · obtain ⟨g1, g2⟩ := gd_jrd (T := T) (R := R) hC 12 i hi
      have := g2 _ (Kc_cls i) (Kc_self i)
      exact absurd ⟨_, by omega, Kc_sym (by omega) this⟩ h
end PT
