/-! THE PURE PART: loops, sums, indices -/
theorem iter_to {S E : Type} {step : S → Option (S ⊕ E)} (k : Nat) (st : Nat → S) (out : E) (hs : ∀ i, i < k → step (st i) = some (.inl (st (i + 1)))) (he : step (st k) = some (.inr out)) {f : Nat} (hf : k < f) : iter step f (st 0) = some out := by
  have key : ∀ (d i f : Nat), i + d = k → d < f → iter step f (st i) = some out := by
    intro d
    induction d with
    | zero =>
      intro i f hi hf
      obtain ⟨f, rfl⟩ : ∃ g, f = g + 1 := ⟨f - 1, by omega⟩
      have : i = k := by omega
      subst this
      simp only [iter, he, Option.bind_some]
    | succ d ih =>
      intro i f hi hf
      obtain ⟨f, rfl⟩ : ∃ g, f = g + 1 := ⟨f - 1, by omega⟩
      simp only [iter, hs i (by omega), Option.bind_some]
      exact ih (i + 1) f (by omega) (by omega)
  exact key k 0 f (by omega) hf
theorem iter_run {S E : Type} {step : S → Option (S ⊕ E)} (I : Nat → S → Prop) (Q : E → Prop) (h : ∀ d x, I d x → (∃ y, step x = some (.inl y) ∧ ∃ d', d' < d ∧ I d' y) ∨ (∃ e, step x = some (.inr e) ∧ Q e)) : ∀ (d f : Nat) (x : S), d < f → I d x → ∃ e, iter step f x = some e ∧ Q e := by
  intro d
  induction d using Nat.strongRecOn with
  | _ d ih =>
    intro f x hf hI
    obtain ⟨f, rfl⟩ : ∃ g, f = g + 1 := ⟨f - 1, by omega⟩
    rcases h d x hI with ⟨y, h1, d', h2, h3⟩ | ⟨e, h1, h2⟩
    · obtain ⟨e, h4, h5⟩ := ih d' h2 f y (by omega) h3
      exact ⟨e, by simp only [iter, h1, Option.bind_some]; exact h4, h5⟩
    · exact ⟨e, by simp only [iter, h1, Option.bind_some], h2⟩
theorem iter_sim {A B EA EB : Type} {sa : A → Option (A ⊕ EA)} {sb : B → Option (B ⊕ EB)} (I : Nat → A → B → Prop) (Q : EA → EB → Prop) (h : ∀ d a b, I d a b → (∃ a' b', sa a = some (.inl a') ∧ sb b = some (.inl b') ∧ ∃ d', d' < d ∧ I d' a' b') ∨ (∃ ea, sa a = some (.inr ea) ∧ ∀ f, d < f → ∃ eb, iter sb f b = some eb ∧ Q ea eb)) : ∀ (d f f' : Nat) (a : A) (b : B), d < f → d < f' → I d a b → ∃ ea eb, iter sa f a = some ea ∧ iter sb f' b = some eb ∧ Q ea eb := by
  intro d
  induction d using Nat.strongRecOn with
  | _ d ih =>
    intro f f' a b hf hf' hI
    obtain ⟨f, rfl⟩ : ∃ g, f = g + 1 := ⟨f - 1, by omega⟩
    rcases h d a b hI with ⟨a', b', h1, h1', d', h2, h3⟩ | ⟨ea, h1, h2⟩
    · obtain ⟨f', rfl⟩ : ∃ g, f' = g + 1 := ⟨f' - 1, by omega⟩
      obtain ⟨ea, eb, h4, h5, h6⟩ := ih d' h2 f f' a' b' (by omega) (by omega) h3
      exact ⟨ea, eb, by simp only [iter, h1, Option.bind_some]; exact h4, by simp only [iter, h1', Option.bind_some]; exact h5, h6⟩
    · obtain ⟨eb, h4, h5⟩ := h2 f' hf'
      exact ⟨ea, eb, by simp only [iter, h1, Option.bind_some], h4, h5⟩
theorem iter_end {S E : Type} {step : S → Option (S ⊕ E)} {x : S} {e : E} (h : step x = some (.inr e)) {f : Nat} (hf : 0 < f) : iter step f x = some e := by
  obtain ⟨f, rfl⟩ : ∃ g, f = g + 1 := ⟨f - 1, by omega⟩
  simp only [iter, h, Option.bind_some]
theorem iter_in {S E : Type} {step : S → Option (S ⊕ E)} {x y : S} (h : step x = some (.inl y)) {f : Nat} : iter step (f + 1) x = iter step f y := by
  simp only [iter, h, Option.bind_some]
/-- sums, unions, counts -/
def sumN (f : Nat → Int64) : Nat → Int64
  | 0 => 0
  | n + 1 => sumN f n + f n
theorem sumN_congr {f g : Nat → Int64} {n : Nat} (h : ∀ i, i < n → f i = g i) : sumN f n = sumN g n := by
  induction n with
  | zero => rfl
  | succ n ih => simp only [sumN]; rw [ih (fun i hi => h i (by omega)), h n (by omega)]
def orN (f : Nat → Int32) : Nat → Int32
  | 0 => 0
  | n + 1 => orN f n ||| f n
theorem orN_congr {f g : Nat → Int32} {n : Nat} (h : ∀ i, i < n → f i = g i) : orN f n = orN g n := by
  induction n with
  | zero => rfl
  | succ n ih => simp only [orN]; rw [ih (fun i hi => h i (by omega)), h n (by omega)]
def cntN (p : Nat → Bool) : Nat → Nat
  | 0 => 0
  | n + 1 => cntN p n + (if p n then 1 else 0)
theorem cntN_congr {p q : Nat → Bool} {n : Nat} (h : ∀ i, i < n → p i = q i) : cntN p n = cntN q n := by
  induction n with
  | zero => rfl
  | succ n ih => simp only [cntN]; rw [ih (fun i hi => h i (by omega)), h n (by omega)]
theorem cntN_le (p : Nat → Bool) (n : Nat) : cntN p n ≤ n := by
  induction n with
  | zero => exact Nat.le_refl _
  | succ n ih => simp only [cntN]; split <;> omega
theorem cntN_zero {p : Nat → Bool} {n : Nat} : cntN p n = 0 ↔ ∀ i, i < n → p i = false := by
  induction n with
  | zero => simp [cntN]
  | succ n ih =>
    simp only [cntN, Nat.add_eq_zero_iff, ih]
    constructor
    · rintro ⟨h1, h2⟩ i hi
      by_cases he : i = n
      · subst he; by_cases hp : p i = true
        · rw [if_pos hp] at h2; cases h2
        · simpa using hp
      · exact h1 i (by omega)
    · intro h
      exact ⟨fun i hi => h i (by omega), by rw [h n (by omega)]; rfl⟩
/-- the first place from i on, within d places, where p holds -/
def fstN (p : Nat → Bool) : Nat → Nat → Nat
  | 0, i => i
  | d + 1, i => if p i then i else fstN p d (i + 1)
theorem fstN_spec (p : Nat → Bool) : ∀ (d i : Nat), i ≤ fstN p d i ∧ fstN p d i ≤ i + d ∧ (∀ j, i ≤ j → j < fstN p d i → p j = false) ∧ (fstN p d i < i + d → p (fstN p d i) = true)
  | 0, i => ⟨Nat.le_refl _, Nat.le_refl _, fun j h1 h2 => by simp only [fstN] at h2; omega, fun h => by simp only [fstN] at h; omega⟩
  | d + 1, i => by
    by_cases hp : p i = true
    · have e : fstN p (d + 1) i = i := by simp only [fstN, hp, if_true]
      rw [e]
      exact ⟨Nat.le_refl _, by omega, fun j h1 h2 => by omega, fun _ => hp⟩
    · have hp' : p i = false := by simpa using hp
      have e : fstN p (d + 1) i = fstN p d (i + 1) := by simp only [fstN, hp']; rfl
      obtain ⟨h1, h2, h3, h4⟩ := fstN_spec p d (i + 1)
      rw [e]
      refine ⟨by omega, by omega, fun j hj1 hj2 => ?_, fun h => h4 (by omega)⟩
      by_cases hj : j = i
      · subst hj; exact hp'
      · exact h3 j (by omega) hj2
theorem fstN_congr {p q : Nat → Bool} : ∀ (d i : Nat), (∀ j, i ≤ j → j < i + d → p j = q j) → fstN p d i = fstN q d i
  | 0, _, _ => rfl
  | d + 1, i, h => by
    simp only [fstN]
    rw [h i (by omega) (by omega), fstN_congr d (i + 1) (fun j h1 h2 => h j (by omega) (by omega))]
/-- indices -/
theorem inRn {i n : Nat} (h : i < n) (hn : n < 2 ^ 31) : inR (nI i) n = true := by
  unfold inR
  rw [nI_clamp (by omega)]
  have : ¬ nI i < 0 := nI_pos (by omega)
  simp [this, h]
theorem inR12 {i : Nat} (h : i < 12) : inR (nI i) 12 = true := inRn h (by omega)
theorem cl12 {i : Nat} (h : i < 12) : (nI i).toNatClampNeg = i := nI_clamp (by omega)
theorem nI_mul (a b : Nat) : nI a * nI b = nI (a * b) := (Int32.ofNat_mul a b).symm
theorem ix144 (r c : Nat) : 12 * nI r + nI c = nI (12 * r + c) := by
  rw [show (12 : Int32) = nI 12 from rfl, nI_mul, nI_add]
theorem inR144 {r c : Nat} (hr : r < 12) (hc : c < 12) : inR (nI (12 * r + c)) 144 = true := inRn (by omega) (by omega)
theorem cl144 {r c : Nat} (hr : r < 12) (hc : c < 12) : (nI (12 * r + c)).toNatClampNeg = 12 * r + c := nI_clamp (by omega)
theorem nle {a b : Nat} (ha : a ≤ 5000) (hb : b ≤ 5000) : nI a ≤ nI b ↔ a ≤ b := nI_leI (by omega) (by omega)
theorem nlt {a b : Nat} (ha : a ≤ 5000) (hb : b ≤ 5000) : nI a < nI b ↔ a < b := nI_ltI (by omega) (by omega)
theorem neq {a b : Nat} (ha : a ≤ 5000) (hb : b ≤ 5000) : nI a = nI b ↔ a = b := nI_eq (by omega) (by omega)
/-- a fold of a world's loop is told by what holds at each turn: for (i = 0; i < C; i++) with the index last -/
theorem ite_some {α : Type} {c : Prop} [Decidable c] (h : c) {A B : Option α} : (if c then A else B) = A := if_pos h
