/-! the run -/
theorem Gl_0 : Gl cw0 mw0 := Gl_fresh (C := 0) (R := 0) ⟨⟨rfl, rfl, rfl, rfl, by omega, by omega⟩, fun c hc => by omega, fun r hr => by omega, fun r c hr => by omega, fun _ _ _ _ _ => rfl, fun _ => rfl⟩ ⟨⟨rfl, rfl, rfl, rfl⟩, rfl, fun _ _ => rfl, rfl, rfl⟩
theorem law_runs (xs : Nat → Int32) (L : Nat) : ∀ (f j : Nat) (w : ZW), Gl w.1.1 w.2 → 1 ≤ f → L < 4 * (j + f) → lawRun xs L f j w = some ()
  | 0, _, _, _, h, _ => absurd h (by omega)
  | f + 1, j, w, hw, _, hL => by
    simp only [lawRun]
    by_cases e : 4 * j + 4 ≤ L
    · rw [if_pos e]
      obtain ⟨w2, h1, h2⟩ := law_step hw (xs (4 * j)) (xs (4 * j + 1)) (xs (4 * j + 2)) (xs (4 * j + 3))
      rw [h1]
      exact law_runs xs L f (j + 1) w2 h2 (by omega) (by omega)
    · rw [if_neg e]
theorem law_pure : ∀ (xs : Nat → Int32) (L : Nat), L ≤ 2048 → lawRun xs L 600 0 zw0 = some () := fun xs L hL => law_runs xs L 600 0 zw0 Gl_0 (by omega) (by omega)
