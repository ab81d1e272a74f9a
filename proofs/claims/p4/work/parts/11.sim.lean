/-- what a step leaves of the room -/
def mm_bd : mm_T → Nat × Nat
  | .inl F => (F.2.2.2.2.1, F.2.2.2.2.2)
  | .inr (.inl o) => (o.2.2.1, o.2.2.2)
  | .inr (.inr q) => (q.2.2.2.2.2.2.2.2.1, q.2.2.2.2.2.2.2.2.2)
theorem mm_call_bd {r1 r2 r3 pc nx : Nat} {lo : List (Nat × Value)} {st : List Value} {W0 : mm_W} {b0 c0 : Nat} {T : mm_T} (h : mm_call r1 r2 r3 pc nx lo st W0 b0 c0 = some T) : mm_bd T = (b0, c0) := by
  unfold mm_call at h
  split at h
  · cases h
  · dsimp only at h
    split at h
    · split at h
      · split at h
        · cases h; rfl
        · cases h
      · cases h
    · split at h
      · split at h
        · cases h; rfl
        · cases h
      · cases h
    · split at h
      · cases h; rfl
      · cases h
    · split at h
      · split at h
        · cases h; rfl
        · cases h
      · cases h
    · split at h
      · split at h
        · obtain ⟨W2, -, h⟩ := Option.map_eq_some_iff.mp h
          cases h; rfl
        · cases h
      · cases h
    · cases h
theorem mm_stepI_bd {xa : mm_Xa} {j : Nat} (ins : Instr) {nx r1 r2 r3 pc : Nat} {lo : List (Nat × Value)} {st : List Value} {W0 : mm_W} {b0 c0 : Nat} {T : mm_T} (h : mm_stepI xa j ins nx r1 r2 r3 pc lo st W0 b0 c0 = some T) : (mm_bd T).1 ≤ b0 ∧ (mm_bd T).2 ≤ c0 := by
  cases ins with
  | invokevirtual i => rw [mm_call_bd h]; exact ⟨Nat.le_refl _, Nat.le_refl _⟩
  | invokestatic i => rw [mm_call_bd h]; exact ⟨Nat.le_refl _, Nat.le_refl _⟩
  | invokespecial i => rw [mm_call_bd h]; exact ⟨Nat.le_refl _, Nat.le_refl _⟩
  | arraylength =>
    simp only [mm_stepI] at h
    split at h
    · obtain ⟨n, -, h⟩ := Option.map_eq_some_iff.mp h
      cases h; exact ⟨Nat.le_refl _, Nat.le_refl _⟩
    · cases h
  | getfield i =>
    simp only [mm_stepI] at h
    split at h
    · split at h
      · split at h
        · obtain ⟨n, -, h⟩ := Option.map_eq_some_iff.mp h
          cases h; exact ⟨Nat.le_refl _, Nat.le_refl _⟩
        · cases h
      · split at h
        · cases h
        · obtain ⟨n, -, h⟩ := Option.map_eq_some_iff.mp h
          cases h; exact ⟨Nat.le_refl _, Nat.le_refl _⟩
    · cases h
  | putfield i =>
    simp only [mm_stepI] at h
    split at h
    · split at h
      · obtain ⟨n, -, h⟩ := Option.map_eq_some_iff.mp h
        cases h; exact ⟨Nat.le_refl _, Nat.le_refl _⟩
      · cases h
    · cases h
  | aastore =>
    simp only [mm_stepI] at h
    split at h
    · split at h
      · obtain ⟨n, -, h⟩ := Option.map_eq_some_iff.mp h
        cases h; exact ⟨Nat.le_refl _, Nat.le_refl _⟩
      · cases h
    · cases h
  | new i =>
    simp only [mm_stepI] at h
    split at h
    · split at h
      · cases h; exact ⟨Nat.sub_le _ _, Nat.sub_le _ _⟩
      · cases h
    · split at h
      · cases h; exact ⟨Nat.sub_le _ _, Nat.sub_le _ _⟩
      · cases h
  | newarray a =>
    simp only [mm_stepI] at h
    split at h
    · split at h
      · cases h; exact ⟨Nat.sub_le _ _, Nat.sub_le _ _⟩
      · cases h
    · cases h
  | anewarray i =>
    simp only [mm_stepI] at h
    split at h
    · split at h
      · cases h; exact ⟨Nat.sub_le _ _, Nat.sub_le _ _⟩
      · cases h
    · cases h
  | _ =>
    first
    | (cases (show (none : Option mm_T) = some T from h); done)
    | (simp only [mm_stepI] at h
       (repeat' split at h) <;> first | (cases h; done) | (cases h; exact ⟨Nat.le_refl _, Nat.le_refl _⟩))
theorem mm_step_bd {xa : mm_Xa} {j : Nat} {F : mm_F} {T : mm_T} (h : mm_step xa j F = some T) : (mm_bd T).1 ≤ F.2.2.2.2.1 ∧ (mm_bd T).2 ≤ F.2.2.2.2.2 := by
  unfold mm_step at h
  split at h
  · cases h
  · exact mm_stepI_bd _ h
theorem mm_ex_bd {xa : mm_Xa} : ∀ (f d j : Nat) (F : mm_F) (o : mm_O), mm_ex xa f d j F = some o → o.2.2.1 ≤ F.2.2.2.2.1 ∧ o.2.2.2 ≤ F.2.2.2.2.2
  | 0, _, _, _, _, h => by cases h
  | f + 1, d, j, F, o, h => by
    unfold mm_ex at h
    split at h
    · cases h
    · rename_i F' hs
      have h1 := mm_step_bd hs
      have h2 := mm_ex_bd f d j F' o h
      exact ⟨Nat.le_trans h2.1 h1.1, Nat.le_trans h2.2 h1.2⟩
    · rename_i o' hs
      have h1 := mm_step_bd hs
      cases h
      exact h1
    · rename_i j' as nx fl G hs
      have h1 := mm_step_bd hs
      split at h
      · cases h
      · rename_i d'
        split at h
        · cases h
        · split at h
          · cases h
          · rename_i v W2 b2 c2 hc
            have h2 := mm_ex_bd f d' j' _ _ hc
            have h3 := mm_ex_bd f (d' + 1) j _ _ h
            exact ⟨Nat.le_trans h3.1 (Nat.le_trans h2.1 h1.1), Nat.le_trans h3.2 (Nat.le_trans h2.2 h1.2)⟩
          · rename_i E W2 b2 c2 hc
            have h2 := mm_ex_bd f d' j' _ _ hc
            split at h
            · cases h
            · split at h
              · cases h
                exact ⟨Nat.le_trans h2.1 h1.1, Nat.le_trans h2.2 h1.2⟩
              · split at h
                · cases h
                · have h3 := mm_ex_bd f (d' + 1) j _ _ h
                  exact ⟨Nat.le_trans h3.1 (Nat.le_trans h2.1 h1.1), Nat.le_trans h3.2 (Nat.le_trans h2.2 h1.2)⟩
