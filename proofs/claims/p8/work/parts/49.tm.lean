/-! ===== a token that was told before, at cells that are the same ===== -/
theorem tk_mv {B : Nat → Int} {n p a4 a5 a6 a7 a12 b4 b5 b6 b7 b12 : Int}
    (H : a4 = tk_nx B n p ∧ a5 = tk_st B n p ∧ ((tk_kd B n p = 0 ∧ a6 = 0) ∨ (tk_kd B n p = 1 ∧ a6 = 1 ∧ a12 = tk_sw B n p) ∨ (tk_kd B n p = 2 ∧ a6 = 2 ∧ a7 = tk_nb B n p) ∨ (tk_kd B n p = 3 ∧ a6 = 3 ∧ a7 = 59) ∨ (tk_kd B n p = 4 ∧ a6 = 3 ∧ a7 = 40) ∨ (tk_kd B n p = 5 ∧ a6 = 3 ∧ a7 = 41) ∨ (tk_kd B n p = 6 ∧ a6 = 4)))
    (e4 : b4 = a4) (e5 : b5 = a5) (e6 : b6 = a6) (e7 : b7 = a7) (e12 : b12 = a12) :
    b4 = tk_nx B n p ∧ b5 = tk_st B n p ∧ ((tk_kd B n p = 0 ∧ b6 = 0) ∨ (tk_kd B n p = 1 ∧ b6 = 1 ∧ b12 = tk_sw B n p) ∨ (tk_kd B n p = 2 ∧ b6 = 2 ∧ b7 = tk_nb B n p) ∨ (tk_kd B n p = 3 ∧ b6 = 3 ∧ b7 = 59) ∨ (tk_kd B n p = 4 ∧ b6 = 3 ∧ b7 = 40) ∨ (tk_kd B n p = 5 ∧ b6 = 3 ∧ b7 = 41) ∨ (tk_kd B n p = 6 ∧ b6 = 4)) := by
  subst e4 e5 e6 e7 e12
  exact H
theorem tk_mp {B : Nat → Int} {n p a8 b8 a4 a5 a6 a7 a12 b4 b5 b6 b7 b12 : Int}
    (H : 1 ≤ a8 ∨ (a4 = tk_nx B n p ∧ a5 = tk_st B n p ∧ ((tk_kd B n p = 0 ∧ a6 = 0) ∨ (tk_kd B n p = 1 ∧ a6 = 1 ∧ a12 = tk_sw B n p) ∨ (tk_kd B n p = 2 ∧ a6 = 2 ∧ a7 = tk_nb B n p) ∨ (tk_kd B n p = 3 ∧ a6 = 3 ∧ a7 = 59) ∨ (tk_kd B n p = 4 ∧ a6 = 3 ∧ a7 = 40) ∨ (tk_kd B n p = 5 ∧ a6 = 3 ∧ a7 = 41) ∨ (tk_kd B n p = 6 ∧ a6 = 4))))
    (e8 : a8 ≤ b8) (e : b8 ≤ 0 → b4 = a4 ∧ b5 = a5 ∧ b6 = a6 ∧ b7 = a7 ∧ b12 = a12) :
    1 ≤ b8 ∨ (b4 = tk_nx B n p ∧ b5 = tk_st B n p ∧ ((tk_kd B n p = 0 ∧ b6 = 0) ∨ (tk_kd B n p = 1 ∧ b6 = 1 ∧ b12 = tk_sw B n p) ∨ (tk_kd B n p = 2 ∧ b6 = 2 ∧ b7 = tk_nb B n p) ∨ (tk_kd B n p = 3 ∧ b6 = 3 ∧ b7 = 59) ∨ (tk_kd B n p = 4 ∧ b6 = 3 ∧ b7 = 40) ∨ (tk_kd B n p = 5 ∧ b6 = 3 ∧ b7 = 41) ∨ (tk_kd B n p = 6 ∧ b6 = 4))) := by
  by_cases h : 1 ≤ b8
  · exact Or.inl h
  · obtain ⟨e4, e5, e6, e7, e12⟩ := e (by omega)
    rcases H with h2 | h2
    · omega
    · exact Or.inr (tk_mv h2 e4 e5 e6 e7 e12)
