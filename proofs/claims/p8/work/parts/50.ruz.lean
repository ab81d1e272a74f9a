theorem SCI.n5 {B : Nat → Int} {n p a6 a7 a12 o : Int} (T : TKk B n p a6 a7 a12) (x : o ≤ 0 ∨ a6 ≠ 3 ∨ a7 ≠ 41) : TKn (tk_kd B n p = 5 ∧ 0 < o) := by
  intro e
  obtain ⟨e1, e2⟩ := e
  unfold TKk at T
  omega
