/-! ===== lanes: which has room, which may be left ===== -/
def roomL (R : Nat → Int) (v : Nat) : Prop := (v : Int) + 1 ≤ R 1 ∧ R (98 + v) < R (15 + v)
def canM (R : Nat → Int) (v : Nat) : Prop := 1 ≤ R (98 + v) ∧ R 67 ≤ 9998 ∧ ((1 ≤ R (43 + (R (74 + 6 * v)).toNat) ∧ R 102 < R 7) ∨ (R (43 + (R (74 + 6 * v)).toNat) ≤ 0 ∧ R (74 + 6 * v) - R 106 ≤ R 3))
def canL (R : Nat → Int) (v : Nat) : Prop := (v : Int) + 1 ≤ R 1 ∧ canM R v
/-- what `mayLeave` answers -/
def mlP (R : Nat → Int) (v : Nat) (z : Int) : Prop := (z = 1 ∧ canM R v) ∨ (z = 0 ∧ ¬ canM R v)
theorem mlP.pos {R : Nat → Int} {v : Nat} {z : Int} (p : mlP R v z) (h : z ≠ 0) : canM R v := by
  rcases p with ⟨_, h2⟩ | ⟨h1, _⟩
  · exact h2
  · exact absurd h1 h
theorem mlP.neg {R : Nat → Int} {v : Nat} {z : Int} (p : mlP R v z) (h : z ≠ 1) : ¬ canM R v := by
  rcases p with ⟨h1, _⟩ | ⟨_, h2⟩
  · exact absurd h1 h
  · exact h2
def laX (P : Nat → Prop) (b l : Int) : Prop := (b = -1 ∧ ∀ v : Nat, (v : Int) < l → ¬ P v) ∨ (∃ v : Nat, v < 4 ∧ (v : Int) = b ∧ P v)
def laP (P : Nat → Prop) (z : Int) : Prop := laX P z 4
theorem laX.start {P : Nat → Prop} : laX P (-1) 0 := Or.inl ⟨rfl, fun v hv => absurd hv (by omega)⟩
theorem laX.no {P : Nat → Prop} {b l l2 : Int} (x : laX P b l) (e : l2 = l + 1) (v : Nat) (hv : (v : Int) = l) (h : ¬ P v) : laX P b l2 := by
  rcases x with ⟨x1, x2⟩ | x
  · refine Or.inl ⟨x1, fun u hu => ?_⟩
    by_cases hul : (u : Int) < l
    · exact x2 u hul
    · rw [show u = v by omega]; exact h
  · exact Or.inr x
theorem laX.yes {P : Nat → Prop} {b l : Int} (v : Nat) (hv4 : v < 4) (hv : (v : Int) = b) (h : P v) : laX P b l := Or.inr ⟨v, hv4, hv, h⟩
theorem laX.keep {P : Nat → Prop} {b l l2 : Int} (x : laX P b l) (hb : b ≠ -1) : laX P b l2 := by
  rcases x with ⟨x1, _⟩ | x
  · exact absurd x1 hb
  · exact Or.inr x
theorem laX.done {P : Nat → Prop} {b l : Int} (x : laX P b l) (h : ∀ v : Nat, l ≤ (v : Int) → ¬ P v) : laP P b := by
  rcases x with ⟨x1, x2⟩ | x
  · refine Or.inl ⟨x1, fun u hu => ?_⟩
    by_cases hul : (u : Int) < l
    · exact x2 u hul
    · exact h u (by omega)
  · exact Or.inr x
theorem laP.at {P : Nat → Prop} {z : Int} (p : laP P z) (v : Nat) (hz : z = (v : Int)) : P v := by
  rcases p with ⟨h1, _⟩ | ⟨u, _, h2, h3⟩
  · exact absurd h1 (by omega)
  · rw [show v = u by omega]; exact h3
theorem laP.ex {P : Nat → Prop} {z : Int} (p : laP P z) (hz : z ≠ -1) : ∃ v : Nat, v < 4 ∧ P v := by
  rcases p with ⟨h1, _⟩ | ⟨u, h1, _, h3⟩
  · exact absurd h1 hz
  · exact ⟨u, h1, h3⟩
theorem laP.rng {P : Nat → Prop} {z : Int} (p : laP P z) (e : ∃ v : Nat, v < 4 ∧ P v) : 0 ≤ z ∧ z ≤ 3 := by
  rcases p with ⟨_, h2⟩ | ⟨u, h1, h2, _⟩
  · obtain ⟨v, hv, hp⟩ := e
    exact absurd hp (h2 v (by omega))
  · omega
def nsP (R : Nat → Int) (z : Int) : Prop := (z = 0 → 1 ≤ R 102 ∧ ∃ v : Nat, v < 4 ∧ roomL R v) ∧ (z = 1 → R 73 < R 2 ∧ ∃ v : Nat, v < 4 ∧ roomL R v) ∧ (z = 2 → ∃ v : Nat, v < 4 ∧ canL R v) ∧ (z = 3 → R 67 ≤ 9998)
