/-! ===== scripts: the depth of repeats ===== -/
def dep (S : Nat → Int) : Nat → Int
  | 0 => 0
  | k + 1 => dep S k + (if S k = 7 then 1 else if S k = 8 then -1 else 0)
theorem dep_7 {S : Nat → Int} {k : Nat} (h : S k = 7) : dep S (k + 1) = dep S k + 1 := by
  show dep S k + (if S k = 7 then 1 else if S k = 8 then -1 else 0) = _
  rw [if_pos h]
theorem dep_8 {S : Nat → Int} {k : Nat} (h : S k = 8) : dep S (k + 1) = dep S k - 1 := by
  show dep S k + (if S k = 7 then 1 else if S k = 8 then -1 else 0) = _
  rw [if_neg (by omega), if_pos h]
  omega
theorem dep_o {S : Nat → Int} {k : Nat} (h : S k ≠ 7) (h8 : S k ≠ 8) : dep S (k + 1) = dep S k := by
  show dep S k + (if S k = 7 then 1 else if S k = 8 then -1 else 0) = _
  rw [if_neg h, if_neg h8]
  omega
theorem dep_c {S S2 : Nat → Int} : ∀ {n : Nat}, (∀ k, k < n → S2 k = S k) → dep S2 n = dep S n
  | 0, _ => rfl
  | n + 1, h => by
    show dep S2 n + (if S2 n = 7 then 1 else if S2 n = 8 then -1 else 0) = dep S n + (if S n = 7 then 1 else if S n = 8 then -1 else 0)
    rw [h n (by omega), dep_c (fun k hk => h k (by omega))]
/-- the script so far is balanced, its depth is told -/
def WP (S : Nat → Int) (n o : Int) : Prop := 0 ≤ n ∧ (∀ k : Nat, (k : Int) ≤ n → 0 ≤ dep S k ∧ dep S k ≤ 2) ∧ dep S n.toNat = o
theorem WP.zero {S : Nat → Int} : WP S 0 0 := ⟨by omega, fun k hk => by
  obtain rfl : k = 0 := by omega
  exact ⟨Int.le_refl _, (show (0 : Int) ≤ 2 by decide)⟩, rfl⟩
theorem WP.put {S S2 : Nat → Int} {n o n2 o2 : Int} (w : WP S n o) (hn : n2 = n + 1) (e : ∀ k : Nat, (k : Int) ≠ n → S2 k = S k) (h : (S2 n.toNat = 7 ∧ o2 = o + 1) ∨ (S2 n.toNat = 8 ∧ o2 = o - 1) ∨ (S2 n.toNat ≠ 7 ∧ S2 n.toNat ≠ 8 ∧ o2 = o)) (ho : 0 ≤ o2 ∧ o2 ≤ 2) : WP S2 n2 o2 := by
  obtain ⟨w0, w1, w2⟩ := w
  have hd : dep S2 n.toNat = o := by rw [dep_c (fun k hk => e k (by omega)), w2]
  have hd2 : dep S2 (n.toNat + 1) = o2 := by
    rcases h with ⟨h1, h2⟩ | ⟨h1, h2⟩ | ⟨h1, h2, h3⟩
    · rw [dep_7 h1]; omega
    · rw [dep_8 h1]; omega
    · rw [dep_o h1 h2]; omega
  refine ⟨by omega, fun k hk => ?_, by rw [show n2.toNat = n.toNat + 1 by omega]; exact hd2⟩
  by_cases hkn : (k : Int) ≤ n
  · rw [dep_c (fun i hi => e i (by omega))]
    exact w1 k hkn
  · rw [show k = n.toNat + 1 by omega, hd2]
    exact ho
/-- what falls with each step of a script's run -/
def muS (g i k b0 l0 b1 l1 : Int) : Int :=
  if g = 0 then 0 else if i = 0 then (81 - k) * 20000000000 + 1 else if i = 1 then (80 - b0) * 20000000000 + l0 * 10000000 + (81 - k) * 100000 + 1
  else (80 - b0) * 20000000000 + l0 * 10000000 + (80 - b1) * 100000 + l1 * 100 + (81 - k) + 1
