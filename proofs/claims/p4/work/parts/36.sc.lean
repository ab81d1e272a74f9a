/-! ===== scripts: the depth of repeats ===== -/
def dep (S : Nat → Int) : Nat → Int
  | 0 => 0
  | k + 1 => dep S k + (if S k = 7 then 1 else if S k = 8 then -1 else 0)
theorem dep_7 {S : Nat → Int} {k : Nat} (h : S k = 7) : dep S (k + 1) = dep S k + 1 := by
  show dep S k + (if S k = 7 then 1 else if S k = 8 then -1 else 0) = _
  rw [if_pos h]
theorem dep_8 {S : Nat → Int} {k : Nat} (h : S k = 8) : dep S (k + 1) = dep S k - 1 := by
  show dep S k + (if S k = 7 then 1 else if S k = 8 then -1 else 0) = _
  rw [if_neg (by omega), if_pos h]
  omega
theorem dep_o {S : Nat → Int} {k : Nat} (h : S k ≠ 7) (h8 : S k ≠ 8) : dep S (k + 1) = dep S k := by
  show dep S k + (if S k = 7 then 1 else if S k = 8 then -1 else 0) = _
  rw [if_neg h, if_neg h8]
  omega
theorem dep_c {S S2 : Nat → Int} : ∀ {n : Nat}, (∀ k, k < n → S2 k = S k) → dep S2 n = dep S n
  | 0, _ => rfl
  | n + 1, h => by
    show dep S2 n + (if S2 n = 7 then 1 else if S2 n = 8 then -1 else 0) = dep S n + (if S n = 7 then 1 else if S n = 8 then -1 else 0)
    rw [h n (by omega), dep_c (fun k hk => h k (by omega))]
/-- the script so far is balanced, its depth is told -/
def WP (S : Nat → Int) (n o : Int) : Prop := 0 ≤ n ∧ (∀ k : Nat, (k : Int) ≤ n → 0 ≤ dep S k ∧ dep S k ≤ 2) ∧ dep S n.toNat = o
theorem WP.zero {S : Nat → Int} : WP S 0 0 := ⟨by omega, fun k hk => by
  obtain rfl : k = 0 := by omega
  exact ⟨Int.le_refl _, (show (0 : Int) ≤ 2 by decide)⟩, rfl⟩
theorem WP.put {S S2 : Nat → Int} {n o n2 o2 : Int} (w : WP S n o) (hn : n2 = n + 1) (e : ∀ k : Nat, (k : Int) ≠ n → S2 k = S k) (h : (S2 n.toNat = 7 ∧ o2 = o + 1) ∨ (S2 n.toNat = 8 ∧ o2 = o - 1) ∨ (S2 n.toNat ≠ 7 ∧ S2 n.toNat ≠ 8 ∧ o2 = o)) (ho : 0 ≤ o2 ∧ o2 ≤ 2) : WP S2 n2 o2 := by
  obtain ⟨w0, w1, w2⟩ := w
  have hd : dep S2 n.toNat = o := by rw [dep_c (fun k hk => e k (by omega)), w2]
  have hd2 : dep S2 (n.toNat + 1) = o2 := by
    rcases h with ⟨h1, h2⟩ | ⟨h1, h2⟩ | ⟨h1, h2, h3⟩
    · rw [dep_7 h1]; omega
    · rw [dep_8 h1]; omega
    · rw [dep_o h1 h2]; omega
  refine ⟨by omega, fun k hk => ?_, by rw [show n2.toNat = n.toNat + 1 by omega]; exact hd2⟩
  by_cases hkn : (k : Int) ≤ n
  · rw [dep_c (fun i hi => e i (by omega))]
    exact w1 k hkn
  · rw [show k = n.toNat + 1 by omega, hd2]
    exact ho
/-- what falls with each step of a script's run -/
def muS (g i k b0 l0 b1 l1 : Int) : Int :=
  if g = 0 then 0 else if i = 0 then (81 - k) * 20000000000 + 1 else if i = 1 then (80 - b0) * 20000000000 + l0 * 10000000 + (81 - k) * 100000 + 1
  else (80 - b0) * 20000000000 + l0 * 10000000 + (80 - b1) * 100000 + l1 * 100 + (81 - k) + 1
/-- where the repeats that are open began, how often they are due yet -/
def B1 (S B L : Nat → Int) (k : Int) : Prop := 0 ≤ B 0 ∧ B 0 < k ∧ S (B 0).toNat = 7 ∧ dep S (B 0).toNat = 0 ∧ 0 ≤ L 0
def B2 (S B L : Nat → Int) (k : Int) : Prop := B 0 < B 1 ∧ B 1 < k ∧ S (B 1).toNat = 7 ∧ dep S (B 1).toNat = 1 ∧ 0 ≤ L 1
def BG (S B L : Nat → Int) (i k : Int) : Prop := i = dep S k.toNat ∧ (1 ≤ i → B1 S B L k) ∧ (2 ≤ i → B2 S B L k)
theorem BG.zero {S B L : Nat → Int} : BG S B L 0 0 := ⟨rfl, fun h => absurd h (by omega), fun h => absurd h (by omega)⟩
theorem BG.rep0 {S B L B' L' : Nat → Int} {i k i2 k2 : Int} (x : BG S B L i k) (hk : 0 ≤ k) (h7 : S k.toNat = 7) (hi : i = 0) (hi2 : i2 = 1) (hk2 : k2 = k + 1) (hb : B' 0 = k) (hl : 0 ≤ L' 0) : BG S B' L' i2 k2 := by
  obtain ⟨x0, x1, x2⟩ := x
  refine ⟨?_, fun _ => ⟨by omega, by omega, by rw [hb]; exact h7, by rw [hb]; omega, hl⟩, fun h => absurd h (by omega)⟩
  rw [show k2.toNat = k.toNat + 1 by omega, dep_7 h7]
  omega
theorem BG.rep1 {S B L B' L' : Nat → Int} {i k i2 k2 : Int} (x : BG S B L i k) (hk : 0 ≤ k) (h7 : S k.toNat = 7) (hi : i = 1) (hi2 : i2 = 2) (hk2 : k2 = k + 1) (h0 : B' 0 = B 0) (hl0 : L' 0 = L 0) (hb : B' 1 = k) (hl : 0 ≤ L' 1) : BG S B' L' i2 k2 := by
  obtain ⟨x0, x1, x2⟩ := x
  obtain ⟨a1, a2, a3, a4, a5⟩ := x1 (by omega)
  refine ⟨?_, fun _ => ⟨by omega, by omega, by rw [h0]; exact a3, by rw [h0]; exact a4, by omega⟩, fun _ => ⟨by omega, by omega, by rw [hb]; exact h7, by rw [hb]; omega, hl⟩⟩
  rw [show k2.toNat = k.toNat + 1 by omega, dep_7 h7]
  omega
theorem BG.again1 {S B L B' L' : Nat → Int} {i k i2 k2 : Int} (x : BG S B L i k) (hi : i = 1) (hi2 : i2 = 1) (hk2 : k2 = B 0 + 1) (h0 : B' 0 = B 0) (hl : 0 ≤ L' 0) : BG S B' L' i2 k2 := by
  obtain ⟨x0, x1, x2⟩ := x
  obtain ⟨a1, a2, a3, a4, a5⟩ := x1 (by omega)
  refine ⟨?_, fun _ => ⟨by omega, by omega, by rw [h0]; exact a3, by rw [h0]; exact a4, hl⟩, fun h => absurd h (by omega)⟩
  rw [show k2.toNat = (B 0).toNat + 1 by omega, dep_7 a3]
  omega
theorem BG.again2 {S B L B' L' : Nat → Int} {i k i2 k2 : Int} (x : BG S B L i k) (hi : i = 2) (hi2 : i2 = 2) (hk2 : k2 = B 1 + 1) (h0 : B' 0 = B 0) (h1 : B' 1 = B 1) (hl0 : L' 0 = L 0) (hl : 0 ≤ L' 1) : BG S B' L' i2 k2 := by
  obtain ⟨x0, x1, x2⟩ := x
  obtain ⟨a1, a2, a3, a4, a5⟩ := x1 (by omega)
  obtain ⟨c1, c2, c3, c4, c5⟩ := x2 (by omega)
  refine ⟨?_, fun _ => ⟨by omega, by omega, by rw [h0]; exact a3, by rw [h0]; exact a4, by omega⟩, fun _ => ⟨by omega, by omega, by rw [h1]; exact c3, by rw [h1]; exact c4, hl⟩⟩
  rw [show k2.toNat = (B 1).toNat + 1 by omega, dep_7 c3]
  omega
theorem BG.fin {S B L B' L' : Nat → Int} {i k i2 k2 : Int} (x : BG S B L i k) (hk : 0 ≤ k) (h8 : S k.toNat = 8) (hi2 : i2 = i - 1) (hi : i ≤ 2) (hk2 : k2 = k + 1) (h0 : B' 0 = B 0) (hl0 : i = 2 → L' 0 = L 0) : BG S B' L' i2 k2 := by
  obtain ⟨x0, x1, x2⟩ := x
  refine ⟨?_, fun h => ?_, fun h => absurd h (by omega)⟩
  · rw [show k2.toNat = k.toNat + 1 by omega, dep_8 h8]
    omega
  · obtain ⟨a1, a2, a3, a4, a5⟩ := x1 (by omega)
    have := hl0 (by omega)
    exact ⟨by omega, by omega, by rw [h0]; exact a3, by rw [h0]; exact a4, by omega⟩
theorem BG.com {S B L : Nat → Int} {i k i2 k2 : Int} (x : BG S B L i k) (hk : 0 ≤ k) (h7 : S k.toNat ≠ 7) (h8 : S k.toNat ≠ 8) (hi2 : i2 = i) (hk2 : k2 = k + 1) : BG S B L i2 k2 := by
  obtain ⟨x0, x1, x2⟩ := x
  subst hi2
  refine ⟨?_, fun h => ?_, fun h => ?_⟩
  · rw [show k2.toNat = k.toNat + 1 by omega, dep_o h7 h8]
    exact x0
  · obtain ⟨a1, a2, a3, a4, a5⟩ := x1 h
    exact ⟨a1, by omega, a3, a4, a5⟩
  · obtain ⟨a1, a2, a3, a4, a5⟩ := x2 h
    exact ⟨a1, by omega, a3, a4, a5⟩
