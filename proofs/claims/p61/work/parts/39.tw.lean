/-! ===== cars of one kind: counts (p14, p15; draft, not compiled) ===== -/
/-- how many of the first n have body b and color c -/
def ms_n (B C : Nat → Int) (b c : Int) : Nat → Nat
  | 0 => 0
  | n + 1 => ms_n B C b c n + (if B n = b ∧ C n = c then 1 else 0)
/-- how many of the first n are the first ones of their kind -/
def ms_k (B C : Nat → Int) : Nat → Nat
  | 0 => 0
  | n + 1 => ms_k B C n + (if ms_n B C (B n) (C n) n = 0 then 1 else 0)
/-- the greatest number of one kind, of the first i, among the first n -/
def ms_m (B C : Nat → Int) (n : Nat) : Nat → Nat
  | 0 => 0
  | i + 1 => max (ms_m B C n i) (ms_n B C (B i) (C i) n)
/-- the kinds themselves -/
def ms_l (B C : Nat → Int) : Nat → List (Int × Int)
  | 0 => []
  | n + 1 => if (B n, C n) ∈ ms_l B C n then ms_l B C n else (B n, C n) :: ms_l B C n
theorem ms_l_mem {B C : Nat → Int} {b c : Int} : ∀ n, (b, c) ∈ ms_l B C n ↔ 0 < ms_n B C b c n
  | 0 => by
    show (b, c) ∈ ([] : List (Int × Int)) ↔ 0 < 0
    simp
  | n + 1 => by
    have ih := @ms_l_mem B C b c n
    have ih2 := @ms_l_mem B C (B n) (C n) n
    show (b, c) ∈ (if (B n, C n) ∈ ms_l B C n then ms_l B C n else (B n, C n) :: ms_l B C n) ↔ 0 < ms_n B C b c n + (if B n = b ∧ C n = c then 1 else 0)
    by_cases e : B n = b ∧ C n = c
    · rw [if_pos e]
      obtain ⟨e1, e2⟩ := e
      subst e1 e2
      by_cases h : (B n, C n) ∈ ms_l B C n
      · rw [if_pos h]
        exact ⟨fun _ => by omega, fun _ => h⟩
      · rw [if_neg h]
        exact ⟨fun _ => by omega, fun _ => List.mem_cons_self⟩
    · rw [if_neg e, Nat.add_zero]
      by_cases h : (B n, C n) ∈ ms_l B C n
      · rw [if_pos h]; exact ih
      · rw [if_neg h, List.mem_cons]
        constructor
        · intro h2
          rcases h2 with h2 | h2
          · exfalso
            apply e
            have h3 := Prod.mk.inj h2
            exact ⟨h3.1.symm, h3.2.symm⟩
          · exact ih.mp h2
        · exact fun h2 => Or.inr (ih.mpr h2)
theorem ms_l_nodup {B C : Nat → Int} : ∀ n, (ms_l B C n).Nodup
  | 0 => List.nodup_nil
  | n + 1 => by
    show (if (B n, C n) ∈ ms_l B C n then ms_l B C n else (B n, C n) :: ms_l B C n).Nodup
    split
    · exact ms_l_nodup n
    · rename_i h
      exact List.nodup_cons.mpr ⟨h, ms_l_nodup n⟩
theorem ms_l_len {B C : Nat → Int} : ∀ n, (ms_l B C n).length = ms_k B C n
  | 0 => rfl
  | n + 1 => by
    have ih := @ms_l_len B C n
    have hm := @ms_l_mem B C (B n) (C n) n
    show (if (B n, C n) ∈ ms_l B C n then ms_l B C n else (B n, C n) :: ms_l B C n).length = ms_k B C n + (if ms_n B C (B n) (C n) n = 0 then 1 else 0)
    by_cases h : (B n, C n) ∈ ms_l B C n
    · have h2 := hm.mp h
      rw [if_pos h, if_neg (by omega), ih, Nat.add_zero]
    · have h2 : ms_n B C (B n) (C n) n = 0 := by
        apply Nat.eq_zero_of_not_pos
        exact fun h3 => h (hm.mpr h3)
      rw [if_neg h, if_pos h2, List.length_cons, ih]
theorem ms_len_le : ∀ (l1 l2 : List (Int × Int)), l1.Nodup → (∀ x, x ∈ l1 → x ∈ l2) → l1.length ≤ l2.length
  | [], l2, _, _ => Nat.zero_le _
  | a :: l1, l2, hn, hs => by
    have ha := hs a List.mem_cons_self
    have hn2 := List.nodup_cons.mp hn
    have ih := ms_len_le l1 (l2.erase a) hn2.2 (fun x hx => by
      have hne : x ≠ a := fun e => hn2.1 (e ▸ hx)
      exact (List.mem_erase_of_ne hne).mpr (hs x (List.mem_cons_of_mem _ hx)))
    rw [List.length_erase_of_mem ha] at ih
    have hp : 0 < l2.length := List.length_pos_of_mem ha
    rw [List.length_cons]
    omega
/-- the same cars of each kind -/
def MSE (B C B2 C2 : Nat → Int) (n : Nat) : Prop := ∀ b c, ms_n B C b c n = ms_n B2 C2 b c n
theorem MSE.k {B C B2 C2 : Nat → Int} {n : Nat} (h : MSE B C B2 C2 n) : ms_k B C n = ms_k B2 C2 n := by
  rw [← ms_l_len n, ← ms_l_len n]
  apply Nat.le_antisymm
  · exact ms_len_le _ _ (ms_l_nodup n) (fun x hx => by
      obtain ⟨b, c⟩ := x
      rw [ms_l_mem] at hx ⊢
      rw [← h b c]; exact hx)
  · exact ms_len_le _ _ (ms_l_nodup n) (fun x hx => by
      obtain ⟨b, c⟩ := x
      rw [ms_l_mem] at hx ⊢
      rw [h b c]; exact hx)
theorem ms_m_le {B C : Nat → Int} {n : Nat} : ∀ i j, j < i → ms_n B C (B j) (C j) n ≤ ms_m B C n i
  | 0, j, h => absurd h (Nat.not_lt_zero _)
  | i + 1, j, h => by
    show _ ≤ max (ms_m B C n i) (ms_n B C (B i) (C i) n)
    by_cases e : j = i
    · subst e; exact Nat.le_max_right _ _
    · exact Nat.le_trans (ms_m_le i j (by omega)) (Nat.le_max_left _ _)
theorem ms_m_at {B C : Nat → Int} {n : Nat} : ∀ i, ms_m B C n i = 0 ∨ ∃ j, j < i ∧ ms_m B C n i = ms_n B C (B j) (C j) n
  | 0 => Or.inl rfl
  | i + 1 => by
    show max (ms_m B C n i) (ms_n B C (B i) (C i) n) = 0 ∨ ∃ j, j < i + 1 ∧ max (ms_m B C n i) (ms_n B C (B i) (C i) n) = ms_n B C (B j) (C j) n
    rcases Nat.le_total (ms_m B C n i) (ms_n B C (B i) (C i) n) with h | h
    · rw [Nat.max_eq_right h]
      exact Or.inr ⟨i, Nat.lt_succ_self i, rfl⟩
    · rw [Nat.max_eq_left h]
      rcases @ms_m_at B C n i with h2 | ⟨j, hj, e⟩
      · exact Or.inl h2
      · exact Or.inr ⟨j, by omega, e⟩
/-- a kind that is there has a first car -/
theorem ms_n_ex {B C : Nat → Int} {b c : Int} : ∀ n, 0 < ms_n B C b c n → ∃ j, j < n ∧ B j = b ∧ C j = c
  | 0, h => absurd h (Nat.lt_irrefl _)
  | n + 1, h => by
    by_cases e : B n = b ∧ C n = c
    · exact ⟨n, Nat.lt_succ_self n, e⟩
    · have h2 : 0 < ms_n B C b c n + (if B n = b ∧ C n = c then 1 else 0) := h
      rw [if_neg e] at h2
      obtain ⟨j, hj, e2⟩ := ms_n_ex n h2
      exact ⟨j, by omega, e2⟩
theorem MSE.m1 {B C B2 C2 : Nat → Int} {n : Nat} (h : MSE B C B2 C2 n) : ms_m B C n n ≤ ms_m B2 C2 n n := by
  rcases @ms_m_at B C n n with h0 | ⟨j, hj, e⟩
  · rw [h0]; exact Nat.zero_le _
  · rw [e, h]
    by_cases hp : 0 < ms_n B2 C2 (B j) (C j) n
    · obtain ⟨k, hk, e1, e2⟩ := ms_n_ex n hp
      rw [← e1, ← e2]
      exact ms_m_le n k hk
    · omega
theorem MSE.m {B C B2 C2 : Nat → Int} {n : Nat} (h : MSE B C B2 C2 n) : ms_m B C n n = ms_m B2 C2 n n :=
  Nat.le_antisymm h.m1 (MSE.m1 (fun b c => (h b c).symm))
