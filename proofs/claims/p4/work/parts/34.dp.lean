/-! ===== the best unloading: what its table holds ===== -/
def dg (p l : Nat) : Nat := if l = 0 then p / 343 else if l = 1 then p / 49 % 7 else if l = 2 then p / 7 % 7 else p % 7
def wt (l : Nat) : Nat := if l = 0 then 343 else if l = 1 then 49 else if l = 2 then 7 else 1
def u_by3 (costs rest : Int) : Int := if rest = 1000000 then 1000000 else costs + rest
def u_ix (R T : Nat → Int) (l : Nat) (c r its : Int) : Nat := ((6 * (343 * T 0 + 49 * T 1 + 7 * T 2 + T 3 + (wt l : Int)) + its) * 10 + (if its = c ∧ r ≠ R 5 then r + 1 else 1)).toNat
def u_by2 (R LS T : Nat → Int) (l : Nat) (c r its : Int) : Int :=
  u_by3 (if c ≠ 5 ∧ its ≠ c then 100 * R (10 + its.toNat) + 1 else if its = c ∧ r = R 5 then 100 * R 6 else 0) (LS (u_ix R T l c r its))
def u_by1 (R LS T : Nat → Int) (l : Nat) (c r car : Int) : Int :=
  if R 106 + (T 0 + T 1 + T 2 + T 3) < car - R 3 ∨ car + R 4 < R 106 + (T 0 + T 1 + T 2 + T 3) then 1000000 else u_by2 R LS T l c r (R (31 + car.toNat))
def u_by (R LS T : Nat → Int) (l : Nat) (c r : Int) : Int :=
  if R (98 + l) ≤ T l then 1000000 else u_by1 R LS T l c r (R (74 + 6 * l + (T l).toNat))
theorem u_by_T {R LS T T2 : Nat → Int} (e : ∀ l, l < 4 → T l = T2 l) {l : Nat} (hl : l < 4) (c r : Int) : u_by R LS T l c r = u_by R LS T2 l c r := by
  unfold u_by u_by1 u_by2 u_ix
  rw [e 0 (by decide), e 1 (by decide), e 2 (by decide), e 3 (by decide), e l hl]
/-- the digits of a place -/
def TQ (p : Nat) : Nat → Int := fun l => (dg p l : Int)
def RB (R : Nat → Int) : Prop := (∀ i, 74 ≤ i → i < 98 → 0 ≤ R i ∧ R i ≤ 11) ∧ (∀ i, 31 ≤ i → i < 43 → 0 ≤ R i ∧ R i ≤ 4) ∧ (∀ l, l < 4 → 0 ≤ R (98 + l) ∧ R (98 + l) ≤ 6)
theorem gi_RB {h : hp} (g : GI h) : RB (h 238) := by
  refine ⟨fun i h1 h2 => ?_, fun i h1 h2 => ?_, fun l hl => ?_⟩
  · exact gi_b (lo := 0) (hi := 11) g 238 i (gi_rg 74 24 (fun _ => rfl) (by decide +kernel) (by omega))
  · exact gi_b (lo := 0) (hi := 4) g 238 i (gi_rg 31 12 (fun _ => rfl) (by decide +kernel) (by omega))
  · exact gi_b (lo := 0) (hi := 6) g 238 (98 + l) (gi_rg 98 4 (fun _ => rfl) (by decide +kernel) (by omega))
theorem TQ_place (p : Nat) : 343 * TQ p 0 + 49 * TQ p 1 + 7 * TQ p 2 + TQ p 3 = (p : Int) := by
  have e0 : TQ p 0 = ((p / 343 : Nat) : Int) := rfl
  have e1 : TQ p 1 = ((p / 49 % 7 : Nat) : Int) := rfl
  have e2 : TQ p 2 = ((p / 7 % 7 : Nat) : Int) := rfl
  have e3 : TQ p 3 = ((p % 7 : Nat) : Int) := rfl
  rw [e0, e1, e2, e3]
  omega
theorem wt_pos (l : Nat) : 1 ≤ wt l := by
  unfold wt
  split
  · decide
  · split
    · decide
    · split <;> decide
theorem u_ix_ge {R : Nat → Int} {p l : Nat} {c r its : Int} (hr : 0 ≤ r) (hi : 0 ≤ its) : 60 * (p + 1) ≤ u_ix R (TQ p) l c r its := by
  unfold u_ix
  rw [TQ_place p]
  have := wt_pos l
  split <;> omega
/-- what `by` answers looks only at what lies behind its place -/
theorem u_by_LS {R LS LS2 : Nat → Int} (rb : RB R) {p l : Nat} (hl : l < 4) {c r : Int} (hr : 0 ≤ r) (e : ∀ i, 60 * (p + 1) ≤ i → LS2 i = LS i) : u_by R LS2 (TQ p) l c r = u_by R LS (TQ p) l c r := by
  unfold u_by
  split
  · rfl
  · rename_i h1
    have hT : 0 ≤ TQ p l := Int.natCast_nonneg _
    have h6 := rb.2.2 l hl
    have hc := rb.1 (74 + 6 * l + (TQ p l).toNat) (by omega) (by omega)
    unfold u_by1
    split
    · rfl
    · have hi := rb.2.1 (31 + (R (74 + 6 * l + (TQ p l).toNat)).toNat) (by omega) (by omega)
      unfold u_by2
      rw [e _ (u_ix_ge hr hi.1)]
def WI (R : Nat → Int) (p : Nat) : Prop := ∀ l, l < 4 → TQ p l ≤ R (98 + l)
def TS (p : Nat) : Int := TQ p 0 + TQ p 1 + TQ p 2 + TQ p 3
/-- the table at a place, its first n cells -/
def TB (R LS : Nat → Int) (p n : Nat) : Prop := WI R p → TS p ≠ R 98 + R 99 + R 100 + R 101 → ∀ k, k < n → LS (60 * p + k) = 1000000 ∨ ∃ l, l < 4 ∧ u_by R LS (TQ p) l ((k / 10 : Nat) : Int) ((k % 10 : Nat) : Int) = LS (60 * p + k)
theorem TB.upd {R LS LS2 : Nat → Int} (rb : RB R) {p q n : Nat} (hn : n ≤ 60) (hq : p < q) (e : ∀ i, 60 * (p + 1) ≤ i → LS2 i = LS i) (t : TB R LS q n) : TB R LS2 q n := fun w s k hk => by
  have e1 : LS2 (60 * q + k) = LS (60 * q + k) := e _ (by omega)
  rw [e1]
  rcases t w s k hk with h1 | ⟨l, hl, h1⟩
  · exact Or.inl h1
  · refine Or.inr ⟨l, hl, ?_⟩
    rw [u_by_LS rb hl (by omega) (fun i hi => e i (by omega))]
    exact h1
theorem TB.put {R LS LS2 : Nat → Int} (rb : RB R) {p n : Nat} (hn : n < 60) (e : ∀ i, i ≠ 60 * p + n → LS2 i = LS i) (t : TB R LS p n) (v : WI R p → TS p ≠ R 98 + R 99 + R 100 + R 101 → LS2 (60 * p + n) = 1000000 ∨ ∃ l, l < 4 ∧ u_by R LS (TQ p) l ((n / 10 : Nat) : Int) ((n % 10 : Nat) : Int) = LS2 (60 * p + n)) : TB R LS2 p (n + 1) := fun w s k hk => by
  by_cases hkn : k = n
  · subst hkn
    rcases v w s with h1 | ⟨l, hl, h1⟩
    · exact Or.inl h1
    · refine Or.inr ⟨l, hl, ?_⟩
      rw [u_by_LS rb hl (by omega) (fun i hi => e i (by omega))]
      exact h1
  · have e1 : LS2 (60 * p + k) = LS (60 * p + k) := e _ (by omega)
    rw [e1]
    rcases t w s k (by omega) with h1 | ⟨l, hl, h1⟩
    · exact Or.inl h1
    · refine Or.inr ⟨l, hl, ?_⟩
      rw [u_by_LS rb hl (by omega) (fun i hi => e i (by omega))]
      exact h1
/-- the table is laid -/
def TBA (R LS : Nat → Int) : Prop := ∀ q, q ≤ 2400 → TB R LS q 60
/-- a place on the way: within, as many taken as told, and its cell isn't far -/
def WK (R LS : Nat → Int) (p : Nat) (n c r : Int) : Prop := WI R p ∧ TS p = n ∧ LS (60 * p + 10 * c.toNat + r.toNat) ≠ 1000000
theorem WK.any {R LS : Nat → Int} {p : Nat} {n c r : Int} (t : TBA R LS) (w : WK R LS p n c r) (hp : p ≤ 2400) (hc : 0 ≤ c ∧ c ≤ 5) (hr : 0 ≤ r ∧ r ≤ 9) (hn : n < R 98 + R 99 + R 100 + R 101) : ∃ l, l < 4 ∧ u_by R LS (TQ p) l c r = LS (60 * p + 10 * c.toNat + r.toNat) := by
  obtain ⟨w1, w2, w3⟩ := w
  rcases t p hp w1 (by omega) (10 * c.toNat + r.toNat) (by omega) with h1 | ⟨l, hl, h1⟩
  · exact absurd (by rw [show 60 * p + 10 * c.toNat + r.toNat = 60 * p + (10 * c.toNat + r.toNat) by omega]; exact h1) w3
  · refine ⟨l, hl, ?_⟩
    rw [show (((10 * c.toNat + r.toNat) / 10 : Nat) : Int) = c by omega, show (((10 * c.toNat + r.toNat) % 10 : Nat) : Int) = r by omega] at h1
    rw [show 60 * p + 10 * c.toNat + r.toNat = 60 * p + (10 * c.toNat + r.toNat) by omega]
    exact h1
theorem u_by_ne {R LS T : Nat → Int} {l : Nat} {c r : Int} (h : u_by R LS T l c r ≠ 1000000) : T l < R (98 + l) ∧ LS (u_ix R T l c r (R (31 + (R (74 + 6 * l + (T l).toNat)).toNat))) ≠ 1000000 := by
  unfold u_by at h
  split at h
  · exact absurd rfl h
  · rename_i h1
    unfold u_by1 at h
    split at h
    · exact absurd rfl h
    · unfold u_by2 u_by3 at h
      split at h
      · exact absurd rfl h
      · rename_i h3
        exact ⟨by omega, h3⟩
theorem dg_step {p l : Nat} (hl : l < 4) (h6 : dg p l < 6) (hp : p ≤ 2400) : (∀ k, k < 4 → dg (p + wt l) k = dg p k + (if k = l then 1 else 0)) := by
  intro k hk
  have hl' : l = 0 ∨ l = 1 ∨ l = 2 ∨ l = 3 := by omega
  have hk' : k = 0 ∨ k = 1 ∨ k = 2 ∨ k = 3 := by omega
  rcases hl' with rfl | rfl | rfl | rfl <;> rcases hk' with rfl | rfl | rfl | rfl <;> simp [dg, wt] at h6 ⊢ <;> omega
/-- a step on the way -/
theorem WK.step {R LS : Nat → Int} (rb : RB R) {p l : Nat} {n c r its r2 : Int} (hl : l < 4) (hp : p ≤ 2400) (hr : 0 ≤ r) (w : WK R LS p n c r) (e : u_by R LS (TQ p) l c r = LS (60 * p + 10 * c.toNat + r.toNat)) (hits : its = R (31 + (R (74 + 6 * l + (TQ p l).toNat)).toNat)) (hr2 : r2 = if its = c ∧ r ≠ R 5 then r + 1 else 1) : WK R LS (p + wt l) (n + 1) its r2 ∧ p + wt l ≤ 2400 := by
  obtain ⟨w1, w2, w3⟩ := w
  obtain ⟨h1, h2⟩ := u_by_ne (by rw [e]; exact w3 : u_by R LS (TQ p) l c r ≠ 1000000)
  have h6 := rb.2.2 l hl
  have hT : TQ p l = ((dg p l : Nat) : Int) := rfl
  have ds := dg_step hl (by omega) hp
  have hcar := rb.1 (74 + 6 * l + (TQ p l).toNat) (by omega) (by omega)
  have hi := rb.2.1 (31 + (R (74 + 6 * l + (TQ p l).toNat)).toNat) (by omega) (by omega)
  have hT0 : ∀ k, TQ (p + wt l) k = ((dg (p + wt l) k : Nat) : Int) := fun _ => rfl
  have hT1 : ∀ k, TQ p k = ((dg p k : Nat) : Int) := fun _ => rfl
  have d0 := ds 0 (by decide)
  have d1 := ds 1 (by decide)
  have d2 := ds 2 (by decide)
  have d3 := ds 3 (by decide)
  have hl' : l = 0 ∨ l = 1 ∨ l = 2 ∨ l = 3 := by omega
  refine ⟨⟨fun k hk => ?_, ?_, ?_⟩, ?_⟩
  · have := w1 k hk
    have hd := ds k hk
    rw [hT0, hd]
    rw [hT1] at this
    by_cases hkl : k = l
    · subst hkl; rw [if_pos rfl]; omega
    · rw [if_neg hkl]; omega
  · unfold TS at w2 ⊢
    rw [hT0, hT0, hT0, hT0, d0, d1, d2, d3]
    rw [hT1, hT1, hT1, hT1] at w2
    rcases hl' with rfl | rfl | rfl | rfl <;> simp <;> omega
  · rw [← hits] at h2
    have eix : u_ix R (TQ p) l c r its = 60 * (p + wt l) + 10 * its.toNat + r2.toNat := by
      unfold u_ix
      rw [TQ_place p, ← hr2]
      have : 0 ≤ r2 := by rw [hr2]; split <;> omega
      omega
    rw [eix] at h2
    exact h2
  · have a0 := w1 0 (by decide)
    have a1 := w1 1 (by decide)
    have a2 := w1 2 (by decide)
    have a3 := w1 3 (by decide)
    have b0 := rb.2.2 0 (by decide)
    have b1 := rb.2.2 1 (by decide)
    have b2 := rb.2.2 2 (by decide)
    have b3 := rb.2.2 3 (by decide)
    have tp := TQ_place p
    rcases hl' with rfl | rfl | rfl | rfl <;> simp [wt] <;> omega
theorem TQ_0 (l : Nat) : TQ 0 l = 0 := by
  unfold TQ dg
  split
  · decide
  · split
    · decide
    · split <;> decide
theorem WI_0 {R : Nat → Int} (rb : RB R) : WI R 0 := fun l hl => by
  rw [TQ_0]
  exact (rb.2.2 l hl).1
theorem TS_0 : TS 0 = 0 := by
  unfold TS
  rw [TQ_0, TQ_0, TQ_0, TQ_0]
  rfl
/-- what `leastOf` answers; what the way looks for -/
def u_lo (R LS T : Nat → Int) (c r z : Int) : Prop := z = 1000000 ∨ ∃ l : Nat, l < 4 ∧ u_by R LS T l c r = z
def u_ex (R LS T : Nat → Int) (l c r due : Int) : Prop := ∃ l0 : Nat, l ≤ (l0 : Int) ∧ l0 < 4 ∧ u_by R LS T l0 c r = due
def WIT (R T : Nat → Int) : Prop := ∀ l, l < 4 → T l ≤ R (98 + l)
/-- what `isWithin` answers -/
def iwP (R T : Nat → Int) (z : Int) : Prop := (z = 1 ∧ WIT R T) ∨ (z = 0 ∧ ¬ WIT R T)
theorem iwP.neg {R T : Nat → Int} {z : Int} (p : iwP R T z) (h : z ≠ 1) : ¬ WIT R T := by
  rcases p with ⟨h1, _⟩ | ⟨_, h2⟩
  · exact absurd h1 h
  · exact h2
