/-! ===== sets of jobs as ints (p14, p15; draft, not compiled) ===== -/
theorem ii_ofn {x : Int} (hx : 0 ≤ x ∧ x ≤ 2147483647) : fx_u (Int32.ofInt x) = x.toNat := by
  have rx := ii_r (a := x) (by omega) (by omega)
  have nx := ii_nn (x := Int32.ofInt x) (by omega)
  omega
theorem ii_ofm {u : Int} (hu : 0 ≤ u ∧ u ≤ 2147483647) : fx_u (Int32.ofInt (-1 - u)) = 4294967296 - (u.toNat + 1) := by
  have e := fx_toInt (Int32.ofInt (-1 - u))
  rw [ii_r (a := -1 - u) (by omega) (by omega)] at e
  have hl := fx_u_lt (Int32.ofInt (-1 - u))
  split at e <;> omega
theorem ii_xorM {x : Int} (hx : 0 ≤ x ∧ x ≤ 2147483647) : Int32.ofInt x ^^^ Int32.ofInt (-1) = Int32.ofInt (-1 - x) := by
  apply fx_u_inj
  rw [ii_ofm hx]
  have e1 : fx_u (Int32.ofInt x ^^^ Int32.ofInt (-1)) = ((Int32.ofInt x).toBitVec ^^^ (Int32.ofInt (-1)).toBitVec).toNat := rfl
  have e2 : (Int32.ofInt (-1)).toBitVec = BitVec.allOnes 32 := by decide
  have e3 : (Int32.ofInt x).toBitVec.toNat = x.toNat := ii_ofn hx
  rw [e1, e2, BitVec.xor_allOnes, BitVec.toNat_not, e3]
  omega
theorem ii_andC {x u : Int} (hx : 0 ≤ x ∧ x < 4096) (hu : 0 ≤ u ∧ u < 4096) : ∃ e : Int, Int32.ofInt x &&& Int32.ofInt (-1 - u) = Int32.ofInt e ∧ 0 ≤ e ∧ e ≤ x ∧ ∀ i, i < 12 → e.toNat / 2 ^ i % 2 = if x.toNat / 2 ^ i % 2 = 1 ∧ u.toNat / 2 ^ i % 2 = 0 then 1 else 0 := by
  have hle : x.toNat &&& (2 ^ 32 - (u.toNat + 1)) ≤ x.toNat := Nat.and_le_left
  refine ⟨((x.toNat &&& (2 ^ 32 - (u.toNat + 1)) : Nat) : Int), ?_, by omega, by omega, fun i hi => ?_⟩
  · apply fx_u_inj
    rw [ii_ofn (x := ((x.toNat &&& (2 ^ 32 - (u.toNat + 1)) : Nat) : Int)) (by omega)]
    have e1 : fx_u (Int32.ofInt x &&& Int32.ofInt (-1 - u)) = ((Int32.ofInt x).toBitVec &&& (Int32.ofInt (-1 - u)).toBitVec).toNat := rfl
    have e3 : (Int32.ofInt x).toBitVec.toNat = x.toNat := ii_ofn (by omega)
    have e4 : (Int32.ofInt (-1 - u)).toBitVec.toNat = 4294967296 - (u.toNat + 1) := ii_ofm (by omega)
    rw [e1, BitVec.toNat_and, e3, e4]
    rfl
  · have h1 : (((x.toNat &&& (2 ^ 32 - (u.toNat + 1)) : Nat) : Int)).toNat = x.toNat &&& (2 ^ 32 - (u.toNat + 1)) := rfl
    have hlt : u.toNat < 2 ^ 32 := by
      have : (4096 : Nat) < 2 ^ 32 := by decide
      omega
    have key : (x.toNat &&& (2 ^ 32 - (u.toNat + 1))) / 2 ^ i % 2 = 1 ↔ x.toNat / 2 ^ i % 2 = 1 ∧ u.toNat / 2 ^ i % 2 = 0 := by
      rw [bt_tb, Nat.testBit_and, Nat.testBit_two_pow_sub_succ hlt, Bool.and_eq_true, Bool.and_eq_true, decide_eq_true_eq, Bool.not_eq_true', ← bt_tb]
      constructor
      · intro h
        refine ⟨h.1, ?_⟩
        have h2 := h.2.2
        rw [Bool.eq_false_iff, ne_eq, ← bt_tb] at h2
        omega
      · intro h
        refine ⟨h.1, by omega, ?_⟩
        rw [Bool.eq_false_iff, ne_eq, ← bt_tb]
        omega
    rw [h1]
    by_cases h : x.toNat / 2 ^ i % 2 = 1 ∧ u.toNat / 2 ^ i % 2 = 0
    · rw [if_pos h]; exact key.mpr h
    · rw [if_neg h]
      have h2 : ¬ (x.toNat &&& (2 ^ 32 - (u.toNat + 1))) / 2 ^ i % 2 = 1 := fun h3 => h (key.mp h3)
      omega
theorem ii_lowB {x : Int} (hx : 0 < x ∧ x < 4096) : Int32.ofInt x &&& Int32.ofInt (-x) = Int32.ofInt ((2 ^ xz x.toNat : Nat) : Int) := by
  have key : ∀ a, a < 64 → ∀ b, b < 64 → 64 * a + b = 0 ∨ Int32.ofInt ((64 * a + b : Nat) : Int) &&& Int32.ofInt (-((64 * a + b : Nat) : Int)) = Int32.ofInt ((2 ^ xz (64 * a + b) : Nat) : Int) := by decide +kernel
  have := key (x.toNat / 64) (by omega) (x.toNat % 64) (by omega)
  rw [show 64 * (x.toNat / 64) + x.toNat % 64 = x.toNat by omega, show ((x.toNat : Nat) : Int) = x by omega] at this
  exact this.resolve_left (by omega)
theorem xz_pow {n : Nat} (h : n < 4096) (h0 : n ≠ 0) : 1 ≤ 2 ^ xz n ∧ 2 ^ xz n ≤ 2048 := by
  have hz := (xz_ok h h0).1
  have h1 : 2 ^ xz n ≤ 2 ^ 11 := Nat.pow_le_pow_right (by decide) (by omega)
  have h2 : 1 ≤ 2 ^ xz n := Nat.one_le_two_pow
  have h3 : (2 : Nat) ^ 11 = 2048 := by decide
  omega
section
variable {xa : mm_Xa} {d j pc nx r1 r2 r3 : Nat} {lo : List (Nat × Value)} {st : List Value} {W : mm_W} {b c : Nat} {Q : hp_Q}
theorem wr_ixorM {x : Int} (hc : md_cd j pc = some (.ixor, nx, r1, r2, r3)) (hx : 0 ≤ x ∧ x ≤ 2147483647) (k : ∀ e : Int, e = -1 - x → wp xa d j (nx, lo, vi e :: st, W, b, c) Q) : wp xa d j (pc, lo, vi (-1) :: vi x :: st, W, b, c) Q := by
  exact wp.step (by simp only [mm_step, hc, mm_stepI, vi]; rw [ii_xorM hx]; try rfl) (k _ rfl)
theorem wr_iandC {x y : Int} (u : Int) (hy : y = -1 - u) (hc : md_cd j pc = some (.iand, nx, r1, r2, r3)) (hx : 0 ≤ x ∧ x < 4096) (hu : 0 ≤ u ∧ u < 4096) (k : ∀ e : Int, 0 ≤ e ∧ e ≤ x → (∀ i, i < 12 → e.toNat / 2 ^ i % 2 = if x.toNat / 2 ^ i % 2 = 1 ∧ u.toNat / 2 ^ i % 2 = 0 then 1 else 0) → wp xa d j (nx, lo, vi e :: st, W, b, c) Q) : wp xa d j (pc, lo, vi y :: vi x :: st, W, b, c) Q := by
  subst hy
  obtain ⟨e, he, h1, h2, h3⟩ := ii_andC hx hu
  exact wp.step (by simp only [mm_step, hc, mm_stepI, vi]; rw [he]; try rfl) (k e ⟨h1, h2⟩ h3)
theorem wr_negV {x : Int} (hc : md_cd j pc = some (.ineg, nx, r1, r2, r3)) (hx : -2147483647 ≤ x ∧ x ≤ 2147483647) (k : ∀ e : Int, e = -x → wp xa d j (nx, lo, vi e :: st, W, b, c) Q) : wp xa d j (pc, lo, vi x :: st, W, b, c) Q := by
  have he : -Int32.ofInt x = Int32.ofInt (-x) := by
    rw [Int32.ofInt_neg]
  exact wp.step (by simp only [mm_step, hc, mm_stepI, vi]; rw [he]; try rfl) (k _ rfl)
theorem wr_iandZ {x y : Int} (hy : y = -x) (hc : md_cd j pc = some (.iand, nx, r1, r2, r3)) (hx : 0 < x ∧ x < 4096) (k : ∀ e : Int, 1 ≤ e ∧ e ≤ 2048 → e = ((2 ^ xz x.toNat : Nat) : Int) → wp xa d j (nx, lo, vi e :: st, W, b, c) Q) : wp xa d j (pc, lo, vi y :: vi x :: st, W, b, c) Q := by
  subst hy
  have hz := xz_pow (n := x.toNat) (by omega) (by omega)
  exact wp.step (by simp only [mm_step, hc, mm_stepI, vi]; rw [ii_lowB hx]; try rfl) (k _ (by omega) rfl)
end
/-! ===== the class's exchange, as cells ===== -/
def xC (h : hp) (j : Nat) : Int := h 19 ((h 18 7).toNat + j)
def xB (h : hp) (j : Nat) : Int := h 8 ((h 18 7).toNat + j)
def xK (h : hp) : Nat := (h 63 4).toNat
/-- the jobs by places and colors -/
def XJp (C B : Nat → Int) (k : Nat) (J : Nat → Int) : Prop := ∀ p, p < k → ∀ c, c < 5 → J (5 * p + c) = (xk (xsu C B p (c : Int)) k : Int)
/-- what is remembered is right -/
def XMp (C B : Nat → Int) (k : Nat) (sp : Int) (M : Nat → Int) : Prop := ∀ u, u < 2 ^ k → pc u < k → M u = -1 ∨ M u = (xp (xw C B k sp (k - pc u) u) 5 : Int)
def XG (h : hp) : Prop := XJp (xC h) (xB h) (xK h) (h 65) ∧ XMp (xC h) (xB h) (xK h) (h 3 9) (h 64)
theorem XG.at {h H : hp} (e19 : H 19 = h 19) (e8 : H 8 = h 8) (e7 : H 18 7 = h 18 7) (e4 : H 63 4 = h 63 4) (e9 : H 3 9 = h 3 9) (e65 : H 65 = h 65) (j : XJp (xC h) (xB h) (xK h) (h 65)) (m : XMp (xC h) (xB h) (xK h) (h 3 9) (H 64)) : XG H := by
  unfold XG xC xB xK at *
  rw [e19, e8, e7, e4, e9, e65]
  exact ⟨j, m⟩
theorem XG.to {h H : hp} (e19 : H 19 = h 19) (e8 : H 8 = h 8) (e7 : H 18 7 = h 18 7) (e4 : H 63 4 = h 63 4) (e9 : H 3 9 = h 3 9) (g : XG H) : XMp (xC h) (xB h) (xK h) (h 3 9) (H 64) := by
  have m := g.2
  unfold xC xB xK at *
  rw [e19, e8, e7, e4, e9] at m
  exact m
theorem XMp.put {C B : Nat → Int} {k : Nat} {sp : Int} {M M2 : Nat → Int} {u : Nat} {v : Int} (m : XMp C B k sp M) (e : M2 u = v) (o : ∀ i, i ≠ u → M2 i = M i) (hv : v = (xp (xw C B k sp (k - pc u) u) 5 : Int)) : XMp C B k sp M2 := fun x hx hp => by
  by_cases h : x = u
  · subst h; rw [e]; exact Or.inr hv
  · rw [o x h]; exact m x hx hp
theorem bt_16 (x c : Nat) : x / 2 ^ (c * 4) = x / 16 ^ c := by
  rw [show (16 : Nat) = 2 ^ 4 by decide, ← Nat.pow_mul, Nat.mul_comm 4 c]
theorem xp_or {x v c : Nat} (hx : x < 16 ^ c) : x ||| (v * 16 ^ c) = x + v * 16 ^ c := by
  have e : (16 : Nat) ^ c = 2 ^ (4 * c) := by rw [show (16 : Nat) = 2 ^ 4 by decide, ← Nat.pow_mul]
  rw [e] at hx ⊢
  rw [Nat.or_comm, Nat.mul_comm, ← Nat.two_pow_add_eq_or_of_lt hx, Nat.add_comm]
/-- the least of the first n, 15 at most -/
def xmq (f : Nat → Nat) : Nat → Nat
  | 0 => 15
  | n + 1 => min (xmq f n) (f n)
theorem xmq_5 (f : Nat → Nat) : xmq f 5 = xm f := rfl
