/-! ===== words as numbers: shifts and sums that don't overflow ===== -/
theorem ll_nn {a : Int} (h1 : 0 ≤ a) (h2 : a ≤ 9223372036854775807) : (Int64.ofInt a).toBitVec.toNat = a.toNat := by
  have e := ll_r (a := a) (by omega) h2
  have e2 : (Int64.ofInt a).toBitVec.toInt = a := e
  rw [BitVec.toInt_eq_toNat_cond] at e2
  have hl := (Int64.ofInt a).toBitVec.isLt
  split at e2 <;> omega
theorem ll_shl8 {a : Int} (h1 : 0 ≤ a) (h2 : a < 36028797018963968) : Int64.ofInt a <<< ((Int32.ofInt 8).toInt64 &&& 63) = Int64.ofInt (a * 256) := by
  apply Int64.toBitVec_inj.mp
  apply BitVec.eq_of_toNat_eq
  rw [ll_nn (a := a * 256) (by omega) (by omega)]
  have hk : ((Int32.ofInt 8).toInt64 &&& 63).toBitVec.smod 64 = 8#64 := by decide
  rw [Int64.toBitVec_shiftLeft, hk]
  show ((Int64.ofInt a).toBitVec <<< (8#64).toNat).toNat = _
  rw [BitVec.toNat_shiftLeft, ll_nn h1 (by omega), Nat.shiftLeft_eq]
  show a.toNat * 2 ^ 8 % 2 ^ 64 = _
  omega
theorem ll_shl5 {a : Int} (h1 : 0 ≤ a) (h2 : a < 36028797018963968) : Int64.ofInt a <<< ((Int32.ofInt 5).toInt64 &&& 63) = Int64.ofInt (a * 32) := by
  apply Int64.toBitVec_inj.mp
  apply BitVec.eq_of_toNat_eq
  rw [ll_nn (a := a * 32) (by omega) (by omega)]
  have hk : ((Int32.ofInt 5).toInt64 &&& 63).toBitVec.smod 64 = 5#64 := by decide
  rw [Int64.toBitVec_shiftLeft, hk]
  show ((Int64.ofInt a).toBitVec <<< (5#64).toNat).toNat = _
  rw [BitVec.toNat_shiftLeft, ll_nn h1 (by omega), Nat.shiftLeft_eq]
  show a.toNat * 2 ^ 5 % 2 ^ 64 = _
  omega
theorem ll_or {a x m : Int} (s : Nat) (hs : (2 : Int) ^ s = m) (h1 : 0 ≤ a) (h2 : a * m + x ≤ 9223372036854775807) (hx : 0 ≤ x ∧ x < m) : Int64.ofInt (a * m) ||| Int64.ofInt x = Int64.ofInt (a * m + x) := by
  have hm : 0 ≤ a * m := Int.mul_nonneg h1 (by omega)
  apply Int64.toBitVec_inj.mp
  apply BitVec.eq_of_toNat_eq
  rw [ll_nn (a := a * m + x) (by omega) h2, Int64.toBitVec_or, BitVec.toNat_or, ll_nn hm (by omega), ll_nn hx.1 (by omega)]
  have e1 : (a * m).toNat = a.toNat <<< s := by
    rw [Nat.shiftLeft_eq, ← hs]
    have : ((a.toNat * 2 ^ s : Nat) : Int) = a * 2 ^ s := by
      rw [Int.natCast_mul, Int.toNat_of_nonneg h1, Int.natCast_pow]
      rfl
    omega
  have e2 : x.toNat < 2 ^ s := by
    have : ((2 ^ s : Nat) : Int) = m := by rw [← hs, Int.natCast_pow]; rfl
    omega
  rw [e1, ← Nat.shiftLeft_add_eq_or_of_lt e2, ← e1]
  omega
section
variable {xa : mm_Xa} {d j pc nx r1 r2 r3 : Nat} {lo : List (Nat × Value)} {st : List Value} {W : mm_W} {b c : Nat} {Q : hp_Q}
theorem wr_lshl8 {a : Int} (hc : md_cd j pc = some (.lshl, nx, r1, r2, r3)) (k : ∀ e : Int, -9223372036854775808 ≤ e ∧ e ≤ 9223372036854775807 → (0 ≤ a → a < 36028797018963968 → e = a * 256) → wp xa d j (nx, lo, vl e :: st, W, b, c) Q) : wp xa d j (pc, lo, vi 8 :: vl a :: st, W, b, c) Q := by
  by_cases h : 0 ≤ a ∧ a < 36028797018963968
  · exact wp.step (by simp only [mm_step, hc, mm_stepI, vi, vl]; rw [ll_shl8 h.1 h.2]; try rfl) (k (a * 256) (by omega) (fun _ _ => rfl))
  · obtain ⟨e, he, h1, h2⟩ := ll_any (Int64.ofInt a <<< ((Int32.ofInt 8).toInt64 &&& 63))
    exact wp.step (by simp only [mm_step, hc, mm_stepI, vi, vl, he]) (k e ⟨h1, h2⟩ (fun x y => absurd ⟨x, y⟩ h))
theorem wr_lshl5 {a : Int} (hc : md_cd j pc = some (.lshl, nx, r1, r2, r3)) (k : ∀ e : Int, -9223372036854775808 ≤ e ∧ e ≤ 9223372036854775807 → (0 ≤ a → a < 36028797018963968 → e = a * 32) → wp xa d j (nx, lo, vl e :: st, W, b, c) Q) : wp xa d j (pc, lo, vi 5 :: vl a :: st, W, b, c) Q := by
  by_cases h : 0 ≤ a ∧ a < 36028797018963968
  · exact wp.step (by simp only [mm_step, hc, mm_stepI, vi, vl]; rw [ll_shl5 h.1 h.2]; try rfl) (k (a * 32) (by omega) (fun _ _ => rfl))
  · obtain ⟨e, he, h1, h2⟩ := ll_any (Int64.ofInt a <<< ((Int32.ofInt 5).toInt64 &&& 63))
    exact wp.step (by simp only [mm_step, hc, mm_stepI, vi, vl, he]) (k e ⟨h1, h2⟩ (fun x y => absurd ⟨x, y⟩ h))
theorem wr_lorS {x y : Int} (m : Int) (s : Nat) (hs : (2 : Int) ^ s = m) (hc : md_cd j pc = some (.lor, nx, r1, r2, r3)) (k : ∀ e : Int, -9223372036854775808 ≤ e ∧ e ≤ 9223372036854775807 → (∀ a : Int, x = a * m → 0 ≤ a → a * m + y ≤ 9223372036854775807 → 0 ≤ y ∧ y < m → e = x + y) → wp xa d j (nx, lo, vl e :: st, W, b, c) Q) : wp xa d j (pc, lo, vl y :: vl x :: st, W, b, c) Q := by
  by_cases h : ∃ a : Int, x = a * m ∧ 0 ≤ a ∧ a * m + y ≤ 9223372036854775807 ∧ 0 ≤ y ∧ y < m
  · obtain ⟨a, rfl, h1, h2, h3⟩ := h
    have hm : 0 ≤ a * m := Int.mul_nonneg h1 (by omega)
    exact wp.step (by simp only [mm_step, hc, mm_stepI, vl]; rw [ll_or s hs h1 h2 h3]; try rfl) (k (a * m + y) (by omega) (fun _ _ _ _ _ => rfl))
  · obtain ⟨e, he, h1, h2⟩ := ll_any (Int64.ofInt x ||| Int64.ofInt y)
    exact wp.step (by simp only [mm_step, hc, mm_stepI, vl, he]) (k e ⟨h1, h2⟩ (fun a x1 x2 x3 x4 => absurd ⟨a, x1, x2, x3, x4⟩ h))
theorem wr_addV {x y : Int} (hc : md_cd j pc = some (.iadd, nx, r1, r2, r3)) (k : ∀ e : Int, -2147483648 ≤ e ∧ e ≤ 2147483647 → (-2147483648 ≤ x + y ∧ x + y ≤ 2147483647 → e = x + y) → wp xa d j (nx, lo, vi e :: st, W, b, c) Q) : wp xa d j (pc, lo, vi y :: vi x :: st, W, b, c) Q := by
  by_cases h : -2147483648 ≤ x + y ∧ x + y ≤ 2147483647
  · exact wi_iadd hc (k _ h (fun _ => rfl))
  · obtain ⟨e, he, h1, h2⟩ := ii_any (Int32.ofInt (x + y))
    refine wi_iadd hc ?_
    unfold vi
    rw [he]
    exact k e ⟨h1, h2⟩ (fun h3 => absurd h3 h)
theorem wr_subV {x y : Int} (hc : md_cd j pc = some (.isub, nx, r1, r2, r3)) (k : ∀ e : Int, -2147483648 ≤ e ∧ e ≤ 2147483647 → (-2147483648 ≤ x - y ∧ x - y ≤ 2147483647 → e = x - y) → wp xa d j (nx, lo, vi e :: st, W, b, c) Q) : wp xa d j (pc, lo, vi y :: vi x :: st, W, b, c) Q := by
  by_cases h : -2147483648 ≤ x - y ∧ x - y ≤ 2147483647
  · exact wi_isub hc (k _ h (fun _ => rfl))
  · obtain ⟨e, he, h1, h2⟩ := ii_any (Int32.ofInt (x - y))
    refine wi_isub hc ?_
    unfold vi
    rw [he]
    exact k e ⟨h1, h2⟩ (fun h3 => absurd h3 h)
theorem wr_mulV {x y : Int} (hc : md_cd j pc = some (.imul, nx, r1, r2, r3)) (k : ∀ e : Int, -2147483648 ≤ e ∧ e ≤ 2147483647 → (-2147483648 ≤ x * y ∧ x * y ≤ 2147483647 → e = x * y) → wp xa d j (nx, lo, vi e :: st, W, b, c) Q) : wp xa d j (pc, lo, vi y :: vi x :: st, W, b, c) Q := by
  by_cases h : -2147483648 ≤ x * y ∧ x * y ≤ 2147483647
  · exact wi_imul hc (k _ h (fun _ => rfl))
  · obtain ⟨e, he, h1, h2⟩ := ii_any (Int32.ofInt (x * y))
    refine wi_imul hc ?_
    unfold vi
    rw [he]
    exact k e ⟨h1, h2⟩ (fun h3 => absurd h3 h)
end
/-! bytes of a number -/
theorem ii_shrV {x : Int} (hx : -2147483648 ≤ x ∧ x ≤ 2147483647) (k : Nat) (hk : k < 32) : Int32.ofInt x >>> (Int32.ofInt (k : Int) &&& 31) = Int32.ofInt (x / ((2 ^ k : Nat) : Int)) := by
  have key : ∀ n : Nat, n < 32 → ((Int32.ofInt (n : Int) &&& 31).toBitVec.smod 32).toNat = n := by decide
  have rx := ii_r hx.1 hx.2
  have hp : (1 : Int) ≤ ((2 ^ k : Nat) : Int) := by
    have := Nat.one_le_two_pow (n := k)
    omega
  have hd1 : -2147483648 ≤ x / ((2 ^ k : Nat) : Int) := Int.le_ediv_of_mul_le (by omega) (by
    have h1 := hx.1
    clear key rx
    generalize ((2 ^ k : Nat) : Int) = P at hp ⊢
    omega)
  have hd2 : x / ((2 ^ k : Nat) : Int) ≤ 2147483647 := by
    by_cases h0 : 0 ≤ x
    · have := Int.ediv_le_self ((2 ^ k : Nat) : Int) h0
      omega
    · have : x / ((2 ^ k : Nat) : Int) < 0 := Int.ediv_neg_of_neg_of_pos (by omega) (by omega)
      omega
  apply Int32.toInt_inj.mp
  rw [ii_r hd1 hd2]
  show ((Int32.ofInt x) >>> (Int32.ofInt (k : Int) &&& 31)).toBitVec.toInt = _
  rw [Int32.toBitVec_shiftRight]
  show ((Int32.ofInt x).toBitVec.sshiftRight (((Int32.ofInt (k : Int) &&& 31).toBitVec.smod 32).toNat)).toInt = _
  rw [key k hk, BitVec.toInt_sshiftRight, Int.shiftRight_eq_div_pow]
  show (Int32.ofInt x).toInt / _ = _
  rw [rx]
  try rfl
theorem ii_byte {x : Int} (hx : -2147483648 ≤ x ∧ x ≤ 2147483647) : ∃ e : Int, (Int32.ofInt x).toInt8.toInt32 = Int32.ofInt e ∧ -128 ≤ e ∧ e ≤ 127 ∧ ((x % 256 < 128 ∧ e = x % 256) ∨ (128 ≤ x % 256 ∧ e = x % 256 - 256)) := by
  have rx := ii_r hx.1 hx.2
  have h1 := Int8.le_toInt (Int32.ofInt x).toInt8
  have h2 := Int8.toInt_lt (Int32.ofInt x).toInt8
  refine ⟨(Int32.ofInt x).toInt8.toInt, ?_, by omega, by omega, ?_⟩
  · apply Int32.toInt_inj.mp
    rw [ii_r (by omega) (by omega)]
    exact Int8.toInt_toInt32 _
  · rw [Int32.toInt_toInt8, rx]
    show (x % 256 < 128 ∧ Int.bmod x 256 = x % 256) ∨ (128 ≤ x % 256 ∧ Int.bmod x 256 = x % 256 - 256)
    unfold Int.bmod
    dsimp only
    split <;> omega
theorem ii_low {x : Int} (hx : -2147483648 ≤ x ∧ x ≤ 2147483647) : Int32.ofInt x &&& Int32.ofInt 255 = Int32.ofInt (x % 256) := by
  have rx := ii_r hx.1 hx.2
  apply fx_u_inj
  have e1 : fx_u (Int32.ofInt x &&& Int32.ofInt 255) = fx_u (Int32.ofInt x) % 256 := by
    rw [show fx_u (Int32.ofInt x &&& Int32.ofInt 255) = ((Int32.ofInt x).toBitVec &&& (Int32.ofInt 255).toBitVec).toNat from rfl, BitVec.toNat_and]
    rw [show (Int32.ofInt 255).toBitVec.toNat = 2 ^ 8 - 1 from rfl, Nat.and_two_pow_sub_one_eq_mod]
    rfl
  have e2 := fx_toInt (Int32.ofInt x)
  have e3 := fx_u_lt (Int32.ofInt x)
  have e4 := fx_toInt (Int32.ofInt (x % 256))
  have e5 := fx_u_lt (Int32.ofInt (x % 256))
  rw [ii_r (by omega) (by omega)] at e4
  rw [rx] at e2
  rw [e1]
  split at e2 <;> split at e4 <;> omega
section
variable {xa : mm_Xa} {d j pc nx r1 r2 r3 : Nat} {lo : List (Nat × Value)} {st : List Value} {W : mm_W} {b c : Nat} {Q : hp_Q}
theorem wr_ishrV {x y m : Int} (k : Nat) (hk : k < 32) (hy : y = (k : Int)) (hm : ((2 ^ k : Nat) : Int) = m) (hc : md_cd j pc = some (.ishr, nx, r1, r2, r3)) (hx : -2147483648 ≤ x ∧ x ≤ 2147483647) (K : ∀ e : Int, e = x / m → wp xa d j (nx, lo, vi e :: st, W, b, c) Q) : wp xa d j (pc, lo, vi y :: vi x :: st, W, b, c) Q := by
  subst hy hm
  exact wp.step (by simp only [mm_step, hc, mm_stepI, vi]; rw [ii_shrV hx k hk]; try rfl) (K _ rfl)
theorem wr_i2bV {x : Int} (hc : md_cd j pc = some (.i2b, nx, r1, r2, r3)) (hx : -2147483648 ≤ x ∧ x ≤ 2147483647) (K : ∀ e : Int, -128 ≤ e ∧ e ≤ 127 → ((x % 256 < 128 ∧ e = x % 256) ∨ (128 ≤ x % 256 ∧ e = x % 256 - 256)) → wp xa d j (nx, lo, vi e :: st, W, b, c) Q) : wp xa d j (pc, lo, vi x :: st, W, b, c) Q := by
  obtain ⟨e, he, h1, h2, h3⟩ := ii_byte hx
  exact wp.step (by simp only [mm_step, hc, mm_stepI, vi, he]) (K e ⟨h1, h2⟩ h3)
theorem wr_iandB {x : Int} (hc : md_cd j pc = some (.iand, nx, r1, r2, r3)) (hx : -2147483648 ≤ x ∧ x ≤ 2147483647) (K : ∀ e : Int, e = x % 256 → wp xa d j (nx, lo, vi e :: st, W, b, c) Q) : wp xa d j (pc, lo, vi 255 :: vi x :: st, W, b, c) Q := by
  exact wp.step (by simp only [mm_step, hc, mm_stepI, vi]; rw [ii_low hx]; try rfl) (K _ rfl)
end
/-! the two buffers hold the same bytes -/
def BRn (n : Nat) (f g : Nat → Int) : Prop := ∀ i, i < n → (0 ≤ f i ∧ g i = f i) ∨ (-128 ≤ f i ∧ f i < 0 ∧ g i = f i + 256)
def sb (x y : Int) : Prop := (x % 256 < 128 ∧ y = x % 256) ∨ (128 ≤ x % 256 ∧ y = x % 256 - 256)
def AP1 (f f2 : Nat → Int) (n : Nat) (a : Int) : Prop := (∀ i, i < n → f2 i = f i) ∧ sb (a / 16777216) (f2 n) ∧ sb (a / 65536) (f2 (n + 1)) ∧ sb (a / 256) (f2 (n + 2)) ∧ sb a (f2 (n + 3))
def AR1 (g g2 : Nat → Int) (n : Nat) (a : Int) : Prop := (∀ i, i < n → g2 i = g i) ∧ g2 n = a / 16777216 % 256 ∧ g2 (n + 1) = a / 65536 % 256 ∧ g2 (n + 2) = a / 256 % 256 ∧ g2 (n + 3) = a % 256
theorem BRn.app {n : Nat} {f f2 g g2 : Nat → Int} {a : Int} (h : BRn n f g) (p : AP1 f f2 n a) (q : AR1 g g2 n a) : BRn (n + 4) f2 g2 := fun i hi => by
  obtain ⟨p0, p1, p2, p3, p4⟩ := p
  obtain ⟨q0, q1, q2, q3, q4⟩ := q
  unfold sb at p1 p2 p3 p4
  by_cases h0 : i < n
  · rw [p0 i h0, q0 i h0]; exact h i h0
  · have hi4 : i = n ∨ i = n + 1 ∨ i = n + 2 ∨ i = n + 3 := by omega
    rcases hi4 with rfl | rfl | rfl | rfl
    · rw [q1]; omega
    · rw [q2]; omega
    · rw [q3]; omega
    · rw [q4]; omega
def AP5 (f f2 : Nat → Int) (n : Nat) (a b c d e : Int) : Prop := ∃ f1 f3 f4 f5, AP1 f f1 n a ∧ AP1 f1 f3 (n + 4) b ∧ AP1 f3 f4 (n + 8) c ∧ AP1 f4 f5 (n + 12) d ∧ AP1 f5 f2 (n + 16) e
def AR5 (f f2 : Nat → Int) (n : Nat) (a b c d e : Int) : Prop := ∃ f1 f3 f4 f5, AR1 f f1 n a ∧ AR1 f1 f3 (n + 4) b ∧ AR1 f3 f4 (n + 8) c ∧ AR1 f4 f5 (n + 12) d ∧ AR1 f5 f2 (n + 16) e
theorem BRn.feed {n : Nat} {f f2 g g2 : Nat → Int} {a b c d e : Int} (h : BRn n f g) (p : AP5 f f2 n a b c d e) (q : AR5 g g2 n a b c d e) : BRn (n + 20) f2 g2 := by
  obtain ⟨f1, f3, f4, f5, p1, p2, p3, p4, p5⟩ := p
  obtain ⟨g1, g3, g4, g5, q1, q2, q3, q4, q5⟩ := q
  exact ((((h.app p1 q1).app p2 q2).app p3 q3).app p4 q4).app p5 q5
def BRh (h : hp) : Prop := BRn (h 1 1).toNat (h 2) (h 237)
theorem BRh.keep {h h2 : hp} (H : BRh h) (e1 : ∀ i, h2 2 i = h 2 i) (e2 : ∀ i, h2 237 i = h 237 i) (e3 : h2 1 1 ≤ h 1 1) : BRh h2 := fun i hi => by
  rw [e1 i, e2 i]
  exact H i (by omega)
