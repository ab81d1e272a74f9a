/-! ===== ints as naturals ===== -/
def fx_u (x : Int32) : Nat := x.toUInt32.toBitVec.toFin.val
def fx_fi (n : Nat) : Int32 := ⟨⟨⟨⟨Nat.mod n 4294967296, Nat.mod_lt n (by decide)⟩⟩⟩⟩
theorem fx_u_eq (x : Int32) : fx_u x = x.toBitVec.toNat := rfl
theorem fx_u_lt (x : Int32) : fx_u x < 4294967296 := x.toUInt32.toBitVec.toFin.isLt
theorem fx_u_fi (n : Nat) : fx_u (fx_fi n) = n % 4294967296 := rfl
theorem fx_u_inj {x y : Int32} (h : fx_u x = fx_u y) : x = y := by
  apply Int32.toBitVec_inj.mp
  exact BitVec.eq_of_toNat_eq h
theorem fx_fi_u (x : Int32) : fx_fi (fx_u x) = x := fx_u_inj (by rw [fx_u_fi, Nat.mod_eq_of_lt (fx_u_lt x)])
theorem fx_toInt (x : Int32) : x.toInt = if fx_u x < 2147483648 then (fx_u x : Int) else (fx_u x : Int) - 4294967296 := by
  have h : x.toInt = x.toBitVec.toInt := rfl
  rw [h, BitVec.toInt_eq_toNat_cond, fx_u_eq]
  by_cases h2 : 2 * x.toBitVec.toNat < 2 ^ 32
  · rw [if_pos h2, if_pos (by omega)]
  · rw [if_neg h2, if_neg (by omega)]
    rfl
theorem ts_l64 (x : Int32) : x.toInt64.toInt = x.toInt := Int32.toInt_toInt64 x
