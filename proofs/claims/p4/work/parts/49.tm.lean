/-! ===== a token's kind, as the reference's cells tell it: closed, so that no line splits it that needn't ===== -/
def TKk (B : Nat → Int) (n p a6 a7 a12 : Int) : Prop := (tk_kd B n p = 0 ∧ a6 = 0) ∨ (tk_kd B n p = 1 ∧ a6 = 1 ∧ a12 = tk_sw B n p) ∨ (tk_kd B n p = 2 ∧ a6 = 2 ∧ a7 = tk_nb B n p) ∨ (tk_kd B n p = 3 ∧ a6 = 3 ∧ a7 = 59) ∨ (tk_kd B n p = 4 ∧ a6 = 3 ∧ a7 = 40) ∨ (tk_kd B n p = 5 ∧ a6 = 3 ∧ a7 = 41) ∨ (tk_kd B n p = 6 ∧ a6 = 4)
theorem TKk.i0 {B : Nat → Int} {n p a6 a7 a12 : Int} (k : tk_kd B n p = 0) (h : a6 = 0) : TKk B n p a6 a7 a12 := Or.inl ⟨k, h⟩
theorem TKk.i1 {B : Nat → Int} {n p a6 a7 a12 : Int} (k : tk_kd B n p = 1) (h : a6 = 1) (v : a12 = tk_sw B n p) : TKk B n p a6 a7 a12 := Or.inr (Or.inl ⟨k, h, v⟩)
theorem TKk.i2 {B : Nat → Int} {n p a6 a7 a12 : Int} (k : tk_kd B n p = 2) (h : a6 = 2) (v : a7 = tk_nb B n p) : TKk B n p a6 a7 a12 := Or.inr (Or.inr (Or.inl ⟨k, h, v⟩))
theorem TKk.i3 {B : Nat → Int} {n p a6 a7 a12 : Int} (k : tk_kd B n p = 3) (h : a6 = 3) (v : a7 = 59) : TKk B n p a6 a7 a12 := Or.inr (Or.inr (Or.inr (Or.inl ⟨k, h, v⟩)))
theorem TKk.i4 {B : Nat → Int} {n p a6 a7 a12 : Int} (k : tk_kd B n p = 4) (h : a6 = 3) (v : a7 = 40) : TKk B n p a6 a7 a12 := Or.inr (Or.inr (Or.inr (Or.inr (Or.inl ⟨k, h, v⟩))))
theorem TKk.i5 {B : Nat → Int} {n p a6 a7 a12 : Int} (k : tk_kd B n p = 5) (h : a6 = 3) (v : a7 = 41) : TKk B n p a6 a7 a12 := Or.inr (Or.inr (Or.inr (Or.inr (Or.inr (Or.inl ⟨k, h, v⟩)))))
theorem TKk.i6 {B : Nat → Int} {n p a6 a7 a12 : Int} (k : tk_kd B n p = 6) (h : a6 = 4) : TKk B n p a6 a7 a12 := Or.inr (Or.inr (Or.inr (Or.inr (Or.inr (Or.inr ⟨k, h⟩)))))
theorem TKk.e0 {B : Nat → Int} {n p a6 a7 a12 : Int} (T : TKk B n p a6 a7 a12) (h : a6 = 0) : tk_kd B n p = 0 := by
  unfold TKk at T
  omega
theorem TKk.n0 {B : Nat → Int} {n p a6 a7 a12 : Int} (T : TKk B n p a6 a7 a12) (h : a6 ≠ 0) : tk_kd B n p ≠ 0 := by
  unfold TKk at T
  omega
theorem TKk.e1 {B : Nat → Int} {n p a6 a7 a12 : Int} (T : TKk B n p a6 a7 a12) (h : a6 = 1) : tk_kd B n p = 1 ∧ a12 = tk_sw B n p := by
  unfold TKk at T
  omega
theorem TKk.n1 {B : Nat → Int} {n p a6 a7 a12 : Int} (T : TKk B n p a6 a7 a12) (h : a6 ≠ 1) : tk_kd B n p ≠ 1 := by
  unfold TKk at T
  omega
theorem TKk.e2 {B : Nat → Int} {n p a6 a7 a12 : Int} (T : TKk B n p a6 a7 a12) (h : a6 = 2) : tk_kd B n p = 2 ∧ a7 = tk_nb B n p := by
  unfold TKk at T
  omega
theorem TKk.n2 {B : Nat → Int} {n p a6 a7 a12 : Int} (T : TKk B n p a6 a7 a12) (h : a6 ≠ 2) : tk_kd B n p ≠ 2 := by
  unfold TKk at T
  omega
theorem TKk.e4 {B : Nat → Int} {n p a6 a7 a12 : Int} (T : TKk B n p a6 a7 a12) (h : a6 = 4) : tk_kd B n p = 6 := by
  unfold TKk at T
  omega
theorem TKk.n4 {B : Nat → Int} {n p a6 a7 a12 : Int} (T : TKk B n p a6 a7 a12) (h : a6 ≠ 4) : tk_kd B n p ≠ 6 := by
  unfold TKk at T
  omega
theorem TKk.n3 {B : Nat → Int} {n p a6 a7 a12 : Int} (T : TKk B n p a6 a7 a12) (h : a6 ≠ 3) : tk_kd B n p ≠ 3 ∧ tk_kd B n p ≠ 4 ∧ tk_kd B n p ≠ 5 := by
  unfold TKk at T
  omega
theorem TKk.s3 {B : Nat → Int} {n p a6 a7 a12 : Int} (T : TKk B n p a6 a7 a12) (h : a6 = 3) (v : a7 = 59) : tk_kd B n p = 3 := by
  unfold TKk at T
  omega
theorem TKk.t3 {B : Nat → Int} {n p a6 a7 a12 : Int} (T : TKk B n p a6 a7 a12) (v : a7 ≠ 59) : tk_kd B n p ≠ 3 := by
  unfold TKk at T
  omega
theorem TKk.s4 {B : Nat → Int} {n p a6 a7 a12 : Int} (T : TKk B n p a6 a7 a12) (h : a6 = 3) (v : a7 = 40) : tk_kd B n p = 4 := by
  unfold TKk at T
  omega
theorem TKk.t4 {B : Nat → Int} {n p a6 a7 a12 : Int} (T : TKk B n p a6 a7 a12) (v : a7 ≠ 40) : tk_kd B n p ≠ 4 := by
  unfold TKk at T
  omega
theorem TKk.s5 {B : Nat → Int} {n p a6 a7 a12 : Int} (T : TKk B n p a6 a7 a12) (h : a6 = 3) (v : a7 = 41) : tk_kd B n p = 5 := by
  unfold TKk at T
  omega
theorem TKk.t5 {B : Nat → Int} {n p a6 a7 a12 : Int} (T : TKk B n p a6 a7 a12) (v : a7 ≠ 41) : tk_kd B n p ≠ 5 := by
  unfold TKk at T
  omega
theorem TKk.w {B : Nat → Int} {n p a6 a7 a12 : Int} (T : TKk B n p a6 a7 a12) (k : tk_kd B n p = 1) : a12 = tk_sw B n p := by
  unfold TKk at T
  omega
theorem TKk.mv {B : Nat → Int} {n p a6 a7 a12 b6 b7 b12 : Int} (T : TKk B n p a6 a7 a12) (e6 : b6 = a6) (e7 : b7 = a7) (e12 : b12 = a12) : TKk B n p b6 b7 b12 := by
  subst e6 e7 e12
  exact T
theorem tk_mp {B : Nat → Int} {n p a8 b8 a4 a5 a6 a7 a12 b4 b5 b6 b7 b12 : Int} (H : 1 ≤ a8 ∨ (a4 = tk_nx B n p ∧ a5 = tk_st B n p ∧ TKk B n p a6 a7 a12)) (e8 : a8 ≤ b8) (e : b8 ≤ 0 → b4 = a4 ∧ b5 = a5 ∧ b6 = a6 ∧ b7 = a7 ∧ b12 = a12) : 1 ≤ b8 ∨ (b4 = tk_nx B n p ∧ b5 = tk_st B n p ∧ TKk B n p b6 b7 b12) := by
  by_cases h : 1 ≤ b8
  · exact Or.inl h
  · obtain ⟨e4, e5, e6, e7, e12⟩ := e (by omega)
    rcases H with h2 | ⟨h4, h5, h6⟩
    · omega
    · exact Or.inr ⟨e4.trans h4, e5.trans h5, h6.mv e6 e7 e12⟩
/-! frames, where the place is above all that they name -/
def fo_gt : List FE → Nat → Nat → Bool
  | [], _, _ => true
  | q :: l, k, m => (!(Nat.ble q.1 k && Nat.ble k q.2.1) || (match q.2.2 with | none => false | some p => Nat.ble p.2 m)) && fo_gt l k m
theorem fo_gk {k m i : Nat} (hi : m < i) : ∀ {E : List FE}, fo_gt E k m = true → fx_in E k i = false
  | [], _ => rfl
  | (lo, up, p) :: l, h => by
    unfold fo_gt at h
    rw [Bool.and_eq_true, Bool.or_eq_true] at h
    dsimp only at h
    obtain ⟨h1, h2⟩ := h
    by_cases c : lo ≤ k ∧ k ≤ up
    · rcases h1 with h1 | h1
      · rw [Nat.ble_eq_true_of_le c.1, Nat.ble_eq_true_of_le c.2] at h1
        exact absurd h1 (by decide)
      · cases p with
        | none => exact absurd h1 Bool.false_ne_true
        | some q => exact fn_i (Or.inr (Nat.lt_of_le_of_lt (Nat.le_of_ble_eq_true h1) hi)) (fo_gk hi h2)
    · exact fn_a (by omega) (fo_gk hi h2)
