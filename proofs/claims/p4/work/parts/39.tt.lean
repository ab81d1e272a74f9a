/-! ===== the reference's reader ===== -/
theorem tk_ix_lo : ∀ (l : List Int) (i x : Int), i ≤ tk_ix l i x ∨ tk_ix l i x = 21
  | [], _, _ => Or.inr rfl
  | k :: l, i, x => by
    show i ≤ (if x = k then i else tk_ix l (i + 1) x) ∨ (if x = k then i else tk_ix l (i + 1) x) = 21
    split
    · exact Or.inl (Int.le_refl _)
    · rcases tk_ix_lo l (i + 1) x with h | h
      · exact Or.inl (by omega)
      · exact Or.inr h
theorem tk_ix_g : ∀ (l : List Int) (i x : Int) (k : Nat), l.Nodup → i + l.length ≤ 21 → k < l.length → (x = l.getD k 0 ↔ tk_ix l i x = i + k)
  | [], _, _, _, _, _, h => absurd h (Nat.not_lt_zero _)
  | a :: l, i, x, 0, hn, hl, _ => by
    rw [List.length_cons] at hl
    show x = a ↔ (if x = a then i else tk_ix l (i + 1) x) = i + (0 : Nat)
    constructor
    · intro h
      rw [if_pos h]
      omega
    · intro h
      by_cases hx : x = a
      · exact hx
      · rw [if_neg hx] at h
        rcases tk_ix_lo l (i + 1) x with h2 | h2 <;> omega
  | a :: l, i, x, k + 1, hn, hl, hk => by
    rw [List.length_cons] at hl hk
    have hn2 := List.nodup_cons.mp hn
    have ih := tk_ix_g l (i + 1) x k hn2.2 (by omega) (by omega)
    show x = l.getD k 0 ↔ (if x = a then i else tk_ix l (i + 1) x) = i + ((k + 1 : Nat) : Int)
    constructor
    · intro h
      have hne : x ≠ a := fun e => hn2.1 (by
        rw [← e, h, List.getD_eq_getElem?_getD, List.getElem?_eq_getElem (by omega)]
        exact List.getElem_mem _)
      rw [if_neg hne, ih.mp h]
      omega
    · intro h
      by_cases hx : x = a
      · rw [if_pos hx] at h; omega
      · rw [if_neg hx] at h
        exact ih.mpr (by omega)
theorem tk_K5n : tk_K5.Nodup := by decide +kernel
/-- the k-th known word, by its five-bit number -/
theorem tk_wk {B : Nat → Int} {n p : Int} (k : Nat) (hk : k < 20) (h0 : 0 ≤ p) (h1 : p ≤ n) (hd : tk_kd B n p = 1) : tk_sw B n p = tk_K5.getD k 0 ↔ tk_wd (tk_lw B n p) = (k : Int) + 1 := by
  rw [tk_wde (tk_sm8 h0 h1 hd)]
  have := tk_ix_g tk_K5 1 (tk_sw B n p) k tk_K5n (by decide) hk
  rw [this]
  show tk_ix tk_K5 1 (tk_sw B n p) = 1 + (k : Int) ↔ tk_wd5 (tk_sw B n p) = _
  rw [show tk_wd5 (tk_sw B n p) = tk_ix tk_K5 1 (tk_sw B n p) from rfl, Int.add_comm]
/-- the reference's buffer -/
def RefB (B : Nat → Int) (n : Int) (h : hp) : Prop := (∀ i : Nat, (i : Int) < n → (0 ≤ B i ∧ h 237 i = B i) ∨ (-128 ≤ B i ∧ B i < 0 ∧ h 237 i = B i + 256)) ∧ h 236 3 = n ∧ 0 ≤ n ∧ n ≤ 800
def rb_1 (q : FE) : Bool := (Nat.blt q.2.1 236 || Nat.blt 237 q.1) || (q.1 == 236 && q.2.1 == 236 && (match q.2.2 with | none => false | some p => !(Nat.ble p.1 3 && Nat.ble 3 p.2)))
def rb_E : List FE → Bool
  | [] => true
  | q :: l => rb_1 q && rb_E l
theorem rb_Eo : ∀ (E : List FE) (i : Nat), rb_E E = true → fx_in E 237 i = false ∧ fx_in E 236 3 = false
  | [], _, _ => ⟨rfl, rfl⟩
  | q :: l, i, h => by
    rw [show rb_E (q :: l) = (rb_1 q && rb_E l) from rfl, Bool.and_eq_true] at h
    have h2 := rb_Eo l i h.2
    have key : fx_1 q 237 i = false ∧ fx_1 q 236 3 = false := by
      have h1 := h.1
      obtain ⟨a, b, p⟩ := q
      unfold rb_1 at h1
      unfold fx_1
      dsimp only at h1 ⊢
      cases p with
      | none =>
        simp only [Bool.or_eq_true, Bool.not_eq_true', Bool.and_eq_true, beq_iff_eq, Bool.and_eq_false_iff, Bool.eq_false_iff, ne_eq, Nat.ble_eq, Nat.blt_eq, Bool.false_eq_true, and_false, or_false, not_true] at h1 ⊢
        omega
      | some p =>
        obtain ⟨p1, p2⟩ := p
        simp only [Bool.or_eq_true, Bool.not_eq_true', Bool.and_eq_true, beq_iff_eq, Bool.and_eq_false_iff, Bool.eq_false_iff, ne_eq, Nat.ble_eq, Nat.blt_eq] at h1 ⊢
        omega
    exact ⟨by rw [show fx_in (q :: l) 237 i = (fx_1 q 237 i || fx_in l 237 i) from rfl, key.1, h2.1]; rfl, by rw [show fx_in (q :: l) 236 3 = (fx_1 q 236 3 || fx_in l 236 3) from rfl, key.2, h2.2]; rfl⟩
theorem RefB.fr {E : List FE} {h h2 : hp} {B : Nat → Int} {n : Int} (u : FR E h h2) (hE : rb_E E = true) (g : RefB B n h) : RefB B n h2 :=
  ⟨fun i hi => by rw [u 237 i (rb_Eo E i hE).1]; exact g.1 i hi, (u 236 3 (rb_Eo E 0 hE).2).trans g.2.1, g.2.2⟩
/-- frames that leave what was read so far -/
def cr_1 (q : FE) : Bool := (Nat.blt q.2.1 236 || (Nat.blt 236 q.1 && Nat.blt q.2.1 239) || Nat.blt 244 q.1) || (q.1 == 236 && q.2.1 == 236 && (match q.2.2 with | none => false | some p => Nat.blt p.2 23 || Nat.blt 26 p.1))
def cr_E : List FE → Bool
  | [] => true
  | q :: l => cr_1 q && cr_E l
theorem cr_Eo : ∀ (E : List FE) (i : Nat), cr_E E = true → fx_in E 239 i = false ∧ fx_in E 244 i = false ∧ (23 ≤ i → i ≤ 26 → fx_in E 236 i = false)
  | [], _, _ => ⟨rfl, rfl, fun _ _ => rfl⟩
  | q :: l, i, h => by
    rw [show cr_E (q :: l) = (cr_1 q && cr_E l) from rfl, Bool.and_eq_true] at h
    have h2 := cr_Eo l i h.2
    have key : fx_1 q 239 i = false ∧ fx_1 q 244 i = false ∧ (23 ≤ i → i ≤ 26 → fx_1 q 236 i = false) := by
      have h1 := h.1
      obtain ⟨a, b, p⟩ := q
      unfold cr_1 at h1
      unfold fx_1
      dsimp only at h1 ⊢
      cases p with
      | none =>
        simp only [Bool.or_eq_true, Bool.not_eq_true', Bool.and_eq_true, beq_iff_eq, Bool.and_eq_false_iff, Bool.eq_false_iff, ne_eq, Nat.ble_eq, Nat.blt_eq, Bool.false_eq_true, and_false, or_false, not_true] at h1 ⊢
        omega
      | some p =>
        obtain ⟨p1, p2⟩ := p
        simp only [Bool.or_eq_true, Bool.not_eq_true', Bool.and_eq_true, beq_iff_eq, Bool.and_eq_false_iff, Bool.eq_false_iff, ne_eq, Nat.ble_eq, Nat.blt_eq] at h1 ⊢
        omega
    refine ⟨?_, ?_, fun i1 i2 => ?_⟩
    · rw [show fx_in (q :: l) 239 i = (fx_1 q 239 i || fx_in l 239 i) from rfl, key.1, h2.1]; rfl
    · rw [show fx_in (q :: l) 244 i = (fx_1 q 244 i || fx_in l 244 i) from rfl, key.2.1, h2.2.1]; rfl
    · rw [show fx_in (q :: l) 236 i = (fx_1 q 236 i || fx_in l 236 i) from rfl, key.2.2 i1 i2, h2.2.2 i1 i2]; rfl
theorem CVr.fr {E : List FE} {h h2 : hp} {s : tk_S} (u : FR E h h2) (hE : cr_E E = true) (g : CVr s h) : CVr s h2 := by
  have e1 : h2 239 = h 239 := funext (fun i => u 239 i (cr_Eo E i hE).1)
  have e2 : h2 244 = h 244 := funext (fun i => u 244 i (cr_Eo E i hE).2.1)
  unfold CVr at g ⊢
  rw [e1, e2, u 236 23 ((cr_Eo E 23 hE).2.2 (by omega) (by omega)), u 236 24 ((cr_Eo E 24 hE).2.2 (by omega) (by omega)), u 236 25 ((cr_Eo E 25 hE).2.2 (by omega) (by omega)), u 236 26 ((cr_Eo E 26 hE).2.2 (by omega) (by omega))]
  exact g
theorem CVr.color {s : tk_S} {h h2 : hp} {x v : Int} {c : Nat} (H : CVr s h) (hc : s 0 = (c : Int)) (f0 : h2 239 0 = s 0 + 1) (f : ∀ i, i ≠ 0 → i ≠ 10 + c → h2 239 i = h 239 i) (g : ∀ i, 23 ≤ i → i ≤ 26 → h2 236 i = h 236 i) (x0 : tk_sm 8 x (h2 244 c)) (v0 : h2 239 (10 + c) = v)
    (a : ∀ i, i < c → h2 244 i = h 244 i) (hl : c < 5) (hL : s 1 ≤ 4) (hC : s 2 ≤ 12) :
    CVr (tk_u (tk_u (tk_u s (70 + (s 0).toNat) x) (10 + (s 0).toNat) v) 0 (s 0 + 1)) h2 := by
  obtain ⟨⟨H0, H1, H2, H3, H4, H5, H6, H7, H8, H9⟩, ⟨G0, G1, G2, G3⟩, A, B, C⟩ := H
  have ec : (s 0).toNat = c := by omega
  rw [ec]
  have un : ∀ j, j ≠ 0 → j ≠ 10 + c → j ≠ 70 + c → (tk_u (tk_u (tk_u s (70 + c) x) (10 + c) v) 0 (s 0 + 1)) j = s j := fun j j0 j1 j2 => by rw [tk_un j0, tk_un j1, tk_un j2]
  have u0 : (tk_u (tk_u (tk_u s (70 + c) x) (10 + c) v) 0 (s 0 + 1)) 0 = s 0 + 1 := tk_ue
  refine ⟨⟨?_, ?_, ?_, ?_, ?_, ?_, ?_, ?_, ?_, ?_⟩, ⟨?_, ?_, ?_, ?_⟩, fun i hi => ?_, fun i hi => ?_, fun i hi => ?_⟩
  · rw [u0, f0]
  · rw [un 1 (by omega) (by omega) (by omega), f 1 (by omega) (by omega), H1]
  · rw [un 2 (by omega) (by omega) (by omega), f 2 (by omega) (by omega), H2]
  · rw [un 3 (by omega) (by omega) (by omega), f 3 (by omega) (by omega), H3]
  · rw [un 4 (by omega) (by omega) (by omega), f 4 (by omega) (by omega), H4]
  · rw [un 5 (by omega) (by omega) (by omega), f 5 (by omega) (by omega), H5]
  · rw [un 6 (by omega) (by omega) (by omega), f 6 (by omega) (by omega), H6]
  · rw [un 7 (by omega) (by omega) (by omega), f 7 (by omega) (by omega), H7]
  · rw [un 8 (by omega) (by omega) (by omega), f 8 (by omega) (by omega), H8]
  · rw [un 9 (by omega) (by omega) (by omega), f 9 (by omega) (by omega), H9]
  · rw [un 60 (by omega) (by omega) (by omega), g 23 (by omega) (by omega), G0]
  · rw [un 61 (by omega) (by omega) (by omega), g 24 (by omega) (by omega), G1]
  · rw [un 62 (by omega) (by omega) (by omega), g 25 (by omega) (by omega), G2]
  · rw [un 63 (by omega) (by omega) (by omega), g 26 (by omega) (by omega), G3]
  · rw [u0] at hi
    by_cases hic : i = c
    · subst hic
      rw [tk_un (by omega), tk_un (by omega), tk_ue, tk_un (by omega), tk_ue]
      exact ⟨x0, v0⟩
    · rw [un (70 + i) (by omega) (by omega) (by omega), un (10 + i) (by omega) (by omega) (by omega), a i (by omega), f (10 + i) (by omega) (by omega)]
      exact A i (by omega)
  · rw [un 1 (by omega) (by omega) (by omega)] at hi
    rw [un (15 + i) (by omega) (by omega) (by omega), f (15 + i) (by omega) (by omega)]
    exact B i hi
  · rw [un 2 (by omega) (by omega) (by omega)] at hi
    rw [un (31 + i) (by omega) (by omega) (by omega), un (19 + i) (by omega) (by omega) (by omega), un (43 + i) (by omega) (by omega) (by omega), f (31 + i) (by omega) (by omega), f (19 + i) (by omega) (by omega), f (43 + i) (by omega) (by omega)]
    exact C i hi
theorem CVr.lane {s : tk_S} {h h2 : hp} {v : Int} {c : Nat} (H : CVr s h) (hc : s 1 = (c : Int)) (f1 : h2 239 1 = s 1 + 1) (f : ∀ i, i ≠ 1 → i ≠ 15 + c → h2 239 i = h 239 i) (g : ∀ i, 23 ≤ i → i ≤ 26 → h2 236 i = h 236 i) (v0 : h2 239 (15 + c) = v)
    (a : ∀ i, h2 244 i = h 244 i) (hl : c < 4) (hL : s 0 ≤ 5) (hC : s 2 ≤ 12) :
    CVr (tk_u (tk_u s (15 + (s 1).toNat) v) 1 (s 1 + 1)) h2 := by
  obtain ⟨⟨H0, H1, H2, H3, H4, H5, H6, H7, H8, H9⟩, ⟨G0, G1, G2, G3⟩, A, B, C⟩ := H
  have ec : (s 1).toNat = c := by omega
  rw [ec]
  have un : ∀ j, j ≠ 1 → j ≠ 15 + c → (tk_u (tk_u s (15 + c) v) 1 (s 1 + 1)) j = s j := fun j j0 j1 => by rw [tk_un j0, tk_un j1]
  have u0 : (tk_u (tk_u s (15 + c) v) 1 (s 1 + 1)) 1 = s 1 + 1 := tk_ue
  refine ⟨⟨?_, ?_, ?_, ?_, ?_, ?_, ?_, ?_, ?_, ?_⟩, ⟨?_, ?_, ?_, ?_⟩, fun i hi => ?_, fun i hi => ?_, fun i hi => ?_⟩
  · rw [un 0 (by omega) (by omega), f 0 (by omega) (by omega), H0]
  · rw [u0, f1]
  · rw [un 2 (by omega) (by omega), f 2 (by omega) (by omega), H2]
  · rw [un 3 (by omega) (by omega), f 3 (by omega) (by omega), H3]
  · rw [un 4 (by omega) (by omega), f 4 (by omega) (by omega), H4]
  · rw [un 5 (by omega) (by omega), f 5 (by omega) (by omega), H5]
  · rw [un 6 (by omega) (by omega), f 6 (by omega) (by omega), H6]
  · rw [un 7 (by omega) (by omega), f 7 (by omega) (by omega), H7]
  · rw [un 8 (by omega) (by omega), f 8 (by omega) (by omega), H8]
  · rw [un 9 (by omega) (by omega), f 9 (by omega) (by omega), H9]
  · rw [un 60 (by omega) (by omega), g 23 (by omega) (by omega), G0]
  · rw [un 61 (by omega) (by omega), g 24 (by omega) (by omega), G1]
  · rw [un 62 (by omega) (by omega), g 25 (by omega) (by omega), G2]
  · rw [un 63 (by omega) (by omega), g 26 (by omega) (by omega), G3]
  · rw [un 0 (by omega) (by omega)] at hi
    rw [un (70 + i) (by omega) (by omega), un (10 + i) (by omega) (by omega), a, f (10 + i) (by omega) (by omega)]
    exact A i hi
  · rw [u0] at hi
    by_cases hic : i = c
    · subst hic
      rw [tk_un (by omega), tk_ue]
      exact v0
    · rw [un (15 + i) (by omega) (by omega), f (15 + i) (by omega) (by omega)]
      exact B i (by omega)
  · rw [un 2 (by omega) (by omega)] at hi
    rw [un (31 + i) (by omega) (by omega), un (19 + i) (by omega) (by omega), un (43 + i) (by omega) (by omega), f (31 + i) (by omega) (by omega), f (19 + i) (by omega) (by omega), f (43 + i) (by omega) (by omega)]
    exact C i hi
theorem CVr.car {s : tk_S} {h h2 : hp} {x v w : Int} {c : Nat} (H : CVr s h) (hc : s 2 = (c : Int)) (f2 : h2 239 2 = s 2 + 1) (f : ∀ i, i ≠ 2 → i ≠ 31 + c → i ≠ 19 + c → i ≠ 43 + c → h2 239 i = h 239 i) (g : ∀ i, 23 ≤ i → i ≤ 26 → h2 236 i = h 236 i) (x0 : h2 239 (31 + c) = x) (v0 : h2 239 (19 + c) = v) (w0 : h2 239 (43 + c) = w)
    (a : ∀ i, h2 244 i = h 244 i) (hl : c < 12) (hL : s 0 ≤ 5) (hC : s 1 ≤ 4) :
    CVr (tk_u (tk_u (tk_u (tk_u s (31 + (s 2).toNat) x) (19 + (s 2).toNat) v) (43 + (s 2).toNat) w) 2 (s 2 + 1)) h2 := by
  obtain ⟨⟨H0, H1, H2, H3, H4, H5, H6, H7, H8, H9⟩, ⟨G0, G1, G2, G3⟩, A, B, C⟩ := H
  have ec : (s 2).toNat = c := by omega
  rw [ec]
  have un : ∀ j, j ≠ 2 → j ≠ 43 + c → j ≠ 19 + c → j ≠ 31 + c → (tk_u (tk_u (tk_u (tk_u s (31 + c) x) (19 + c) v) (43 + c) w) 2 (s 2 + 1)) j = s j := fun j j0 j1 j2 j3 => by rw [tk_un j0, tk_un j1, tk_un j2, tk_un j3]
  have u0 : (tk_u (tk_u (tk_u (tk_u s (31 + c) x) (19 + c) v) (43 + c) w) 2 (s 2 + 1)) 2 = s 2 + 1 := tk_ue
  refine ⟨⟨?_, ?_, ?_, ?_, ?_, ?_, ?_, ?_, ?_, ?_⟩, ⟨?_, ?_, ?_, ?_⟩, fun i hi => ?_, fun i hi => ?_, fun i hi => ?_⟩
  · rw [un 0 (by omega) (by omega) (by omega) (by omega), f 0 (by omega) (by omega) (by omega) (by omega), H0]
  · rw [un 1 (by omega) (by omega) (by omega) (by omega), f 1 (by omega) (by omega) (by omega) (by omega), H1]
  · rw [u0, f2]
  · rw [un 3 (by omega) (by omega) (by omega) (by omega), f 3 (by omega) (by omega) (by omega) (by omega), H3]
  · rw [un 4 (by omega) (by omega) (by omega) (by omega), f 4 (by omega) (by omega) (by omega) (by omega), H4]
  · rw [un 5 (by omega) (by omega) (by omega) (by omega), f 5 (by omega) (by omega) (by omega) (by omega), H5]
  · rw [un 6 (by omega) (by omega) (by omega) (by omega), f 6 (by omega) (by omega) (by omega) (by omega), H6]
  · rw [un 7 (by omega) (by omega) (by omega) (by omega), f 7 (by omega) (by omega) (by omega) (by omega), H7]
  · rw [un 8 (by omega) (by omega) (by omega) (by omega), f 8 (by omega) (by omega) (by omega) (by omega), H8]
  · rw [un 9 (by omega) (by omega) (by omega) (by omega), f 9 (by omega) (by omega) (by omega) (by omega), H9]
  · rw [un 60 (by omega) (by omega) (by omega) (by omega), g 23 (by omega) (by omega), G0]
  · rw [un 61 (by omega) (by omega) (by omega) (by omega), g 24 (by omega) (by omega), G1]
  · rw [un 62 (by omega) (by omega) (by omega) (by omega), g 25 (by omega) (by omega), G2]
  · rw [un 63 (by omega) (by omega) (by omega) (by omega), g 26 (by omega) (by omega), G3]
  · rw [un 0 (by omega) (by omega) (by omega) (by omega)] at hi
    rw [un (70 + i) (by omega) (by omega) (by omega) (by omega), un (10 + i) (by omega) (by omega) (by omega) (by omega), a, f (10 + i) (by omega) (by omega) (by omega) (by omega)]
    exact A i hi
  · rw [un 1 (by omega) (by omega) (by omega) (by omega)] at hi
    rw [un (15 + i) (by omega) (by omega) (by omega) (by omega), f (15 + i) (by omega) (by omega) (by omega) (by omega)]
    exact B i hi
  · rw [u0] at hi
    by_cases hic : i = c
    · subst hic
      refine ⟨?_, ?_, ?_⟩
      · rw [tk_un (by omega), tk_un (by omega), tk_un (by omega), tk_ue]; exact x0
      · rw [tk_un (by omega), tk_un (by omega), tk_ue]; exact v0
      · rw [tk_un (by omega), tk_ue]; exact w0
    · rw [un (31 + i) (by omega) (by omega) (by omega) (by omega), un (19 + i) (by omega) (by omega) (by omega) (by omega), un (43 + i) (by omega) (by omega) (by omega) (by omega), f (31 + i) (by omega) (by omega) (by omega) (by omega), f (19 + i) (by omega) (by omega) (by omega) (by omega), f (43 + i) (by omega) (by omega) (by omega) (by omega)]
      exact C i (by omega)
theorem CVr.flag {s s2 : tk_S} {h h2 : hp} (H : CVr s h) (e : ∀ j, j ≠ 3 → j ≠ 4 → j ≠ 5 → j ≠ 6 → j ≠ 7 → j ≠ 8 → j ≠ 9 → j ≠ 60 → j ≠ 61 → j ≠ 62 → j ≠ 63 → s2 j = s j) (f0 : ∀ i, i < 3 ∨ 9 < i → h2 239 i = h 239 i)
    (f : h2 239 3 = s2 3 ∧ h2 239 4 = s2 4 ∧ h2 239 5 = s2 5 ∧ h2 239 6 = s2 6 ∧ h2 239 7 = s2 7 ∧ h2 239 8 = s2 8 ∧ h2 239 9 = s2 9) (g : h2 236 23 = s2 60 ∧ h2 236 24 = s2 61 ∧ h2 236 25 = s2 62 ∧ h2 236 26 = s2 63)
    (a : ∀ i, h2 244 i = h 244 i) (hl : s 0 ≤ 5) (hL : s 1 ≤ 4) (hC : s 2 ≤ 12) : CVr s2 h2 := by
  obtain ⟨⟨H0, H1, H2, H3, H4, H5, H6, H7, H8, H9⟩, ⟨G0, G1, G2, G3⟩, A, B, C⟩ := H
  obtain ⟨F3, F4, F5, F6, F7, F8, F9⟩ := f
  have e0 : s2 0 = s 0 := e 0 (by omega) (by omega) (by omega) (by omega) (by omega) (by omega) (by omega) (by omega) (by omega) (by omega) (by omega)
  have e1 : s2 1 = s 1 := e 1 (by omega) (by omega) (by omega) (by omega) (by omega) (by omega) (by omega) (by omega) (by omega) (by omega) (by omega)
  have e2 : s2 2 = s 2 := e 2 (by omega) (by omega) (by omega) (by omega) (by omega) (by omega) (by omega) (by omega) (by omega) (by omega) (by omega)
  have er : ∀ j, 10 ≤ j → j < 60 ∨ 70 ≤ j → s2 j = s j := fun j j1 j2 => e j (by omega) (by omega) (by omega) (by omega) (by omega) (by omega) (by omega) (by omega) (by omega) (by omega) (by omega)
  refine ⟨⟨by rw [f0 0 (by omega), H0, e0], by rw [f0 1 (by omega), H1, e1], by rw [f0 2 (by omega), H2, e2], F3, F4, F5, F6, F7, F8, F9⟩, g, fun i hi => ?_, fun i hi => ?_, fun i hi => ?_⟩
  · rw [e0] at hi
    rw [er (70 + i) (by omega) (by omega), er (10 + i) (by omega) (by omega), a, f0 (10 + i) (by omega)]
    exact A i hi
  · rw [e1] at hi
    rw [er (15 + i) (by omega) (by omega), f0 (15 + i) (by omega)]
    exact B i hi
  · rw [e2] at hi
    rw [er (31 + i) (by omega) (by omega), er (19 + i) (by omega) (by omega), er (43 + i) (by omega) (by omega), f0 (31 + i) (by omega), f0 (19 + i) (by omega), f0 (43 + i) (by omega)]
    exact C i hi
/-- a run that is longer than the values are kept for -/
theorem tk_Iz {P : Int → Bool} {B : Nat → Int} {m z K c n s a v a2 v2 x : Int} {q : Nat} (I : tk_I P B m z K c n s a v) (hn : a < n) (ha : a2 = a + 1) (hq : a = (q : Int)) (hx : B q = x) (hP : P x = true) (hK : K < a2 - s) : tk_I P B m z K c n s a2 v2 := by
  obtain ⟨h0, h1, h2, h3, h4⟩ := I
  subst ha
  have hPq : P (B a.toNat) = true := by rw [show a.toNat = q by omega, hx]; exact hP
  refine ⟨h0, by omega, by omega, ?_, fun hK2 => absurd hK2 (by omega)⟩
  rw [← h3]; exact (tk_en_s (by omega) hn hPq).symm
/-- what the reference's reader of a statement leaves -/
def TKr (B : Nat → Int) (n p : Int) (h : hp) : Prop :=
  h 236 4 = tk_nx B n p ∧ h 236 5 = tk_st B n p ∧ ((tk_kd B n p = 0 ∧ h 236 6 = 0) ∨ (tk_kd B n p = 1 ∧ h 236 6 = 1 ∧ h 236 12 = tk_sw B n p) ∨ (tk_kd B n p = 2 ∧ h 236 6 = 2 ∧ h 236 7 = tk_nb B n p) ∨ (tk_kd B n p = 3 ∧ h 236 6 = 3 ∧ h 236 7 = 59) ∨ (tk_kd B n p = 4 ∧ h 236 6 = 3 ∧ h 236 7 = 40) ∨ (tk_kd B n p = 5 ∧ h 236 6 = 3 ∧ h 236 7 = 41) ∨ (tk_kd B n p = 6 ∧ h 236 6 = 4))
def tk_OR (B : Nat → Int) (n : Int) (R : tk_R) (h : hp) : Prop :=
  match R with
  | .inl (c, q) => h 236 8 = c ∧ h 236 9 = q ∧ 1 ≤ c
  | .inr (q, s) => h 236 8 = 0 ∧ TKr B n q h ∧ CVr s h
theorem tk_ORe {B : Nat → Int} {n c q : Int} {h : hp} (h1 : h 236 8 = c) (h2 : h 236 9 = q) (h3 : 1 ≤ c) : tk_OR B n (.inl (c, q)) h := ⟨h1, h2, h3⟩
theorem tk_ORs {B : Nat → Int} {n q : Int} {s : tk_S} {h : hp} (h1 : h 236 8 = 0) (h2 : TKr B n q h) (h3 : CVr s h) : tk_OR B n (.inr (q, s)) h := ⟨h1, h2, h3⟩
theorem tk_ORf {B : Nat → Int} {n : Int} {R : tk_R} {h : hp} (y : tk_OR B n R h) (he : 1 ≤ h 236 8) : ∃ c q, R = .inl (c, q) ∧ h 236 8 = c ∧ h 236 9 = q ∧ 1 ≤ c := by
  match R, y with
  | .inl (c, q), y => exact ⟨c, q, rfl, y⟩
  | .inr (q, s), y => exact absurd y.1 (by omega)
theorem tk_ORt {B : Nat → Int} {n : Int} {R : tk_R} {h : hp} (y : tk_OR B n R h) (he : h 236 8 = 0) : ∃ q s, R = .inr (q, s) ∧ TKr B n q h ∧ CVr s h := by
  match R, y with
  | .inl (c, q), y =>
    have h1 : h 236 8 = c := y.1
    have h2 : 1 ≤ c := y.2.2
    exact absurd he (by omega)
  | .inr (q, s), y => exact ⟨q, s, rfl, y.2⟩
/-- before a text is begun -/
def RB0 (B : Nat → Int) (n : Int) (h : hp) : Prop := (∀ i : Nat, (i : Int) < n → (0 ≤ B i ∧ h 237 i = B i) ∨ (-128 ≤ B i ∧ B i < 0 ∧ h 237 i = B i + 256)) ∧ h 236 2 = n ∧ 0 ≤ n ∧ n ≤ 800
theorem RB0.go {B : Nat → Int} {n : Int} {h h2 : hp} (g : RB0 B n h) (e : ∀ i, h2 237 i = h 237 i) (e2 : h2 236 3 = n) : RefB B n h2 :=
  ⟨fun i hi => by rw [e i]; exact g.1 i hi, e2, g.2.2⟩
theorem tk_REe {B : Nat → Int} {n c q : Int} (e : tk_RES B n = .inl (c, q)) : tk_ok B n = 0 ∧ tk_ec B n = c ∧ tk_ep B n = q := by
  unfold tk_ok tk_ec tk_ep
  rw [e]
  exact ⟨rfl, rfl, rfl⟩
theorem tk_REs {B : Nat → Int} {n t : Int} {s : tk_S} (e : tk_RES B n = .inr (t, s)) : tk_ok B n = 1 ∧ tk_ct B n = t ∧ tk_ec B n = 0 ∧ tk_ep B n = -1 := by
  unfold tk_ok tk_ct tk_ec tk_ep
  rw [e]
  exact ⟨rfl, rfl, rfl, rfl⟩
theorem tk_s0r {h : hp} (f : h 239 0 = 0 ∧ h 239 1 = 0 ∧ h 239 2 = 0 ∧ h 239 3 = 11 ∧ h 239 4 = 11 ∧ h 239 5 = 9 ∧ h 239 6 = 0 ∧ h 239 7 = 1 ∧ h 239 8 = 3 ∧ h 239 9 = 2) (g : h 236 23 = 0 ∧ h 236 24 = 0 ∧ h 236 25 = 0 ∧ h 236 26 = 0) : CVr tk_s0 h := by
  refine ⟨f, g, fun i hi => ?_, fun i hi => ?_, fun i hi => ?_⟩
  all_goals
    have e0 : tk_s0 0 = 0 := rfl
    have e1 : tk_s0 1 = 0 := rfl
    have e2 : tk_s0 2 = 0 := rfl
    omega
