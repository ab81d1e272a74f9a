/-! ===== settings: the class's setup and the reference's row tell the same (p8 to p11) ===== -/
/-- F the fields, A what changes cost, B the lanes' room, C the bodies; R the reference's row -/
def SVx (F A B C R : Nat → Int) : Prop :=
  (F 0 = R 0 ∧ F 1 = R 1 ∧ F 2 = R 2 ∧ F 3 = R 3 ∧ F 4 = R 4 ∧ F 5 = R 5 ∧ F 6 = R 6 ∧ F 7 = R 7 ∧ F 8 = R 8 ∧ F 9 = R 9) ∧
  (∀ i : Nat, (i : Int) < R 0 → A i = R (10 + i)) ∧ (∀ i : Nat, (i : Int) < R 1 → B i = R (15 + i)) ∧ (∀ i : Nat, (i : Int) < R 2 → C i = R (19 + i))
theorem SVx.keep {F A B C R F2 A2 B2 C2 R2 : Nat → Int} (s : SVx F A B C R) (h0 : R 0 ≤ 5 ∧ R 1 ≤ 4 ∧ R 2 ≤ 12) (f : ∀ i, i < 10 → F2 i = F i) (a : ∀ i, i < 5 → A2 i = A i) (b : ∀ i, i < 4 → B2 i = B i) (c : ∀ i, i < 12 → C2 i = C i) (r : ∀ i, i < 31 → R2 i = R i) : SVx F2 A2 B2 C2 R2 := by
  obtain ⟨⟨s0, s1, s2, s3, s4, s5, s6, s7, s8, s9⟩, sa, sb, sc⟩ := s
  have r0 := r 0 (by decide)
  have r1 := r 1 (by decide)
  have r2 := r 2 (by decide)
  refine ⟨⟨?_, ?_, ?_, ?_, ?_, ?_, ?_, ?_, ?_, ?_⟩, fun i hi => ?_, fun i hi => ?_, fun i hi => ?_⟩
  · rw [f 0 (by decide), r0, s0]
  · rw [f 1 (by decide), r1, s1]
  · rw [f 2 (by decide), r2, s2]
  · rw [f 3 (by decide), r 3 (by decide), s3]
  · rw [f 4 (by decide), r 4 (by decide), s4]
  · rw [f 5 (by decide), r 5 (by decide), s5]
  · rw [f 6 (by decide), r 6 (by decide), s6]
  · rw [f 7 (by decide), r 7 (by decide), s7]
  · rw [f 8 (by decide), r 8 (by decide), s8]
  · rw [f 9 (by decide), r 9 (by decide), s9]
  · rw [r0] at hi
    rw [a i (by omega), r (10 + i) (by omega)]
    exact sa i hi
  · rw [r1] at hi
    rw [b i (by omega), r (15 + i) (by omega)]
    exact sb i hi
  · rw [r2] at hi
    rw [c i (by omega), r (19 + i) (by omega)]
    exact sc i hi
/-- what a copied setup holds: a the copy, b what was copied -/
def CPs (h h2 : hp) (a b : Nat) : Prop := (∀ i, i < 10 → h2 a i = h b i) ∧ (∀ i, i < 5 → h2 (a + 2) i = h (b + 2) i) ∧ (∀ i, i < 4 → h2 (a + 3) i = h (b + 3) i) ∧ (∀ i, i < 12 → h2 (a + 5) i = h (b + 5) i)
/-- the settings among the rows of the past are those of now -/
def GPS (h : hp) : Prop := ∀ r : Nat, r < 6 → (r : Int) < h 236 22 → ∀ i, i < 31 → h 242 (200 * r + i) = h 238 i
def gs_1 (q : FE) : Bool := (Nat.blt q.2.1 236 || Nat.blt 242 q.1 || (Nat.blt 236 q.1 && Nat.blt q.2.1 238) || (Nat.blt 238 q.1 && Nat.blt q.2.1 242)) || (q.1 == 236 && q.2.1 == 236 && (match q.2.2 with | none => false | some p => Nat.blt p.2 22 || Nat.blt 22 p.1)) || (q.1 == 238 && q.2.1 == 238 && (match q.2.2 with | none => false | some p => Nat.blt 30 p.1))
def gs_E : List FE → Bool
  | [] => true
  | q :: l => gs_1 q && gs_E l
theorem gs_Eo : ∀ (E : List FE) (i : Nat), gs_E E = true → fx_in E 242 i = false ∧ fx_in E 236 22 = false ∧ (i < 31 → fx_in E 238 i = false)
  | [], _, _ => ⟨rfl, rfl, fun _ => rfl⟩
  | q :: l, i, h => by
    rw [show gs_E (q :: l) = (gs_1 q && gs_E l) from rfl, Bool.and_eq_true] at h
    have h2 := gs_Eo l i h.2
    have key : fx_1 q 242 i = false ∧ fx_1 q 236 22 = false ∧ (i < 31 → fx_1 q 238 i = false) := by
      have h1 := h.1
      obtain ⟨a, b, p⟩ := q
      unfold gs_1 at h1
      unfold fx_1
      dsimp only at h1 ⊢
      cases p with
      | none =>
        simp only [Bool.or_eq_true, Bool.not_eq_true', Bool.and_eq_true, beq_iff_eq, Bool.and_eq_false_iff, Bool.eq_false_iff, ne_eq, Nat.ble_eq, Nat.blt_eq, Bool.false_eq_true, and_false, or_false, not_true] at h1 ⊢
        omega
      | some p =>
        obtain ⟨p1, p2⟩ := p
        simp only [Bool.or_eq_true, Bool.not_eq_true', Bool.and_eq_true, beq_iff_eq, Bool.and_eq_false_iff, Bool.eq_false_iff, ne_eq, Nat.ble_eq, Nat.blt_eq] at h1 ⊢
        omega
    refine ⟨?_, ?_, fun i1 => ?_⟩
    · rw [show fx_in (q :: l) 242 i = (fx_1 q 242 i || fx_in l 242 i) from rfl, key.1, h2.1]; rfl
    · rw [show fx_in (q :: l) 236 22 = (fx_1 q 236 22 || fx_in l 236 22) from rfl, key.2.1, h2.2.1]; rfl
    · rw [show fx_in (q :: l) 238 i = (fx_1 q 238 i || fx_in l 238 i) from rfl, key.2.2 i1, h2.2.2 i1]; rfl
theorem GPS.fr {E : List FE} {h h2 : hp} (u : FR E h h2) (hE : gs_E E = true) (g : GPS h) : GPS h2 := fun r hr hu i hi => by
  rw [u 242 _ (gs_Eo E _ hE).1, u 238 i ((gs_Eo E i hE).2.2 hi)]
  rw [u 236 22 (gs_Eo E 0 hE).2.1] at hu
  exact g r hr hu i hi
theorem GPS.zero {h : hp} (e : h 236 22 ≤ 0) : GPS h := fun r hr hu i hi => by omega
/-- a row is put behind those that are kept -/
theorem GPS.put {h h2 : hp} {u : Nat} (g : GPS h) {k : Nat} (hu : h 236 22 = (u : Int)) (hu2 : h2 236 22 ≤ (u : Int) + 1) (N : ∀ i, i < 31 → h2 238 i = h 238 i) (K : ∀ i, i < 31 → h k i = h 238 i) (A : ∀ q, q < 200 → h2 242 (200 * u + q) = h k q) (B : ∀ q, q < 200 * u → h2 242 q = h 242 q) : GPS h2 := fun r hr hl i hi => by
  rw [N i hi]
  by_cases e : r = u
  · subst e
    rw [A i (by omega), K i hi]
  · rw [B _ (by omega)]
    exact g r hr (by omega) i hi
/-- the oldest of six rows is dropped -/
theorem GPS.shift {h h2 : hp} (g : GPS h) (hu : h 236 22 = 6) (hu2 : h2 236 22 ≤ 5) (N : ∀ i, i < 31 → h2 238 i = h 238 i) (A : ∀ q, q < 1000 → h2 242 q = h 242 (200 + q)) : GPS h2 := fun r hr hl i hi => by
  rw [N i hi, A _ (by omega), show 200 + (200 * r + i) = 200 * (r + 1) + i by omega]
  exact g (r + 1) (by omega) (by omega) i hi
/-- the past is left, and the settings of now are as they were, however that came -/
def gsk_1 (q : FE) : Bool := (Nat.blt q.2.1 236 || Nat.blt 242 q.1 || (Nat.blt 236 q.1 && Nat.blt q.2.1 242)) || (q.1 == 236 && q.2.1 == 236 && (match q.2.2 with | none => false | some p => Nat.blt p.2 22 || Nat.blt 22 p.1))
def gsk_E : List FE → Bool
  | [] => true
  | q :: l => gsk_1 q && gsk_E l
theorem gsk_Eo : ∀ (E : List FE) (i : Nat), gsk_E E = true → fx_in E 242 i = false ∧ fx_in E 236 22 = false
  | [], _, _ => ⟨rfl, rfl⟩
  | q :: l, i, h => by
    rw [show gsk_E (q :: l) = (gsk_1 q && gsk_E l) from rfl, Bool.and_eq_true] at h
    have h2 := gsk_Eo l i h.2
    have key : fx_1 q 242 i = false ∧ fx_1 q 236 22 = false := by
      have h1 := h.1
      obtain ⟨a, b, p⟩ := q
      unfold gsk_1 at h1
      unfold fx_1
      dsimp only at h1 ⊢
      cases p with
      | none =>
        simp only [Bool.or_eq_true, Bool.not_eq_true', Bool.and_eq_true, beq_iff_eq, Bool.and_eq_false_iff, Bool.eq_false_iff, ne_eq, Nat.ble_eq, Nat.blt_eq, Bool.false_eq_true, and_false, or_false, not_true] at h1 ⊢
        omega
      | some p =>
        obtain ⟨p1, p2⟩ := p
        simp only [Bool.or_eq_true, Bool.not_eq_true', Bool.and_eq_true, beq_iff_eq, Bool.and_eq_false_iff, Bool.eq_false_iff, ne_eq, Nat.ble_eq, Nat.blt_eq] at h1 ⊢
        omega
    exact ⟨by rw [show fx_in (q :: l) 242 i = (fx_1 q 242 i || fx_in l 242 i) from rfl, key.1, h2.1]; rfl, by rw [show fx_in (q :: l) 236 22 = (fx_1 q 236 22 || fx_in l 236 22) from rfl, key.2, h2.2]; rfl⟩
theorem GPS.back {h h2 : hp} (g : GPS h) (hu : h2 236 22 ≤ h 236 22) (N : ∀ i, i < 31 → h2 238 i = h 238 i) (K : ∀ i, h2 242 i = h 242 i) : GPS h2 := fun r hr hl i hi => by
  rw [N i hi, K]
  exact g r hr (by omega) i hi
theorem GPS.kept {E : List FE} {h h2 : hp} (u : FR E h h2) (hE : gsk_E E = true) (N : ∀ i, i < 31 → h2 238 i = h 238 i) (g : GPS h) : GPS h2 :=
  GPS.back g (by rw [u 236 22 (gsk_Eo E 0 hE).2]; exact Int.le_refl _) N (fun i => u 242 i (gsk_Eo E i hE).1)
theorem GPS.over {h h2 : hp} {u : Nat} (g : GPS h) (hu2 : h2 236 22 ≤ h 236 22) (N : ∀ i, i < 31 → h2 238 i = h 238 i) (K : ∀ i, i < 31 → h 240 i = h 238 i) (A : ∀ q, q < 200 → h2 242 (200 * u + q) = h 240 q) (B : ∀ q, (q < 200 * u ∨ 200 * u + 200 ≤ q) → h2 242 q = h 242 q) : GPS h2 := fun r hr hl i hi => by
  rw [N i hi]
  by_cases e : r = u
  · subst e
    rw [A i (by omega), K i hi]
  · rw [B _ (by omega)]
    exact g r hr (by omega) i hi
/-! what a text's settings are, once it is read -/
def tk_ss (B : Nat → Int) (n : Int) : tk_S := match tk_RES B n with | .inl _ => tk_s0 | .inr (_, s) => s
theorem tk_ss_e {B : Nat → Int} {n t : Int} {s : tk_S} (e : tk_RES B n = .inr (t, s)) : tk_ss B n = s := by
  unfold tk_ss
  rw [e]
theorem cy_0 {h h2 : hp} {d s : Nat} {n : Int} (y : ∀ f : Nat, h2 d f = if (0 : Int).toNat ≤ f ∧ f < (0 : Int).toNat + n.toNat then h s ((0 : Int).toNat + (f - (0 : Int).toNat)) else h d f) {q : Nat} (hq : (q : Int) < n) : h2 d q = h s q := by
  rw [y q, if_pos ⟨Nat.zero_le _, by show q < 0 + n.toNat; omega⟩]
  show h s (0 + (q - 0)) = h s q
  rw [Nat.sub_zero, Nat.zero_add]
/-- fields and rows of a class's setup, and a row of the reference, as a text says -/
def CVS (s : tk_S) (F A B C : Nat → Int) : Prop :=
  (∀ i, i < 10 → F i = s i) ∧ (∀ i : Nat, (i : Int) < s 0 → A i = s (10 + i)) ∧ (∀ i : Nat, (i : Int) < s 1 → B i = s (15 + i)) ∧ (∀ i : Nat, (i : Int) < s 2 → C i = s (19 + i))
def CVR (s : tk_S) (R : Nat → Int) : Prop :=
  (∀ i, i < 10 → R i = s i) ∧ (∀ i : Nat, (i : Int) < s 0 → R (10 + i) = s (10 + i)) ∧ (∀ i : Nat, (i : Int) < s 1 → R (15 + i) = s (15 + i)) ∧ (∀ i : Nat, (i : Int) < s 2 → R (19 + i) = s (19 + i))
theorem sv_ten {P : Nat → Prop} (p0 : P 0) (p1 : P 1) (p2 : P 2) (p3 : P 3) (p4 : P 4) (p5 : P 5) (p6 : P 6) (p7 : P 7) (p8 : P 8) (p9 : P 9) : ∀ i, i < 10 → P i := fun i hi => by
  rcases (show i = 0 ∨ i = 1 ∨ i = 2 ∨ i = 3 ∨ i = 4 ∨ i = 5 ∨ i = 6 ∨ i = 7 ∨ i = 8 ∨ i = 9 by omega) with rfl | rfl | rfl | rfl | rfl | rfl | rfl | rfl | rfl | rfl
  · exact p0
  · exact p1
  · exact p2
  · exact p3
  · exact p4
  · exact p5
  · exact p6
  · exact p7
  · exact p8
  · exact p9
theorem CVS.of {s : tk_S} {hA hB h2 : hp} (c : CVc s hA) (b : hA 11 0 ≤ 5 ∧ hA 11 1 ≤ 4 ∧ hA 11 2 ≤ 12) (y : CPs hA hB 3 11) (e3 : ∀ i, h2 3 i = hB 3 i) (e5 : ∀ i, h2 5 i = hB 5 i) (e6 : ∀ i, h2 6 i = hB 6 i) (e8 : ∀ i, h2 8 i = hB 8 i) : CVS s (h2 3) (h2 5) (h2 6) (h2 8) := by
  obtain ⟨⟨H0, H1, H2, H3, H4, H5, H6, H7, H8, H9⟩, _, A, B, C⟩ := c
  obtain ⟨y3, y5, y6, y8⟩ := y
  obtain ⟨b0, b1, b2⟩ := b
  refine ⟨fun i hi => ?_, fun i hi => ?_, fun i hi => ?_, fun i hi => ?_⟩
  · rw [e3, y3 i hi]
    exact sv_ten (P := fun i => hA 11 i = s i) H0 H1 H2 H3 H4 H5 H6 H7 H8 H9 i hi
  · rw [e5, y5 i (by omega)]
    exact (A i hi).2
  · rw [e6, y6 i (by omega)]
    exact B i hi
  · rw [e8, y8 i (by omega)]
    exact (C i hi).2.1
theorem CVR.of {s : tk_S} {hA hB : hp} {R : Nat → Int} (c : CVr s hA) (b : hA 239 0 ≤ 5 ∧ hA 239 1 ≤ 4 ∧ hA 239 2 ≤ 12) (y : ∀ q, q < 200 → hB 238 q = hA 239 q) (e : ∀ i, R i = hB 238 i) : CVR s R := by
  obtain ⟨⟨H0, H1, H2, H3, H4, H5, H6, H7, H8, H9⟩, _, A, B, C⟩ := c
  obtain ⟨b0, b1, b2⟩ := b
  refine ⟨fun i hi => ?_, fun i hi => ?_, fun i hi => ?_, fun i hi => ?_⟩
  · rw [e, y i (by omega)]
    exact sv_ten (P := fun i => hA 239 i = s i) H0 H1 H2 H3 H4 H5 H6 H7 H8 H9 i hi
  · rw [e, y _ (by omega)]
    exact (A i hi).2
  · rw [e, y _ (by omega)]
    exact B i hi
  · rw [e, y _ (by omega)]
    exact (C i hi).2.1
theorem SVx.of {s : tk_S} {F A B C R : Nat → Int} (x : CVS s F A B C) (y : CVR s R) : SVx F A B C R := by
  obtain ⟨x1, x2, x3, x4⟩ := x
  obtain ⟨y1, y2, y3, y4⟩ := y
  have e0 := y1 0 (by decide)
  have e1 := y1 1 (by decide)
  have e2 := y1 2 (by decide)
  have f : ∀ i, i < 10 → F i = R i := fun i hi => (x1 i hi).trans (y1 i hi).symm
  refine ⟨⟨f 0 (by decide), f 1 (by decide), f 2 (by decide), f 3 (by decide), f 4 (by decide), f 5 (by decide), f 6 (by decide), f 7 (by decide), f 8 (by decide), f 9 (by decide)⟩, fun i hi => ?_, fun i hi => ?_, fun i hi => ?_⟩
  · rw [e0] at hi; exact (x2 i hi).trans (y2 i hi).symm
  · rw [e1] at hi; exact (x3 i hi).trans (y3 i hi).symm
  · rw [e2] at hi; exact (x4 i hi).trans (y4 i hi).symm
theorem SVx.f {F A B C R : Nat → Int} (s : SVx F A B C R) (i : Nat) (hi : i < 10) : F i = R i := by
  obtain ⟨⟨H0, H1, H2, H3, H4, H5, H6, H7, H8, H9⟩, _⟩ := s
  exact sv_ten (P := fun i => F i = R i) H0 H1 H2 H3 H4 H5 H6 H7 H8 H9 i hi
/-- the class's setup is left -/
def KSc (h h2 : hp) : Prop := (∀ i, h2 3 i = h 3 i) ∧ (∀ i, h2 5 i = h 5 i) ∧ (∀ i, h2 6 i = h 6 i) ∧ (∀ i, h2 8 i = h 8 i)
