/-! ===== kinds of the reference's rows (p14, p15; draft, not compiled) ===== -/
abbrev rB (h : hp) : Nat → Int := fun i => h 238 (19 + i)
abbrev rC (h : hp) : Nat → Int := fun i => h 238 (31 + i)
def MSN (h h2 : hp) : Prop := (∀ i, i < 31 → h2 238 i = h 238 i) ∧ (h 238 2 ≤ 12 → MSE (fun i => h2 238 (19 + i)) (fun i => h2 238 (31 + i)) (fun i => h 238 (19 + i)) (fun i => h 238 (31 + i)) (h 238 2).toNat)
theorem MSN.refl {h : hp} : MSN h h := ⟨fun _ _ => rfl, fun _ => MSE.refl⟩
theorem MSN.same {h h2 : hp} (e : ∀ i, i < 43 → h2 238 i = h 238 i) : MSN h h2 :=
  ⟨fun i hi => e i (by omega), fun hb b c => ms_n_congrB _ (fun i hi => ⟨e _ (by omega), e _ (by omega)⟩)⟩
theorem MSN.trans {h h2 h3 : hp} (x : MSN h h2) (y : MSN h2 h3) : MSN h h3 := by
  obtain ⟨x1, x2⟩ := x
  obtain ⟨y1, y2⟩ := y
  have e2 := x1 2 (by decide)
  refine ⟨fun i hi => (y1 i hi).trans (x1 i hi), fun hb => ?_⟩
  have y3 := y2 (by omega)
  rw [e2] at y3
  exact y3.trans (x2 hb)
theorem MSN.then {h h2 h3 : hp} (x : MSN h h2) (e : ∀ i, i < 43 → h3 238 i = h2 238 i) : MSN h h3 := x.trans (MSN.same e)
theorem MSN.swap {h h1 H : hp} (e : h1 238 = h 238) (rc : RC (h1 238)) (y : MSE (fun j => h1 238 (19 + (h1 238 73).toNat + j)) (h1 252) (fun j => h1 238 (19 + (h1 238 73).toNat + j)) (jc (h1 238)) (wn (h1 238)))
    (p1 : ∀ p : Nat, (p : Int) < h1 238 2 - h1 238 73 → H 238 (31 + (h1 238 73).toNat + p) = h1 252 p) (p2 : ∀ k : Nat, ((k : Int) < 31 + h1 238 73 ∨ 31 + h1 238 2 ≤ (k : Int)) → H 238 k = h1 238 k) : MSN h H := by
  have hw := rc.w
  obtain ⟨_, r1, r2, r3, _⟩ := rc
  have e1 : MSN h h1 := MSN.same (fun i _ => by rw [e])
  refine e1.trans ⟨fun i hi => p2 i (by omega), fun _ b c => ?_⟩
  have hB : ∀ i, i < (h1 238 2).toNat → H 238 (19 + i) = h1 238 (19 + i) := fun i hi => p2 _ (by omega)
  rw [ms_n_congrB (A := fun i => H 238 (19 + i)) (D := fun i => H 238 (31 + i)) (B := fun i => h1 238 (19 + i)) (E := fun i => H 238 (31 + i)) _ (fun i hi => ⟨hB i hi, rfl⟩)]
  refine MSE.part (B := fun i => h1 238 (19 + i)) (C := fun i => h1 238 (31 + i)) (C2 := fun i => H 238 (31 + i)) (D := h1 252) (e := (h1 238 73).toNat) (k := wn (h1 238)) ?_ (by omega) (fun p hp => ?_) (fun i hi => p2 _ (by omega)) b c
  · intro b' c'
    have z := y b' c'
    unfold jc at z
    simp only [Nat.add_assoc] at z ⊢
    exact z
  · have q := p1 p (by omega)
    rw [Nat.add_assoc] at q
    exact q
def GQS (h : hp) : Prop := h 238 2 ≤ 12 ∧ ∀ r : Nat, r < 6 → (r : Int) < h 236 22 → MSE (fun i => h 238 (19 + i)) (fun i => h 242 (200 * r + (31 + i))) (fun i => h 238 (19 + i)) (fun i => h 238 (31 + i)) (h 238 2).toNat
def gq_1 (q : FE) : Bool := (Nat.blt q.2.1 236 || Nat.blt 242 q.1 || (Nat.blt 236 q.1 && Nat.blt q.2.1 238) || (Nat.blt 238 q.1 && Nat.blt q.2.1 242)) || (q.1 == 236 && q.2.1 == 236 && (match q.2.2 with | none => false | some p => Nat.blt p.2 22 || Nat.blt 22 p.1)) || (q.1 == 238 && q.2.1 == 238 && (match q.2.2 with | none => false | some p => Nat.blt 42 p.1))
def gq_E : List FE → Bool
  | [] => true
  | q :: l => gq_1 q && gq_E l
theorem gq_Eo : ∀ (E : List FE) (i : Nat), gq_E E = true → fx_in E 242 i = false ∧ fx_in E 236 22 = false ∧ (i < 43 → fx_in E 238 i = false)
  | [], _, _ => ⟨rfl, rfl, fun _ => rfl⟩
  | q :: l, i, h => by
    rw [show gq_E (q :: l) = (gq_1 q && gq_E l) from rfl, Bool.and_eq_true] at h
    have h2 := gq_Eo l i h.2
    have key : fx_1 q 242 i = false ∧ fx_1 q 236 22 = false ∧ (i < 43 → fx_1 q 238 i = false) := by
      have h1 := h.1
      obtain ⟨a, b, p⟩ := q
      unfold gq_1 at h1
      unfold fx_1
      dsimp only at h1 ⊢
      cases p with
      | none =>
        simp only [Bool.or_eq_true, Bool.not_eq_true', Bool.and_eq_true, beq_iff_eq, Bool.and_eq_false_iff, Bool.eq_false_iff, ne_eq, Nat.ble_eq, Nat.blt_eq, Bool.false_eq_true, and_false, or_false, not_true] at h1 ⊢
        omega
      | some p =>
        obtain ⟨p1, p2⟩ := p
        simp only [Bool.or_eq_true, Bool.not_eq_true', Bool.and_eq_true, beq_iff_eq, Bool.and_eq_false_iff, Bool.eq_false_iff, ne_eq, Nat.ble_eq, Nat.blt_eq] at h1 ⊢
        omega
    refine ⟨?_, ?_, fun i1 => ?_⟩
    · rw [show fx_in (q :: l) 242 i = (fx_1 q 242 i || fx_in l 242 i) from rfl, key.1, h2.1]; rfl
    · rw [show fx_in (q :: l) 236 22 = (fx_1 q 236 22 || fx_in l 236 22) from rfl, key.2.1, h2.2.1]; rfl
    · rw [show fx_in (q :: l) 238 i = (fx_1 q 238 i || fx_in l 238 i) from rfl, key.2.2 i1, h2.2.2 i1]; rfl
/-- the past is left, now's kinds are as they were -/
theorem GQS.back {h h2 : hp} (g : GQS h) (hu : h2 236 22 ≤ h 236 22) (N : MSN h h2) (K : ∀ i, h2 242 i = h 242 i) : GQS h2 := by
  obtain ⟨g1, g2⟩ := g
  obtain ⟨n1, n2⟩ := N
  have e2 := n1 2 (by decide)
  refine ⟨by omega, fun r hr hl b c => ?_⟩
  rw [e2]
  have x := g2 r hr (by omega) b c
  have y := n2 g1 b c
  rw [y, ← x]
  exact ms_n_congrB _ (fun i hi => ⟨n1 _ (by omega), K _⟩)
theorem GQS.kept {E : List FE} {h h2 : hp} (u : FR E h h2) (hE : gsk_E E = true) (N : ∀ i, i < 43 → h2 238 i = h 238 i) (g : GQS h) : GQS h2 :=
  GQS.back g (by rw [u 236 22 (gsk_Eo E 0 hE).2]; exact Int.le_refl _) (MSN.same N) (fun i => u 242 i (gsk_Eo E i hE).1)
theorem GQS.fr {E : List FE} {h h2 : hp} (u : FR E h h2) (hE : gq_E E = true) (g : GQS h) : GQS h2 :=
  GQS.back g (by rw [u 236 22 (gq_Eo E 0 hE).2.1]; exact Int.le_refl _) (MSN.same (fun i hi => u 238 i ((gq_Eo E i hE).2.2 hi))) (fun i => u 242 i (gq_Eo E i hE).1)
theorem GQS.zero {h : hp} (b : h 238 2 ≤ 12) (e : h 236 22 ≤ 0) : GQS h := ⟨b, fun r hr hu => by omega⟩
theorem GQS.put {h h2 : hp} {u : Nat} (g : GQS h) (hu : h 236 22 = (u : Int)) (hu2 : h2 236 22 ≤ (u : Int) + 1) (N : ∀ i, i < 43 → h2 238 i = h 238 i) (A : ∀ q, q < 200 → h2 242 (200 * u + q) = h 238 q) (B : ∀ q, q < 200 * u → h2 242 q = h 242 q) : GQS h2 := by
  obtain ⟨g1, g2⟩ := g
  have e2 := N 2 (by decide)
  refine ⟨by omega, fun r hr hl b c => ?_⟩
  rw [e2]
  rw [ms_n_congrB (A := fun i => h2 238 (19 + i)) (D := fun i => h2 238 (31 + i)) (B := fun i => h 238 (19 + i)) (E := fun i => h 238 (31 + i)) _ (fun i hi => ⟨N _ (by omega), N _ (by omega)⟩)]
  by_cases e : r = u
  · subst e
    exact ms_n_congrB _ (fun i hi => ⟨N _ (by omega), A _ (by omega)⟩)
  · rw [← g2 r hr (by omega) b c]
    exact ms_n_congrB _ (fun i hi => ⟨N _ (by omega), B _ (by omega)⟩)
theorem GQS.shift {h h2 : hp} (g : GQS h) (hu : h 236 22 = 6) (hu2 : h2 236 22 ≤ 5) (N : ∀ i, i < 43 → h2 238 i = h 238 i) (A : ∀ q, q < 1000 → h2 242 q = h 242 (200 + q)) : GQS h2 := by
  obtain ⟨g1, g2⟩ := g
  have e2 := N 2 (by decide)
  refine ⟨by omega, fun r hr hl b c => ?_⟩
  rw [e2]
  rw [ms_n_congrB (A := fun i => h2 238 (19 + i)) (D := fun i => h2 238 (31 + i)) (B := fun i => h 238 (19 + i)) (E := fun i => h 238 (31 + i)) _ (fun i hi => ⟨N _ (by omega), N _ (by omega)⟩), ← g2 (r + 1) (by omega) (by omega) b c]
  exact ms_n_congrB _ (fun i hi => ⟨N _ (by omega), by rw [A _ (by omega), show 200 + (200 * r + (31 + i)) = 200 * (r + 1) + (31 + i) by omega]⟩)
theorem MSN.aside {h H : hp} (m : MSN h H) (e : ∀ i, i < 43 → H 240 i = h 238 i) (b : H 238 2 ≤ 12) : MSE (fun i => H 238 (19 + i)) (fun i => H 240 (31 + i)) (fun i => H 238 (19 + i)) (fun i => H 238 (31 + i)) (H 238 2).toNat := by
  obtain ⟨m1, m2⟩ := m
  have e2 := m1 2 (by decide)
  intro b' c
  rw [e2]
  rw [m2 (by omega) b' c]
  exact ms_n_congrB _ (fun i hi => ⟨m1 _ (by omega), e _ (by omega)⟩)
theorem GQS.over {h0 h h2 : hp} {u : Nat} (g : GQS h) (hu2 : h2 236 22 ≤ h 236 22) (N : ∀ i, i < 43 → h2 238 i = h 238 i) (k0 : ∀ i, h 240 i = h0 240 i) (k1 : ∀ i, h 238 i = h0 238 i) (K : MSE (fun i => h0 238 (19 + i)) (fun i => h0 240 (31 + i)) (fun i => h0 238 (19 + i)) (fun i => h0 238 (31 + i)) (h0 238 2).toNat) (A : ∀ q, q < 200 → h2 242 (200 * u + q) = h 240 q) (B : ∀ q, (q < 200 * u ∨ 200 * u + 200 ≤ q) → h2 242 q = h 242 q) : GQS h2 := by
  obtain ⟨g1, g2⟩ := g
  have e2 := N 2 (by decide)
  refine ⟨by omega, fun r hr hl b c => ?_⟩
  rw [e2]
  rw [ms_n_congrB (A := fun i => h2 238 (19 + i)) (D := fun i => h2 238 (31 + i)) (B := fun i => h 238 (19 + i)) (E := fun i => h 238 (31 + i)) _ (fun i hi => ⟨N _ (by omega), N _ (by omega)⟩)]
  by_cases e : r = u
  · subst e
    have z := K b c
    rw [← k1 2] at z
    rw [ms_n_congrB (A := fun i => h 238 (19 + i)) (D := fun i => h 238 (31 + i)) (B := fun i => h0 238 (19 + i)) (E := fun i => h0 238 (31 + i)) _ (fun i hi => ⟨k1 _, k1 _⟩), ← z]
    exact ms_n_congrB _ (fun i hi => ⟨(N _ (by omega)).trans (k1 _), (A _ (by omega)).trans (k0 _)⟩)
  · rw [← g2 r hr (by omega) b c]
    exact ms_n_congrB _ (fun i hi => ⟨N _ (by omega), B _ (by omega)⟩)
/-- a row of the past is gone back to -/
theorem MSN.back {h h2 : hp} {u : Nat} (g : GPS h) (q : GQS h) (hu : u < 6) (hl : (u : Int) < h 236 22) (A : ∀ i, i < 200 → h2 238 i = h 242 (200 * u + i)) : MSN h h2 := by
  have s : ∀ i, i < 31 → h2 238 i = h 238 i := fun i hi => (A i (by omega)).trans (g u hu hl i hi)
  refine ⟨s, fun hb b c => ?_⟩
  rw [← q.2 u hu hl b c]
  exact ms_n_congrB _ (fun i hi => ⟨s _ (by omega), A _ (by omega)⟩)
