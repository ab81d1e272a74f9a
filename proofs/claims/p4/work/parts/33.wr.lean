/-! ===== frames: which cells a run may change ===== -/
abbrev FE : Type := Nat × Nat × Option (Nat × Nat)
def fx_1 (q : FE) (a i : Nat) : Bool := Nat.ble q.1 a && (Nat.ble a q.2.1 && (match q.2.2 with | none => true | some p => Nat.ble p.1 i && Nat.ble i p.2))
def fx_in : List FE → Nat → Nat → Bool
  | [], _, _ => false
  | q :: l, a, i => fx_1 q a i || fx_in l a i
def FR (E : List FE) (h h2 : hp) : Prop := ∀ a i, fx_in E a i = false → h2 a i = h a i
def fx_s1 (q r : FE) : Bool := Nat.ble r.1 q.1 && (Nat.ble q.2.1 r.2.1 && (match r.2.2 with | none => true | some p => (match q.2.2 with | none => false | some t => Nat.ble p.1 t.1 && Nat.ble t.2 p.2)))
def fx_s2 (q : FE) : List FE → Bool
  | [] => false
  | r :: l => fx_s1 q r || fx_s2 q l
def fe_sub : List FE → List FE → Bool
  | [], _ => true
  | q :: l, E => fx_s2 q E && fe_sub l E
theorem fx_s1_ok {q r : FE} (h : fx_s1 q r = true) {a i : Nat} (k : fx_1 q a i = true) : fx_1 r a i = true := by
  obtain ⟨q1, q2, q3⟩ := q
  obtain ⟨r1, r2, r3⟩ := r
  simp only [fx_s1, fx_1, Bool.and_eq_true, Nat.ble_eq] at *
  refine ⟨by omega, by omega, ?_⟩
  rcases r3 with _ | p
  · rfl
  · rcases q3 with _ | t
    · simp at h
    · simp only [Bool.and_eq_true, Nat.ble_eq] at *
      omega
theorem fx_s2_ok {q : FE} {a i : Nat} (k : fx_1 q a i = true) : ∀ {E : List FE}, fx_s2 q E = true → fx_in E a i = true
  | [], h => by cases h
  | r :: l, h => by
    unfold fx_s2 at h
    unfold fx_in
    rcases Bool.or_eq_true _ _ ▸ h with h | h
    · rw [fx_s1_ok h k]; rfl
    · rw [fx_s2_ok k h, Bool.or_true]
theorem fe_sub_ok : ∀ {E F : List FE}, fe_sub E F = true → ∀ a i, fx_in F a i = false → fx_in E a i = false
  | [], _, _, _, _, _ => rfl
  | q :: l, F, h, a, i, hf => by
    unfold fe_sub at h
    rw [Bool.and_eq_true] at h
    unfold fx_in
    cases hq : fx_1 q a i with
    | true => rw [fx_s2_ok hq h.1] at hf; cases hf
    | false => rw [fe_sub_ok h.2 a i hf]; rfl
theorem FR.refl {E : List FE} {h : hp} : FR E h h := fun _ _ _ => rfl
theorem FR.mono {E F : List FE} {h h2 : hp} (hs : fe_sub E F = true) (k : FR E h h2) : FR F h h2 := fun a i hf => k a i (fe_sub_ok hs a i hf)
theorem FR.trans {E : List FE} {h h2 h3 : hp} (k : FR E h h2) (l : FR E h2 h3) : FR E h h3 := fun a i hf => (l a i hf).trans (k a i hf)
theorem FR.then {E F : List FE} {h h2 h3 : hp} (k : FR F h h2) (hs : fe_sub E F = true) (l : FR E h2 h3) : FR F h h3 := k.trans (l.mono hs)
/-- a cell that is not an entry's -/
theorem fn_0 {a i : Nat} : fx_in [] a i = false := rfl
theorem fn_a {lo hi : Nat} {p : Option (Nat × Nat)} {l : List FE} {a i : Nat} (h : a < lo ∨ hi < a) (k : fx_in l a i = false) : fx_in ((lo, hi, p) :: l) a i = false := by
  unfold fx_in
  rw [k, Bool.or_false]
  cases hq : fx_1 (lo, hi, p) a i with
  | false => rfl
  | true =>
    simp only [fx_1, Bool.and_eq_true, Nat.ble_eq] at hq
    omega
theorem fn_i {lo hi p q : Nat} {l : List FE} {a i : Nat} (h : i < p ∨ q < i) (k : fx_in l a i = false) : fx_in ((lo, hi, some (p, q)) :: l) a i = false := by
  unfold fx_in
  rw [k, Bool.or_false]
  cases hq : fx_1 (lo, hi, some (p, q)) a i with
  | false => rfl
  | true =>
    simp only [fx_1, Bool.and_eq_true, Nat.ble_eq] at hq
    omega
theorem fy_0 {lo hi : Nat} {l : List FE} {a i : Nat} (h : lo ≤ a ∧ a ≤ hi) : fx_in ((lo, hi, none) :: l) a i = true := by
  unfold fx_in
  have : fx_1 (lo, hi, none) a i = true := by
    simp only [fx_1, Bool.and_eq_true, Nat.ble_eq]
    exact ⟨h.1, h.2, trivial⟩
  rw [this]; rfl
theorem fy_1 {q : FE} {l : List FE} {a i : Nat} (k : fx_in l a i = true) : fx_in (q :: l) a i = true := by
  unfold fx_in
  rw [k, Bool.or_true]
/-- a symbolic range within a range -/
theorem FR.rng {k1 k2 lo hi : Nat} {h h2 : hp} (l : FR [(k1, k2, none)] h h2) (hh : lo ≤ k1 ∧ k2 ≤ hi) : FR [(lo, hi, none)] h h2 := fun a i hf => l a i (fn_a (by
  by_cases ha : a < k1 ∨ k2 < a
  · exact ha
  · exfalso
    rw [fy_0 (by omega)] at hf
    cases hf) rfl)
theorem FR.two {k1 k2 k3 k4 lo hi : Nat} {h h2 : hp} (l : FR [(k1, k2, none), (k3, k4, none)] h h2) (hh : lo ≤ k1 ∧ k2 ≤ hi ∧ lo ≤ k3 ∧ k4 ≤ hi) : FR [(lo, hi, none)] h h2 := fun a i hf => l a i (fn_a (by
  by_cases ha : a < k1 ∨ k2 < a
  · exact ha
  · exfalso
    rw [fy_0 (by omega)] at hf
    cases hf) (fn_a (by
  by_cases ha : a < k3 ∨ k4 < a
  · exact ha
  · exfalso
    rw [fy_0 (by omega)] at hf
    cases hf) rfl))
theorem FR.idx {k i p q : Nat} {h h2 : hp} (l : FR [(k, k, some (i, i))] h h2) (hh : p ≤ i ∧ i ≤ q) : FR [(k, k, some (p, q))] h h2 := fun a f hf => l a f (by
  by_cases ha : a < k ∨ k < a
  · exact fn_a ha rfl
  · by_cases hf2 : f < i ∨ i < f
    · exact fn_i hf2 rfl
    · exfalso
      have e1 : a = k := by omega
      have e2 : f = i := by omega
      subst e1; subst e2
      have : fx_in [(a, a, some (p, q))] a f = true := by
        simp only [fx_in, fx_1, Bool.and_eq_true, Nat.ble_eq, Bool.or_false]
        omega
      rw [this] at hf; cases hf)
/-- a cell behind a store at another or the same place -/
theorem st_or {k i p : Nat} {x : Int} {h h2 : hp} (w : h2 k i = x) (u : FR [(k, k, some (i, i))] h h2) : (p = i ∧ h2 k p = x) ∨ (p ≠ i ∧ h2 k p = h k p) := by
  by_cases e : p = i
  · subst e; exact Or.inl ⟨rfl, w⟩
  · exact Or.inr ⟨e, u k p (fn_i (by omega) rfl)⟩
theorem FR.rngp {k1 k2 lo hi : Nat} {p : Option (Nat × Nat)} {h h2 : hp} (l : FR [(k1, k2, p)] h h2) (hh : lo ≤ k1 ∧ k2 ≤ hi) : FR [(lo, hi, none)] h h2 := fun a i hf => l a i (fn_a (by
  by_cases ha : a < k1 ∨ k2 < a
  · exact ha
  · exfalso
    rw [fy_0 (by omega)] at hf
    cases hf) rfl)
theorem gi_pp {i j : Nat} {x : Int} (e : j % 200 = i % 200) (hb : (md_bd 242 j).1 ≤ x ∧ x ≤ (md_bd 242 j).2) : (md_bd 242 i).1 ≤ x ∧ x ≤ (md_bd 242 i).2 := by
  rw [show md_bd 242 i = md_bd 242 j from (show md_rb (i % 200) = md_rb (j % 200) by rw [e])]
  exact hb
theorem gi_rp {i j k : Nat} {x : Int} (e : j = i % 200) (hk : ∀ i, md_bd k i = md_rb i) (hb : (md_bd k j).1 ≤ x ∧ x ≤ (md_bd k j).2) : (md_bd 242 i).1 ≤ x ∧ x ≤ (md_bd 242 i).2 := by
  rw [hk] at hb
  rw [show md_bd 242 i = md_rb j from (show md_rb (i % 200) = md_rb j by rw [e])]
  exact hb
theorem gi_pr {i j k : Nat} {x : Int} (e : i = j % 200) (hk : ∀ i, md_bd k i = md_rb i) (hb : (md_bd 242 j).1 ≤ x ∧ x ≤ (md_bd 242 j).2) : (md_bd k i).1 ≤ x ∧ x ≤ (md_bd k i).2 := by
  rw [hk]
  rw [show md_bd 242 j = md_rb i from (show md_rb (j % 200) = md_rb i by rw [e])] at hb
  exact hb
/-- what holds of a row: all cars are somewhere; paintings and times; the run and the batch -/
def RS (f : Nat → Int) (o : Nat) : Prop := f (o + 98) + f (o + 99) + f (o + 100) + f (o + 101) + f (o + 102) + f (o + 106) = f (o + 73) ∧ f (o + 73) ≤ f (o + 2) ∧ f (o + 119) ≤ f (o + 67) ∧ f (o + 69) ≤ f (o + 5) ∧ f (o + 2) ≤ 12 * f (o + 5)
theorem RS.e0 {f : Nat → Int} (r : RS f 0) : f 98 + f 99 + f 100 + f 101 + f 102 + f 106 = f 73 ∧ f 73 ≤ f 2 ∧ f 119 ≤ f 67 ∧ f 69 ≤ f 5 ∧ f 2 ≤ 12 * f 5 := by
  unfold RS at r
  simpa only [Nat.zero_add] using r
theorem RS.i0 {f : Nat → Int} (r : f 98 + f 99 + f 100 + f 101 + f 102 + f 106 = f 73 ∧ f 73 ≤ f 2 ∧ f 119 ≤ f 67 ∧ f 69 ≤ f 5 ∧ f 2 ≤ 12 * f 5) : RS f 0 := by
  unfold RS
  simpa only [Nat.zero_add] using r
theorem RS.of {f g : Nat → Int} {o p : Nat} (e : ∀ q, q < 200 → f (p + q) = g (o + q)) (r : RS g o) : RS f p := by
  unfold RS at r ⊢
  rw [e 98 (by decide), e 99 (by decide), e 100 (by decide), e 101 (by decide), e 102 (by decide), e 106 (by decide), e 73 (by decide), e 2 (by decide), e 119 (by decide), e 67 (by decide), e 69 (by decide), e 5 (by decide)]
  exact r
/-- a setup that was read well fits the line's row -/
theorem gi_read {h : hp} (g : GI h) (r : h 239 5 ≤ 9 ∧ 1 ≤ h 239 5 ∧ h 239 7 ≤ 3 ∧ h 239 15 ≤ 6 ∧ h 239 16 ≤ 6 ∧ h 239 17 ≤ 6 ∧ h 239 18 ≤ 6) : ∀ j : Nat, j < 200 → (md_bd 238 j).1 ≤ h 239 j ∧ h 239 j ≤ (md_bd 238 j).2 := by
  intro j hj
  have e := g 239 j
  rw [show md_bd 239 j = md_rr j from rfl] at e
  rw [show md_bd 238 j = md_rb j from rfl]
  have key : ∀ j : Nat, j < 200 → (j = 5 ∨ j = 7 ∨ j = 15 ∨ j = 16 ∨ j = 17 ∨ j = 18) ∨ ((md_rb j).1 ≤ (md_rr j).1 ∧ (md_rr j).2 ≤ (md_rb j).2) := by decide +kernel
  rcases key j hj with h1 | h1
  · rcases h1 with rfl | rfl | rfl | rfl | rfl | rfl
    · have a1 : (md_rb 5) = (0, 9) := rfl
      have a2 : (md_rr 5) = (0, 999) := rfl
      rw [a2] at e; rw [a1]; dsimp only at e ⊢; omega
    · have a1 : (md_rb 7) = (0, 3) := rfl
      have a2 : (md_rr 7) = (0, 999) := rfl
      rw [a2] at e; rw [a1]; dsimp only at e ⊢; omega
    · have a1 : (md_rb 15) = (0, 6) := rfl
      have a2 : (md_rr 15) = (0, 999) := rfl
      rw [a2] at e; rw [a1]; dsimp only at e ⊢; omega
    · have a1 : (md_rb 16) = (0, 6) := rfl
      have a2 : (md_rr 16) = (0, 999) := rfl
      rw [a2] at e; rw [a1]; dsimp only at e ⊢; omega
    · have a1 : (md_rb 17) = (0, 6) := rfl
      have a2 : (md_rr 17) = (0, 999) := rfl
      rw [a2] at e; rw [a1]; dsimp only at e ⊢; omega
    · have a1 : (md_rb 18) = (0, 6) := rfl
      have a2 : (md_rr 18) = (0, 999) := rfl
      rw [a2] at e; rw [a1]; dsimp only at e ⊢; omega
  · omega
def GPH (h : hp) : Prop := ∀ r : Nat, r < 6 → RS (h 242) (200 * r)
def fo_no : List FE → Nat → Bool
  | [], _ => true
  | q :: l, k => !(Nat.ble q.1 k && Nat.ble k q.2.1) && fo_no l k
theorem fo_no_ok {k : Nat} : ∀ {E : List FE}, fo_no E k = true → ∀ i, fx_in E k i = false
  | [], _, _ => rfl
  | q :: l, h, i => by
    unfold fo_no at h
    rw [Bool.and_eq_true, Bool.not_eq_true'] at h
    unfold fx_in
    rw [fo_no_ok h.2 i, Bool.or_false]
    unfold fx_1
    cases h1 : Nat.ble q.1 k with
    | false => rfl
    | true =>
      cases h2 : Nat.ble k q.2.1 with
      | false => rfl
      | true =>
        have := h.1
        rw [h1, h2] at this
        cases this
/-- no entry of object k reaches below m -/
def fo_lt : List FE → Nat → Nat → Bool
  | [], _, _ => true
  | q :: l, k, m => (!(Nat.ble q.1 k && Nat.ble k q.2.1) || (match q.2.2 with | none => false | some p => Nat.ble m p.1)) && fo_lt l k m
theorem fo_lt_ok {k m i : Nat} (hi : i < m) : ∀ {E : List FE}, fo_lt E k m = true → fx_in E k i = false
  | [], _ => rfl
  | q :: l, h => by
    unfold fo_lt at h
    rw [Bool.and_eq_true] at h
    unfold fx_in
    rw [fo_lt_ok hi h.2, Bool.or_false]
    have h1 := h.1
    obtain ⟨a, b, p⟩ := q
    unfold fx_1
    dsimp only at h1 ⊢
    cases e1 : Nat.ble a k with
    | false => rfl
    | true =>
      cases e2 : Nat.ble k b with
      | false => rfl
      | true =>
        rw [e1, e2] at h1
        cases p with
        | none => cases h1
        | some p =>
          obtain ⟨p1, p2⟩ := p
          have h2 : Nat.ble m p1 = true := h1
          have h3 : Nat.ble p1 i = false := by
            rw [Bool.eq_false_iff, ne_eq, Nat.ble_eq]
            rw [Nat.ble_eq] at h2
            omega
          show (true && (true && (Nat.ble p1 i && Nat.ble i p2))) = false
          rw [h3]; rfl
theorem fo_nk {k i : Nat} {E : List FE} (h : fo_no E k = true) : fx_in E k i = false := fo_no_ok h i
theorem fo_lk {k m i : Nat} {E : List FE} (hi : i < m) (h : fo_lt E k m = true) : fx_in E k i = false := fo_lt_ok hi h
theorem GPH.fr {E : List FE} {h h2 : hp} (u : FR E h h2) (hE : fo_no E 242 = true) (g : GPH h) : GPH h2 := fun r hr => by
  have e : h2 242 = h 242 := funext (fun i => u 242 i (fo_no_ok hE i))
  rw [e]
  exact g r hr
theorem GPH.put {h h2 : hp} {u : Nat} (g : GPH h) {k : Nat} (rn : RS (h k) 0) (A : ∀ q, q < 200 → h2 242 (200 * u + q) = h k q) (B : ∀ q, (q < 200 * u ∨ 200 * u + 200 ≤ q) → h2 242 q = h 242 q) : GPH h2 := fun r hr => by
  by_cases e : r = u
  · subst e
    exact RS.of (o := 0) (fun q hq => by rw [A q hq, Nat.zero_add]) rn
  · exact RS.of (fun q hq => B _ (by omega)) (g r hr)
theorem GPH.shift {h h2 : hp} (g : GPH h) (A : ∀ q, q < 1000 → h2 242 q = h 242 (200 + q)) (B : ∀ q, 1000 ≤ q → h2 242 q = h 242 q) : GPH h2 := fun r hr => by
  by_cases e : r < 5
  · exact RS.of (fun q hq => by rw [A _ (by omega), show 200 + (200 * r + q) = 200 * (r + 1) + q by omega]) (g (r + 1) (by omega))
  · exact RS.of (fun q hq => B _ (by omega)) (g r hr)
/-! ===== rows of the class: an object and its numbers behind it ===== -/
def Rw (k : Nat) : Prop := md_sh k = .inr (5, [.inr (k + 1), .inl 0]) ∧ md_sh (k + 1) = .inl (0, 12) ∧ k + 1 < md_nW ∧ md_bd k 1 = (0, 12) ∧ ∀ i, md_bd (k + 1) i = (-2147483648, 2147483647)
theorem Rw.k {k : Nat} (h : Rw k) : k < md_nW := by have := h.2.2.1; omega
/-- the references that never change: the lanes of each line, the states of the history -/
def CR (cr : Nat → Nat → Option Nat) : Prop := (∀ a, a = 21 ∨ a = 40 ∨ a = 78 ∨ a = 97 ∨ a = 116 ∨ a = 135 ∨ a = 154 ∨ a = 173 ∨ a = 192 ∨ a = 220 → ∀ i, i < 4 → cr a i = some (a + 8 + 2 * i)) ∧ ∀ i, i < 7 → cr 74 i = some (75 + 19 * i)
abbrev hp_Q : Type := Option Value ⊕ Nat → mm_W → Nat → Nat → Prop
section WR
variable {xa : mm_Xa} {d j pc nx r1 r2 r3 : Nat} {lo : List (Nat × Value)} {st : List Value} {W : mm_W} {b c : Nat} {Q : hp_Q} {h h0 : hp} {cr : Nat → Nat → Option Nat} {E : List FE}
theorem wr_add {x y : Int} (hc : md_cd j pc = some (.iadd, nx, r1, r2, r3)) (k : ∀ e : Int, e = x + y → wp xa d j (nx, lo, vi e :: st, W, b, c) Q) : wp xa d j (pc, lo, vi y :: vi x :: st, W, b, c) Q := wi_iadd hc (k _ rfl)
theorem wr_addL {x y : Int} (e : Int) (hc : md_cd j pc = some (.iadd, nx, r1, r2, r3)) (he : x + y = e) (k : wp xa d j (nx, lo, vi e :: st, W, b, c) Q) : wp xa d j (pc, lo, vi y :: vi x :: st, W, b, c) Q := wi_iadd hc (he ▸ k)
theorem wr_addW {x y : Int} (hc : md_cd j pc = some (.iadd, nx, r1, r2, r3)) (k : ∀ e : Int, -2147483648 ≤ e ∧ e ≤ 2147483647 → wp xa d j (nx, lo, vi e :: st, W, b, c) Q) : wp xa d j (pc, lo, vi y :: vi x :: st, W, b, c) Q := by
  obtain ⟨e, he, h1, h2⟩ := ii_any (Int32.ofInt (x + y))
  refine wi_iadd hc ?_
  unfold vi
  rw [he]
  exact k e ⟨h1, h2⟩
theorem wr_sub {x y : Int} (hc : md_cd j pc = some (.isub, nx, r1, r2, r3)) (k : ∀ e : Int, e = x - y → wp xa d j (nx, lo, vi e :: st, W, b, c) Q) : wp xa d j (pc, lo, vi y :: vi x :: st, W, b, c) Q := wi_isub hc (k _ rfl)
theorem wr_subL {x y : Int} (e : Int) (hc : md_cd j pc = some (.isub, nx, r1, r2, r3)) (he : x - y = e) (k : wp xa d j (nx, lo, vi e :: st, W, b, c) Q) : wp xa d j (pc, lo, vi y :: vi x :: st, W, b, c) Q := wi_isub hc (he ▸ k)
theorem wr_subW {x y : Int} (hc : md_cd j pc = some (.isub, nx, r1, r2, r3)) (k : ∀ e : Int, -2147483648 ≤ e ∧ e ≤ 2147483647 → wp xa d j (nx, lo, vi e :: st, W, b, c) Q) : wp xa d j (pc, lo, vi y :: vi x :: st, W, b, c) Q := by
  obtain ⟨e, he, h1, h2⟩ := ii_any (Int32.ofInt (x - y))
  refine wi_isub hc ?_
  unfold vi
  rw [he]
  exact k e ⟨h1, h2⟩
theorem wr_mul {x y : Int} (hc : md_cd j pc = some (.imul, nx, r1, r2, r3)) (k : ∀ e : Int, e = x * y → wp xa d j (nx, lo, vi e :: st, W, b, c) Q) : wp xa d j (pc, lo, vi y :: vi x :: st, W, b, c) Q := wi_imul hc (k _ rfl)
theorem wr_mulL {x y : Int} (e : Int) (hc : md_cd j pc = some (.imul, nx, r1, r2, r3)) (he : x * y = e) (k : wp xa d j (nx, lo, vi e :: st, W, b, c) Q) : wp xa d j (pc, lo, vi y :: vi x :: st, W, b, c) Q := wi_imul hc (he ▸ k)
theorem wr_mulW {x y : Int} (hc : md_cd j pc = some (.imul, nx, r1, r2, r3)) (k : ∀ e : Int, -2147483648 ≤ e ∧ e ≤ 2147483647 → wp xa d j (nx, lo, vi e :: st, W, b, c) Q) : wp xa d j (pc, lo, vi y :: vi x :: st, W, b, c) Q := by
  obtain ⟨e, he, h1, h2⟩ := ii_any (Int32.ofInt (x * y))
  refine wi_imul hc ?_
  unfold vi
  rw [he]
  exact k e ⟨h1, h2⟩
theorem wr_mulB {x y : Int} (B : Int) (hc : md_cd j pc = some (.imul, nx, r1, r2, r3)) (hB : 0 ≤ x * y ∧ x * y ≤ B) (k : ∀ e : Int, 0 ≤ e ∧ e ≤ B → wp xa d j (nx, lo, vi e :: st, W, b, c) Q) : wp xa d j (pc, lo, vi y :: vi x :: st, W, b, c) Q := wi_imul hc (k _ hB)
theorem wr_iinc {i : Nat} {n v : Int} (lo2 : Int → List (Nat × Value)) (hc : md_cd j pc = some (.iinc i n, nx, r1, r2, r3)) (hg : mm_get lo i = some (vi v)) (hl : ∀ e, mm_sto lo i (vi e) = lo2 e) (k : ∀ e : Int, e = v + n → wp xa d j (nx, (lo2 e), st, W, b, c) Q) : wp xa d j (pc, lo, st, W, b, c) Q := wi_iinc hc hg (hl _) (k _ rfl)
theorem wr_iincL {i : Nat} {n v : Int} (e : Int) (lo2 : List (Nat × Value)) (hc : md_cd j pc = some (.iinc i n, nx, r1, r2, r3)) (hg : mm_get lo i = some (vi v)) (he : v + n = e) (hl : mm_sto lo i (vi e) = lo2) (k : wp xa d j (nx, lo2, st, W, b, c) Q) : wp xa d j (pc, lo, st, W, b, c) Q := wi_iinc hc hg (he ▸ hl) k
theorem wr_iincW {i : Nat} {n v : Int} (lo2 : Int → List (Nat × Value)) (hc : md_cd j pc = some (.iinc i n, nx, r1, r2, r3)) (hg : mm_get lo i = some (vi v)) (hl : ∀ e, mm_sto lo i (vi e) = lo2 e) (k : ∀ e : Int, -2147483648 ≤ e ∧ e ≤ 2147483647 → wp xa d j (nx, (lo2 e), st, W, b, c) Q) : wp xa d j (pc, lo, st, W, b, c) Q := by
  obtain ⟨e, he, h1, h2⟩ := ii_any (Int32.ofInt (v + n))
  refine wi_iinc (lo2 := lo2 e) hc hg ?_ (k e ⟨h1, h2⟩)
  rw [← hl e]
  unfold vi
  rw [he]
theorem wr_neg {x : Int} (hc : md_cd j pc = some (.ineg, nx, r1, r2, r3)) (k : ∀ e : Int, -2147483648 ≤ e ∧ e ≤ 2147483647 → wp xa d j (nx, lo, vi e :: st, W, b, c) Q) : wp xa d j (pc, lo, vi x :: st, W, b, c) Q := by
  obtain ⟨e, he, h1, h2⟩ := ii_any (-Int32.ofInt x)
  exact wp.step (by simp only [mm_step, hc, mm_stepI, he]) (k e ⟨h1, h2⟩)
theorem wr_iandA {x y : Int32} (hc : md_cd j pc = some (.iand, nx, r1, r2, r3)) (k : ∀ e : Int, -2147483648 ≤ e ∧ e ≤ 2147483647 → wp xa d j (nx, lo, vi e :: st, W, b, c) Q) : wp xa d j (pc, lo, .int y :: .int x :: st, W, b, c) Q := by
  obtain ⟨e, he, h1, h2⟩ := ii_any (x &&& y)
  exact wp.step (by simp only [mm_step, hc, mm_stepI, he]) (k e ⟨h1, h2⟩)
theorem wr_iorA {x y : Int32} (hc : md_cd j pc = some (.ior, nx, r1, r2, r3)) (k : ∀ e : Int, -2147483648 ≤ e ∧ e ≤ 2147483647 → wp xa d j (nx, lo, vi e :: st, W, b, c) Q) : wp xa d j (pc, lo, .int y :: .int x :: st, W, b, c) Q := by
  obtain ⟨e, he, h1, h2⟩ := ii_any (x ||| y)
  exact wp.step (by simp only [mm_step, hc, mm_stepI, he]) (k e ⟨h1, h2⟩)
theorem wr_ixorA {x y : Int32} (hc : md_cd j pc = some (.ixor, nx, r1, r2, r3)) (k : ∀ e : Int, -2147483648 ≤ e ∧ e ≤ 2147483647 → wp xa d j (nx, lo, vi e :: st, W, b, c) Q) : wp xa d j (pc, lo, .int y :: .int x :: st, W, b, c) Q := by
  obtain ⟨e, he, h1, h2⟩ := ii_any (x ^^^ y)
  exact wp.step (by simp only [mm_step, hc, mm_stepI, he]) (k e ⟨h1, h2⟩)
theorem wr_ishlA {x y : Int32} (hc : md_cd j pc = some (.ishl, nx, r1, r2, r3)) (k : ∀ e : Int, -2147483648 ≤ e ∧ e ≤ 2147483647 → wp xa d j (nx, lo, vi e :: st, W, b, c) Q) : wp xa d j (pc, lo, .int y :: .int x :: st, W, b, c) Q := by
  obtain ⟨e, he, h1, h2⟩ := ii_any (x <<< (y &&& 31))
  exact wp.step (by simp only [mm_step, hc, mm_stepI, he]) (k e ⟨h1, h2⟩)
theorem wr_ishrA {x y : Int32} (hc : md_cd j pc = some (.ishr, nx, r1, r2, r3)) (k : ∀ e : Int, -2147483648 ≤ e ∧ e ≤ 2147483647 → wp xa d j (nx, lo, vi e :: st, W, b, c) Q) : wp xa d j (pc, lo, .int y :: .int x :: st, W, b, c) Q := by
  obtain ⟨e, he, h1, h2⟩ := ii_any (x >>> (y &&& 31))
  exact wp.step (by simp only [mm_step, hc, mm_stepI, he]) (k e ⟨h1, h2⟩)
theorem wr_iushrA {x y : Int32} (hc : md_cd j pc = some (.iushr, nx, r1, r2, r3)) (k : ∀ e : Int, -2147483648 ≤ e ∧ e ≤ 2147483647 → wp xa d j (nx, lo, vi e :: st, W, b, c) Q) : wp xa d j (pc, lo, .int y :: .int x :: st, W, b, c) Q := by
  obtain ⟨e, he, h1, h2⟩ := ii_any ((x.toUInt32 >>> (y.toUInt32 &&& Int32.toUInt32 31)).toInt32)
  exact wp.step (by simp only [mm_step, hc, mm_stepI, he]) (k e ⟨h1, h2⟩)
theorem wr_iandM {x : Int32} {m : Int} (hc : md_cd j pc = some (.iand, nx, r1, r2, r3)) (h0 : 0 ≤ m) (h1 : m ≤ 2147483647) (k : ∀ e : Int, 0 ≤ e ∧ e ≤ m → wp xa d j (nx, lo, vi e :: st, W, b, c) Q) : wp xa d j (pc, lo, .int x :: vi m :: st, W, b, c) Q := by
  obtain ⟨e, he, h2, h3⟩ := ii_and x h0 h1
  exact wp.step (by simp only [mm_step, hc, mm_stepI]; rw [Int32.and_comm, he]) (k e ⟨h2, h3⟩)
theorem ii_nn {x : Int32} (hx : 0 ≤ x.toInt) : (fx_u x : Int) = x.toInt := by
  have e := fx_toInt x
  have hlt := fx_u_lt x
  split at e <;> omega
theorem ii_band {x y : Int} (hx : 0 ≤ x ∧ x ≤ 2147483647) (hy : 0 ≤ y ∧ y ≤ 2147483647) : ∃ e : Int, Int32.ofInt x &&& Int32.ofInt y = Int32.ofInt e ∧ 0 ≤ e ∧ e ≤ x ∧ e ≤ y ∧ e = ((x.toNat &&& y.toNat : Nat) : Int) := by
  have rx := ii_r (a := x) (by omega) (by omega)
  have ry := ii_r (a := y) (by omega) (by omega)
  have nx := ii_nn (x := Int32.ofInt x) (by omega)
  have ny := ii_nn (x := Int32.ofInt y) (by omega)
  have ux : fx_u (Int32.ofInt x) = x.toNat := by omega
  have uy : fx_u (Int32.ofInt y) = y.toNat := by omega
  have e1 : fx_u (Int32.ofInt x &&& Int32.ofInt y) = x.toNat &&& y.toNat := by
    rw [show fx_u (Int32.ofInt x &&& Int32.ofInt y) = ((Int32.ofInt x).toBitVec &&& (Int32.ofInt y).toBitVec).toNat from rfl, BitVec.toNat_and, ← ux, ← uy]
    rfl
  have l1 : x.toNat &&& y.toNat ≤ x.toNat := Nat.and_le_left
  have l2 : x.toNat &&& y.toNat ≤ y.toNat := Nat.and_le_right
  have e4 := fx_toInt (Int32.ofInt x &&& Int32.ofInt y)
  rw [if_pos (by omega), e1] at e4
  exact ⟨(Int32.ofInt x &&& Int32.ofInt y).toInt, (Int32.ofInt_toInt _).symm, by omega, by omega, by omega, e4⟩
theorem ii_bor {x y : Int} (n : Nat) (hn : n ≤ 31) (hx : 0 ≤ x ∧ x < 2 ^ n) (hy : 0 ≤ y ∧ y < 2 ^ n) : ∃ e : Int, Int32.ofInt x ||| Int32.ofInt y = Int32.ofInt e ∧ 0 ≤ e ∧ e < 2 ^ n ∧ e = ((x.toNat ||| y.toNat : Nat) : Int) := by
  have hp : (2 : Int) ^ n ≤ 2 ^ 31 := by
    have : (2 : Nat) ^ n ≤ 2 ^ 31 := Nat.pow_le_pow_right (by decide) hn
    have h3 : ((2 ^ n : Nat) : Int) ≤ ((2 ^ 31 : Nat) : Int) := Int.ofNat_le.mpr this
    rw [Int.natCast_pow, Int.natCast_pow] at h3
    exact h3
  have hc : (2 : Int) ^ 31 = 2147483648 := by decide
  have rx := ii_r (a := x) (by omega) (by omega)
  have ry := ii_r (a := y) (by omega) (by omega)
  have nx := ii_nn (x := Int32.ofInt x) (by omega)
  have ny := ii_nn (x := Int32.ofInt y) (by omega)
  have ux : fx_u (Int32.ofInt x) = x.toNat := by omega
  have uy : fx_u (Int32.ofInt y) = y.toNat := by omega
  have e1 : fx_u (Int32.ofInt x ||| Int32.ofInt y) = x.toNat ||| y.toNat := by
    rw [show fx_u (Int32.ofInt x ||| Int32.ofInt y) = ((Int32.ofInt x).toBitVec ||| (Int32.ofInt y).toBitVec).toNat from rfl, BitVec.toNat_or, ← ux, ← uy]
    rfl
  have tn : ((2 ^ n : Nat) : Int) = (2 : Int) ^ n := Int.natCast_pow 2 n
  have l1 : x.toNat ||| y.toNat < 2 ^ n := Nat.or_lt_two_pow (by omega) (by omega)
  have l2 : ((x.toNat ||| y.toNat : Nat) : Int) < ((2 ^ n : Nat) : Int) := Int.ofNat_lt.mpr l1
  have e4 := fx_toInt (Int32.ofInt x ||| Int32.ofInt y)
  rw [if_pos (by rw [e1]; omega), e1] at e4
  exact ⟨(Int32.ofInt x ||| Int32.ofInt y).toInt, (Int32.ofInt_toInt _).symm, by omega, by omega, e4⟩
theorem wr_iandN {x y : Int} (hc : md_cd j pc = some (.iand, nx, r1, r2, r3)) (hx : 0 ≤ x ∧ x ≤ 2147483647) (hy : 0 ≤ y ∧ y ≤ 2147483647) (k : ∀ e : Int, 0 ≤ e ∧ e ≤ x ∧ e ≤ y → e = ((x.toNat &&& y.toNat : Nat) : Int) → wp xa d j (nx, lo, vi e :: st, W, b, c) Q) : wp xa d j (pc, lo, vi y :: vi x :: st, W, b, c) Q := by
  obtain ⟨e, he, h1, h2, h3, h4⟩ := ii_band hx hy
  exact wp.step (by simp only [mm_step, hc, mm_stepI, he]) (k e ⟨h1, h2, h3⟩ h4)
theorem wr_iorN {x y : Int} (n : Nat) (B : Int) (hB : (2 : Int) ^ n = B) (hn : n ≤ 31) (hc : md_cd j pc = some (.ior, nx, r1, r2, r3)) (hx : 0 ≤ x ∧ x < B) (hy : 0 ≤ y ∧ y < B) (k : ∀ e : Int, 0 ≤ e ∧ e < B → e = ((x.toNat ||| y.toNat : Nat) : Int) → wp xa d j (nx, lo, vi e :: st, W, b, c) Q) : wp xa d j (pc, lo, vi y :: vi x :: st, W, b, c) Q := by
  subst hB
  obtain ⟨e, he, h1, h2, h4⟩ := ii_bor n hn hx hy
  exact wp.step (by simp only [mm_step, hc, mm_stepI, he]) (k e ⟨h1, h2⟩ h4)
theorem wr_ishl1 {y : Int} (hc : md_cd j pc = some (.ishl, nx, r1, r2, r3)) (hy : 0 ≤ y ∧ y ≤ 12) (k : ∀ e : Int, 1 ≤ e ∧ e ≤ 4096 → e = ((2 ^ y.toNat : Nat) : Int) → wp xa d j (nx, lo, vi e :: st, W, b, c) Q) : wp xa d j (pc, lo, vi y :: vi 1 :: st, W, b, c) Q := by
  have key : ∀ n : Nat, n < 13 → Int32.ofInt 1 <<< (Int32.ofInt (n : Int) &&& 31) = Int32.ofInt ((2 ^ n : Nat) : Int) ∧ 1 ≤ 2 ^ n ∧ 2 ^ n ≤ 4096 := by decide
  obtain ⟨h1, h2, h3⟩ := key y.toNat (by omega)
  rw [show ((y.toNat : Nat) : Int) = y by omega] at h1
  exact wp.step (by simp only [mm_step, hc, mm_stepI, h1]) (k _ (by omega) rfl)
theorem ii_shr {x y : Int} (hx : 0 ≤ x ∧ x ≤ 2147483647) (hy : 0 ≤ y ∧ y ≤ 31) : Int32.ofInt x >>> (Int32.ofInt y &&& 31) = Int32.ofInt ((x.toNat / 2 ^ y.toNat : Nat) : Int) := by
  have key : ∀ n : Nat, n < 32 → ((Int32.ofInt (n : Int) &&& 31).toBitVec.smod 32).toNat = n := by decide
  have hk := key y.toNat (by omega)
  rw [show ((y.toNat : Nat) : Int) = y by omega] at hk
  have rx := ii_r (a := x) (by omega) (by omega)
  have hd : x.toNat / 2 ^ y.toNat ≤ x.toNat := Nat.div_le_self _ _
  have hp : x / ((2 ^ y.toNat : Nat) : Int) = ((x.toNat / 2 ^ y.toNat : Nat) : Int) := by
    rw [Int.natCast_ediv, show ((x.toNat : Nat) : Int) = x by omega]
  revert hp hd
  generalize x.toNat / 2 ^ y.toNat = q
  intro hd hp
  apply Int32.toInt_inj.mp
  rw [ii_r (by omega) (by omega), ← hp]
  show (Int32.ofInt x >>> (Int32.ofInt y &&& 31)).toBitVec.toInt = _
  rw [Int32.toBitVec_shiftRight]
  show ((Int32.ofInt x).toBitVec.sshiftRight (((Int32.ofInt y &&& 31).toBitVec.smod 32).toNat)).toInt = _
  rw [hk, BitVec.toInt_sshiftRight, show (Int32.ofInt x).toBitVec.toInt = x from rx, Int.shiftRight_eq_div_pow]
theorem wr_ishrN {x y : Int} (hc : md_cd j pc = some (.ishr, nx, r1, r2, r3)) (hx : 0 ≤ x ∧ x ≤ 2147483647) (hy : 0 ≤ y ∧ y ≤ 31) (k : ∀ e : Int, 0 ≤ e ∧ e ≤ x → e = ((x.toNat / 2 ^ y.toNat : Nat) : Int) → wp xa d j (nx, lo, vi e :: st, W, b, c) Q) : wp xa d j (pc, lo, vi y :: vi x :: st, W, b, c) Q := by
  have hd : x.toNat / 2 ^ y.toNat ≤ x.toNat := Nat.div_le_self _ _
  have hs := ii_shr hx hy
  revert hd hs k
  generalize x.toNat / 2 ^ y.toNat = q
  intro k hd hs
  exact wp.step (by simp only [mm_step, hc, mm_stepI, hs]) (k (q : Int) (by omega) rfl)
theorem wr_landA {x y : Int64} (hc : md_cd j pc = some (.land, nx, r1, r2, r3)) (k : ∀ e : Int, -9223372036854775808 ≤ e ∧ e ≤ 9223372036854775807 → wp xa d j (nx, lo, vl e :: st, W, b, c) Q) : wp xa d j (pc, lo, .long y :: .long x :: st, W, b, c) Q := by
  obtain ⟨e, he, h1, h2⟩ := ll_any (x &&& y)
  exact wp.step (by simp only [mm_step, hc, mm_stepI, he]) (k e ⟨h1, h2⟩)
theorem wr_lorA {x y : Int64} (hc : md_cd j pc = some (.lor, nx, r1, r2, r3)) (k : ∀ e : Int, -9223372036854775808 ≤ e ∧ e ≤ 9223372036854775807 → wp xa d j (nx, lo, vl e :: st, W, b, c) Q) : wp xa d j (pc, lo, .long y :: .long x :: st, W, b, c) Q := by
  obtain ⟨e, he, h1, h2⟩ := ll_any (x ||| y)
  exact wp.step (by simp only [mm_step, hc, mm_stepI, he]) (k e ⟨h1, h2⟩)
theorem wr_lshlA {y : Int32} {x : Int64} (hc : md_cd j pc = some (.lshl, nx, r1, r2, r3)) (k : ∀ e : Int, -9223372036854775808 ≤ e ∧ e ≤ 9223372036854775807 → wp xa d j (nx, lo, vl e :: st, W, b, c) Q) : wp xa d j (pc, lo, .int y :: .long x :: st, W, b, c) Q := by
  obtain ⟨e, he, h1, h2⟩ := ll_any (x <<< (y.toInt64 &&& 63))
  exact wp.step (by simp only [mm_step, hc, mm_stepI, he]) (k e ⟨h1, h2⟩)
theorem wr_lshrA {y : Int32} {x : Int64} (hc : md_cd j pc = some (.lshr, nx, r1, r2, r3)) (k : ∀ e : Int, -9223372036854775808 ≤ e ∧ e ≤ 9223372036854775807 → wp xa d j (nx, lo, vl e :: st, W, b, c) Q) : wp xa d j (pc, lo, .int y :: .long x :: st, W, b, c) Q := by
  obtain ⟨e, he, h1, h2⟩ := ll_any (x >>> (y.toInt64 &&& 63))
  exact wp.step (by simp only [mm_step, hc, mm_stepI, he]) (k e ⟨h1, h2⟩)
theorem wr_l2iA {x : Int64} (hc : md_cd j pc = some (.l2i, nx, r1, r2, r3)) (k : ∀ e : Int, -2147483648 ≤ e ∧ e ≤ 2147483647 → wp xa d j (nx, lo, vi e :: st, W, b, c) Q) : wp xa d j (pc, lo, .long x :: st, W, b, c) Q := by
  obtain ⟨e, he, h1, h2⟩ := ii_any (x.toInt32)
  exact wp.step (by simp only [mm_step, hc, mm_stepI, he]) (k e ⟨h1, h2⟩)
theorem wr_i2bA {x : Int32} (hc : md_cd j pc = some (.i2b, nx, r1, r2, r3)) (k : ∀ e : Int, -128 ≤ e ∧ e ≤ 127 → wp xa d j (nx, lo, vi e :: st, W, b, c) Q) : wp xa d j (pc, lo, .int x :: st, W, b, c) Q := by
  have h1 := Int8.le_toInt x.toInt8
  have h2 := Int8.toInt_lt x.toInt8
  have he : x.toInt8.toInt32 = Int32.ofInt x.toInt8.toInt := by
    apply Int32.toInt_inj.mp
    rw [ii_r (by omega) (by omega)]
    exact Int8.toInt_toInt32 _
  exact wp.step (by simp only [mm_step, hc, mm_stepI, he]) (k x.toInt8.toInt ⟨by omega, by omega⟩)
theorem wr_i2cA {x : Int32} (hc : md_cd j pc = some (.i2c, nx, r1, r2, r3)) (k : ∀ e : Int, -2147483648 ≤ e ∧ e ≤ 2147483647 → wp xa d j (nx, lo, vi e :: st, W, b, c) Q) : wp xa d j (pc, lo, .int x :: st, W, b, c) Q := by
  obtain ⟨e, he, h1, h2⟩ := ii_any ((x.toUInt32 % 65536).toInt32)
  exact wp.step (by simp only [mm_step, hc, mm_stepI, he]) (k e ⟨h1, h2⟩)
theorem wr_i2cL {x e : Int} (hc : md_cd j pc = some (.i2c, nx, r1, r2, r3)) (he : ((Int32.ofInt x).toUInt32 % 65536).toInt32 = Int32.ofInt e) (k : wp xa d j (nx, lo, vi e :: st, W, b, c) Q) : wp xa d j (pc, lo, vi x :: st, W, b, c) Q := wp.step (by simp only [mm_step, hc, mm_stepI, he]) k
theorem ii_div {x c : Int} (hx : 0 ≤ x ∧ x ≤ 2147483647) (hc : 0 < c ∧ c ≤ 2147483647) : Int32.ofInt x / Int32.ofInt c = Int32.ofInt (x / c) := by
  have e1 := ii_r (a := x) (by omega) (by omega)
  have e2 := ii_r (a := c) (by omega) (by omega)
  have h1 : 0 ≤ x / c := Int.ediv_nonneg hx.1 (by omega)
  have h2 : x / c ≤ x := Int.ediv_le_self _ hx.1
  apply Int32.toInt_inj.mp
  rw [Int32.toInt_div, e1, e2, ii_r (by omega) (by omega), Int.tdiv_eq_ediv_of_nonneg hx.1]
  exact Int.bmod_eq_of_le (by omega) (by omega)
theorem wr_idivC {x y : Int} (hc : md_cd j pc = some (.idiv, nx, r1, r2, r3)) (hx : 0 ≤ x ∧ x ≤ 2147483647) (hy : 0 < y ∧ y ≤ 2147483647) (k : ∀ e : Int, e = x / y → wp xa d j (nx, lo, vi e :: st, W, b, c) Q) : wp xa d j (pc, lo, vi y :: vi x :: st, W, b, c) Q := by
  have hne : ¬ Int32.ofInt y = 0 := fun he => by
    have := ii_r (a := y) (by omega) (by omega)
    rw [he] at this
    have h0 : (0 : Int32).toInt = 0 := rfl
    omega
  exact wi_idiv hc hne (ii_div hx hy) (k _ rfl)
theorem wr_idivA {x y : Int} (hc : md_cd j pc = some (.idiv, nx, r1, r2, r3)) (hy : 0 < y ∧ y ≤ 2147483647) (k : ∀ e : Int, -2147483648 ≤ e ∧ e ≤ 2147483647 → wp xa d j (nx, lo, vi e :: st, W, b, c) Q) : wp xa d j (pc, lo, vi y :: vi x :: st, W, b, c) Q := by
  have hne : ¬ Int32.ofInt y = 0 := fun he => by
    have := ii_r (a := y) (by omega) (by omega)
    rw [he] at this
    have h0 : (0 : Int32).toInt = 0 := rfl
    omega
  obtain ⟨e, he, h1, h2⟩ := ii_any (Int32.ofInt x / Int32.ofInt y)
  exact wi_idiv hc hne he (k e ⟨h1, h2⟩)
theorem wr_iremC {x y : Int} (hc : md_cd j pc = some (.irem, nx, r1, r2, r3)) (hx : 0 ≤ x ∧ x ≤ 2147483647) (hy : 0 < y ∧ y ≤ 2147483647) (k : ∀ e : Int, e = x % y → wp xa d j (nx, lo, vi e :: st, W, b, c) Q) : wp xa d j (pc, lo, vi y :: vi x :: st, W, b, c) Q := by
  have hne : ¬ Int32.ofInt y = 0 := fun he => by
    have := ii_r (a := y) (by omega) (by omega)
    rw [he] at this
    have h0 : (0 : Int32).toInt = 0 := rfl
    omega
  refine wi_irem (e := x % y) hc hne ?_ (k _ rfl)
  rw [ii_div hx hy, ii_mul, ii_sub, Int.emod_def, Int.mul_comm]
theorem wr_iremA {x y : Int} (hc : md_cd j pc = some (.irem, nx, r1, r2, r3)) (hy : 0 < y ∧ y ≤ 2147483647) (k : ∀ e : Int, -2147483648 ≤ e ∧ e ≤ 2147483647 → wp xa d j (nx, lo, vi e :: st, W, b, c) Q) : wp xa d j (pc, lo, vi y :: vi x :: st, W, b, c) Q := by
  have hne : ¬ Int32.ofInt y = 0 := fun he => by
    have := ii_r (a := y) (by omega) (by omega)
    rw [he] at this
    have h0 : (0 : Int32).toInt = 0 := rfl
    omega
  obtain ⟨e, he, h1, h2⟩ := ii_any (Int32.ofInt x - Int32.ofInt x / Int32.ofInt y * Int32.ofInt y)
  exact wi_irem hc hne he (k e ⟨h1, h2⟩)
theorem wr_gi {i k0 ci f kd : Nat} {sl : List hp_K} {x : Int} (hc : md_cd j pc = some (.getfield i, nx, r1, r2, r3)) (h3 : r3 = 0) (hk : k0 < md_nW) (hs : md_sh k0 = .inr (ci, sl)) (h12 : r1 = ci ∧ r2 = f) (hf : sl[f]? = some (.inl kd)) (e : h k0 f = x) (k : wp xa d j (nx, lo, hp_s (.inl kd) x :: st, hp_w h cr, b, c) Q) : wp xa d j (pc, lo, .ref k0 :: st, hp_w h cr, b, c) Q := by
  obtain ⟨rfl, rfl⟩ := h12
  exact wi_getf hc h3 (by unfold md_nW at hk; unfold mm_XB; omega) (by rw [hp_getf hk hs hf, e]) k
abbrev wv (e : Int) : Value := .ref (mm_XB + e.toNat)
theorem wr_gi0 {i k0 ci f : Nat} {sl : List hp_K} {x : Int} (hc : md_cd j pc = some (.getfield i, nx, r1, r2, r3)) (h3 : r3 = 0) (hk : k0 < md_nW) (hs : md_sh k0 = .inr (ci, sl)) (h12 : r1 = ci ∧ r2 = f) (hf : sl[f]? = some (.inl 0)) (e : h k0 f = x) (k : wp xa d j (nx, lo, vi x :: st, hp_w h cr, b, c) Q) : wp xa d j (pc, lo, .ref k0 :: st, hp_w h cr, b, c) Q := wr_gi hc h3 hk hs h12 hf e k
theorem wr_gi2 {i k0 ci f : Nat} {sl : List hp_K} {x : Int} (hc : md_cd j pc = some (.getfield i, nx, r1, r2, r3)) (h3 : r3 = 0) (hk : k0 < md_nW) (hs : md_sh k0 = .inr (ci, sl)) (h12 : r1 = ci ∧ r2 = f) (hf : sl[f]? = some (.inl 2)) (e : h k0 f = x) (k : wp xa d j (nx, lo, vi x :: st, hp_w h cr, b, c) Q) : wp xa d j (pc, lo, .ref k0 :: st, hp_w h cr, b, c) Q := wr_gi hc h3 hk hs h12 hf e k
theorem wr_gi1 {i k0 ci f : Nat} {sl : List hp_K} {x : Int} (hc : md_cd j pc = some (.getfield i, nx, r1, r2, r3)) (h3 : r3 = 0) (hk : k0 < md_nW) (hs : md_sh k0 = .inr (ci, sl)) (h12 : r1 = ci ∧ r2 = f) (hf : sl[f]? = some (.inl 1)) (e : h k0 f = x) (k : wp xa d j (nx, lo, vl x :: st, hp_w h cr, b, c) Q) : wp xa d j (pc, lo, .ref k0 :: st, hp_w h cr, b, c) Q := wr_gi hc h3 hk hs h12 hf e k
theorem wr_gi3 {i k0 ci f : Nat} {sl : List hp_K} {x : Int} (hc : md_cd j pc = some (.getfield i, nx, r1, r2, r3)) (h3 : r3 = 0) (hk : k0 < md_nW) (hs : md_sh k0 = .inr (ci, sl)) (h12 : r1 = ci ∧ r2 = f) (hf : sl[f]? = some (.inl 3)) (e : h k0 f = x) (k : wp xa d j (nx, lo, wv x :: st, hp_w h cr, b, c) Q) : wp xa d j (pc, lo, .ref k0 :: st, hp_w h cr, b, c) Q := wr_gi hc h3 hk hs h12 hf e k
theorem wr_gr {i k0 ci f x : Nat} {sl : List hp_K} (hc : md_cd j pc = some (.getfield i, nx, r1, r2, r3)) (h3 : r3 = 0) (hk : k0 < md_nW) (hs : md_sh k0 = .inr (ci, sl)) (h12 : r1 = ci ∧ r2 = f) (hf : sl[f]? = some (.inr x)) (k : wp xa d j (nx, lo, .ref x :: st, hp_w h cr, b, c) Q) : wp xa d j (pc, lo, .ref k0 :: st, hp_w h cr, b, c) Q := by
  obtain ⟨rfl, rfl⟩ := h12
  exact wi_getf hc h3 (by unfold md_nW at hk; unfold mm_XB; omega) (hp_getf hk hs hf) k
theorem wr_gx {i k0 : Nat} {v : Value} (hc : md_cd j pc = some (.getfield i, nx, r1, r2, r3)) (h3 : ¬ r3 = 0) (hk : ¬ k0 < mm_XB) (hg : md_xo (k0 - mm_XB) r1 = some v) (k : wp xa d j (nx, lo, v :: st, W, b, c) Q) : wp xa d j (pc, lo, .ref k0 :: st, W, b, c) Q :=
  wp.step (by simp only [mm_step, hc, mm_stepI, if_neg h3, if_neg hk, hg, Option.map_some]) k
def md_wx (r : Nat) (lw hg : Int) (n : Nat) : Bool := match md_xo n r with
  | some (.int x) => decide (lw ≤ x.toInt) && decide (x.toInt ≤ hg)
  | _ => false
theorem wr_gxw {i : Nat} {z lw hg : Int} (hc : md_cd j pc = some (.getfield i, nx, r1, r2, r3)) (h3 : ¬ r3 = 0) (hz : 1 ≤ z ∧ z ≤ 21) (ha : (List.range 21).all (fun n => md_wx r1 lw hg (n + 1)) = true) (k : ∀ e : Int, lw ≤ e ∧ e ≤ hg → wp xa d j (nx, lo, vi e :: st, W, b, c) Q) : wp xa d j (pc, lo, wv z :: st, W, b, c) Q := by
  have h1 := List.all_eq_true.mp ha (z.toNat - 1) (List.mem_range.mpr (by omega))
  rw [show z.toNat - 1 + 1 = z.toNat by omega] at h1
  unfold md_wx at h1
  split at h1
  · rename_i x hx
    rw [Bool.and_eq_true, decide_eq_true_eq, decide_eq_true_eq] at h1
    refine wr_gx (v := vi x.toInt) hc h3 (by omega) ?_ (k _ h1)
    rw [Nat.add_sub_cancel_left, hx]
    unfold vi
    rw [Int32.ofInt_toInt]
  · cases h1
theorem wr_gst {i : Nat} {v : Value} (hc : md_cd j pc = some (.getstatic i, nx, r1, r2, r3)) (h3 : r3 = 0) (hv : md_st r1 = v) (k : wp xa d j (nx, lo, v :: st, W, b, c) Q) : wp xa d j (pc, lo, st, W, b, c) Q :=
  wp.step (by simp only [mm_step, hc, mm_stepI, h3, hv, if_true]) k
theorem wr_gsx {i : Nat} (hc : md_cd j pc = some (.getstatic i, nx, r1, r2, r3)) (h3 : ¬ r3 = 0) (k : wp xa d j (nx, lo, .retAddr 0 :: st, W, b, c) Q) : wp xa d j (pc, lo, st, W, b, c) Q :=
  wp.step (by simp only [mm_step, hc, mm_stepI, if_neg h3]) k
theorem wr_ldcr {n x : Nat} (hc : md_cd j pc = some (.ldc n, nx, r1, r2, r3)) (h1 : ¬ r1 = 0) (hx : mm_XB + r2 = x) (k : wp xa d j (nx, lo, .ref x :: st, W, b, c) Q) : wp xa d j (pc, lo, st, W, b, c) Q :=
  wp.step (by simp only [mm_step, hc, mm_stepI, if_neg h1, hx]) k
theorem wr_null (hc : md_cd j pc = some (.aconst_null, nx, r1, r2, r3)) (k : wp xa d j (nx, lo, .null :: st, W, b, c) Q) : wp xa d j (pc, lo, st, W, b, c) Q :=
  wp.step (by simp only [mm_step, hc, mm_stepI]) k
theorem hu_GI {k0 f : Nat} {x lo hi : Int} (g : GI h) (eb : md_bd k0 f = (lo, hi)) (hb : lo ≤ x ∧ x ≤ hi) : GI (hp_u h k0 f x) := gi_u g eb hb
theorem gi_v {k i : Nat} {x : Int} (g : GI h) (hx : (md_bd k i).1 ≤ x ∧ x ≤ (md_bd k i).2) : GI (hp_u h k i x) := by
  intro a q
  by_cases hq : a = k ∧ q = i
  · obtain ⟨rfl, rfl⟩ := hq
    rw [hp_uk]
    exact hx
  · rw [hp_un (by omega)]
    exact g a q
theorem hu_F1 {k0 f : Nat} {x : Int} : FR [(k0, k0, some (f, f))] h (hp_u h k0 f x) := fun a i hf => hp_un (by
  by_cases ha : a ≠ k0 ∨ i ≠ f
  · exact ha
  · exfalso
    have e1 : a = k0 := by omega
    have e2 : i = f := by omega
    subst e1; subst e2
    have ht : fx_in [(a, a, some (i, i))] a i = true := by
      simp only [fx_in, fx_1, Bool.and_eq_true, Nat.ble_eq, Bool.or_false]
      omega
    rw [ht] at hf; cases hf)
theorem wr_pf {i k0 ci f kd : Nat} {sl : List hp_K} {x bl bh : Int} (hc : md_cd j pc = some (.putfield i, nx, r1, r2, r3)) (hk : k0 < md_nW) (hs : md_sh k0 = .inr (ci, sl)) (h12 : r1 = ci ∧ r2 = f) (hf : sl[f]? = some (.inl kd)) (hv : mm_nf r3 (hp_s (.inl kd) x) = true) (g : GI h) (eb : md_bd k0 f = (bl, bh)) (hb : bl ≤ x ∧ x ≤ bh) (k : ∀ h2 : hp, GI h2 → h2 k0 f = x → FR [(k0, k0, some (f, f))] h h2 → wp xa d j (nx, lo, st, hp_w h2 cr, b, c) Q) : wp xa d j (pc, lo, hp_s (.inl kd) x :: .ref k0 :: st, hp_w h cr, b, c) Q := by
  obtain ⟨rfl, rfl⟩ := h12
  exact wi_putf hc (by unfold md_nW at hk; unfold mm_XB; omega) (hp_putf hk hs hf hv) (k _ (hu_GI g eb hb) hp_uk hu_F1)
theorem ii_z {x : Int} (h : x = 0 ∨ x = 1) : mm_nf 2 (hp_s (.inl 2) x) = true := by
  rcases h with rfl | rfl <;> rfl
theorem wr_pf0 {i k0 ci f : Nat} {sl : List hp_K} {x bl bh : Int} (hc : md_cd j pc = some (.putfield i, nx, r1, r2, r3)) (hk : k0 < md_nW) (hs : md_sh k0 = .inr (ci, sl)) (h12 : r1 = ci ∧ r2 = f) (hf : sl[f]? = some (.inl 0)) (h3 : r3 = 0) (g : GI h) (eb : md_bd k0 f = (bl, bh)) (hb : bl ≤ x ∧ x ≤ bh) (k : ∀ h2 : hp, GI h2 → h2 k0 f = x → FR [(k0, k0, some (f, f))] h h2 → wp xa d j (nx, lo, st, hp_w h2 cr, b, c) Q) : wp xa d j (pc, lo, vi x :: .ref k0 :: st, hp_w h cr, b, c) Q := wr_pf (kd := 0) hc hk hs h12 hf (by subst h3; exact rfl) g eb hb k
theorem wr_pf1 {i k0 ci f : Nat} {sl : List hp_K} {x bl bh : Int} (hc : md_cd j pc = some (.putfield i, nx, r1, r2, r3)) (hk : k0 < md_nW) (hs : md_sh k0 = .inr (ci, sl)) (h12 : r1 = ci ∧ r2 = f) (hf : sl[f]? = some (.inl 1)) (h3 : r3 = 1) (g : GI h) (eb : md_bd k0 f = (bl, bh)) (hb : bl ≤ x ∧ x ≤ bh) (k : ∀ h2 : hp, GI h2 → h2 k0 f = x → FR [(k0, k0, some (f, f))] h h2 → wp xa d j (nx, lo, st, hp_w h2 cr, b, c) Q) : wp xa d j (pc, lo, vl x :: .ref k0 :: st, hp_w h cr, b, c) Q := wr_pf (kd := 1) hc hk hs h12 hf (by subst h3; exact rfl) g eb hb k
theorem wr_pf2 {i k0 ci f : Nat} {sl : List hp_K} {x bl bh : Int} (hc : md_cd j pc = some (.putfield i, nx, r1, r2, r3)) (hk : k0 < md_nW) (hs : md_sh k0 = .inr (ci, sl)) (h12 : r1 = ci ∧ r2 = f) (hf : sl[f]? = some (.inl 2)) (hz : x = 0 ∨ x = 1) (h3 : r3 = 2) (g : GI h) (eb : md_bd k0 f = (bl, bh)) (hb : bl ≤ x ∧ x ≤ bh) (k : ∀ h2 : hp, GI h2 → h2 k0 f = x → FR [(k0, k0, some (f, f))] h h2 → wp xa d j (nx, lo, st, hp_w h2 cr, b, c) Q) : wp xa d j (pc, lo, vi x :: .ref k0 :: st, hp_w h cr, b, c) Q := wr_pf (kd := 2) hc hk hs h12 hf (by subst h3; exact ii_z hz) g eb hb k
theorem wr_pf3 {i k0 ci f : Nat} {sl : List hp_K} {x bl bh : Int} (hc : md_cd j pc = some (.putfield i, nx, r1, r2, r3)) (hk : k0 < md_nW) (hs : md_sh k0 = .inr (ci, sl)) (h12 : r1 = ci ∧ r2 = f) (hf : sl[f]? = some (.inl 3)) (h3 : r3 = 3) (g : GI h) (eb : md_bd k0 f = (bl, bh)) (hb : bl ≤ x ∧ x ≤ bh) (k : ∀ h2 : hp, GI h2 → h2 k0 f = x → FR [(k0, k0, some (f, f))] h h2 → wp xa d j (nx, lo, st, hp_w h2 cr, b, c) Q) : wp xa d j (pc, lo, wv x :: .ref k0 :: st, hp_w h cr, b, c) Q := wr_pf (kd := 3) hc hk hs h12 hf (by subst h3; exact rfl) g eb hb k
theorem wr_ia {k0 n f : Nat} {a x : Int} (hc : md_cd j pc = some (.iaload, nx, r1, r2, r3)) (hk : k0 < md_nW) (hs : md_sh k0 = .inl (0, n)) (ha : a = (f : Int)) (hi : f < n) (hn : n ≤ 2147483647) (e : h k0 f = x) (k : wp xa d j (nx, lo, vi x :: st, hp_w h cr, b, c) Q) : wp xa d j (pc, lo, vi a :: .ref k0 :: st, hp_w h cr, b, c) Q :=
  wi_iaload hc (by rw [hp_ai (t := 0) hk hs (Or.inl rfl) ha hi hn, e]) k
theorem wr_ba {k0 n f t : Nat} {a x : Int} (hc : md_cd j pc = some (.baload, nx, r1, r2, r3)) (hk : k0 < md_nW) (hs : md_sh k0 = .inl (t, n)) (ht : t = 2 ∨ t = 3) (ha : a = (f : Int)) (hi : f < n) (hn : n ≤ 2147483647) (e : h k0 f = x) (k : wp xa d j (nx, lo, vi x :: st, hp_w h cr, b, c) Q) : wp xa d j (pc, lo, vi a :: .ref k0 :: st, hp_w h cr, b, c) Q :=
  wi_baload hc (by rw [hp_ai (t := t) hk hs (Or.inr ht) ha hi hn, e]) ht k
theorem wr_la {k0 n f : Nat} {a x : Int} (hc : md_cd j pc = some (.laload, nx, r1, r2, r3)) (hk : k0 < md_nW) (hs : md_sh k0 = .inl (1, n)) (ha : a = (f : Int)) (hi : f < n) (hn : n ≤ 2147483647) (e : h k0 f = x) (k : wp xa d j (nx, lo, vl x :: st, hp_w h cr, b, c) Q) : wp xa d j (pc, lo, vi a :: .ref k0 :: st, hp_w h cr, b, c) Q :=
  wi_laload hc (by rw [hp_al hk hs ha hi hn, e]) k
theorem wr_xa {k0 t n : Nat} {a : Int} {fv : Nat → Value} {f : Nat} {v : Value} (op : Instr) (hop : op = .iaload ∧ t = 0 ∨ op = .baload ∧ (t = 2 ∨ t = 3) ∨ op = .aaload ∧ 4 ≤ t) (hc : md_cd j pc = some (op, nx, r1, r2, r3)) (hk : ¬ k0 < mm_XB) (hs : xa (k0 - mm_XB) = some (t, n, fv)) (ha : a = (f : Int)) (hi : f < n) (hn : n ≤ 2147483647) (e : fv f = v) (k : wp xa d j (nx, lo, v :: st, W, b, c) Q) : wp xa d j (pc, lo, vi a :: .ref k0 :: st, W, b, c) Q := by
  subst ha
  obtain ⟨e1, e2⟩ := hp_ib hi hn
  have hg : mm_aget xa W k0 (Int32.ofInt (f : Int)) = some (t, v) := by
    unfold mm_aget
    rw [if_neg hk, hs]
    dsimp only
    rw [if_pos e1, e2, e]
  rcases hop with ⟨rfl, rfl⟩ | ⟨rfl, ht⟩ | ⟨rfl, ht⟩
  · exact wi_iaload hc hg k
  · exact wi_baload hc hg ht k
  · exact wi_aaload hc hg ht k
theorem wr_aa {k0 t n f x : Nat} {a : Int} (hc : md_cd j pc = some (.aaload, nx, r1, r2, r3)) (hk : k0 < md_nW) (hs : md_sh k0 = .inl (t, n)) (ht : t = 4 ∨ t = 5) (ha : a = (f : Int)) (hi : f < n) (hn : n ≤ 2147483647) (e : cr k0 f = some x) (k : wp xa d j (nx, lo, .ref x :: st, hp_w h cr, b, c) Q) : wp xa d j (pc, lo, vi a :: .ref k0 :: st, hp_w h cr, b, c) Q := by
  subst ha
  obtain ⟨e1, e2⟩ := hp_ib hi hn
  refine wi_aaload (t := t) hc ?_ (by omega) k
  unfold mm_aget
  rw [if_pos (by unfold md_nW at hk; unfold mm_XB; omega), hp_get h cr hk]
  unfold hp_o
  rw [hs]
  dsimp only
  rw [if_neg (by omega), if_neg (by omega), if_neg (by omega)]
  dsimp only
  rw [if_pos e1, e2, e]
  rfl
theorem wr_aw {k0 n f : Nat} {a x : Int} (hc : md_cd j pc = some (.aaload, nx, r1, r2, r3)) (hk : k0 < md_nW) (hs : md_sh k0 = .inl (6, n)) (ha : a = (f : Int)) (hi : f < n) (hn : n ≤ 2147483647) (e : h k0 f = x) (k : wp xa d j (nx, lo, wv x :: st, hp_w h cr, b, c) Q) : wp xa d j (pc, lo, vi a :: .ref k0 :: st, hp_w h cr, b, c) Q := by
  subst ha
  obtain ⟨e1, e2⟩ := hp_ib hi hn
  refine wi_aaload (t := 6) hc ?_ (by omega) k
  unfold mm_aget
  rw [if_pos (by unfold md_nW at hk; unfold mm_XB; omega), hp_get h cr hk]
  unfold hp_o
  rw [hs]
  dsimp only
  rw [if_neg (by omega), if_pos rfl]
  dsimp only
  rw [if_pos e1, e2, if_pos hi, e]
  rfl
theorem wr_al {k0 n t : Nat} {e : Int} (hc : md_cd j pc = some (.arraylength, nx, r1, r2, r3)) (hk : k0 < md_nW) (hs : md_sh k0 = .inl (t, n)) (he : (n : Int) = e) (k : wp xa d j (nx, lo, vi e :: st, hp_w h cr, b, c) Q) : wp xa d j (pc, lo, .ref k0 :: st, hp_w h cr, b, c) Q := by
  subst he
  refine wi_alen hc ?_ k
  unfold mm_alen
  rw [if_pos (by unfold md_nW at hk; unfold mm_XB; omega), hp_get h cr hk]
  unfold hp_o
  rw [hs]
  dsimp only
  split
  · rename_i heq
    split at heq
    · injection heq with heq; injection heq with h1; injection h1 with h2 h3; injection h3 with h4; subst h4; rfl
    · split at heq
      · injection heq with heq; injection heq with h1; injection h1 with h2 h3; injection h3 with h4; subst h4; rfl
      · split at heq
        · injection heq with heq; injection heq with h1; injection h1 with h2 h3; injection h3 with h4; subst h4; rfl
        · injection heq with heq; injection heq with h1; injection h1 with h2 h3; injection h3 with h4; subst h4; rfl
  · rename_i hno
    exfalso
    split at hno
    · exact hno _ _ _ rfl
    · split at hno
      · exact hno _ _ _ rfl
      · split at hno
        · exact hno _ _ _ rfl
        · exact hno _ _ _ rfl
theorem wr_xl {k0 n t : Nat} {e : Int} {fv : Nat → Value} (hc : md_cd j pc = some (.arraylength, nx, r1, r2, r3)) (hk : ¬ k0 < mm_XB) (hs : xa (k0 - mm_XB) = some (t, n, fv)) (he : (n : Int) = e) (k : wp xa d j (nx, lo, vi e :: st, W, b, c) Q) : wp xa d j (pc, lo, .ref k0 :: st, W, b, c) Q := by
  subst he
  refine wi_alen hc ?_ k
  unfold mm_alen
  rw [if_neg hk, hs]
theorem wr_is {k0 n f : Nat} {a x bl bh : Int} (hc : md_cd j pc = some (.iastore, nx, r1, r2, r3)) (hk : k0 < md_nW) (hs : md_sh k0 = .inl (0, n)) (ha : a = (f : Int)) (hi : f < n) (hn : n ≤ 2147483647) (g : GI h) (eb : md_bd k0 f = (bl, bh)) (hb : bl ≤ x ∧ x ≤ bh) (k : ∀ h2 : hp, GI h2 → h2 k0 f = x → FR [(k0, k0, some (f, f))] h h2 → wp xa d j (nx, lo, st, hp_w h2 cr, b, c) Q) : wp xa d j (pc, lo, vi x :: vi a :: .ref k0 :: st, hp_w h cr, b, c) Q :=
  wi_iastore hc (by unfold md_nW at hk; unfold mm_XB; omega) (hp_pi hk hs ha hi hn) (k _ (hu_GI g eb hb) hp_uk hu_F1)
theorem wr_iv {k0 n f : Nat} {a x : Int} (hc : md_cd j pc = some (.iastore, nx, r1, r2, r3)) (hk : k0 < md_nW) (hs : md_sh k0 = .inl (0, n)) (ha : a = (f : Int)) (hi : f < n) (hn : n ≤ 2147483647) (g : GI h) (hb : (md_bd k0 f).1 ≤ x ∧ x ≤ (md_bd k0 f).2) (k : ∀ h2 : hp, GI h2 → h2 k0 f = x → FR [(k0, k0, some (f, f))] h h2 → wp xa d j (nx, lo, st, hp_w h2 cr, b, c) Q) : wp xa d j (pc, lo, vi x :: vi a :: .ref k0 :: st, hp_w h cr, b, c) Q :=
  wi_iastore hc (by unfold md_nW at hk; unfold mm_XB; omega) (hp_pi hk hs ha hi hn) (k _ (gi_v g hb) hp_uk hu_F1)
theorem hp_pb {k n t i : Nat} {a x : Int} (hk : k < md_nW) (hs : md_sh k = .inl (t, n)) (ht : t = 2 ∧ (-128 ≤ x ∧ x ≤ 127) ∨ t = 3 ∧ (x = 0 ∨ x = 1)) (ha : a = (i : Int)) (hi : i < n) (hn : n ≤ 2147483647) : mm_aputi (hp_w h cr) k (Int32.ofInt a) (Int32.ofInt x) = some (t, hp_w (hp_u h k i x) cr) := by
  subst ha
  obtain ⟨e1, e2⟩ := hp_ib hi hn
  unfold mm_aputi
  rw [hp_get h cr hk]
  have ho : ∀ h' : hp, hp_o h' cr k = .inl (t, n, .inl (fun i => Int32.ofInt (h' k i))) := fun h' => by
    unfold hp_o
    rw [hs]
    dsimp only
    rw [if_neg (by omega), if_neg (by omega), if_pos (by omega)]
  rw [ho]
  dsimp only
  rw [if_pos e1, e2]
  have hnar : mm_nar t (Int32.ofInt x) = Int32.ofInt x := by
    rcases ht with ⟨rfl, h1, h2⟩ | ⟨rfl, rfl | rfl⟩
    · have e3 := ii_r (a := x) (by omega) (by omega)
      unfold mm_nar
      rw [if_pos rfl]
      apply Int32.toInt_inj.mp
      show (Int32.ofInt x).toInt8.toInt32.toInt = _
      rw [Int8.toInt_toInt32, Int32.toInt_toInt8, e3]
      exact Int.bmod_eq_of_le (by omega) (by omega)
    · rfl
    · rfl
  have e : (.inl (t, n, .inl (upd (fun i => Int32.ofInt (h k i)) i (mm_nar t (Int32.ofInt x)))) : va_E) = hp_o (hp_u h k i x) cr k := by
    rw [ho, hnar]
    have ef : upd (fun i => Int32.ofInt (h k i)) i (Int32.ofInt x) = fun q => Int32.ofInt (hp_u h k i x k q) := by
      funext q
      unfold upd
      by_cases hq : q = i
      · subst hq
        rw [hp_uk]
        simp
      · rw [hp_un (Or.inr hq)]
        simp [hq]
    rw [ef]
  rw [e, hp_set h (hp_u h k i x) cr (fun a ha i => hp_un (Or.inl ha))]
theorem wr_bs {k0 n t f : Nat} {a x bl bh : Int} (hc : md_cd j pc = some (.bastore, nx, r1, r2, r3)) (hk : k0 < md_nW) (hs : md_sh k0 = .inl (t, n)) (ht : t = 2 ∧ (-128 ≤ x ∧ x ≤ 127) ∨ t = 3 ∧ (x = 0 ∨ x = 1)) (ha : a = (f : Int)) (hi : f < n) (hn : n ≤ 2147483647) (g : GI h) (eb : md_bd k0 f = (bl, bh)) (hb : bl ≤ x ∧ x ≤ bh) (k : ∀ h2 : hp, GI h2 → h2 k0 f = x → FR [(k0, k0, some (f, f))] h h2 → wp xa d j (nx, lo, st, hp_w h2 cr, b, c) Q) : wp xa d j (pc, lo, vi x :: vi a :: .ref k0 :: st, hp_w h cr, b, c) Q :=
  wi_bastore (t := t) hc (by unfold md_nW at hk; unfold mm_XB; omega) (hp_pb hk hs ht ha hi hn) (by omega) (k _ (hu_GI g eb hb) hp_uk hu_F1)
theorem wr_ls {k0 n f : Nat} {a x bl bh : Int} (hc : md_cd j pc = some (.lastore, nx, r1, r2, r3)) (hk : k0 < md_nW) (hs : md_sh k0 = .inl (1, n)) (ha : a = (f : Int)) (hi : f < n) (hn : n ≤ 2147483647) (g : GI h) (eb : md_bd k0 f = (bl, bh)) (hb : bl ≤ x ∧ x ≤ bh) (k : ∀ h2 : hp, GI h2 → h2 k0 f = x → FR [(k0, k0, some (f, f))] h h2 → wp xa d j (nx, lo, st, hp_w h2 cr, b, c) Q) : wp xa d j (pc, lo, vl x :: vi a :: .ref k0 :: st, hp_w h cr, b, c) Q :=
  wp.step (by simp only [mm_step, hc, mm_stepI, show k0 < mm_XB by unfold md_nW at hk; unfold mm_XB; omega, hp_pl hk hs ha hi hn, if_true]) (k _ (hu_GI g eb hb) hp_uk hu_F1)
theorem mm_clsx {W : mm_W} {v n : Nat} (hv : ¬ v < mm_XB) (hx : md_xc (v - mm_XB) = some n) : mm_cls W v = some (1000 + n) := by
  unfold mm_cls
  rw [if_neg hv, hx]
  rfl
theorem md_wc {x : Int} (hx : 1 ≤ x ∧ x ≤ 21) : md_xc x.toNat = some 0 := by
  have : ∀ n : Nat, 1 ≤ n → n ≤ 21 → md_xc n = some 0 := by
    intro n h1 h2
    have key : ∀ m : Nat, m < 21 → md_xc (m + 1) = some 0 := by decide
    have := key (n - 1) (by omega)
    rw [show n - 1 + 1 = n by omega] at this
    exact this
  exact this _ (by omega) (by omega)
theorem wr_as {k0 n f : Nat} {a x bl bh : Int} (hc : md_cd j pc = some (.aastore, nx, r1, r2, r3)) (hk : k0 < md_nW) (hs : md_sh k0 = .inl (6, n)) (hx : 1 ≤ x ∧ x ≤ 21) (ha : a = (f : Int)) (hi : f < n) (hn : n ≤ 2147483647) (g : GI h) (eb : md_bd k0 f = (bl, bh)) (hb : bl ≤ x ∧ x ≤ bh) (k : ∀ h2 : hp, GI h2 → h2 k0 f = x → FR [(k0, k0, some (f, f))] h h2 → wp xa d j (nx, lo, st, hp_w h2 cr, b, c) Q) : wp xa d j (pc, lo, wv x :: vi a :: .ref k0 :: st, hp_w h cr, b, c) Q := by
  subst ha
  obtain ⟨e1, e2⟩ := hp_ib hi hn
  have hput : mm_aputr (hp_w h cr) k0 (Int32.ofInt (f : Int)) (mm_XB + x.toNat) = some (hp_w (hp_u h k0 f x) cr) := by
    unfold mm_aputr
    rw [hp_get h cr hk]
    have ho : ∀ h' : hp, hp_o h' cr k0 = .inl (6, n, .inr (.inr (.inr (.inr (fun i => if i < n then some (mm_XB + (h' k0 i).toNat) else cr k0 i))))) := fun h' => by
      unfold hp_o
      rw [hs]
      rfl
    rw [ho]
    dsimp only
    have hcl : mm_cls (hp_w h cr) (mm_XB + x.toNat) = some (md_ac 6) := by
      rw [mm_clsx (by omega) (by rw [Nat.add_sub_cancel_left]; exact md_wc hx)]
      rfl
    rw [if_pos (by rw [e1, hcl]; simp), e2]
    have e : (.inl (6, n, .inr (.inr (.inr (.inr (va_up (fun i => if i < n then some (mm_XB + (h k0 i).toNat) else cr k0 i) f (some (mm_XB + x.toNat))))))) : va_E) = hp_o (hp_u h k0 f x) cr k0 := by
      rw [ho]
      have ef : va_up (fun i => if i < n then some (mm_XB + (h k0 i).toNat) else cr k0 i) f (some (mm_XB + x.toNat)) = fun i => if i < n then some (mm_XB + (hp_u h k0 f x k0 i).toNat) else cr k0 i := by
        funext q
        unfold va_up
        by_cases hq : q = f
        · subst hq
          rw [hp_uk]
          simp [hi]
        · rw [hp_un (Or.inr hq)]
          simp [hq]
      rw [ef]
    rw [e, hp_set h (hp_u h k0 f x) cr (fun a ha i => hp_un (Or.inl ha))]
  exact wp.step (by simp only [hp_s, mm_step, hc, mm_stepI, show k0 < mm_XB by unfold md_nW at hk; unfold mm_XB; omega, hput, if_true, Option.map_some]) (k _ (hu_GI g eb hb) hp_uk hu_F1)
theorem wr_acmp {cd : Jvm.ClassFile.ACond} {off x y : Int} (hc : md_cd j pc = some (.if_acmp cd off, nx, r1, r2, r3)) (hx : 1 ≤ x ∧ x ≤ 21) (hy : 1 ≤ y ∧ y ≤ 21) (kt : (x = y ↔ cd = .eq) → wp xa d j (r1, lo, st, W, b, c) Q) (kf : ¬ (x = y ↔ cd = .eq) → wp xa d j (nx, lo, st, W, b, c) Q) : wp xa d j (pc, lo, wv y :: wv x :: st, W, b, c) Q := by
  have hn : md_ne = 21 := rfl
  have hr : mm_XB < mm_XB + x.toNat ∧ mm_XB < mm_XB + y.toNat ∧ mm_XB + x.toNat ≤ mm_XB + md_ne ∧ mm_XB + y.toNat ≤ mm_XB + md_ne := by omega
  have hxy : (mm_XB + x.toNat = mm_XB + y.toNat) ↔ x = y := by omega
  have hb : (decide (mm_XB + x.toNat = mm_XB + y.toNat) == decide (cd = .eq)) = true ↔ (x = y ↔ cd = .eq) := by
    rw [beq_iff_eq, decide_eq_decide, hxy]
  by_cases hh : x = y ↔ cd = .eq
  · exact wp.step (F' := (r1, lo, st, W, b, c)) (by simp only [hp_s, mm_step, hc, mm_stepI, if_pos hr, hb.mpr hh, if_true]) (kt hh)
  · have hf : (decide (mm_XB + x.toNat = mm_XB + y.toNat) == decide (cd = .eq)) = false := by
      cases hz : (decide (mm_XB + x.toNat = mm_XB + y.toNat) == decide (cd = .eq)) with
      | false => rfl
      | true => exact absurd (hb.mp hz) hh
    exact wp.step (F' := (nx, lo, st, W, b, c)) (by simp only [hp_s, mm_step, hc, mm_stepI, if_pos hr, hf]; rfl) (kf hh)
theorem wr_tsw {df lw hh : Int} {offs : Array Int} {x : Int} (t : Nat) (hc : md_cd j pc = some (.tableswitch df lw hh offs, nx, r1, r2, r3)) (ht : mm_tsw pc df lw hh offs (Int32.ofInt x) = some t) (k : wp xa d j (t, lo, st, W, b, c) Q) : wp xa d j (pc, lo, vi x :: st, W, b, c) Q :=
  wp.step (by simp only [mm_step, hc, mm_stepI, ht]) k
theorem wr_tswD {df lw hh : Int} {offs : Array Int} {x : Int} (t : Nat) (hc : md_cd j pc = some (.tableswitch df lw hh offs, nx, r1, r2, r3)) (hr : (-2147483648 ≤ x ∧ x ≤ 2147483647)) (hx : x < lw ∨ hh < x) (ht : mm_at pc df = some t) (k : wp xa d j (t, lo, st, W, b, c) Q) : wp xa d j (pc, lo, vi x :: st, W, b, c) Q :=
  wp.step (by simp only [mm_step, hc, mm_stepI, mm_tsw, ii_r hr.1 hr.2, if_pos hx, ht]) k
theorem wr_lsw {df : Int} {ps : Array (Int × Int)} {x : Int} (t : Nat) (hc : md_cd j pc = some (.lookupswitch df ps, nx, r1, r2, r3)) (ht : mm_at pc (Op.lookupswitch.offset ps.toList df (Int32.ofInt x).toInt) = some t) (k : wp xa d j (t, lo, st, W, b, c) Q) : wp xa d j (pc, lo, vi x :: st, W, b, c) Q :=
  wp.step (by simp only [mm_step, hc, mm_stepI, ht]) k
theorem wr_areturn {x : Int} (hc : md_cd j pc = some (.areturn, nx, r1, r2, r3)) (n : String) (ht : (md_mt j).2.2.2.1 = some (.object n)) (k : Q (.inl (some (wv x))) W b c) : wp xa d j (pc, lo, [wv x], W, b, c) Q :=
  wp.done (by simp only [hp_s, mm_step, hc, mm_stepI, ht]) k
theorem wr_lreturn {x : Int} (hc : md_cd j pc = some (.lreturn, nx, r1, r2, r3)) (ht : (md_mt j).2.2.2.1 = some .long) (k : Q (.inl (some (vl x))) W b c) : wp xa d j (pc, lo, [vl x], W, b, c) Q :=
  wp.done (by simp only [mm_step, hc, mm_stepI, ht, if_true]) k
theorem wr_xreturn {x : Int} {ty : FieldType} (hc : md_cd j pc = some (.ireturn, nx, r1, r2, r3)) (ht : (md_mt j).2.2.2.1 = some ty) (hn : narrow ty (vi x) = vi x) (k : Q (.inl (some (vi x))) W b c) : wp xa d j (pc, lo, [vi x], W, b, c) Q :=
  wp.done (by simp only [mm_step, hc, mm_stepI, ht, hn, if_true]) k
theorem wr_throw {i : Nat} {Ex : Nat} (hc : md_cd j pc = some (.new i, nx, r1, r2, r3)) (h3 : ¬ r3 = 0) (h1 : r1 = Ex) (hr : 1 ≤ b ∧ 6 ≤ c) (hs : (st.map fun v => v.category).sum ≤ 8) (k : Q (.inr Ex) W (b - 1) (c - 6)) : wp xa d j (pc, lo, st, W, b, c) Q := by
  subst h1
  exact wi_throw hc h3 ⟨hr.1, hr.2, hs⟩ k
theorem wk_x {Ex : Nat} {rest : List Value} (hh : (md_mt j).2.2.2.2 = []) (k : Q (.inr Ex) W b c) : wp_k xa d j pc nx lo rest true Q (.inr Ex) W b c := ⟨rfl, Or.inl ⟨hh, k⟩⟩
theorem wk_h {Ex : Nat} {rest : List Value} (hp : Nat) (hh : ¬ (md_mt j).2.2.2.2 = []) (hd : md_hd j pc Ex = some hp) (k : wp xa (d + 1) j (hp, lo, [.retAddr 0], W, b, c) Q) : wp_k xa d j pc nx lo rest true Q (.inr Ex) W b c := ⟨rfl, Or.inr ⟨hh, hp, hd, k⟩⟩
theorem wr_astx {i : Fin 4} {lo2 : List (Nat × Value)} (hc : md_cd j pc = some (.astore_n i, nx, r1, r2, r3)) (hl : mm_sto lo i (.retAddr 0) = lo2) (k : wp xa d j (nx, lo2, st, W, b, c) Q) : wp xa d j (pc, lo, .retAddr 0 :: st, W, b, c) Q :=
  wp.step (by simp only [mm_step, hc, mm_stepI, hl]) k
theorem wr_asty {i : Nat} {lo2 : List (Nat × Value)} (hc : md_cd j pc = some (.astore i, nx, r1, r2, r3)) (hl : mm_sto lo i (.retAddr 0) = lo2) (k : wp xa d j (nx, lo2, st, W, b, c) Q) : wp xa d j (pc, lo, .retAddr 0 :: st, W, b, c) Q :=
  wp.step (by simp only [mm_step, hc, mm_stepI, hl]) k
/-- System.arraycopy of ints or longs; what the cells hold is told -/
theorem cy_get {f g : Nat → Int32} {sp dp n i : Nat} : va_cpy f g sp dp n i = if dp ≤ i ∧ i < dp + n then f (sp + (i - dp)) else g i := rfl
theorem wr_cpy {i s0 d0 n0 n1 : Nat} {sp dp n sl sh dl dh : Int} (hc : md_cd j pc = some (.invokestatic i, nx, r1, r2, r3)) (hk : r2 = 101) (hs : (st.map fun v => v.category).sum ≤ 8) (k1 : s0 < md_nW) (k2 : d0 < md_nW) (s1 : md_sh s0 = .inl (0, n0)) (s2 : md_sh d0 = .inl (0, n1)) (hr : 0 ≤ sp ∧ 0 ≤ dp ∧ 0 ≤ n ∧ sp + n ≤ n0 ∧ dp + n ≤ n1 ∧ n0 ≤ 2147483647 ∧ n1 ≤ 2147483647) (b1 : ∀ i, md_bd s0 i = (sl, sh)) (b2 : ∀ i, md_bd d0 i = (dl, dh)) (hb : dl ≤ sl ∧ sh ≤ dh) (g : GI h)
    (k : ∀ h2 : hp, GI h2 → (∀ f : Nat, h2 d0 f = if dp.toNat ≤ f ∧ f < dp.toNat + n.toNat then h s0 (sp.toNat + (f - dp.toNat)) else h d0 f) → FR [(d0, d0, none)] h h2 → wp xa d j (nx, lo, st, hp_w h2 cr, b, c) Q) : wp xa d j (pc, lo, vi n :: vi dp :: .ref d0 :: vi sp :: .ref s0 :: st, hp_w h cr, b, c) Q := by
  let h2 : hp := fun a f => if a = d0 then (if dp.toNat ≤ f ∧ f < dp.toNat + n.toNat then h s0 (sp.toNat + (f - dp.toNat)) else h d0 f) else h a f
  have e0 : ∀ f, h2 d0 f = if dp.toNat ≤ f ∧ f < dp.toNat + n.toNat then h s0 (sp.toNat + (f - dp.toNat)) else h d0 f := fun f => if_pos rfl
  have e1 : ∀ a, a ≠ d0 → ∀ f, h2 a f = h a f := fun a ha f => if_neg ha
  have rs := ii_r (a := sp) (by omega) (by omega)
  have rd := ii_r (a := dp) (by omega) (by omega)
  have rn := ii_r (a := n) (by omega) (by omega)
  have z0 : (0 : Int32).toInt = 0 := rfl
  have hcp : mm_cpy (hp_w h cr) s0 (Int32.ofInt sp) d0 (Int32.ofInt dp) (Int32.ofInt n) = some (hp_w h2 cr) := by
    unfold mm_cpy
    have c0 : ¬ (Int32.ofInt sp < 0 ∨ Int32.ofInt dp < 0 ∨ Int32.ofInt n < 0 ∨ ¬ s0 < mm_XB ∨ ¬ d0 < mm_XB) := by
      rw [Int32.lt_iff_toInt_lt, Int32.lt_iff_toInt_lt, Int32.lt_iff_toInt_lt, rs, rd, rn, z0]
      unfold md_nW at k1 k2
      unfold mm_XB
      omega
    have o1 : hp_o h cr s0 = .inl (0, n0, .inl (fun i => Int32.ofInt (h s0 i))) := by unfold hp_o; rw [s1]; rfl
    have o2 : ∀ h' : hp, hp_o h' cr d0 = .inl (0, n1, .inl (fun i => Int32.ofInt (h' d0 i))) := fun h' => by unfold hp_o; rw [s2]; rfl
    have t1 : (Int32.ofInt sp).toNatClampNeg = sp.toNat := by show (Int32.ofInt sp).toInt.toNat = _; rw [rs]
    have t2 : (Int32.ofInt dp).toNatClampNeg = dp.toNat := by show (Int32.ofInt dp).toInt.toNat = _; rw [rd]
    have t3 : (Int32.ofInt n).toNatClampNeg = n.toNat := by show (Int32.ofInt n).toInt.toNat = _; rw [rn]
    rw [if_neg c0, hp_get h cr k1, hp_get h cr k2, o1, o2]
    try dsimp only
    rw [t1, t2, t3]
    show (if sp.toNat + n.toNat ≤ n0 ∧ dp.toNat + n.toNat ≤ n1 then some ((hp_w h cr).set d0 (.inl (0, n1, .inl (va_cpy (fun i => Int32.ofInt (h s0 i)) (fun i => Int32.ofInt (h d0 i)) sp.toNat dp.toNat n.toNat)))) else none) = _
    rw [if_pos (by omega)]
    have e : (.inl (0, n1, .inl (va_cpy (fun i => Int32.ofInt (h s0 i)) (fun i => Int32.ofInt (h d0 i)) sp.toNat dp.toNat n.toNat)) : va_E) = hp_o h2 cr d0 := by
      rw [o2]
      have ef : va_cpy (fun i => Int32.ofInt (h s0 i)) (fun i => Int32.ofInt (h d0 i)) sp.toNat dp.toNat n.toNat = fun q => Int32.ofInt (h2 d0 q) := by
        funext q
        rw [e0]
        unfold va_cpy
        split <;> rfl
      rw [ef]
    rw [e, hp_set h h2 cr e1]
  refine wp.step (F' := (nx, lo, st, hp_w h2 cr, b, c)) ?_ (k h2 ?_ e0 ?_)
  · simp only [mm_step, hc, mm_stepI, mm_call, hk]
    simp [hcp, hs]
  · intro a f
    by_cases ha : a = d0
    · subst ha
      rw [e0, b2]
      have g1 := g s0 (sp.toNat + (f - dp.toNat))
      have g2 := g a f
      rw [b1] at g1
      rw [b2] at g2
      try dsimp only at g1 g2 ⊢
      split <;> omega
    · rw [e1 a ha]
      exact g a f
  · intro a f hf
    by_cases ha : a = d0
    · subst ha
      rw [fy_0 (by omega)] at hf; cases hf
    · exact e1 a ha f
theorem wr_cpyl {i s0 d0 n0 n1 : Nat} {sp dp n sl sh dl dh : Int} (hc : md_cd j pc = some (.invokestatic i, nx, r1, r2, r3)) (hk : r2 = 101) (hs : (st.map fun v => v.category).sum ≤ 8) (k1 : s0 < md_nW) (k2 : d0 < md_nW) (s1 : md_sh s0 = .inl (1, n0)) (s2 : md_sh d0 = .inl (1, n1)) (hr : 0 ≤ sp ∧ 0 ≤ dp ∧ 0 ≤ n ∧ sp + n ≤ n0 ∧ dp + n ≤ n1 ∧ n0 ≤ 2147483647 ∧ n1 ≤ 2147483647) (b1 : ∀ i, md_bd s0 i = (sl, sh)) (b2 : ∀ i, md_bd d0 i = (dl, dh)) (hb : dl ≤ sl ∧ sh ≤ dh) (g : GI h)
    (k : ∀ h2 : hp, GI h2 → (∀ f : Nat, h2 d0 f = if dp.toNat ≤ f ∧ f < dp.toNat + n.toNat then h s0 (sp.toNat + (f - dp.toNat)) else h d0 f) → FR [(d0, d0, none)] h h2 → wp xa d j (nx, lo, st, hp_w h2 cr, b, c) Q) : wp xa d j (pc, lo, vi n :: vi dp :: .ref d0 :: vi sp :: .ref s0 :: st, hp_w h cr, b, c) Q := by
  let h2 : hp := fun a f => if a = d0 then (if dp.toNat ≤ f ∧ f < dp.toNat + n.toNat then h s0 (sp.toNat + (f - dp.toNat)) else h d0 f) else h a f
  have e0 : ∀ f, h2 d0 f = if dp.toNat ≤ f ∧ f < dp.toNat + n.toNat then h s0 (sp.toNat + (f - dp.toNat)) else h d0 f := fun f => if_pos rfl
  have e1 : ∀ a, a ≠ d0 → ∀ f, h2 a f = h a f := fun a ha f => if_neg ha
  have rs := ii_r (a := sp) (by omega) (by omega)
  have rd := ii_r (a := dp) (by omega) (by omega)
  have rn := ii_r (a := n) (by omega) (by omega)
  have z0 : (0 : Int32).toInt = 0 := rfl
  have hcp : mm_cpy (hp_w h cr) s0 (Int32.ofInt sp) d0 (Int32.ofInt dp) (Int32.ofInt n) = some (hp_w h2 cr) := by
    unfold mm_cpy
    have c0 : ¬ (Int32.ofInt sp < 0 ∨ Int32.ofInt dp < 0 ∨ Int32.ofInt n < 0 ∨ ¬ s0 < mm_XB ∨ ¬ d0 < mm_XB) := by
      rw [Int32.lt_iff_toInt_lt, Int32.lt_iff_toInt_lt, Int32.lt_iff_toInt_lt, rs, rd, rn, z0]
      unfold md_nW at k1 k2
      unfold mm_XB
      omega
    have o1 : hp_o h cr s0 = .inl (1, n0, .inr (.inl (fun i => Int64.ofInt (h s0 i)))) := by unfold hp_o; rw [s1]; rfl
    have o2 : ∀ h' : hp, hp_o h' cr d0 = .inl (1, n1, .inr (.inl (fun i => Int64.ofInt (h' d0 i)))) := fun h' => by unfold hp_o; rw [s2]; rfl
    have t1 : (Int32.ofInt sp).toNatClampNeg = sp.toNat := by show (Int32.ofInt sp).toInt.toNat = _; rw [rs]
    have t2 : (Int32.ofInt dp).toNatClampNeg = dp.toNat := by show (Int32.ofInt dp).toInt.toNat = _; rw [rd]
    have t3 : (Int32.ofInt n).toNatClampNeg = n.toNat := by show (Int32.ofInt n).toInt.toNat = _; rw [rn]
    rw [if_neg c0, hp_get h cr k1, hp_get h cr k2, o1, o2]
    try dsimp only
    rw [t1, t2, t3]
    show (if sp.toNat + n.toNat ≤ n0 ∧ dp.toNat + n.toNat ≤ n1 then some ((hp_w h cr).set d0 (.inl (1, n1, .inr (.inl (va_cpy (fun i => Int64.ofInt (h s0 i)) (fun i => Int64.ofInt (h d0 i)) sp.toNat dp.toNat n.toNat))))) else none) = _
    rw [if_pos (by omega)]
    have e : (.inl (1, n1, .inr (.inl (va_cpy (fun i => Int64.ofInt (h s0 i)) (fun i => Int64.ofInt (h d0 i)) sp.toNat dp.toNat n.toNat))) : va_E) = hp_o h2 cr d0 := by
      rw [o2]
      have ef : va_cpy (fun i => Int64.ofInt (h s0 i)) (fun i => Int64.ofInt (h d0 i)) sp.toNat dp.toNat n.toNat = fun q => Int64.ofInt (h2 d0 q) := by
        funext q
        rw [e0]
        unfold va_cpy
        split <;> rfl
      rw [ef]
    rw [e, hp_set h h2 cr e1]
  refine wp.step (F' := (nx, lo, st, hp_w h2 cr, b, c)) ?_ (k h2 ?_ e0 ?_)
  · simp only [mm_step, hc, mm_stepI, mm_call, hk]
    simp [hcp, hs]
  · intro a f
    by_cases ha : a = d0
    · subst ha
      rw [e0, b2]
      have g1 := g s0 (sp.toNat + (f - dp.toNat))
      have g2 := g a f
      rw [b1] at g1
      rw [b2] at g2
      try dsimp only at g1 g2 ⊢
      split <;> omega
    · rw [e1 a ha]
      exact g a f
  · intro a f hf
    by_cases ha : a = d0
    · subst ha
      rw [fy_0 (by omega)] at hf; cases hf
    · exact e1 a ha f
theorem wr_V {i k0 n ci : Nat} {sl : List hp_K} {rest as : List Value} (hc : md_cd j pc = some (.invokevirtual i, nx, r1, r2, r3)) (hk : r2 / 16 = 0) (hn : r2 % 16 = n) (hl : ¬ st.length < n) (hd : st.drop n = .ref k0 :: rest) (has : .ref k0 :: (st.take n).reverse = as) (hw : k0 < md_nW) (hsh : md_sh k0 = .inr (ci, sl)) (hci : ci = r3) (hs : (rest.map fun v => v.category).sum ≤ 8) (hL : ¬ (md_mt r1).2.2.1 < (as.map fun v => v.category).sum)
    (k : wp xa d r1 (0, lv_args 0 as, [], hp_w h cr, b, c) (wp_k xa d j pc nx lo rest true Q)) : wp xa (d + 1) j (pc, lo, st, hp_w h cr, b, c) Q :=
  wi_V hc hk hn hl hd has (by rw [hp_cls hw hsh, hci]) hs hL k
theorem wr_VX {i k0 n m : Nat} {rest as : List Value} (hc : md_cd j pc = some (.invokevirtual i, nx, r1, r2, r3)) (hk : r2 / 16 = 0) (hn : r2 % 16 = n) (hl : ¬ st.length < n) (hd : st.drop n = .ref k0 :: rest) (has : .ref k0 :: (st.take n).reverse = as) (hw : ¬ k0 < mm_XB) (hx : md_xc (k0 - mm_XB) = some m) (hci : 1000 + m = r3) (hs : (rest.map fun v => v.category).sum ≤ 8) (hL : ¬ (md_mt r1).2.2.1 < (as.map fun v => v.category).sum)
    (k : wp xa d r1 (0, lv_args 0 as, [], hp_w h cr, b, c) (wp_k xa d j pc nx lo rest true Q)) : wp xa (d + 1) j (pc, lo, st, hp_w h cr, b, c) Q :=
  wi_V hc hk hn hl hd has (by rw [mm_clsx hw hx, hci]) hs hL k
theorem wr_U {i k0 n ci : Nat} {sl : List hp_K} {rest as : List Value} (hc : md_cd j pc = some (.invokevirtual i, nx, r1, r2, r3)) (hk : r2 / 16 = 2) (hn : r2 % 16 = n) (hl : ¬ st.length < n) (hd : st.drop n = .ref k0 :: rest) (has : .ref k0 :: (st.take n).reverse = as) (hw : k0 < md_nW) (hsh : md_sh k0 = .inr (ci, sl)) (hci : ci = r3) (hs : (rest.map fun v => v.category).sum ≤ 8) (hL : ¬ (md_mt r1).2.2.1 < (as.map fun v => v.category).sum)
    (k : wp xa d r1 (0, lv_args 0 as, [], hp_w h cr, b, c) (wp_k xa d j pc nx lo rest false Q)) : wp xa (d + 1) j (pc, lo, st, hp_w h cr, b, c) Q :=
  wp.call (j' := r1) (as := as) (nx := nx) (fl := false) (G := (pc, lo, rest, hp_w h cr, b, c)) (by
    have hcls : mm_cls (hp_w h cr) k0 = some r3 := by rw [hp_cls hw hsh, hci]
    simp only [mm_step, hc, mm_stepI, mm_call, hn, hl, if_false, hk, hd, hcls, hs, has, and_self, if_true]) hL k
theorem wr_UX {i k0 n m : Nat} {rest as : List Value} (hc : md_cd j pc = some (.invokevirtual i, nx, r1, r2, r3)) (hk : r2 / 16 = 2) (hn : r2 % 16 = n) (hl : ¬ st.length < n) (hd : st.drop n = .ref k0 :: rest) (has : .ref k0 :: (st.take n).reverse = as) (hw : ¬ k0 < mm_XB) (hx : md_xc (k0 - mm_XB) = some m) (hci : 1000 + m = r3) (hs : (rest.map fun v => v.category).sum ≤ 8) (hL : ¬ (md_mt r1).2.2.1 < (as.map fun v => v.category).sum)
    (k : wp xa d r1 (0, lv_args 0 as, [], hp_w h cr, b, c) (wp_k xa d j pc nx lo rest false Q)) : wp xa (d + 1) j (pc, lo, st, hp_w h cr, b, c) Q :=
  wp.call (j' := r1) (as := as) (nx := nx) (fl := false) (G := (pc, lo, rest, hp_w h cr, b, c)) (by
    have hcls : mm_cls (hp_w h cr) k0 = some r3 := by rw [mm_clsx hw hx, hci]
    simp only [mm_step, hc, mm_stepI, mm_call, hn, hl, if_false, hk, hd, hcls, hs, has, and_self, if_true]) hL k
theorem wp_eq {e : Nat} {F : mm_F} (he : d = e) (k : wp xa e j F Q) : wp xa d j F Q := he ▸ k
end WR
section LQ
variable {xa : mm_Xa} {d j : Nat} {Q : hp_Q}
theorem wl_0 (I : hp → Prop) (μ : hp → Nat) (F : hp → mm_F) (step : ∀ h, I h → (∀ h2, I h2 → μ h2 < μ h → wp xa d j (F h2) Q) → wp xa d j (F h) Q) (h : hp) (hI : I h) : wp xa d j (F h) Q := by
  have key : ∀ n h, μ h = n → I h → wp xa d j (F h) Q := by
    intro n
    induction n using Nat.strongRecOn with
    | _ n ih => intro h hn hI; exact step h hI (fun h2 hI2 hlt => ih _ (by omega) h2 rfl hI2)
  exact key _ h rfl hI
theorem wj_0 {F0 : mm_F} (I : hp → Prop) (F : hp → mm_F) (k : ∀ h, I h → wp xa d j (F h) Q) (m : (∀ h, I h → wp xa d j (F h) Q) → wp xa d j F0 Q) : wp xa d j F0 Q := m k
theorem wl_1 (I : Int → hp → Prop) (μ : Int → hp → Nat) (F : Int → hp → mm_F) (step : ∀ x0 h, I x0 h → (∀ y0 h2, I y0 h2 → μ y0 h2 < μ x0 h → wp xa d j (F y0 h2) Q) → wp xa d j (F x0 h) Q) (x0 : Int) (h : hp) (hI : I x0 h) : wp xa d j (F x0 h) Q := by
  have key : ∀ n x0 h, μ x0 h = n → I x0 h → wp xa d j (F x0 h) Q := by
    intro n
    induction n using Nat.strongRecOn with
    | _ n ih => intro x0 h hn hI; exact step x0 h hI (fun y0 h2 hI2 hlt => ih _ (by omega) y0 h2 rfl hI2)
  exact key _ x0 h rfl hI
theorem wj_1 {F0 : mm_F} (I : Int → hp → Prop) (F : Int → hp → mm_F) (k : ∀ x0 h, I x0 h → wp xa d j (F x0 h) Q) (m : (∀ x0 h, I x0 h → wp xa d j (F x0 h) Q) → wp xa d j F0 Q) : wp xa d j F0 Q := m k
theorem wl_2 (I : Int → Int → hp → Prop) (μ : Int → Int → hp → Nat) (F : Int → Int → hp → mm_F) (step : ∀ x0 x1 h, I x0 x1 h → (∀ y0 y1 h2, I y0 y1 h2 → μ y0 y1 h2 < μ x0 x1 h → wp xa d j (F y0 y1 h2) Q) → wp xa d j (F x0 x1 h) Q) (x0 x1 : Int) (h : hp) (hI : I x0 x1 h) : wp xa d j (F x0 x1 h) Q := by
  have key : ∀ n x0 x1 h, μ x0 x1 h = n → I x0 x1 h → wp xa d j (F x0 x1 h) Q := by
    intro n
    induction n using Nat.strongRecOn with
    | _ n ih => intro x0 x1 h hn hI; exact step x0 x1 h hI (fun y0 y1 h2 hI2 hlt => ih _ (by omega) y0 y1 h2 rfl hI2)
  exact key _ x0 x1 h rfl hI
theorem wj_2 {F0 : mm_F} (I : Int → Int → hp → Prop) (F : Int → Int → hp → mm_F) (k : ∀ x0 x1 h, I x0 x1 h → wp xa d j (F x0 x1 h) Q) (m : (∀ x0 x1 h, I x0 x1 h → wp xa d j (F x0 x1 h) Q) → wp xa d j F0 Q) : wp xa d j F0 Q := m k
theorem wl_3 (I : Int → Int → Int → hp → Prop) (μ : Int → Int → Int → hp → Nat) (F : Int → Int → Int → hp → mm_F) (step : ∀ x0 x1 x2 h, I x0 x1 x2 h → (∀ y0 y1 y2 h2, I y0 y1 y2 h2 → μ y0 y1 y2 h2 < μ x0 x1 x2 h → wp xa d j (F y0 y1 y2 h2) Q) → wp xa d j (F x0 x1 x2 h) Q) (x0 x1 x2 : Int) (h : hp) (hI : I x0 x1 x2 h) : wp xa d j (F x0 x1 x2 h) Q := by
  have key : ∀ n x0 x1 x2 h, μ x0 x1 x2 h = n → I x0 x1 x2 h → wp xa d j (F x0 x1 x2 h) Q := by
    intro n
    induction n using Nat.strongRecOn with
    | _ n ih => intro x0 x1 x2 h hn hI; exact step x0 x1 x2 h hI (fun y0 y1 y2 h2 hI2 hlt => ih _ (by omega) y0 y1 y2 h2 rfl hI2)
  exact key _ x0 x1 x2 h rfl hI
theorem wj_3 {F0 : mm_F} (I : Int → Int → Int → hp → Prop) (F : Int → Int → Int → hp → mm_F) (k : ∀ x0 x1 x2 h, I x0 x1 x2 h → wp xa d j (F x0 x1 x2 h) Q) (m : (∀ x0 x1 x2 h, I x0 x1 x2 h → wp xa d j (F x0 x1 x2 h) Q) → wp xa d j F0 Q) : wp xa d j F0 Q := m k
theorem wl_4 (I : Int → Int → Int → Int → hp → Prop) (μ : Int → Int → Int → Int → hp → Nat) (F : Int → Int → Int → Int → hp → mm_F) (step : ∀ x0 x1 x2 x3 h, I x0 x1 x2 x3 h → (∀ y0 y1 y2 y3 h2, I y0 y1 y2 y3 h2 → μ y0 y1 y2 y3 h2 < μ x0 x1 x2 x3 h → wp xa d j (F y0 y1 y2 y3 h2) Q) → wp xa d j (F x0 x1 x2 x3 h) Q) (x0 x1 x2 x3 : Int) (h : hp) (hI : I x0 x1 x2 x3 h) : wp xa d j (F x0 x1 x2 x3 h) Q := by
  have key : ∀ n x0 x1 x2 x3 h, μ x0 x1 x2 x3 h = n → I x0 x1 x2 x3 h → wp xa d j (F x0 x1 x2 x3 h) Q := by
    intro n
    induction n using Nat.strongRecOn with
    | _ n ih => intro x0 x1 x2 x3 h hn hI; exact step x0 x1 x2 x3 h hI (fun y0 y1 y2 y3 h2 hI2 hlt => ih _ (by omega) y0 y1 y2 y3 h2 rfl hI2)
  exact key _ x0 x1 x2 x3 h rfl hI
theorem wj_4 {F0 : mm_F} (I : Int → Int → Int → Int → hp → Prop) (F : Int → Int → Int → Int → hp → mm_F) (k : ∀ x0 x1 x2 x3 h, I x0 x1 x2 x3 h → wp xa d j (F x0 x1 x2 x3 h) Q) (m : (∀ x0 x1 x2 x3 h, I x0 x1 x2 x3 h → wp xa d j (F x0 x1 x2 x3 h) Q) → wp xa d j F0 Q) : wp xa d j F0 Q := m k
theorem wl_5 (I : Int → Int → Int → Int → Int → hp → Prop) (μ : Int → Int → Int → Int → Int → hp → Nat) (F : Int → Int → Int → Int → Int → hp → mm_F) (step : ∀ x0 x1 x2 x3 x4 h, I x0 x1 x2 x3 x4 h → (∀ y0 y1 y2 y3 y4 h2, I y0 y1 y2 y3 y4 h2 → μ y0 y1 y2 y3 y4 h2 < μ x0 x1 x2 x3 x4 h → wp xa d j (F y0 y1 y2 y3 y4 h2) Q) → wp xa d j (F x0 x1 x2 x3 x4 h) Q) (x0 x1 x2 x3 x4 : Int) (h : hp) (hI : I x0 x1 x2 x3 x4 h) : wp xa d j (F x0 x1 x2 x3 x4 h) Q := by
  have key : ∀ n x0 x1 x2 x3 x4 h, μ x0 x1 x2 x3 x4 h = n → I x0 x1 x2 x3 x4 h → wp xa d j (F x0 x1 x2 x3 x4 h) Q := by
    intro n
    induction n using Nat.strongRecOn with
    | _ n ih => intro x0 x1 x2 x3 x4 h hn hI; exact step x0 x1 x2 x3 x4 h hI (fun y0 y1 y2 y3 y4 h2 hI2 hlt => ih _ (by omega) y0 y1 y2 y3 y4 h2 rfl hI2)
  exact key _ x0 x1 x2 x3 x4 h rfl hI
theorem wj_5 {F0 : mm_F} (I : Int → Int → Int → Int → Int → hp → Prop) (F : Int → Int → Int → Int → Int → hp → mm_F) (k : ∀ x0 x1 x2 x3 x4 h, I x0 x1 x2 x3 x4 h → wp xa d j (F x0 x1 x2 x3 x4 h) Q) (m : (∀ x0 x1 x2 x3 x4 h, I x0 x1 x2 x3 x4 h → wp xa d j (F x0 x1 x2 x3 x4 h) Q) → wp xa d j F0 Q) : wp xa d j F0 Q := m k
theorem wl_6 (I : Int → Int → Int → Int → Int → Int → hp → Prop) (μ : Int → Int → Int → Int → Int → Int → hp → Nat) (F : Int → Int → Int → Int → Int → Int → hp → mm_F) (step : ∀ x0 x1 x2 x3 x4 x5 h, I x0 x1 x2 x3 x4 x5 h → (∀ y0 y1 y2 y3 y4 y5 h2, I y0 y1 y2 y3 y4 y5 h2 → μ y0 y1 y2 y3 y4 y5 h2 < μ x0 x1 x2 x3 x4 x5 h → wp xa d j (F y0 y1 y2 y3 y4 y5 h2) Q) → wp xa d j (F x0 x1 x2 x3 x4 x5 h) Q) (x0 x1 x2 x3 x4 x5 : Int) (h : hp) (hI : I x0 x1 x2 x3 x4 x5 h) : wp xa d j (F x0 x1 x2 x3 x4 x5 h) Q := by
  have key : ∀ n x0 x1 x2 x3 x4 x5 h, μ x0 x1 x2 x3 x4 x5 h = n → I x0 x1 x2 x3 x4 x5 h → wp xa d j (F x0 x1 x2 x3 x4 x5 h) Q := by
    intro n
    induction n using Nat.strongRecOn with
    | _ n ih => intro x0 x1 x2 x3 x4 x5 h hn hI; exact step x0 x1 x2 x3 x4 x5 h hI (fun y0 y1 y2 y3 y4 y5 h2 hI2 hlt => ih _ (by omega) y0 y1 y2 y3 y4 y5 h2 rfl hI2)
  exact key _ x0 x1 x2 x3 x4 x5 h rfl hI
theorem wj_6 {F0 : mm_F} (I : Int → Int → Int → Int → Int → Int → hp → Prop) (F : Int → Int → Int → Int → Int → Int → hp → mm_F) (k : ∀ x0 x1 x2 x3 x4 x5 h, I x0 x1 x2 x3 x4 x5 h → wp xa d j (F x0 x1 x2 x3 x4 x5 h) Q) (m : (∀ x0 x1 x2 x3 x4 x5 h, I x0 x1 x2 x3 x4 x5 h → wp xa d j (F x0 x1 x2 x3 x4 x5 h) Q) → wp xa d j F0 Q) : wp xa d j F0 Q := m k
theorem wl_7 (I : Int → Int → Int → Int → Int → Int → Int → hp → Prop) (μ : Int → Int → Int → Int → Int → Int → Int → hp → Nat) (F : Int → Int → Int → Int → Int → Int → Int → hp → mm_F) (step : ∀ x0 x1 x2 x3 x4 x5 x6 h, I x0 x1 x2 x3 x4 x5 x6 h → (∀ y0 y1 y2 y3 y4 y5 y6 h2, I y0 y1 y2 y3 y4 y5 y6 h2 → μ y0 y1 y2 y3 y4 y5 y6 h2 < μ x0 x1 x2 x3 x4 x5 x6 h → wp xa d j (F y0 y1 y2 y3 y4 y5 y6 h2) Q) → wp xa d j (F x0 x1 x2 x3 x4 x5 x6 h) Q) (x0 x1 x2 x3 x4 x5 x6 : Int) (h : hp) (hI : I x0 x1 x2 x3 x4 x5 x6 h) : wp xa d j (F x0 x1 x2 x3 x4 x5 x6 h) Q := by
  have key : ∀ n x0 x1 x2 x3 x4 x5 x6 h, μ x0 x1 x2 x3 x4 x5 x6 h = n → I x0 x1 x2 x3 x4 x5 x6 h → wp xa d j (F x0 x1 x2 x3 x4 x5 x6 h) Q := by
    intro n
    induction n using Nat.strongRecOn with
    | _ n ih => intro x0 x1 x2 x3 x4 x5 x6 h hn hI; exact step x0 x1 x2 x3 x4 x5 x6 h hI (fun y0 y1 y2 y3 y4 y5 y6 h2 hI2 hlt => ih _ (by omega) y0 y1 y2 y3 y4 y5 y6 h2 rfl hI2)
  exact key _ x0 x1 x2 x3 x4 x5 x6 h rfl hI
theorem wj_7 {F0 : mm_F} (I : Int → Int → Int → Int → Int → Int → Int → hp → Prop) (F : Int → Int → Int → Int → Int → Int → Int → hp → mm_F) (k : ∀ x0 x1 x2 x3 x4 x5 x6 h, I x0 x1 x2 x3 x4 x5 x6 h → wp xa d j (F x0 x1 x2 x3 x4 x5 x6 h) Q) (m : (∀ x0 x1 x2 x3 x4 x5 x6 h, I x0 x1 x2 x3 x4 x5 x6 h → wp xa d j (F x0 x1 x2 x3 x4 x5 x6 h) Q) → wp xa d j F0 Q) : wp xa d j F0 Q := m k
end LQ
theorem rw_22 : Rw 22 := ⟨rfl, rfl, by decide, rfl, fun _ => rfl⟩
theorem rw_24 : Rw 24 := ⟨rfl, rfl, by decide, rfl, fun _ => rfl⟩
theorem rw_26 : Rw 26 := ⟨rfl, rfl, by decide, rfl, fun _ => rfl⟩
theorem rw_29 : Rw 29 := ⟨rfl, rfl, by decide, rfl, fun _ => rfl⟩
theorem rw_31 : Rw 31 := ⟨rfl, rfl, by decide, rfl, fun _ => rfl⟩
theorem rw_33 : Rw 33 := ⟨rfl, rfl, by decide, rfl, fun _ => rfl⟩
theorem rw_35 : Rw 35 := ⟨rfl, rfl, by decide, rfl, fun _ => rfl⟩
theorem rw_41 : Rw 41 := ⟨rfl, rfl, by decide, rfl, fun _ => rfl⟩
theorem rw_43 : Rw 43 := ⟨rfl, rfl, by decide, rfl, fun _ => rfl⟩
theorem rw_45 : Rw 45 := ⟨rfl, rfl, by decide, rfl, fun _ => rfl⟩
theorem rw_48 : Rw 48 := ⟨rfl, rfl, by decide, rfl, fun _ => rfl⟩
theorem rw_50 : Rw 50 := ⟨rfl, rfl, by decide, rfl, fun _ => rfl⟩
theorem rw_52 : Rw 52 := ⟨rfl, rfl, by decide, rfl, fun _ => rfl⟩
theorem rw_54 : Rw 54 := ⟨rfl, rfl, by decide, rfl, fun _ => rfl⟩
theorem rw_79 : Rw 79 := ⟨rfl, rfl, by decide, rfl, fun _ => rfl⟩
theorem rw_81 : Rw 81 := ⟨rfl, rfl, by decide, rfl, fun _ => rfl⟩
theorem rw_83 : Rw 83 := ⟨rfl, rfl, by decide, rfl, fun _ => rfl⟩
theorem rw_86 : Rw 86 := ⟨rfl, rfl, by decide, rfl, fun _ => rfl⟩
theorem rw_88 : Rw 88 := ⟨rfl, rfl, by decide, rfl, fun _ => rfl⟩
theorem rw_90 : Rw 90 := ⟨rfl, rfl, by decide, rfl, fun _ => rfl⟩
theorem rw_92 : Rw 92 := ⟨rfl, rfl, by decide, rfl, fun _ => rfl⟩
theorem rw_98 : Rw 98 := ⟨rfl, rfl, by decide, rfl, fun _ => rfl⟩
theorem rw_100 : Rw 100 := ⟨rfl, rfl, by decide, rfl, fun _ => rfl⟩
theorem rw_102 : Rw 102 := ⟨rfl, rfl, by decide, rfl, fun _ => rfl⟩
theorem rw_105 : Rw 105 := ⟨rfl, rfl, by decide, rfl, fun _ => rfl⟩
theorem rw_107 : Rw 107 := ⟨rfl, rfl, by decide, rfl, fun _ => rfl⟩
theorem rw_109 : Rw 109 := ⟨rfl, rfl, by decide, rfl, fun _ => rfl⟩
theorem rw_111 : Rw 111 := ⟨rfl, rfl, by decide, rfl, fun _ => rfl⟩
theorem rw_117 : Rw 117 := ⟨rfl, rfl, by decide, rfl, fun _ => rfl⟩
theorem rw_119 : Rw 119 := ⟨rfl, rfl, by decide, rfl, fun _ => rfl⟩
theorem rw_121 : Rw 121 := ⟨rfl, rfl, by decide, rfl, fun _ => rfl⟩
theorem rw_124 : Rw 124 := ⟨rfl, rfl, by decide, rfl, fun _ => rfl⟩
theorem rw_126 : Rw 126 := ⟨rfl, rfl, by decide, rfl, fun _ => rfl⟩
theorem rw_128 : Rw 128 := ⟨rfl, rfl, by decide, rfl, fun _ => rfl⟩
theorem rw_130 : Rw 130 := ⟨rfl, rfl, by decide, rfl, fun _ => rfl⟩
theorem rw_136 : Rw 136 := ⟨rfl, rfl, by decide, rfl, fun _ => rfl⟩
theorem rw_138 : Rw 138 := ⟨rfl, rfl, by decide, rfl, fun _ => rfl⟩
theorem rw_140 : Rw 140 := ⟨rfl, rfl, by decide, rfl, fun _ => rfl⟩
theorem rw_143 : Rw 143 := ⟨rfl, rfl, by decide, rfl, fun _ => rfl⟩
theorem rw_145 : Rw 145 := ⟨rfl, rfl, by decide, rfl, fun _ => rfl⟩
theorem rw_147 : Rw 147 := ⟨rfl, rfl, by decide, rfl, fun _ => rfl⟩
theorem rw_149 : Rw 149 := ⟨rfl, rfl, by decide, rfl, fun _ => rfl⟩
theorem rw_155 : Rw 155 := ⟨rfl, rfl, by decide, rfl, fun _ => rfl⟩
theorem rw_157 : Rw 157 := ⟨rfl, rfl, by decide, rfl, fun _ => rfl⟩
theorem rw_159 : Rw 159 := ⟨rfl, rfl, by decide, rfl, fun _ => rfl⟩
theorem rw_162 : Rw 162 := ⟨rfl, rfl, by decide, rfl, fun _ => rfl⟩
theorem rw_164 : Rw 164 := ⟨rfl, rfl, by decide, rfl, fun _ => rfl⟩
theorem rw_166 : Rw 166 := ⟨rfl, rfl, by decide, rfl, fun _ => rfl⟩
theorem rw_168 : Rw 168 := ⟨rfl, rfl, by decide, rfl, fun _ => rfl⟩
theorem rw_174 : Rw 174 := ⟨rfl, rfl, by decide, rfl, fun _ => rfl⟩
theorem rw_176 : Rw 176 := ⟨rfl, rfl, by decide, rfl, fun _ => rfl⟩
theorem rw_178 : Rw 178 := ⟨rfl, rfl, by decide, rfl, fun _ => rfl⟩
theorem rw_181 : Rw 181 := ⟨rfl, rfl, by decide, rfl, fun _ => rfl⟩
theorem rw_183 : Rw 183 := ⟨rfl, rfl, by decide, rfl, fun _ => rfl⟩
theorem rw_185 : Rw 185 := ⟨rfl, rfl, by decide, rfl, fun _ => rfl⟩
theorem rw_187 : Rw 187 := ⟨rfl, rfl, by decide, rfl, fun _ => rfl⟩
theorem rw_193 : Rw 193 := ⟨rfl, rfl, by decide, rfl, fun _ => rfl⟩
theorem rw_195 : Rw 195 := ⟨rfl, rfl, by decide, rfl, fun _ => rfl⟩
theorem rw_197 : Rw 197 := ⟨rfl, rfl, by decide, rfl, fun _ => rfl⟩
theorem rw_200 : Rw 200 := ⟨rfl, rfl, by decide, rfl, fun _ => rfl⟩
theorem rw_202 : Rw 202 := ⟨rfl, rfl, by decide, rfl, fun _ => rfl⟩
theorem rw_204 : Rw 204 := ⟨rfl, rfl, by decide, rfl, fun _ => rfl⟩
theorem rw_206 : Rw 206 := ⟨rfl, rfl, by decide, rfl, fun _ => rfl⟩
theorem rw_221 : Rw 221 := ⟨rfl, rfl, by decide, rfl, fun _ => rfl⟩
theorem rw_223 : Rw 223 := ⟨rfl, rfl, by decide, rfl, fun _ => rfl⟩
theorem rw_225 : Rw 225 := ⟨rfl, rfl, by decide, rfl, fun _ => rfl⟩
theorem rw_228 : Rw 228 := ⟨rfl, rfl, by decide, rfl, fun _ => rfl⟩
theorem rw_230 : Rw 230 := ⟨rfl, rfl, by decide, rfl, fun _ => rfl⟩
theorem rw_232 : Rw 232 := ⟨rfl, rfl, by decide, rfl, fun _ => rfl⟩
theorem rw_234 : Rw 234 := ⟨rfl, rfl, by decide, rfl, fun _ => rfl⟩
theorem rw_61 : Rw 61 := ⟨rfl, rfl, by decide, rfl, fun _ => rfl⟩
theorem rw_66 : Rw 66 := ⟨rfl, rfl, by decide, rfl, fun _ => rfl⟩
theorem rw_lane (a : Nat) (ha : a = 21 ∨ a = 40 ∨ a = 78 ∨ a = 97 ∨ a = 116 ∨ a = 135 ∨ a = 154 ∨ a = 173 ∨ a = 192 ∨ a = 220) (i : Nat) (hi : i < 4) : Rw (a + 8 + 2 * i) := by
  have hi2 : i = 0 ∨ i = 1 ∨ i = 2 ∨ i = 3 := by omega
  rcases ha with rfl | rfl | rfl | rfl | rfl | rfl | rfl | rfl | rfl | rfl <;> rcases hi2 with rfl | rfl | rfl | rfl <;> first | exact rw_22 | exact rw_24 | exact rw_26 | exact rw_29 | exact rw_31 | exact rw_33 | exact rw_35 | exact rw_41 | exact rw_43 | exact rw_45 | exact rw_48 | exact rw_50 | exact rw_52 | exact rw_54 | exact rw_79 | exact rw_81 | exact rw_83 | exact rw_86 | exact rw_88 | exact rw_90 | exact rw_92 | exact rw_98 | exact rw_100 | exact rw_102 | exact rw_105 | exact rw_107 | exact rw_109 | exact rw_111 | exact rw_117 | exact rw_119 | exact rw_121 | exact rw_124 | exact rw_126 | exact rw_128 | exact rw_130 | exact rw_136 | exact rw_138 | exact rw_140 | exact rw_143 | exact rw_145 | exact rw_147 | exact rw_149 | exact rw_155 | exact rw_157 | exact rw_159 | exact rw_162 | exact rw_164 | exact rw_166 | exact rw_168 | exact rw_174 | exact rw_176 | exact rw_178 | exact rw_181 | exact rw_183 | exact rw_185 | exact rw_187 | exact rw_193 | exact rw_195 | exact rw_197 | exact rw_200 | exact rw_202 | exact rw_204 | exact rw_206 | exact rw_221 | exact rw_223 | exact rw_225 | exact rw_228 | exact rw_230 | exact rw_232 | exact rw_234
