/-! ===== setups: what a text says (p the place before a statement, s what was said so far) ===== -/
abbrev tk_S : Type := Nat → Int
abbrev tk_R : Type := (Int × Int) ⊕ (Int × tk_S)
def tk_u (s : tk_S) (i : Nat) (v : Int) : tk_S := fun j => if j = i then v else s j
theorem tk_ue {s : tk_S} {i : Nat} {v : Int} : tk_u s i v i = v := if_pos rfl
theorem tk_un {s : tk_S} {i j : Nat} {v : Int} (h : j ≠ i) : tk_u s i v j = s j := if_neg h
def tk_num (B : Nat → Int) (n p lo hi : Int) (k : Int → Int → tk_R) : tk_R :=
  if tk_kd B n p = 2 then (if lo ≤ tk_nb B n p ∧ tk_nb B n p ≤ hi then k (tk_nb B n p) (tk_nx B n p) else .inl (2, tk_st B n p)) else .inl (1, tk_st B n p)
def tk_wrd (B : Nat → Int) (n p w : Int) (k : Int → tk_R) : tk_R :=
  if tk_kd B n p = 1 ∧ tk_wd (tk_lw B n p) = w then k (tk_nx B n p) else .inl (1, tk_st B n p)
/-- the first color of a name -/
def tk_fg (N : Nat → Int) (x : Int) : Nat → Nat → Nat
  | 0, i => i
  | f + 1, i => if N i = x then i else tk_fg N x f (i + 1)
def tk_fc (N : Nat → Int) (c x i : Int) : Int := (tk_fg N x (c - i).toNat i.toNat : Nat)
def tk_fi (s : tk_S) (x : Int) : Int := tk_fc (fun i => s (70 + i)) (s 0) x 0
theorem tk_fcs {N : Nat → Int} {c x i j : Int} {q : Nat} (h0 : 0 ≤ i) (h1 : i < c) (hq : i = (q : Int)) (hj : j = i + 1) (h : ¬ N q = x) : tk_fc N c x i = tk_fc N c x j := by
  unfold tk_fc
  rw [show (c - i).toNat = (c - j).toNat + 1 by omega, show j.toNat = i.toNat + 1 by omega, show i.toNat = q by omega]
  show ((if N q = x then q else tk_fg N x (c - j).toNat (q + 1) : Nat) : Int) = _
  rw [if_neg h]
theorem tk_fcf {N : Nat → Int} {c x i : Int} {q : Nat} (h0 : 0 ≤ i) (h1 : i < c) (hq : i = (q : Int)) {z : Int} (hz : z = i) (h : N q = x) : tk_fc N c x i = z := by
  unfold tk_fc
  rw [show (c - i).toNat = (c - i - 1).toNat + 1 by omega, show i.toNat = q by omega]
  show ((if N q = x then q else tk_fg N x (c - i - 1).toNat (q + 1) : Nat) : Int) = _
  rw [if_pos h]
  omega
theorem tk_fce {N : Nat → Int} {c x i : Int} (h0 : 0 ≤ i) (h1 : i = c) : tk_fc N c x i = c := by
  unfold tk_fc
  rw [show (c - i).toNat = 0 by omega]
  show ((i.toNat : Nat) : Int) = c
  omega
theorem tk_fgb {N : Nat → Int} {x : Int} : ∀ (f i : Nat), i ≤ tk_fg N x f i ∧ tk_fg N x f i ≤ i + f
  | 0, i => ⟨Nat.le_refl _, Nat.le_refl _⟩
  | f + 1, i => by
    unfold tk_fg
    have := @tk_fgb N x f (i + 1)
    split <;> omega
def tk_color (B : Nat → Int) (n p : Int) (s : tk_S) : tk_R :=
  if 5 ≤ s 0 then .inl (5, tk_st B n p) else
  tk_wrd B n (tk_nx B n p) 21 (fun p2 => if tk_fi s (tk_lw B n (tk_nx B n p)) < s 0 then .inl (3, tk_st B n (tk_nx B n p)) else
    tk_wrd B n p2 2 (fun p3 => tk_num B n p3 0 99 (fun v q => .inr (q, tk_u (tk_u (tk_u s (70 + (s 0).toNat) (tk_lw B n (tk_nx B n p))) (10 + (s 0).toNat) v) 0 (s 0 + 1)))))
def tk_lane (B : Nat → Int) (n p : Int) (s : tk_S) : tk_R :=
  if 4 ≤ s 1 then .inl (5, tk_st B n p) else
  tk_num B n (tk_nx B n p) 1 6 (fun v q => .inr (q, tk_u (tk_u s (15 + (s 1).toNat) v) 1 (s 1 + 1)))
def tk_bad (B : Nat → Int) (n p : Int) (k : Int → Int → tk_R) : tk_R :=
  if tk_kd B n p = 1 ∧ tk_wd (tk_lw B n p) = 6 then tk_num B n (tk_nx B n p) 0 2 k else k 0 p
def tk_car (B : Nat → Int) (n p : Int) (s : tk_S) : tk_R :=
  if 12 ≤ s 2 then .inl (5, tk_st B n p) else
  tk_wrd B n (tk_nx B n p) 21 (fun p2 => if tk_fi s (tk_lw B n (tk_nx B n p)) = s 0 then .inl (4, tk_st B n (tk_nx B n p)) else
    tk_wrd B n p2 5 (fun p3 => tk_num B n p3 0 3 (fun v p4 => tk_bad B n p4 (fun f q =>
      .inr (q, tk_u (tk_u (tk_u (tk_u s (31 + (s 2).toNat) (tk_fi s (tk_lw B n (tk_nx B n p)))) (19 + (s 2).toNat) v) (43 + (s 2).toNat) f) 2 (s 2 + 1))))))
def tk_once (B : Nat → Int) (n p : Int) (s : tk_S) (i : Nat) (R : tk_R) : tk_R := if s i = 1 then .inl (3, tk_st B n p) else R
def tk_window (B : Nat → Int) (n p : Int) (s : tk_S) : tk_R :=
  tk_once B n p s 60 (tk_num B n (tk_nx B n p) 0 11 (fun v q => tk_num B n q 0 11 (fun w r => .inr (r, tk_u (tk_u (tk_u s 60 1) 3 v) 4 w))))
def tk_batch (B : Nat → Int) (n p : Int) (s : tk_S) : tk_R :=
  tk_once B n p s 61 (tk_num B n (tk_nx B n p) 1 9 (fun v q => tk_wrd B n q 9 (fun q2 => tk_num B n q2 0 99 (fun w r => .inr (r, tk_u (tk_u (tk_u s 61 1) 5 v) 6 w)))))
def tk_rework (B : Nat → Int) (n p : Int) (s : tk_S) : tk_R :=
  tk_once B n p s 62 (tk_num B n (tk_nx B n p) 0 3 (fun v q => tk_wrd B n q 11 (fun q2 => tk_num B n q2 0 9 (fun w r => .inr (r, tk_u (tk_u (tk_u s 62 1) 7 v) 8 w)))))
def tk_span (B : Nat → Int) (n p : Int) (s : tk_S) : tk_R :=
  tk_once B n p s 63 (tk_num B n (tk_nx B n p) 0 11 (fun v q => .inr (q, tk_u (tk_u s 63 1) 9 v)))
def tk_stm (B : Nat → Int) (n p : Int) (s : tk_S) : tk_R :=
  if tk_kd B n p = 1 then
    (if tk_wd (tk_lw B n p) = 1 then tk_color B n p s else if tk_wd (tk_lw B n p) = 3 then tk_lane B n p s else if tk_wd (tk_lw B n p) = 4 then tk_car B n p s
     else if tk_wd (tk_lw B n p) = 7 then tk_window B n p s else if tk_wd (tk_lw B n p) = 8 then tk_batch B n p s else if tk_wd (tk_lw B n p) = 10 then tk_rework B n p s
     else if tk_wd (tk_lw B n p) = 12 then tk_span B n p s else .inl (1, tk_st B n p))
  else .inl (1, tk_st B n p)
def tk_run (B : Nat → Int) (n : Int) : Nat → Int → tk_S → Int → tk_R
  | 0, _, _, _ => .inl (0, 0)
  | f + 1, p, s, c =>
    if tk_kd B n p = 0 then .inr (c, s) else
    match tk_stm B n p s with
    | .inl e => .inl e
    | .inr (q, s2) => if tk_kd B n q = 3 then tk_run B n f (tk_nx B n q) s2 (c + 1) else .inl (1, tk_st B n q)
def tk_s0 : tk_S := fun i => if i = 3 then 11 else if i = 4 then 11 else if i = 5 then 9 else if i = 7 then 1 else if i = 8 then 3 else if i = 9 then 2 else 0
/-! the class's draft and the reference's row hold what was said -/
def CVc (s : tk_S) (h : hp) : Prop :=
  (h 11 0 = s 0 ∧ h 11 1 = s 1 ∧ h 11 2 = s 2 ∧ h 11 3 = s 3 ∧ h 11 4 = s 4 ∧ h 11 5 = s 5 ∧ h 11 6 = s 6 ∧ h 11 7 = s 7 ∧ h 11 8 = s 8 ∧ h 11 9 = s 9) ∧
  (h 10 2 = s 60 ∧ h 10 3 = s 61 ∧ h 10 4 = s 62 ∧ h 10 5 = s 63) ∧
  (∀ i : Nat, (i : Int) < s 0 → h 12 i = s (70 + i) ∧ h 13 i = s (10 + i)) ∧ (∀ i : Nat, (i : Int) < s 1 → h 14 i = s (15 + i)) ∧
  (∀ i : Nat, (i : Int) < s 2 → h 15 i = s (31 + i) ∧ h 16 i = s (19 + i) ∧ h 17 i = s (43 + i))
def CVr (s : tk_S) (h : hp) : Prop :=
  (h 239 0 = s 0 ∧ h 239 1 = s 1 ∧ h 239 2 = s 2 ∧ h 239 3 = s 3 ∧ h 239 4 = s 4 ∧ h 239 5 = s 5 ∧ h 239 6 = s 6 ∧ h 239 7 = s 7 ∧ h 239 8 = s 8 ∧ h 239 9 = s 9) ∧
  (h 236 23 = s 60 ∧ h 236 24 = s 61 ∧ h 236 25 = s 62 ∧ h 236 26 = s 63) ∧
  (∀ i : Nat, (i : Int) < s 0 → tk_sm 8 (s (70 + i)) (h 244 i) ∧ h 239 (10 + i) = s (10 + i)) ∧ (∀ i : Nat, (i : Int) < s 1 → h 239 (15 + i) = s (15 + i)) ∧
  (∀ i : Nat, (i : Int) < s 2 → h 239 (31 + i) = s (31 + i) ∧ h 239 (19 + i) = s (19 + i) ∧ h 239 (43 + i) = s (43 + i))
/-! the buffer while it is read -/
def BufC (B : Nat → Int) (n : Int) (h : hp) : Prop := (∀ i : Nat, h 2 i = B i) ∧ h 1 1 = n ∧ 0 ≤ n ∧ n ≤ 800
def tb_1 (q : FE) : Bool := !(Nat.ble q.1 2 && Nat.ble 1 q.2.1) || (q.1 == 1 && q.2.1 == 1 && (match q.2.2 with | none => false | some p => !(Nat.ble p.1 1 && Nat.ble 1 p.2)))
def tb_E : List FE → Bool
  | [] => true
  | q :: l => tb_1 q && tb_E l
theorem tb_Eo : ∀ (E : List FE) (i : Nat), tb_E E = true → fx_in E 2 i = false ∧ fx_in E 1 1 = false
  | [], _, _ => ⟨rfl, rfl⟩
  | q :: l, i, h => by
    rw [show tb_E (q :: l) = (tb_1 q && tb_E l) from rfl, Bool.and_eq_true] at h
    have h2 := tb_Eo l i h.2
    have key : fx_1 q 2 i = false ∧ fx_1 q 1 1 = false := by
      have h1 := h.1
      obtain ⟨a, b, p⟩ := q
      unfold tb_1 at h1
      unfold fx_1
      dsimp only at h1 ⊢
      cases p with
      | none =>
        simp only [Bool.or_eq_true, Bool.not_eq_true', Bool.and_eq_false_imp, Bool.and_eq_true, beq_iff_eq, Bool.false_eq_true, and_false, or_false, Nat.ble_eq] at h1
        simp only [Bool.and_true, Bool.and_eq_false_imp, Nat.ble_eq]
        constructor
        · intro x
          apply Bool.eq_false_iff.mpr
          intro y
          have z := h1 x
          rw [Bool.eq_false_iff, ne_eq, Nat.ble_eq] at z
          rw [Nat.ble_eq] at y
          omega
        · intro x
          apply Bool.eq_false_iff.mpr
          intro y
          have z := h1 (by omega)
          rw [Bool.eq_false_iff, ne_eq, Nat.ble_eq] at z
          rw [Nat.ble_eq] at y
          omega
      | some p =>
        obtain ⟨p1, p2⟩ := p
        simp only [Bool.or_eq_true, Bool.not_eq_true', Bool.and_eq_true, beq_iff_eq, Bool.and_eq_false_iff, Bool.eq_false_iff, ne_eq, Nat.ble_eq] at h1 ⊢
        omega
    exact ⟨by rw [show fx_in (q :: l) 2 i = (fx_1 q 2 i || fx_in l 2 i) from rfl, key.1, h2.1]; rfl, by rw [show fx_in (q :: l) 1 1 = (fx_1 q 1 1 || fx_in l 1 1) from rfl, key.2, h2.2]; rfl⟩
theorem BufC.fr {E : List FE} {h h2 : hp} {B : Nat → Int} {n : Int} (u : FR E h h2) (hE : tb_E E = true) (g : BufC B n h) : BufC B n h2 :=
  ⟨fun i => (u 2 i (tb_Eo E i hE).1).trans (g.1 i), (u 1 1 (tb_Eo E 0 hE).2).trans g.2.1, g.2.2⟩
/-- what the class's reader answers of a statement -/
def tk_O (R : tk_R) (z : Int) (h : hp) : Prop :=
  match R with
  | .inl (c, q) => z = 0 ∧ h 1 2 = c ∧ h 1 3 = q
  | .inr (q, s) => z = 1 ∧ h 1 4 = q ∧ h 1 2 = 0 ∧ h 1 3 = -1 ∧ CVc s h
theorem tk_Oe {c q z : Int} {h : hp} (h1 : z = 0) (h2 : h 1 2 = c) (h3 : h 1 3 = q) : tk_O (.inl (c, q)) z h := ⟨h1, h2, h3⟩
theorem tk_Os {q z : Int} {s : tk_S} {h : hp} (h1 : z = 1) (h2 : h 1 4 = q) (h3 : h 1 2 = 0) (h4 : h 1 3 = -1) (h5 : CVc s h) : tk_O (.inr (q, s)) z h := ⟨h1, h2, h3, h4, h5⟩
def cv_E : List FE → Bool
  | [] => true
  | q :: l => (Nat.blt q.2.1 10 || Nat.blt 17 q.1) && cv_E l
theorem cv_Eo : ∀ (E : List FE) (a i : Nat), cv_E E = true → 10 ≤ a → a ≤ 17 → fx_in E a i = false
  | [], _, _, _, _, _ => rfl
  | q :: l, a, i, h, h1, h2 => by
    rw [show cv_E (q :: l) = ((Nat.blt q.2.1 10 || Nat.blt 17 q.1) && cv_E l) from rfl, Bool.and_eq_true, Bool.or_eq_true, Nat.blt_eq, Nat.blt_eq] at h
    have e : fx_1 q a i = false := by
      unfold fx_1
      rw [Bool.and_eq_false_iff, Bool.and_eq_false_iff, Bool.eq_false_iff, ne_eq, Nat.ble_eq, Bool.eq_false_iff, ne_eq, Nat.ble_eq]
      omega
    rw [show fx_in (q :: l) a i = (fx_1 q a i || fx_in l a i) from rfl, e, cv_Eo l a i h.2 h1 h2]
    rfl
theorem CVc.fr {E : List FE} {h h2 : hp} {s : tk_S} (u : FR E h h2) (hE : cv_E E = true) (g : CVc s h) : CVc s h2 := by
  have e : ∀ a, 10 ≤ a → a ≤ 17 → h2 a = h a := fun a h1 h3 => funext (fun i => u a i (cv_Eo E a i hE h1 h3))
  unfold CVc at g ⊢
  rw [e 10 (by omega) (by omega), e 11 (by omega) (by omega), e 12 (by omega) (by omega), e 13 (by omega) (by omega), e 14 (by omega) (by omega), e 15 (by omega) (by omega), e 16 (by omega) (by omega), e 17 (by omega) (by omega)]
  exact g
theorem CVc.color {s : tk_S} {h h2 : hp} {x v : Int} {c : Nat} (H : CVc s h) (hc : s 0 = (c : Int)) (f0 : h2 11 0 = s 0 + 1) (f : ∀ i, 1 ≤ i → i ≤ 9 → h2 11 i = h 11 i) (g : ∀ i, 2 ≤ i → i ≤ 5 → h2 10 i = h 10 i) (x0 : h2 12 c = x) (v0 : h2 13 c = v)
    (a : ∀ i, i < c → h2 12 i = h 12 i) (b : ∀ i, i < c → h2 13 i = h 13 i) (k14 : ∀ i, h2 14 i = h 14 i) (k15 : ∀ i, h2 15 i = h 15 i) (k16 : ∀ i, h2 16 i = h 16 i) (k17 : ∀ i, h2 17 i = h 17 i) (hl : c < 5) (hL : s 1 ≤ 4) (hC : s 2 ≤ 12) :
    CVc (tk_u (tk_u (tk_u s (70 + (s 0).toNat) x) (10 + (s 0).toNat) v) 0 (s 0 + 1)) h2 := by
  obtain ⟨⟨H0, H1, H2, H3, H4, H5, H6, H7, H8, H9⟩, ⟨G0, G1, G2, G3⟩, A, B, C⟩ := H
  have ec : (s 0).toNat = c := by omega
  rw [ec]
  have un : ∀ j, j ≠ 0 → j ≠ 10 + c → j ≠ 70 + c → (tk_u (tk_u (tk_u s (70 + c) x) (10 + c) v) 0 (s 0 + 1)) j = s j := fun j j0 j1 j2 => by rw [tk_un j0, tk_un j1, tk_un j2]
  have u0 : (tk_u (tk_u (tk_u s (70 + c) x) (10 + c) v) 0 (s 0 + 1)) 0 = s 0 + 1 := tk_ue
  refine ⟨⟨?_, ?_, ?_, ?_, ?_, ?_, ?_, ?_, ?_, ?_⟩, ⟨?_, ?_, ?_, ?_⟩, fun i hi => ?_, fun i hi => ?_, fun i hi => ?_⟩
  · rw [u0, f0]
  · rw [un 1 (by omega) (by omega) (by omega), f 1 (by omega) (by omega), H1]
  · rw [un 2 (by omega) (by omega) (by omega), f 2 (by omega) (by omega), H2]
  · rw [un 3 (by omega) (by omega) (by omega), f 3 (by omega) (by omega), H3]
  · rw [un 4 (by omega) (by omega) (by omega), f 4 (by omega) (by omega), H4]
  · rw [un 5 (by omega) (by omega) (by omega), f 5 (by omega) (by omega), H5]
  · rw [un 6 (by omega) (by omega) (by omega), f 6 (by omega) (by omega), H6]
  · rw [un 7 (by omega) (by omega) (by omega), f 7 (by omega) (by omega), H7]
  · rw [un 8 (by omega) (by omega) (by omega), f 8 (by omega) (by omega), H8]
  · rw [un 9 (by omega) (by omega) (by omega), f 9 (by omega) (by omega), H9]
  · rw [un 60 (by omega) (by omega) (by omega), g 2 (by omega) (by omega), G0]
  · rw [un 61 (by omega) (by omega) (by omega), g 3 (by omega) (by omega), G1]
  · rw [un 62 (by omega) (by omega) (by omega), g 4 (by omega) (by omega), G2]
  · rw [un 63 (by omega) (by omega) (by omega), g 5 (by omega) (by omega), G3]
  · rw [u0] at hi
    by_cases hic : i = c
    · subst hic
      rw [tk_un (by omega), tk_un (by omega), tk_ue, tk_un (by omega), tk_ue]
      exact ⟨x0, v0⟩
    · rw [un (70 + i) (by omega) (by omega) (by omega), un (10 + i) (by omega) (by omega) (by omega), a i (by omega), b i (by omega)]
      exact A i (by omega)
  · rw [un 1 (by omega) (by omega) (by omega)] at hi
    rw [un (15 + i) (by omega) (by omega) (by omega), k14]
    exact B i hi
  · rw [un 2 (by omega) (by omega) (by omega)] at hi
    rw [un (31 + i) (by omega) (by omega) (by omega), un (19 + i) (by omega) (by omega) (by omega), un (43 + i) (by omega) (by omega) (by omega), k15, k16, k17]
    exact C i hi
theorem CVc.lane {s : tk_S} {h h2 : hp} {v : Int} {c : Nat} (H : CVc s h) (hc : s 1 = (c : Int)) (f1 : h2 11 1 = s 1 + 1) (f0 : h2 11 0 = h 11 0) (f : ∀ i, 2 ≤ i → i ≤ 9 → h2 11 i = h 11 i) (g : ∀ i, 2 ≤ i → i ≤ 5 → h2 10 i = h 10 i) (v0 : h2 14 c = v)
    (a : ∀ i, i < c → h2 14 i = h 14 i) (k12 : ∀ i, h2 12 i = h 12 i) (k13 : ∀ i, h2 13 i = h 13 i) (k15 : ∀ i, h2 15 i = h 15 i) (k16 : ∀ i, h2 16 i = h 16 i) (k17 : ∀ i, h2 17 i = h 17 i) (hl : c < 4) (hL : s 0 ≤ 5) (hC : s 2 ≤ 12) :
    CVc (tk_u (tk_u s (15 + (s 1).toNat) v) 1 (s 1 + 1)) h2 := by
  obtain ⟨⟨H0, H1, H2, H3, H4, H5, H6, H7, H8, H9⟩, ⟨G0, G1, G2, G3⟩, A, B, C⟩ := H
  have ec : (s 1).toNat = c := by omega
  rw [ec]
  have un : ∀ j, j ≠ 1 → j ≠ 15 + c → (tk_u (tk_u s (15 + c) v) 1 (s 1 + 1)) j = s j := fun j j0 j1 => by rw [tk_un j0, tk_un j1]
  have u0 : (tk_u (tk_u s (15 + c) v) 1 (s 1 + 1)) 1 = s 1 + 1 := tk_ue
  refine ⟨⟨?_, ?_, ?_, ?_, ?_, ?_, ?_, ?_, ?_, ?_⟩, ⟨?_, ?_, ?_, ?_⟩, fun i hi => ?_, fun i hi => ?_, fun i hi => ?_⟩
  · rw [un 0 (by omega) (by omega), f0, H0]
  · rw [u0, f1]
  · rw [un 2 (by omega) (by omega), f 2 (by omega) (by omega), H2]
  · rw [un 3 (by omega) (by omega), f 3 (by omega) (by omega), H3]
  · rw [un 4 (by omega) (by omega), f 4 (by omega) (by omega), H4]
  · rw [un 5 (by omega) (by omega), f 5 (by omega) (by omega), H5]
  · rw [un 6 (by omega) (by omega), f 6 (by omega) (by omega), H6]
  · rw [un 7 (by omega) (by omega), f 7 (by omega) (by omega), H7]
  · rw [un 8 (by omega) (by omega), f 8 (by omega) (by omega), H8]
  · rw [un 9 (by omega) (by omega), f 9 (by omega) (by omega), H9]
  · rw [un 60 (by omega) (by omega), g 2 (by omega) (by omega), G0]
  · rw [un 61 (by omega) (by omega), g 3 (by omega) (by omega), G1]
  · rw [un 62 (by omega) (by omega), g 4 (by omega) (by omega), G2]
  · rw [un 63 (by omega) (by omega), g 5 (by omega) (by omega), G3]
  · rw [un 0 (by omega) (by omega)] at hi
    rw [un (70 + i) (by omega) (by omega), un (10 + i) (by omega) (by omega), k12, k13]
    exact A i hi
  · rw [u0] at hi
    by_cases hic : i = c
    · subst hic
      rw [tk_un (by omega), tk_ue]
      exact v0
    · rw [un (15 + i) (by omega) (by omega), a i (by omega)]
      exact B i (by omega)
  · rw [un 2 (by omega) (by omega)] at hi
    rw [un (31 + i) (by omega) (by omega), un (19 + i) (by omega) (by omega), un (43 + i) (by omega) (by omega), k15, k16, k17]
    exact C i hi
theorem CVc.car {s : tk_S} {h h2 : hp} {x v w : Int} {c : Nat} (H : CVc s h) (hc : s 2 = (c : Int)) (f2 : h2 11 2 = s 2 + 1) (f0 : h2 11 0 = h 11 0) (f1 : h2 11 1 = h 11 1) (f : ∀ i, 3 ≤ i → i ≤ 9 → h2 11 i = h 11 i) (g : ∀ i, 2 ≤ i → i ≤ 5 → h2 10 i = h 10 i) (x0 : h2 15 c = x) (v0 : h2 16 c = v) (w0 : h2 17 c = w)
    (a : ∀ i, i < c → h2 15 i = h 15 i) (b : ∀ i, i < c → h2 16 i = h 16 i) (d : ∀ i, i < c → h2 17 i = h 17 i) (k12 : ∀ i, h2 12 i = h 12 i) (k13 : ∀ i, h2 13 i = h 13 i) (k14 : ∀ i, h2 14 i = h 14 i) (hl : c < 12) (hL : s 0 ≤ 5) (hC : s 1 ≤ 4) :
    CVc (tk_u (tk_u (tk_u (tk_u s (31 + (s 2).toNat) x) (19 + (s 2).toNat) v) (43 + (s 2).toNat) w) 2 (s 2 + 1)) h2 := by
  obtain ⟨⟨H0, H1, H2, H3, H4, H5, H6, H7, H8, H9⟩, ⟨G0, G1, G2, G3⟩, A, B, C⟩ := H
  have ec : (s 2).toNat = c := by omega
  rw [ec]
  have un : ∀ j, j ≠ 2 → j ≠ 43 + c → j ≠ 19 + c → j ≠ 31 + c → (tk_u (tk_u (tk_u (tk_u s (31 + c) x) (19 + c) v) (43 + c) w) 2 (s 2 + 1)) j = s j := fun j j0 j1 j2 j3 => by rw [tk_un j0, tk_un j1, tk_un j2, tk_un j3]
  have u0 : (tk_u (tk_u (tk_u (tk_u s (31 + c) x) (19 + c) v) (43 + c) w) 2 (s 2 + 1)) 2 = s 2 + 1 := tk_ue
  refine ⟨⟨?_, ?_, ?_, ?_, ?_, ?_, ?_, ?_, ?_, ?_⟩, ⟨?_, ?_, ?_, ?_⟩, fun i hi => ?_, fun i hi => ?_, fun i hi => ?_⟩
  · rw [un 0 (by omega) (by omega) (by omega) (by omega), f0, H0]
  · rw [un 1 (by omega) (by omega) (by omega) (by omega), f1, H1]
  · rw [u0, f2]
  · rw [un 3 (by omega) (by omega) (by omega) (by omega), f 3 (by omega) (by omega), H3]
  · rw [un 4 (by omega) (by omega) (by omega) (by omega), f 4 (by omega) (by omega), H4]
  · rw [un 5 (by omega) (by omega) (by omega) (by omega), f 5 (by omega) (by omega), H5]
  · rw [un 6 (by omega) (by omega) (by omega) (by omega), f 6 (by omega) (by omega), H6]
  · rw [un 7 (by omega) (by omega) (by omega) (by omega), f 7 (by omega) (by omega), H7]
  · rw [un 8 (by omega) (by omega) (by omega) (by omega), f 8 (by omega) (by omega), H8]
  · rw [un 9 (by omega) (by omega) (by omega) (by omega), f 9 (by omega) (by omega), H9]
  · rw [un 60 (by omega) (by omega) (by omega) (by omega), g 2 (by omega) (by omega), G0]
  · rw [un 61 (by omega) (by omega) (by omega) (by omega), g 3 (by omega) (by omega), G1]
  · rw [un 62 (by omega) (by omega) (by omega) (by omega), g 4 (by omega) (by omega), G2]
  · rw [un 63 (by omega) (by omega) (by omega) (by omega), g 5 (by omega) (by omega), G3]
  · rw [un 0 (by omega) (by omega) (by omega) (by omega)] at hi
    rw [un (70 + i) (by omega) (by omega) (by omega) (by omega), un (10 + i) (by omega) (by omega) (by omega) (by omega), k12, k13]
    exact A i hi
  · rw [un 1 (by omega) (by omega) (by omega) (by omega)] at hi
    rw [un (15 + i) (by omega) (by omega) (by omega) (by omega), k14]
    exact B i hi
  · rw [u0] at hi
    by_cases hic : i = c
    · subst hic
      refine ⟨?_, ?_, ?_⟩
      · rw [tk_un (by omega), tk_un (by omega), tk_un (by omega), tk_ue]; exact x0
      · rw [tk_un (by omega), tk_un (by omega), tk_ue]; exact v0
      · rw [tk_un (by omega), tk_ue]; exact w0
    · rw [un (31 + i) (by omega) (by omega) (by omega) (by omega), un (19 + i) (by omega) (by omega) (by omega) (by omega), un (43 + i) (by omega) (by omega) (by omega) (by omega), a i (by omega), b i (by omega), d i (by omega)]
      exact C i (by omega)
theorem CVc.flag {s s2 : tk_S} {h h2 : hp} (H : CVc s h) (e : ∀ j, j ≠ 3 → j ≠ 4 → j ≠ 5 → j ≠ 6 → j ≠ 7 → j ≠ 8 → j ≠ 9 → j ≠ 60 → j ≠ 61 → j ≠ 62 → j ≠ 63 → s2 j = s j) (f0 : h2 11 0 = h 11 0) (f1 : h2 11 1 = h 11 1) (f2 : h2 11 2 = h 11 2)
    (f : h2 11 3 = s2 3 ∧ h2 11 4 = s2 4 ∧ h2 11 5 = s2 5 ∧ h2 11 6 = s2 6 ∧ h2 11 7 = s2 7 ∧ h2 11 8 = s2 8 ∧ h2 11 9 = s2 9) (g : h2 10 2 = s2 60 ∧ h2 10 3 = s2 61 ∧ h2 10 4 = s2 62 ∧ h2 10 5 = s2 63)
    (k12 : ∀ i, h2 12 i = h 12 i) (k13 : ∀ i, h2 13 i = h 13 i) (k14 : ∀ i, h2 14 i = h 14 i) (k15 : ∀ i, h2 15 i = h 15 i) (k16 : ∀ i, h2 16 i = h 16 i) (k17 : ∀ i, h2 17 i = h 17 i) (hl : s 0 ≤ 5) (hL : s 1 ≤ 4) (hC : s 2 ≤ 12) : CVc s2 h2 := by
  obtain ⟨⟨H0, H1, H2, H3, H4, H5, H6, H7, H8, H9⟩, ⟨G0, G1, G2, G3⟩, A, B, C⟩ := H
  have un : ∀ j, j ≠ 3 → j ≠ 4 → j ≠ 5 → j ≠ 6 → j ≠ 7 → j ≠ 8 → j ≠ 9 → j ≠ 60 → j ≠ 61 → j ≠ 62 → j ≠ 63 → s2 j = s j := e
  obtain ⟨F3, F4, F5, F6, F7, F8, F9⟩ := f
  have e0 : s2 0 = s 0 := e 0 (by omega) (by omega) (by omega) (by omega) (by omega) (by omega) (by omega) (by omega) (by omega) (by omega) (by omega)
  have e1 : s2 1 = s 1 := e 1 (by omega) (by omega) (by omega) (by omega) (by omega) (by omega) (by omega) (by omega) (by omega) (by omega) (by omega)
  have e2 : s2 2 = s 2 := e 2 (by omega) (by omega) (by omega) (by omega) (by omega) (by omega) (by omega) (by omega) (by omega) (by omega) (by omega)
  have er : ∀ j, 10 ≤ j → j < 60 ∨ 70 ≤ j → s2 j = s j := fun j j1 j2 => e j (by omega) (by omega) (by omega) (by omega) (by omega) (by omega) (by omega) (by omega) (by omega) (by omega) (by omega)
  refine ⟨⟨by rw [f0, H0, e0], by rw [f1, H1, e1], by rw [f2, H2, e2], F3, F4, F5, F6, F7, F8, F9⟩, g, fun i hi => ?_, fun i hi => ?_, fun i hi => ?_⟩
  · rw [e0] at hi
    rw [er (70 + i) (by omega) (by omega), er (10 + i) (by omega) (by omega), k12, k13]
    exact A i hi
  · rw [e1] at hi
    rw [er (15 + i) (by omega) (by omega), k14]
    exact B i hi
  · rw [e2] at hi
    rw [er (31 + i) (by omega) (by omega), er (19 + i) (by omega) (by omega), er (43 + i) (by omega) (by omega), k15, k16, k17]
    exact C i hi
/-! where a statement ends -/
def tk_B (lo n : Int) (R : tk_R) : Prop := ∀ q s, R = .inr (q, s) → lo ≤ q ∧ q ≤ n
theorem tk_Bl {lo n : Int} {e : Int × Int} : tk_B lo n (.inl e) := fun q s h => by cases h
theorem tk_Br {lo n q : Int} {s : tk_S} (h1 : lo ≤ q) (h2 : q ≤ n) : tk_B lo n (.inr (q, s)) := fun q2 s2 h => by
  cases h; exact ⟨h1, h2⟩
theorem tk_numB {B : Nat → Int} {n lo p a b : Int} {k : Int → Int → tk_R} (h0 : 0 ≤ p) (h1 : p ≤ n) (hl : lo ≤ p) (hk : ∀ v q, 0 ≤ q → q ≤ n → lo ≤ q → tk_B lo n (k v q)) : tk_B lo n (tk_num B n p a b k) := by
  have hb := @tk_nx_b B n p h0 h1
  unfold tk_num
  split
  · split
    · exact hk _ _ (by omega) (by omega) (by omega)
    · exact tk_Bl
  · exact tk_Bl
theorem tk_wrdB {B : Nat → Int} {n lo p w : Int} {k : Int → tk_R} (h0 : 0 ≤ p) (h1 : p ≤ n) (hl : lo ≤ p) (hk : ∀ q, 0 ≤ q → q ≤ n → lo ≤ q → tk_B lo n (k q)) : tk_B lo n (tk_wrd B n p w k) := by
  have hb := @tk_nx_b B n p h0 h1
  unfold tk_wrd
  split
  · exact hk _ (by omega) (by omega) (by omega)
  · exact tk_Bl
theorem tk_badB {B : Nat → Int} {n lo p : Int} {k : Int → Int → tk_R} (h0 : 0 ≤ p) (h1 : p ≤ n) (hl : lo ≤ p) (hk : ∀ v q, 0 ≤ q → q ≤ n → lo ≤ q → tk_B lo n (k v q)) : tk_B lo n (tk_bad B n p k) := by
  have hb := @tk_nx_b B n p h0 h1
  unfold tk_bad
  split
  · exact tk_numB (by omega) (by omega) (by omega) hk
  · exact hk _ _ h0 h1 hl
theorem tk_stmB {B : Nat → Int} {n p : Int} {s : tk_S} (h0 : 0 ≤ p) (h1 : p ≤ n) : tk_B (tk_nx B n p) n (tk_stm B n p s) := by
  have hb := @tk_nx_b B n p h0 h1
  have b0 : 0 ≤ tk_nx B n p := by omega
  have b1 : tk_nx B n p ≤ n := by omega
  have ite_B : ∀ {c : Prop} [Decidable c] {x y : tk_R}, tk_B (tk_nx B n p) n x → tk_B (tk_nx B n p) n y → tk_B (tk_nx B n p) n (if c then x else y) := by
    intro c _ x y hx hy
    split
    · exact hx
    · exact hy
  unfold tk_stm
  refine ite_B (ite_B ?_ (ite_B ?_ (ite_B ?_ (ite_B ?_ (ite_B ?_ (ite_B ?_ (ite_B ?_ tk_Bl))))))) tk_Bl
  · unfold tk_color
    exact ite_B tk_Bl (tk_wrdB b0 b1 (Int.le_refl _) (fun q q0 q1 q2 => ite_B tk_Bl (tk_wrdB q0 q1 q2 (fun r r0 r1 r2 => tk_numB r0 r1 r2 (fun v t t0 t1 t2 => tk_Br t2 t1)))))
  · unfold tk_lane
    exact ite_B tk_Bl (tk_numB b0 b1 (Int.le_refl _) (fun v t t0 t1 t2 => tk_Br t2 t1))
  · unfold tk_car
    exact ite_B tk_Bl (tk_wrdB b0 b1 (Int.le_refl _) (fun q q0 q1 q2 => ite_B tk_Bl (tk_wrdB q0 q1 q2 (fun r r0 r1 r2 => tk_numB r0 r1 r2 (fun v t t0 t1 t2 => tk_badB t0 t1 t2 (fun f u u0 u1 u2 => tk_Br u2 u1))))))
  · unfold tk_window tk_once
    exact ite_B tk_Bl (tk_numB b0 b1 (Int.le_refl _) (fun v q q0 q1 q2 => tk_numB q0 q1 q2 (fun v t t0 t1 t2 => tk_Br t2 t1)))
  · unfold tk_batch tk_once
    exact ite_B tk_Bl (tk_numB b0 b1 (Int.le_refl _) (fun v q q0 q1 q2 => tk_wrdB q0 q1 q2 (fun r r0 r1 r2 => tk_numB r0 r1 r2 (fun v t t0 t1 t2 => tk_Br t2 t1))))
  · unfold tk_rework tk_once
    exact ite_B tk_Bl (tk_numB b0 b1 (Int.le_refl _) (fun v q q0 q1 q2 => tk_wrdB q0 q1 q2 (fun r r0 r1 r2 => tk_numB r0 r1 r2 (fun v t t0 t1 t2 => tk_Br t2 t1))))
  · unfold tk_span tk_once
    exact ite_B tk_Bl (tk_numB b0 b1 (Int.le_refl _) (fun v t t0 t1 t2 => tk_Br t2 t1))
/-! the whole text: t the statements so far -/
def tk_rn (B : Nat → Int) (n p : Int) (s : tk_S) (t : Int) : tk_R := tk_run B n (801 - t).toNat p s t
def tk_RES (B : Nat → Int) (n : Int) : tk_R := tk_rn B n 0 tk_s0 0
theorem tk_rn_u {B : Nat → Int} {n p t : Int} {s : tk_S} (ht : t ≤ 800) : tk_rn B n p s t = if tk_kd B n p = 0 then .inr (t, s) else
    match tk_stm B n p s with
    | .inl e => .inl e
    | .inr (q, s2) => if tk_kd B n q = 3 then tk_rn B n (tk_nx B n q) s2 (t + 1) else .inl (1, tk_st B n q) := by
  unfold tk_rn
  rw [show (801 - t).toNat = (801 - (t + 1)).toNat + 1 by omega]
  rfl
theorem tk_rn_e {B : Nat → Int} {n p t : Int} {s : tk_S} (ht : t ≤ 800) (h : tk_kd B n p = 0) : tk_rn B n p s t = .inr (t, s) := by
  rw [tk_rn_u ht, if_pos h]
theorem tk_rn_f {B : Nat → Int} {n p t : Int} {s : tk_S} {e : Int × Int} (ht : t ≤ 800) (h : tk_kd B n p ≠ 0) (hs : tk_stm B n p s = .inl e) : tk_rn B n p s t = .inl e := by
  rw [tk_rn_u ht, if_neg h, hs]
theorem tk_rn_g {B : Nat → Int} {n p t q : Int} {s s2 : tk_S} (ht : t ≤ 800) (h : tk_kd B n p ≠ 0) (hs : tk_stm B n p s = .inr (q, s2)) (hq : tk_kd B n q ≠ 3) : tk_rn B n p s t = .inl (1, tk_st B n q) := by
  rw [tk_rn_u ht, if_neg h, hs]
  exact if_neg hq
theorem tk_rn_s {B : Nat → Int} {n p t q : Int} {s s2 : tk_S} (ht : t ≤ 800) (h : tk_kd B n p ≠ 0) (hs : tk_stm B n p s = .inr (q, s2)) (hq : tk_kd B n q = 3) : tk_rn B n p s t = tk_rn B n (tk_nx B n q) s2 (t + 1) := by
  rw [tk_rn_u ht, if_neg h, hs]
  exact if_pos hq
theorem tk_Of {R : tk_R} {z : Int} {h : hp} (y : tk_O R z h) (hz : z = 0) : ∃ c q, R = .inl (c, q) ∧ h 1 2 = c ∧ h 1 3 = q := by
  match R, y with
  | .inl (c, q), y => exact ⟨c, q, rfl, y.2.1, y.2.2⟩
  | .inr (q, s), y => exact absurd (hz.symm.trans y.1) (by decide)
theorem tk_Ot {R : tk_R} {z : Int} {h : hp} (y : tk_O R z h) (hz : z = 1) : ∃ q s, R = .inr (q, s) ∧ h 1 4 = q ∧ h 1 2 = 0 ∧ h 1 3 = -1 ∧ CVc s h := by
  match R, y with
  | .inl (c, q), y => exact absurd (hz.symm.trans y.1) (by decide)
  | .inr (q, s), y => exact ⟨q, s, rfl, y.2⟩
/-- what the reader of a whole text answers: z the number of statements, or -1 -/
def tk_OA (R : tk_R) (z : Int) (h : hp) : Prop :=
  match R with
  | .inl (c, q) => z = -1 ∧ h 1 2 = c ∧ h 1 3 = q
  | .inr (t, s) => z = t ∧ 0 ≤ t ∧ h 1 2 = 0 ∧ h 1 3 = -1 ∧ CVc s h
def tk_ok (B : Nat → Int) (n : Int) : Int := match tk_RES B n with | .inl _ => 0 | .inr _ => 1
def tk_ct (B : Nat → Int) (n : Int) : Int := match tk_RES B n with | .inl _ => -1 | .inr (t, _) => t
def tk_ec (B : Nat → Int) (n : Int) : Int := match tk_RES B n with | .inl (c, _) => c | .inr _ => 0
def tk_ep (B : Nat → Int) (n : Int) : Int := match tk_RES B n with | .inl (_, q) => q | .inr _ => -1
theorem tk_OAe {B : Nat → Int} {n c q z : Int} {h : hp} (e : tk_RES B n = .inl (c, q)) (h1 : z = -1) (h2 : h 1 2 = c) (h3 : h 1 3 = q) : z = tk_ct B n ∧ tk_ok B n = 0 ∧ h 1 2 = tk_ec B n ∧ h 1 3 = tk_ep B n := by
  unfold tk_ct tk_ok tk_ec tk_ep
  rw [e]
  exact ⟨h1, rfl, h2, h3⟩
theorem tk_OAs {B : Nat → Int} {n t z : Int} {s : tk_S} {h : hp} (e : tk_RES B n = .inr (t, s)) (h1 : z = t) (h2 : h 1 2 = 0) (h3 : h 1 3 = -1) : z = tk_ct B n ∧ tk_ok B n = 1 ∧ h 1 2 = tk_ec B n ∧ h 1 3 = tk_ep B n := by
  unfold tk_ct tk_ok tk_ec tk_ep
  rw [e]
  exact ⟨h1, rfl, h2, h3⟩
theorem tk_s0c {h : hp} (f : h 11 0 = 0 ∧ h 11 1 = 0 ∧ h 11 2 = 0 ∧ h 11 3 = 11 ∧ h 11 4 = 11 ∧ h 11 5 = 9 ∧ h 11 6 = 0 ∧ h 11 7 = 1 ∧ h 11 8 = 3 ∧ h 11 9 = 2) (g : h 10 2 = 0 ∧ h 10 3 = 0 ∧ h 10 4 = 0 ∧ h 10 5 = 0) : CVc tk_s0 h := by
  refine ⟨f, g, fun i hi => ?_, fun i hi => ?_, fun i hi => ?_⟩
  all_goals
    have e0 : tk_s0 0 = 0 := rfl
    have e1 : tk_s0 1 = 0 := rfl
    have e2 : tk_s0 2 = 0 := rfl
    omega
