/-! ===== scripts: what a text says (p the place before a part, o open brackets, m commands so far) ===== -/
abbrev sc_T : Type := (Int × Int) ⊕ (Int × Int × Int)
def sc_num (B : Nat → Int) (n p lo hi : Int) (k : Int → sc_T) : sc_T :=
  if tk_kd B n p = 2 then (if lo ≤ tk_nb B n p ∧ tk_nb B n p ≤ hi then k (tk_nx B n p) else .inl (2, tk_st B n p)) else .inl (1, tk_st B n p)
def sc_mk (B : Nat → Int) (n q w o m : Int) : sc_T := if tk_kd B n q = w then .inr (tk_nx B n q, o, m) else .inl (1, tk_st B n q)
/-- a command up to the mark behind it -/
def sc_hd (B : Nat → Int) (n p o m : Int) (k : Int → sc_T) : sc_T :=
  if tk_kd B n p = 1 ∧ 13 ≤ tk_wd (tk_lw B n p) ∧ tk_wd (tk_lw B n p) ≤ 20 then
    (if tk_wd (tk_lw B n p) = 20 ∧ 2 ≤ o then .inl (3, tk_st B n p) else if 40 ≤ m then .inl (5, tk_st B n p) else
     if tk_wd (tk_lw B n p) ≤ 15 then sc_num B n (tk_nx B n p) 0 3 k else if tk_wd (tk_lw B n p) ≤ 17 then sc_num B n (tk_nx B n p) 1 99 k else
     if tk_wd (tk_lw B n p) = 20 then sc_num B n (tk_nx B n p) 1 20 k else k (tk_nx B n p))
  else .inl (1, tk_st B n p)
def sc_cmd (B : Nat → Int) (n p o m : Int) : sc_T :=
  sc_hd B n p o m (fun q => if tk_wd (tk_lw B n p) = 20 then sc_mk B n q 4 (o + 1) (m + 1) else sc_mk B n q 3 o (m + 1))
def sc_run (B : Nat → Int) (n : Int) : Nat → Int → Int → Int → Int × Int
  | 0, _, _, _ => (0, 0)
  | f + 1, p, o, m =>
    if tk_kd B n p = 0 then (if o = 0 then (0, -1) else (1, tk_st B n p)) else
    if tk_kd B n p = 5 ∧ 0 < o then (if tk_kd B n (tk_nx B n p) = 3 then sc_run B n f (tk_nx B n (tk_nx B n p)) (o - 1) m else (1, tk_st B n (tk_nx B n p))) else
    match sc_cmd B n p o m with
    | .inl e => e
    | .inr (q, o2, m2) => sc_run B n f q o2 m2
def sc_RES (B : Nat → Int) (n : Int) : Int × Int := sc_run B n 801 0 0 0
def sc_ec (B : Nat → Int) (n : Int) : Int := (sc_RES B n).1
def sc_ep (B : Nat → Int) (n : Int) : Int := (sc_RES B n).2
theorem sc_e0 {B : Nat → Int} {n p o m : Int} {f : Nat} (h : tk_kd B n p = 0) (ho : o = 0) : sc_run B n (f + 1) p o m = (0, -1) := by
  unfold sc_run; rw [if_pos h, if_pos ho]
theorem sc_e1 {B : Nat → Int} {n p o m : Int} {f : Nat} (h : tk_kd B n p = 0) (ho : o ≠ 0) : sc_run B n (f + 1) p o m = (1, tk_st B n p) := by
  unfold sc_run; rw [if_pos h, if_neg ho]
theorem sc_c1 {B : Nat → Int} {n p o m : Int} {f : Nat} (h : tk_kd B n p = 5) (ho : 0 < o) (h3 : tk_kd B n (tk_nx B n p) = 3) : sc_run B n (f + 1) p o m = sc_run B n f (tk_nx B n (tk_nx B n p)) (o - 1) m := by
  rw [sc_run, if_neg (by omega), if_pos ⟨h, ho⟩, if_pos h3]
theorem sc_clx {B : Nat → Int} {n p o m : Int} {f : Nat} (h : tk_kd B n p = 5) (ho : 0 < o) (h3 : tk_kd B n (tk_nx B n p) ≠ 3) : sc_run B n (f + 1) p o m = (1, tk_st B n (tk_nx B n p)) := by
  rw [sc_run, if_neg (by omega), if_pos ⟨h, ho⟩, if_neg h3]
theorem sc_m1 {B : Nat → Int} {n p o m : Int} {f : Nat} {e : Int × Int} (h : tk_kd B n p ≠ 0) (ho : ¬ (tk_kd B n p = 5 ∧ 0 < o)) (hs : sc_cmd B n p o m = .inl e) : sc_run B n (f + 1) p o m = e := by
  rw [sc_run, if_neg h, if_neg ho, hs]
theorem sc_m2 {B : Nat → Int} {n p o m q o2 m2 : Int} {f : Nat} (h : tk_kd B n p ≠ 0) (ho : ¬ (tk_kd B n p = 5 ∧ 0 < o)) (hs : sc_cmd B n p o m = .inr (q, o2, m2)) : sc_run B n (f + 1) p o m = sc_run B n f q o2 m2 := by
  rw [sc_run, if_neg h, if_neg ho, hs]
/-- where a command ends -/
def sc_B (lo n : Int) (R : sc_T) : Prop := ∀ q o m, R = .inr (q, o, m) → lo ≤ q ∧ q ≤ n
theorem sc_Bl {lo n : Int} {e : Int × Int} : sc_B lo n (.inl e) := fun q o m h => by cases h
theorem sc_numB {B : Nat → Int} {n lo p a b : Int} {k : Int → sc_T} (h0 : 0 ≤ p) (h1 : p ≤ n) (hl : lo ≤ p) (hk : ∀ q, 0 ≤ q → q ≤ n → lo ≤ q → sc_B lo n (k q)) : sc_B lo n (sc_num B n p a b k) := by
  have hb := @tk_nx_b B n p h0 h1
  unfold sc_num
  split
  · split
    · exact hk _ (by omega) (by omega) (by omega)
    · exact sc_Bl
  · exact sc_Bl
theorem sc_mkB {B : Nat → Int} {n lo q w o m : Int} (h0 : 0 ≤ q) (h1 : q ≤ n) (hl : lo ≤ q) : sc_B lo n (sc_mk B n q w o m) := by
  have hb := @tk_nx_b B n q h0 h1
  unfold sc_mk
  split
  · intro q2 o2 m2 e
    cases e
    omega
  · exact sc_Bl
theorem sc_hdB {B : Nat → Int} {n p o m : Int} {k : Int → sc_T} (h0 : 0 ≤ p) (h1 : p ≤ n) (hk : ∀ q, 0 ≤ q → q ≤ n → tk_nx B n p ≤ q → sc_B (tk_nx B n p) n (k q)) : sc_B (tk_nx B n p) n (sc_hd B n p o m k) := by
  have hb := @tk_nx_b B n p h0 h1
  unfold sc_hd
  split
  · split
    · exact sc_Bl
    · split
      · exact sc_Bl
      · split
        · exact sc_numB (by omega) (by omega) (by omega) hk
        · split
          · exact sc_numB (by omega) (by omega) (by omega) hk
          · split
            · exact sc_numB (by omega) (by omega) (by omega) hk
            · exact hk _ (by omega) (by omega) (by omega)
  · exact sc_Bl
theorem sc_cmdB {B : Nat → Int} {n p o m : Int} (h0 : 0 ≤ p) (h1 : p ≤ n) : sc_B (tk_nx B n p) n (sc_cmd B n p o m) := by
  unfold sc_cmd
  refine sc_hdB h0 h1 (fun q q0 q1 q2 => ?_)
  split <;> exact sc_mkB q0 q1 q2
/-- what the class's reader answers of a command -/
def sc_O (R : sc_T) (z : Int) (h : hp) : Prop :=
  match R with
  | .inl (c, q) => z = 0 ∧ h 1 2 = c ∧ h 1 3 = q ∧ 1 ≤ c
  | .inr (q, o, m) => z = 1 ∧ h 1 4 = q ∧ h 68 8 = o ∧ h 68 9 = m ∧ h 1 2 = 0 ∧ h 1 3 = -1
theorem sc_Oe {c q z : Int} {h : hp} (h1 : z = 0) (h2 : h 1 2 = c) (h3 : h 1 3 = q) (h4 : 1 ≤ c) : sc_O (.inl (c, q)) z h := ⟨h1, h2, h3, h4⟩
theorem sc_Os {q o m z : Int} {h : hp} (h1 : z = 1) (h2 : h 1 4 = q) (h3 : h 68 8 = o) (h4 : h 68 9 = m) (h5 : h 1 2 = 0) (h6 : h 1 3 = -1) : sc_O (.inr (q, o, m)) z h := ⟨h1, h2, h3, h4, h5, h6⟩
theorem sc_Of {R : sc_T} {z : Int} {h : hp} (y : sc_O R z h) (hz : z = 0) : ∃ c q, R = .inl (c, q) ∧ h 1 2 = c ∧ h 1 3 = q ∧ 1 ≤ c := by
  match R, y with
  | .inl (c, q), y => exact ⟨c, q, rfl, y.2⟩
  | .inr (q, o, m), y => exact absurd (hz.symm.trans y.1) (by decide)
theorem sc_Ot {R : sc_T} {z : Int} {h : hp} (y : sc_O R z h) (hz : z = 1) : ∃ q o m, R = .inr (q, o, m) ∧ h 1 4 = q ∧ h 68 8 = o ∧ h 68 9 = m ∧ h 1 2 = 0 ∧ h 1 3 = -1 := by
  match R, y with
  | .inl (c, q), y => exact absurd (hz.symm.trans y.1) (by decide)
  | .inr (q, o, m), y => exact ⟨q, o, m, rfl, y.2⟩
theorem sc_REq {B : Nat → Int} {n c q : Int} (e : sc_RES B n = (c, q)) : sc_ec B n = c ∧ sc_ep B n = q := by
  unfold sc_ec sc_ep; rw [e]; exact ⟨rfl, rfl⟩
/-- what the reference's reader of a command leaves: the mark behind it is still to come, but for a bracket -/
def sc_OM (B : Nat → Int) (n p o m : Int) (h : hp) : Prop :=
  (1 ≤ h 236 8 ∧ sc_cmd B n p o m = .inl (h 236 8, h 236 9)) ∨
  (h 236 8 = 0 ∧ h 236 44 = o + 1 ∧ h 236 43 = m + 1 ∧ ∃ q, 0 ≤ q ∧ q ≤ n ∧ tk_nx B n p ≤ q ∧ TKr B n q h ∧ sc_cmd B n p o m = .inr (q, o + 1, m + 1)) ∨
  (h 236 8 = 0 ∧ h 236 44 = o ∧ h 236 43 = m + 1 ∧ ∃ q, 0 ≤ q ∧ q ≤ n ∧ tk_nx B n p ≤ q ∧ TKr B n q h ∧ (tk_kd B n q = 3 → sc_cmd B n p o m = .inr (tk_nx B n q, o, m + 1)) ∧ (tk_kd B n q ≠ 3 → sc_cmd B n p o m = .inl (1, tk_st B n q)))
/-- what holds while the reference reads a script -/
def SCI (B : Nat → Int) (n : Int) (h : hp) : Prop :=
  (h 236 8 = 0 ∧ h 236 9 = -1 ∧ ∃ (f : Nat) (p : Int), 0 ≤ p ∧ p ≤ n ∧ 801 - p ≤ (f : Int) ∧ TKr B n p h ∧ sc_run B n f p (h 236 44) (h 236 43) = sc_RES B n) ∨
  (1 ≤ h 236 8 ∧ sc_RES B n = (h 236 8, h 236 9))
theorem SCI.good {B : Nat → Int} {n : Int} {h : hp} (s : SCI B n h) (e : h 236 8 = 0) : h 236 9 = -1 ∧ ∃ (k : Nat) (p : Int), 0 ≤ p ∧ p ≤ n ∧ 801 - p ≤ (k : Int) + 1 ∧ TKr B n p h ∧ sc_run B n (k + 1) p (h 236 44) (h 236 43) = sc_RES B n ∨ n > 800 := by
  rcases s with ⟨-, h9, f, p, h0, h1, h2, h3, h4⟩ | ⟨h1, -⟩
  · by_cases hn : n ≤ 800
    · refine ⟨h9, f - 1, p, Or.inl ⟨h0, h1, by omega, h3, ?_⟩⟩
      rw [show f - 1 + 1 = f by omega]
      exact h4
    · exact ⟨h9, 0, 0, Or.inr (by omega)⟩
  · omega
theorem SCI.go {B : Nat → Int} {n : Int} {h : hp} (s : SCI B n h) (e : h 236 8 = 0) (hn : n ≤ 800) : h 236 9 = -1 ∧ ∃ (k : Nat) (p : Int), 0 ≤ p ∧ p ≤ n ∧ 801 - p ≤ (k : Int) + 1 ∧ TKr B n p h ∧ sc_run B n (k + 1) p (h 236 44) (h 236 43) = sc_RES B n := by
  obtain ⟨h9, k, p, h1 | h1⟩ := s.good e
  · exact ⟨h9, k, p, h1⟩
  · omega
theorem SCI.bad {B : Nat → Int} {n : Int} {h : hp} (s : SCI B n h) (e : 1 ≤ h 236 8) : sc_RES B n = (h 236 8, h 236 9) := by
  rcases s with ⟨h1, -⟩ | ⟨-, h1⟩
  · omega
  · exact h1
theorem SCI.mk {B : Nat → Int} {n : Int} {h : hp} (k : Nat) (p : Int) (e8 : h 236 8 = 0) (e9 : h 236 9 = -1) (h0 : 0 ≤ p) (h1 : p ≤ n) (h2 : 801 - p ≤ (k : Int)) (t : TKr B n p h) (r : sc_run B n k p (h 236 44) (h 236 43) = sc_RES B n) : SCI B n h :=
  Or.inl ⟨e8, e9, k, p, h0, h1, h2, t, r⟩
theorem SCI.er {B : Nat → Int} {n c q : Int} {h : hp} (e8 : h 236 8 = c) (e9 : h 236 9 = q) (hc : 1 ≤ c) (r : sc_RES B n = (c, q)) : SCI B n h :=
  Or.inr ⟨by omega, by rw [r, e8, e9]⟩
theorem sc_inl {a b x y : Int} (h1 : a = x) (h2 : b = y) : (Sum.inl (a, b) : sc_T) = .inl (x, y) := by rw [h1, h2]
theorem sc_inr {a b c x y z : Int} (h1 : a = x) (h2 : b = y) (h3 : c = z) : (Sum.inr (a, b, c) : sc_T) = .inr (x, y, z) := by rw [h1, h2, h3]
theorem sc_OM1 {B : Nat → Int} {n p o m : Int} {h : hp} (y : sc_OM B n p o m h) (e : 1 ≤ h 236 8) : sc_cmd B n p o m = .inl (h 236 8, h 236 9) := by
  rcases y with ⟨-, h1⟩ | ⟨h1, -⟩ | ⟨h1, -⟩
  · exact h1
  · omega
  · omega
theorem sc_OM2 {B : Nat → Int} {n p o m : Int} {h : hp} (y : sc_OM B n p o m h) (e : h 236 8 = 0) (e2 : h 236 44 = o + 1) : h 236 43 = m + 1 ∧ ∃ q, 0 ≤ q ∧ q ≤ n ∧ tk_nx B n p ≤ q ∧ TKr B n q h ∧ sc_cmd B n p o m = .inr (q, o + 1, m + 1) := by
  rcases y with ⟨h1, -⟩ | ⟨-, -, h1⟩ | ⟨-, h1, -⟩
  · omega
  · exact h1
  · omega
theorem sc_OM3 {B : Nat → Int} {n p o m : Int} {h : hp} (y : sc_OM B n p o m h) (e : h 236 8 = 0) (e2 : h 236 44 = o) : h 236 43 = m + 1 ∧ ∃ q, 0 ≤ q ∧ q ≤ n ∧ tk_nx B n p ≤ q ∧ TKr B n q h ∧ (tk_kd B n q = 3 → sc_cmd B n p o m = .inr (tk_nx B n q, o, m + 1)) ∧ (tk_kd B n q ≠ 3 → sc_cmd B n p o m = .inl (1, tk_st B n q)) := by
  rcases y with ⟨h1, -⟩ | ⟨-, h1, -⟩ | ⟨-, -, h1⟩
  · omega
  · omega
  · exact h1
