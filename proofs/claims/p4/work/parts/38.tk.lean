/-! ===== texts: what tokens a buffer has (B the bytes, n their number, p a place) ===== -/
def tk_bl (x : Int) : Bool := decide (x = 32) || decide (x = 10)
def tk_lt (x : Int) : Bool := decide (97 ≤ x) && decide (x ≤ 122)
def tk_dg (x : Int) : Bool := decide (48 ≤ x) && decide (x ≤ 57)
/-- the first place from p on where the bytes are no more of a kind -/
def tk_go (P : Int → Bool) (B : Nat → Int) : Nat → Nat → Nat
  | 0, p => p
  | f + 1, p => if P (B p) = true then tk_go P B f (p + 1) else p
def tk_en (P : Int → Bool) (B : Nat → Int) (n p : Int) : Int := (tk_go P B (n - p).toNat p.toNat : Nat)
theorem tk_en_s {P : Int → Bool} {B : Nat → Int} {n p : Int} (h0 : 0 ≤ p) (h1 : p < n) (h : P (B p.toNat) = true) : tk_en P B n p = tk_en P B n (p + 1) := by
  unfold tk_en
  rw [show (n - p).toNat = (n - (p + 1)).toNat + 1 by omega, show (p + 1).toNat = p.toNat + 1 by omega]
  show ((if P (B p.toNat) = true then tk_go P B (n - (p + 1)).toNat (p.toNat + 1) else p.toNat : Nat) : Int) = _
  rw [if_pos h]
theorem tk_en_e {P : Int → Bool} {B : Nat → Int} {n p : Int} (h0 : 0 ≤ p) (h : n ≤ p ∨ P (B p.toNat) = false) : tk_en P B n p = p := by
  unfold tk_en
  by_cases hp : n ≤ p
  · rw [show (n - p).toNat = 0 by omega]
    show ((p.toNat : Nat) : Int) = p
    omega
  · have h1 : P (B p.toNat) = false := by
      rcases h with h | h
      · exact absurd h hp
      · exact h
    rw [show (n - p).toNat = (n - (p + 1)).toNat + 1 by omega]
    show ((if P (B p.toNat) = true then tk_go P B (n - (p + 1)).toNat (p.toNat + 1) else p.toNat : Nat) : Int) = _
    rw [if_neg (by rw [h1]; decide)]
    omega
theorem tk_go_b {P : Int → Bool} {B : Nat → Int} : ∀ (f p : Nat), p ≤ tk_go P B f p ∧ tk_go P B f p ≤ p + f
  | 0, p => ⟨Nat.le_refl _, Nat.le_refl _⟩
  | f + 1, p => by
    unfold tk_go
    have := @tk_go_b P B f (p + 1)
    split <;> omega
theorem tk_en_b {P : Int → Bool} {B : Nat → Int} {n p : Int} (h0 : 0 ≤ p) (h1 : p ≤ n) : p ≤ tk_en P B n p ∧ tk_en P B n p ≤ n := by
  unfold tk_en
  have := @tk_go_b P B (n - p).toNat p.toNat
  omega
/-- a number of base m, read while the bytes are of a kind: each adds its value less z -/
def tk_vg (P : Int → Bool) (B : Nat → Int) (m z : Int) : Nat → Nat → Int → Int
  | 0, _, v => v
  | f + 1, p, v => if P (B p) = true then tk_vg P B m z f (p + 1) (v * m + (B p - z)) else v
def tk_va (P : Int → Bool) (B : Nat → Int) (m z n p v : Int) : Int := tk_vg P B m z (n - p).toNat p.toNat v
theorem tk_va_s {P : Int → Bool} {B : Nat → Int} {m z n p v : Int} (h0 : 0 ≤ p) (h1 : p < n) (h : P (B p.toNat) = true) : tk_va P B m z n p v = tk_va P B m z n (p + 1) (v * m + (B p.toNat - z)) := by
  unfold tk_va
  rw [show (n - p).toNat = (n - (p + 1)).toNat + 1 by omega, show (p + 1).toNat = p.toNat + 1 by omega]
  show (if P (B p.toNat) = true then tk_vg P B m z (n - (p + 1)).toNat (p.toNat + 1) (v * m + (B p.toNat - z)) else v) = _
  rw [if_pos h]
theorem tk_va_e {P : Int → Bool} {B : Nat → Int} {m z n p v : Int} (h0 : 0 ≤ p) (h : n ≤ p ∨ P (B p.toNat) = false) : tk_va P B m z n p v = v := by
  unfold tk_va
  by_cases hp : n ≤ p
  · rw [show (n - p).toNat = 0 by omega]
    rfl
  · have h1 : P (B p.toNat) = false := by
      rcases h with h | h
      · exact absurd h hp
      · exact h
    rw [show (n - p).toNat = (n - (p + 1)).toNat + 1 by omega]
    show (if P (B p.toNat) = true then tk_vg P B m z (n - (p + 1)).toNat (p.toNat + 1) (v * m + (B p.toNat - z)) else v) = _
    rw [if_neg (by rw [h1]; decide)]
def tk_st (B : Nat → Int) (n p : Int) : Int := tk_en tk_bl B n p
def tk_le (B : Nat → Int) (n p : Int) : Int := tk_en tk_lt B n p
def tk_de (B : Nat → Int) (n p : Int) : Int := tk_en tk_dg B n p
def tk_w8 (B : Nat → Int) (n p v : Int) : Int := tk_va tk_lt B 256 0 n p v
def tk_w5 (B : Nat → Int) (n p v : Int) : Int := tk_va tk_lt B 32 96 n p v
def tk_nu (B : Nat → Int) (n p v : Int) : Int := tk_va tk_dg B 10 48 n p v
/-- the token behind p, which begins at s: 0 the end, 1 a word, 2 a number, 3 to 5 the marks, 6 what is none -/
def tk_ks (B : Nat → Int) (n s : Int) : Int :=
  if n ≤ s then 0 else if tk_lt (B s.toNat) = true then (if tk_le B n s - s ≤ 8 then 1 else 6) else if tk_dg (B s.toNat) = true then (if tk_de B n s - s ≤ 3 then 2 else 6)
  else if B s.toNat = 59 then 3 else if B s.toNat = 40 then 4 else if B s.toNat = 41 then 5 else 6
def tk_kd (B : Nat → Int) (n p : Int) : Int := tk_ks B n (tk_st B n p)
def tk_ns (B : Nat → Int) (n s : Int) : Int :=
  if n ≤ s then s else if tk_lt (B s.toNat) = true then tk_le B n s else if tk_dg (B s.toNat) = true then tk_de B n s else s + 1
def tk_nx (B : Nat → Int) (n p : Int) : Int := tk_ns B n (tk_st B n p)
def tk_lw (B : Nat → Int) (n p : Int) : Int := tk_w8 B n (tk_st B n p) 0
def tk_sw (B : Nat → Int) (n p : Int) : Int := tk_w5 B n (tk_st B n p) 0
def tk_nb (B : Nat → Int) (n p : Int) : Int := tk_nu B n (tk_st B n p) 0
theorem tk_ns_b {B : Nat → Int} {n s : Int} (h0 : 0 ≤ s) (h1 : s ≤ n) : s ≤ tk_ns B n s ∧ tk_ns B n s ≤ n ∧ (s < n → s < tk_ns B n s) := by
  unfold tk_ns
  split
  · omega
  · rename_i hn
    split
    · rename_i hl
      have e : tk_le B n s = tk_le B n (s + 1) := tk_en_s h0 (by omega) hl
      have := @tk_en_b tk_lt B n (s + 1) (by omega) (by omega)
      rw [e]
      unfold tk_le
      omega
    · split
      · rename_i hl
        have e : tk_de B n s = tk_de B n (s + 1) := tk_en_s h0 (by omega) hl
        have := @tk_en_b tk_dg B n (s + 1) (by omega) (by omega)
        rw [e]
        unfold tk_de
        omega
      · omega
theorem tk_st_b {B : Nat → Int} {n p : Int} (h0 : 0 ≤ p) (h1 : p ≤ n) : p ≤ tk_st B n p ∧ tk_st B n p ≤ n := tk_en_b h0 h1
theorem tk_nx_b {B : Nat → Int} {n p : Int} (h0 : 0 ≤ p) (h1 : p ≤ n) : p ≤ tk_nx B n p ∧ tk_nx B n p ≤ n ∧ (tk_kd B n p ≠ 0 → p < tk_nx B n p) := by
  have hs := @tk_st_b B n p h0 h1
  have hn := @tk_ns_b B n (tk_st B n p) (by omega) hs.2
  refine ⟨?_, hn.2.1, fun hk => ?_⟩
  · show p ≤ tk_ns B n (tk_st B n p)
    omega
  · show p < tk_ns B n (tk_st B n p)
    have : tk_st B n p < n := by
      apply Int.not_le.mp
      intro hc
      apply hk
      show tk_ks B n (tk_st B n p) = 0
      unfold tk_ks
      rw [if_pos hc]
    have := hn.2.2 this
    omega
theorem tk_kd_b (B : Nat → Int) (n p : Int) : 0 ≤ tk_kd B n p ∧ tk_kd B n p ≤ 6 := by
  unfold tk_kd tk_ks
  repeat' split
  all_goals omega
/-! a word's letters, eight bits each and five bits each, tell the same -/
def tk_g5 : Nat → Int → Int
  | 0, _ => 0
  | f + 1, x => if x ≤ 0 then 0 else tk_g5 f (x / 256) * 32 + (x % 256 - 96)
def tk_g8 : Nat → Int → Int
  | 0, _ => 0
  | f + 1, x => if x ≤ 0 then 0 else tk_g8 f (x / 32) * 256 + (x % 32 + 96)
/-- a and b are the same letters, at most f -/
def tk_sm (f : Nat) (a b : Int) : Prop := 0 ≤ a ∧ 0 ≤ b ∧ (a = 0 ↔ b = 0) ∧ (∀ g, f ≤ g → tk_g5 g a = b ∧ tk_g8 g b = a)
theorem tk_sm0 : tk_sm 0 0 0 := ⟨by omega, by omega, Iff.rfl, fun g _ => by cases g <;> exact ⟨rfl, rfl⟩⟩
theorem tk_sms {f : Nat} {a b x : Int} (h : tk_sm f a b) (hx : 97 ≤ x ∧ x ≤ 122) : tk_sm (f + 1) (a * 256 + (x - 0)) (b * 32 + (x - 96)) := by
  obtain ⟨h1, h2, h3, h4⟩ := h
  refine ⟨by omega, by omega, by omega, fun g hg => ?_⟩
  obtain ⟨k, rfl⟩ : ∃ k, g = k + 1 := ⟨g - 1, by omega⟩
  have h5 := h4 k (by omega)
  constructor
  · show (if a * 256 + (x - 0) ≤ 0 then 0 else tk_g5 k ((a * 256 + (x - 0)) / 256) * 32 + ((a * 256 + (x - 0)) % 256 - 96)) = _
    rw [if_neg (by omega), show (a * 256 + (x - 0)) / 256 = a by omega, show (a * 256 + (x - 0)) % 256 = x by omega, h5.1]
  · show (if b * 32 + (x - 96) ≤ 0 then 0 else tk_g8 k ((b * 32 + (x - 96)) / 32) * 256 + ((b * 32 + (x - 96)) % 32 + 96)) = _
    rw [if_neg (by omega), show (b * 32 + (x - 96)) / 32 = b by omega, show (b * 32 + (x - 96)) % 32 = x - 96 by omega, h5.2]
    omega
theorem tk_ltb {x : Int} (h : tk_lt x = true) : 97 ≤ x ∧ x ≤ 122 := by
  unfold tk_lt at h
  rw [Bool.and_eq_true] at h
  exact ⟨of_decide_eq_true h.1, of_decide_eq_true h.2⟩
theorem tk_smg {B : Nat → Int} : ∀ (f p k : Nat) (a b : Int), tk_sm k a b → tk_sm (k + (tk_go tk_lt B f p - p)) (tk_vg tk_lt B 256 0 f p a) (tk_vg tk_lt B 32 96 f p b)
  | 0, p, k, a, b, h => by
    show tk_sm (k + (p - p)) a b
    rw [Nat.sub_self, Nat.add_zero]; exact h
  | f + 1, p, k, a, b, h => by
    unfold tk_go tk_vg
    split
    · rename_i hl
      have h2 := tk_smg (B := B) f (p + 1) (k + 1) _ _ (tk_sms h (tk_ltb hl))
      have := @tk_go_b tk_lt B f (p + 1)
      rwa [show k + 1 + (tk_go tk_lt B f (p + 1) - (p + 1)) = k + (tk_go tk_lt B f (p + 1) - p) by omega] at h2
    · rw [Nat.sub_self, Nat.add_zero]; exact h
theorem tk_sm8 {B : Nat → Int} {n p : Int} (h0 : 0 ≤ p) (h1 : p ≤ n) (hk : tk_kd B n p = 1) : tk_sm 8 (tk_lw B n p) (tk_sw B n p) := by
  have hs := @tk_st_b B n p h0 h1
  have hb : tk_le B n (tk_st B n p) - tk_st B n p ≤ 8 := by
    unfold tk_kd tk_ks at hk
    (repeat' split at hk) <;> omega
  have h := tk_smg (B := B) (n - tk_st B n p).toNat (tk_st B n p).toNat 0 0 0 tk_sm0
  obtain ⟨a1, a2, a3, a4⟩ := h
  have hb2 : (tk_go tk_lt B (n - tk_st B n p).toNat (tk_st B n p).toNat : Int) = tk_le B n (tk_st B n p) := rfl
  refine ⟨a1, a2, a3, fun g hg => a4 g ?_⟩
  omega
theorem tk_sm_eq {f g : Nat} {a b a2 b2 : Int} (h : tk_sm f a b) (h2 : tk_sm g a2 b2) : a = a2 ↔ b = b2 := by
  constructor
  · intro e
    have e1 := (h.2.2.2 (f + g) (by omega)).1
    have e2 := (h2.2.2.2 (f + g) (by omega)).1
    rw [← e1, ← e2, e]
  · intro e
    have e1 := (h.2.2.2 (f + g) (by omega)).2
    have e2 := (h2.2.2.2 (f + g) (by omega)).2
    rw [← e1, ← e2, e]
/-! what a loop that reads a run of bytes keeps: s its begin, a where it is, v the value so far -/
def tk_I (P : Int → Bool) (B : Nat → Int) (m z K c n s a v : Int) : Prop :=
  0 ≤ s ∧ s ≤ a ∧ a ≤ n ∧ tk_en P B n a = tk_en P B n s ∧ (a - s ≤ K → tk_va P B m z n a v = tk_va P B m z n s 0 ∧ 0 ≤ v ∧ ∃ k : Nat, (k : Int) = a - s ∧ c * v < m ^ k)
theorem tk_I0 {P : Int → Bool} {B : Nat → Int} {m z K c n s a v : Int} (h0 : 0 ≤ s) (h1 : s ≤ n) (ha : a = s) (hv : v = 0) : tk_I P B m z K c n s a v := by
  subst ha hv
  refine ⟨h0, Int.le_refl _, h1, rfl, fun _ => ⟨rfl, Int.le_refl _, 0, by omega, ?_⟩⟩
  rw [Int.mul_zero, Int.pow_zero]
  decide
theorem tk_Is {P : Int → Bool} {B : Nat → Int} {m z K c n s a v a2 v2 x : Int} {q : Nat} (M : Int) (N : Nat) (hN : (N : Int) = K - 1) (hM : m ^ N = M) (hm : 1 ≤ m) (hc : 0 ≤ c) (I : tk_I P B m z K c n s a v) (hn : a < n) (ha : a2 = a + 1) (hq : a = (q : Int)) (hx : B q = x) (hP : P x = true) (hb : 0 ≤ x - z ∧ c * (x - z) < m) (hv : 0 ≤ v → c * v < M → v2 = v * m + (x - z)) : tk_I P B m z K c n s a2 v2 := by
  obtain ⟨h0, h1, h2, h3, h4⟩ := I
  subst ha
  have e : a.toNat = q := by omega
  have hPq : P (B a.toNat) = true := by rw [e, hx]; exact hP
  refine ⟨h0, by omega, by omega, ?_, fun hK => ?_⟩
  · rw [← h3]; exact (tk_en_s (by omega) hn hPq).symm
  · obtain ⟨g1, g2, k, g3, g4⟩ := h4 (by omega)
    have hk : m ^ k ≤ M := by
      rw [← hM]
      have hk2 : k ≤ N := by omega
      obtain ⟨t, rfl⟩ := Nat.exists_eq_add_of_le hk2
      rw [Int.pow_add]
      have p1 : 0 ≤ m ^ k := Int.pow_nonneg (by omega)
      have p2 : 1 ≤ m ^ t := by
        have : ∀ t : Nat, 1 ≤ m ^ t := fun t => by
          induction t with
          | zero => rw [Int.pow_zero]; exact Int.le_refl _
          | succ t ih =>
            rw [Int.pow_succ]
            have := Int.mul_le_mul ih hm (by decide) (by omega)
            omega
        exact this t
      have := Int.mul_le_mul_of_nonneg_left p2 p1
      omega
    have hv2 := hv g2 (by omega)
    refine ⟨?_, ?_, k + 1, by omega, ?_⟩
    · rw [← g1, tk_va_s (by omega) hn hPq, e, hx, hv2]
    · rw [hv2]
      have := Int.mul_nonneg g2 (show 0 ≤ m by omega)
      omega
    · rw [hv2, Int.pow_succ, Int.mul_add, ← Int.mul_assoc]
      have g5 : c * v ≤ m ^ k - 1 := by omega
      have g6 := Int.mul_le_mul_of_nonneg_right g5 (show 0 ≤ m by omega)
      rw [Int.sub_mul, Int.one_mul] at g6
      omega
theorem tk_Ie {P : Int → Bool} {B : Nat → Int} {m z K c n s a v : Int} (I : tk_I P B m z K c n s a v) (h : n ≤ a ∨ P (B a.toNat) = false) : tk_en P B n s = a ∧ (a - s ≤ K → tk_va P B m z n s 0 = v) := by
  obtain ⟨h0, h1, h2, h3, h4⟩ := I
  refine ⟨?_, fun hK => ?_⟩
  · rw [← h3]; exact tk_en_e (by omega) h
  · rw [← (h4 hK).1]; exact tk_va_e (by omega) h
theorem tk_bl_t {x : Int} (h : x = 32 ∨ x = 10) : tk_bl x = true := by
  unfold tk_bl; rw [Bool.or_eq_true]
  rcases h with h | h
  · exact Or.inl (decide_eq_true h)
  · exact Or.inr (decide_eq_true h)
theorem tk_bl_f {x : Int} (h : x ≠ 32 ∧ x ≠ 10) : tk_bl x = false := by
  unfold tk_bl; rw [decide_eq_false h.1, decide_eq_false h.2]; rfl
theorem tk_lt_t {x : Int} (h : 97 ≤ x ∧ x ≤ 122) : tk_lt x = true := by
  unfold tk_lt; rw [decide_eq_true h.1, decide_eq_true h.2]; rfl
theorem tk_lt_f {x : Int} (h : x < 97 ∨ 122 < x) : tk_lt x = false := by
  unfold tk_lt
  rcases h with h | h
  · rw [decide_eq_false (by omega)]; rfl
  · rw [decide_eq_false (show ¬ x ≤ 122 by omega), Bool.and_false]
theorem tk_dg_t {x : Int} (h : 48 ≤ x ∧ x ≤ 57) : tk_dg x = true := by
  unfold tk_dg; rw [decide_eq_true h.1, decide_eq_true h.2]; rfl
theorem tk_dg_f {x : Int} (h : x < 48 ∨ 57 < x) : tk_dg x = false := by
  unfold tk_dg
  rcases h with h | h
  · rw [decide_eq_false (by omega)]; rfl
  · rw [decide_eq_false (show ¬ x ≤ 57 by omega), Bool.and_false]
/-! the words that are known, by their numbers in the class: 1 to 20, and 21 for any other -/
def tk_ix : List Int → Int → Int → Int
  | [], _, _ => 21
  | k :: l, i, x => if x = k then i else tk_ix l (i + 1) x
def tk_K8 : List Int := [427071139698, 109299962373989, 1818324581, 6513010, 1651467385, 6447460, 131294707347319, 422541812584, 483006768997, 125780121055851, 431198331257, 1936744814, 435644818802, 465557354085, 1650549611, 2002872692, 1937007984, 129117126091108, 1937203568, 125780002955636]
def tk_K5 : List Int := [3650034, 109099237, 394693, 3122, 81049, 2084, 781652471, 2150504, 17484005, 609992267, 4370489, 639022, 5722290, 12748485, 66667, 754996, 643248, 719731748, 646192, 609752116]
def tk_wd (x : Int) : Int := tk_ix tk_K8 1 x
def tk_wd5 (x : Int) : Int := tk_ix tk_K5 1 x
def tk_l8 : List Int → Int → Int
  | [], a => a
  | x :: l, a => tk_l8 l (a * 256 + (x - 0))
def tk_l5 : List Int → Int → Int
  | [], a => a
  | x :: l, a => tk_l5 l (a * 32 + (x - 96))
theorem tk_sml : ∀ (l : List Int) (k : Nat) (a b : Int), l.all (fun x => decide (97 ≤ x) && decide (x ≤ 122)) = true → tk_sm k a b → tk_sm (k + l.length) (tk_l8 l a) (tk_l5 l b)
  | [], _, _, _, _, h => h
  | x :: l, k, a, b, hl, h => by
    rw [List.all_cons, Bool.and_eq_true, Bool.and_eq_true] at hl
    have h2 := tk_sml l (k + 1) _ _ hl.2 (tk_sms h ⟨of_decide_eq_true hl.1.1, of_decide_eq_true hl.1.2⟩)
    rwa [show k + 1 + l.length = k + (x :: l).length by rw [List.length_cons]; omega] at h2
def tk_KL : List (List Int) := [[99, 111, 108, 111, 114], [99, 104, 97, 110, 103, 101], [108, 97, 110, 101], [99, 97, 114], [98, 111, 100, 121], [98, 97, 100], [119, 105, 110, 100, 111, 119], [98, 97, 116, 99, 104], [112, 117, 114, 103, 101], [114, 101, 119, 111, 114, 107], [100, 101, 108, 97, 121], [115, 112, 97, 110], [101, 110, 116, 101, 114], [108, 101, 97, 118, 101], [98, 97, 99, 107], [119, 97, 105, 116], [115, 116, 101, 112], [117, 110, 108, 111, 97, 100], [115, 119, 97, 112], [114, 101, 112, 101, 97, 116]]
theorem tk_K8e : tk_K8 = tk_KL.map (fun l => tk_l8 l 0) := by decide +kernel
theorem tk_K5e : tk_K5 = tk_KL.map (fun l => tk_l5 l 0) := by decide +kernel
theorem tk_KLa : tk_KL.all (fun l => l.all (fun x => decide (97 ≤ x) && decide (x ≤ 122))) = true := by decide +kernel
theorem tk_ixe {a b : Int} {f : Nat} (h : tk_sm f a b) : ∀ (L : List (List Int)) (i : Int), L.all (fun l => l.all (fun x => decide (97 ≤ x) && decide (x ≤ 122))) = true → tk_ix (L.map (fun l => tk_l8 l 0)) i a = tk_ix (L.map (fun l => tk_l5 l 0)) i b
  | [], _, _ => rfl
  | l :: L, i, hL => by
    rw [List.all_cons, Bool.and_eq_true] at hL
    have e := tk_sm_eq h (tk_sml l 0 0 0 hL.1 tk_sm0)
    show (if a = tk_l8 l 0 then i else tk_ix (L.map (fun l => tk_l8 l 0)) (i + 1) a) = (if b = tk_l5 l 0 then i else tk_ix (L.map (fun l => tk_l5 l 0)) (i + 1) b)
    by_cases ha : a = tk_l8 l 0
    · rw [if_pos ha, if_pos (e.mp ha)]
    · rw [if_neg ha, if_neg (fun hb => ha (e.mpr hb)), tk_ixe h L (i + 1) hL.2]
theorem tk_wde {a b : Int} {f : Nat} (h : tk_sm f a b) : tk_wd a = tk_wd5 b := by
  unfold tk_wd tk_wd5
  rw [tk_K8e, tk_K5e]
  exact tk_ixe h tk_KL 1 tk_KLa
theorem tk_ixb : ∀ (l : List Int) (i x : Int), 1 ≤ i → i + l.length ≤ 21 → 1 ≤ tk_ix l i x ∧ tk_ix l i x ≤ 21
  | [], _, _, _, _ => by show (1 : Int) ≤ 21 ∧ (21 : Int) ≤ 21; omega
  | k :: l, i, x, h1, h2 => by
    rw [List.length_cons] at h2
    show 1 ≤ (if x = k then i else tk_ix l (i + 1) x) ∧ (if x = k then i else tk_ix l (i + 1) x) ≤ 21
    split
    · omega
    · exact tk_ixb l (i + 1) x (by omega) (by omega)
theorem tk_wdb (x : Int) : 1 ≤ tk_wd x ∧ tk_wd x ≤ 21 := tk_ixb tk_K8 1 x (by decide) (by decide)
/-! what the loops' ends and the kinds of a token tell -/
theorem tk_stb {B : Nat → Int} {n a a2 p x : Int} {q : Nat} (X : tk_st B n a = tk_st B n p) (h0 : 0 ≤ a) (hn : a < n) (ha : a2 = a + 1) (hq : a = (q : Int)) (hx : B q = x) (h : x = 32 ∨ x = 10) : tk_st B n a2 = tk_st B n p := by
  subst ha
  rw [← X]
  exact (tk_en_s h0 hn (by rw [show a.toNat = q by omega, hx]; exact tk_bl_t h)).symm
theorem tk_ste1 {B : Nat → Int} {n a p : Int} (X : tk_st B n a = tk_st B n p) (h0 : 0 ≤ a) (h : n ≤ a) : tk_st B n p = a := by
  rw [← X]; exact tk_en_e h0 (Or.inl h)
theorem tk_ste2 {B : Nat → Int} {n a p x : Int} {q : Nat} (X : tk_st B n a = tk_st B n p) (h0 : 0 ≤ a) (hq : a = (q : Int)) (hx : B q = x) (h : x ≠ 32 ∧ x ≠ 10) : tk_st B n p = a := by
  rw [← X]; exact tk_en_e h0 (Or.inr (by rw [show a.toNat = q by omega, hx]; exact tk_bl_f h))
theorem tk_Ie2 {P : Int → Bool} {B : Nat → Int} {m z K c n s a v x : Int} {q : Nat} (I : tk_I P B m z K c n s a v) (hq : a = (q : Int)) (hx : B q = x) (h : P x = false) : tk_en P B n s = a ∧ (a - s ≤ K → tk_va P B m z n s 0 = v) :=
  tk_Ie I (Or.inr (by rw [show a.toNat = q by omega, hx]; exact h))
theorem tk_at0 {B : Nat → Int} {n p s : Int} (e : tk_st B n p = s) (h : n ≤ s) : tk_kd B n p = 0 ∧ tk_nx B n p = s := by
  unfold tk_kd tk_nx tk_ks tk_ns
  rw [e, if_pos h, if_pos h]
  exact ⟨rfl, rfl⟩
theorem tk_atW {B : Nat → Int} {n p s x : Int} {q : Nat} (e : tk_st B n p = s) (h : s < n) (hq : s = (q : Int)) (hx : B q = x) (hl : 97 ≤ x ∧ x ≤ 122) : tk_nx B n p = tk_le B n s ∧ (tk_le B n s - s ≤ 8 → tk_kd B n p = 1) ∧ (8 < tk_le B n s - s → tk_kd B n p = 6) ∧ tk_lw B n p = tk_w8 B n s 0 ∧ tk_sw B n p = tk_w5 B n s 0 := by
  have hb : tk_lt (B s.toNat) = true := by rw [show s.toNat = q by omega, hx]; exact tk_lt_t hl
  unfold tk_kd tk_nx tk_ks tk_ns tk_lw tk_sw
  rw [e]
  have h1 : ¬ n ≤ s := by omega
  repeat rw [if_neg h1]
  repeat rw [if_pos hb]
  refine ⟨rfl, fun h8 => if_pos h8, fun h8 => if_neg (by omega), rfl, rfl⟩
theorem tk_atD {B : Nat → Int} {n p s x : Int} {q : Nat} (e : tk_st B n p = s) (h : s < n) (hq : s = (q : Int)) (hx : B q = x) (hl : 48 ≤ x ∧ x ≤ 57) : tk_nx B n p = tk_de B n s ∧ (tk_de B n s - s ≤ 3 → tk_kd B n p = 2) ∧ (3 < tk_de B n s - s → tk_kd B n p = 6) ∧ tk_nb B n p = tk_nu B n s 0 := by
  have hb : tk_lt (B s.toNat) = false := by rw [show s.toNat = q by omega, hx]; exact tk_lt_f (by omega)
  have hd : tk_dg (B s.toNat) = true := by rw [show s.toNat = q by omega, hx]; exact tk_dg_t hl
  unfold tk_kd tk_nx tk_ks tk_ns tk_nb
  rw [e]
  have h1 : ¬ n ≤ s := by omega
  have hb2 : ¬ tk_lt (B s.toNat) = true := by rw [hb]; decide
  repeat rw [if_neg h1]
  repeat rw [if_neg hb2]
  repeat rw [if_pos hd]
  refine ⟨rfl, fun h8 => if_pos h8, fun h8 => if_neg (by omega), rfl⟩
theorem tk_atM {B : Nat → Int} {n p s x : Int} {q : Nat} (e : tk_st B n p = s) (h : s < n) (hq : s = (q : Int)) (hx : B q = x) (hl : x < 97 ∨ 122 < x) (hd : x < 48 ∨ 57 < x) : tk_nx B n p = s + 1 ∧ (x = 59 → tk_kd B n p = 3) ∧ (x = 40 → tk_kd B n p = 4) ∧ (x = 41 → tk_kd B n p = 5) ∧ (x ≠ 59 → x ≠ 40 → x ≠ 41 → tk_kd B n p = 6) := by
  have hb : tk_lt (B s.toNat) = false := by rw [show s.toNat = q by omega, hx]; exact tk_lt_f hl
  have hd : tk_dg (B s.toNat) = false := by rw [show s.toNat = q by omega, hx]; exact tk_dg_f hd
  unfold tk_kd tk_nx tk_ks tk_ns
  rw [e]
  have h1 : ¬ n ≤ s := by omega
  have hb2 : ¬ tk_lt (B s.toNat) = true := by rw [hb]; decide
  have hd2 : ¬ tk_dg (B s.toNat) = true := by rw [hd]; decide
  repeat rw [if_neg h1]
  repeat rw [if_neg hb2]
  repeat rw [if_neg hd2]
  rw [show s.toNat = q by omega, hx]
  refine ⟨rfl, fun h1 => if_pos h1, fun h1 => ?_, fun h1 => ?_, fun h1 h2 h3 => ?_⟩
  · rw [if_neg (by omega), if_pos h1]
  · rw [if_neg (by omega), if_neg (by omega), if_pos h1]
  · rw [if_neg h1, if_neg h2, if_neg h3]
