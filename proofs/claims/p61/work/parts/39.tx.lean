/-! ===== the class's exchange, a pure picture (p14, p15; draft, not compiled): C the colors, B the bodies of the k that wait ===== -/
theorem bt_lt {a j : Nat} (h : a < 2 ^ j) (i : Nat) (hi : j ≤ i) : a / 2 ^ i % 2 = 0 := by
  have : 2 ^ j ≤ 2 ^ i := Nat.pow_le_pow_right (by decide) hi
  rw [Nat.div_eq_of_lt (by omega)]
theorem bt_add {a j : Nat} (h : a < 2 ^ j) (i : Nat) : (a + 2 ^ j) / 2 ^ i % 2 = if i = j then 1 else a / 2 ^ i % 2 := by
  by_cases e : i = j
  · subst e
    rw [if_pos rfl, Nat.add_div_right _ (Nat.two_pow_pos i), Nat.div_eq_of_lt h]
  · rw [if_neg e]
    by_cases hl : i < j
    · obtain ⟨d, rfl⟩ : ∃ d, j = i + 1 + d := ⟨j - i - 1, by omega⟩
      rw [show 2 ^ (i + 1 + d) = 2 ^ i * (2 * 2 ^ d) by rw [Nat.pow_add, Nat.pow_succ, Nat.mul_assoc], Nat.add_mul_div_left _ _ (Nat.two_pow_pos i)]
      omega
    · rw [bt_lt (j := j + 1) (by rw [Nat.pow_succ]; omega) i (by omega), bt_lt h i (by omega)]
/-- the jobs before n, as bits, that are of a color, suit a place and are free -/
def xk (P : Nat → Bool) : Nat → Nat
  | 0 => 0
  | n + 1 => xk P n + (if P n = true then 2 ^ n else 0)
theorem xk_lt {P : Nat → Bool} : ∀ n, xk P n < 2 ^ n
  | 0 => show 0 < 2 ^ 0 by decide
  | n + 1 => by
    have := @xk_lt P n
    show xk P n + (if P n = true then 2 ^ n else 0) < 2 ^ (n + 1)
    rw [Nat.pow_succ]
    split <;> omega
theorem xk_bit {P : Nat → Bool} (i : Nat) : ∀ n, xk P n / 2 ^ i % 2 = if i < n ∧ P i = true then 1 else 0
  | 0 => by
    rw [if_neg (by omega)]
    show 0 / 2 ^ i % 2 = 0
    rw [Nat.zero_div]
  | n + 1 => by
    have ih := @xk_bit P i n
    show (xk P n + (if P n = true then 2 ^ n else 0)) / 2 ^ i % 2 = _
    by_cases hp : P n = true
    · rw [if_pos hp, bt_add (xk_lt n)]
      by_cases e : i = n
      · subst e; rw [if_pos rfl, if_pos ⟨Nat.lt_succ_self i, hp⟩]
      · rw [if_neg e, ih]
        by_cases h2 : i < n ∧ P i = true
        · rw [if_pos h2, if_pos ⟨by omega, h2.2⟩]
        · rw [if_neg h2, if_neg (fun h3 => h2 ⟨by omega, h3.2⟩)]
    · rw [if_neg hp, Nat.add_zero, ih]
      by_cases h2 : i < n ∧ P i = true
      · rw [if_pos h2, if_pos ⟨by omega, h2.2⟩]
      · rw [if_neg h2, if_neg (fun h3 => h2 ⟨by
          have := h3.1
          by_cases e : i = n
          · subst e; exact absurd h3.2 hp
          · omega, h3.2⟩)]
theorem xk_eq {P : Nat → Bool} {n x : Nat} (hx : x < 2 ^ n) (h : ∀ i, i < n → x / 2 ^ i % 2 = if P i = true then 1 else 0) : x = xk P n := by
  have key : ∀ m, m ≤ n → x % 2 ^ m = xk P m := by
    intro m
    induction m with
    | zero => intro _; show x % 1 = 0; omega
    | succ m ih =>
      intro hm
      have h1 := ih (by omega)
      have h2 := h m (by omega)
      have h3 : x % 2 ^ (m + 1) = x % 2 ^ m + 2 ^ m * (x / 2 ^ m % 2) := by rw [Nat.pow_succ]; exact Nat.mod_mul
      show x % 2 ^ (m + 1) = xk P m + (if P m = true then 2 ^ m else 0)
      rw [h3, h1, h2]
      split <;> simp
  rw [← key n (Nat.le_refl n), Nat.mod_eq_of_lt hx]
/-- the lowest bit's place -/
def xz (n : Nat) : Nat := if n % 2 = 1 then 0 else if n / 2 % 2 = 1 then 1 else if n / 4 % 2 = 1 then 2 else if n / 8 % 2 = 1 then 3 else if n / 16 % 2 = 1 then 4 else if n / 32 % 2 = 1 then 5 else if n / 64 % 2 = 1 then 6 else if n / 128 % 2 = 1 then 7 else if n / 256 % 2 = 1 then 8 else if n / 512 % 2 = 1 then 9 else if n / 1024 % 2 = 1 then 10 else 11
theorem xz_ok {n : Nat} (h : n < 4096) (h0 : n ≠ 0) : xz n < 12 ∧ n / 2 ^ xz n % 2 = 1 ∧ ∀ i, i < xz n → n / 2 ^ i % 2 = 0 := by
  have key : ∀ a, a < 64 → ∀ b, b < 64 → 64 * a + b = 0 ∨ (xz (64 * a + b) < 12 ∧ (64 * a + b) / 2 ^ xz (64 * a + b) % 2 = 1 ∧ ∀ i, i < xz (64 * a + b) → (64 * a + b) / 2 ^ i % 2 = 0) := by decide +kernel
  have := key (n / 64) (by omega) (n % 64) (by omega)
  rw [show 64 * (n / 64) + n % 64 = n by omega] at this
  exact this.resolve_left h0
theorem xz_eq {n j : Nat} (h : n < 4096) (hj : n / 2 ^ j % 2 = 1) (hl : ∀ i, i < j → n / 2 ^ i % 2 = 0) : xz n = j := by
  have h0 : n ≠ 0 := fun e => by rw [e, Nat.zero_div] at hj; omega
  obtain ⟨a, b, c⟩ := xz_ok h h0
  rcases Nat.lt_trichotomy (xz n) j with h1 | h1 | h1
  · have := hl _ h1; omega
  · exact h1
  · have := c _ h1; omega
/-- suits: a job of color c with the body of place p -/
def xsu (C B : Nat → Int) (p : Nat) (c : Int) (j : Nat) : Bool := decide (C j = c) && decide (B j = B p)
def xb (C B : Nat → Int) (p : Nat) (c : Int) (u j : Nat) : Bool := xsu C B p c j && decide (u / 2 ^ j % 2 = 0)
/-- the first job of a color at a place, -1 if there is none -/
def xj (C B : Nat → Int) (k : Nat) (sp : Int) (p : Nat) (c : Int) (u : Nat) : Int :=
  if xk (xb C B p c u) k = 0 then -1 else if (xz (xk (xb C B p c u) k) : Int) - p ≤ sp ∧ (p : Int) - xz (xk (xb C B p c u) k) ≤ sp then (xz (xk (xb C B p c u) k) : Int) else -1
theorem xs_ok {C B : Nat → Int} {p j : Nat} {c : Int} (h : xsu C B p c j = true) : C j = c ∧ B j = B p := by
  unfold xsu at h
  rw [Bool.and_eq_true, decide_eq_true_eq, decide_eq_true_eq] at h
  exact h
theorem xs_t {C B : Nat → Int} {p j : Nat} {c : Int} (h1 : C j = c) (h2 : B j = B p) : xsu C B p c j = true := by
  unfold xsu
  rw [Bool.and_eq_true, decide_eq_true_eq, decide_eq_true_eq]
  exact ⟨h1, h2⟩
theorem xj_ok {C B : Nat → Int} {k p u : Nat} {sp c : Int} (hk : k ≤ 12) (h : xj C B k sp p c u ≠ -1) : ∃ j : Nat, xj C B k sp p c u = (j : Int) ∧ j < k ∧ C j = c ∧ B j = B p ∧ u / 2 ^ j % 2 = 0 := by
  unfold xj at h ⊢
  have hlt : xk (xb C B p c u) k < 4096 := Nat.lt_of_lt_of_le (xk_lt k) (Nat.pow_le_pow_right (by decide) hk)
  by_cases h0 : xk (xb C B p c u) k = 0
  · rw [if_pos h0] at h; exact absurd rfl h
  · rw [if_neg h0] at h ⊢
    obtain ⟨_, hz, _⟩ := xz_ok hlt h0
    rw [xk_bit] at hz
    by_cases h1 : (xz (xk (xb C B p c u) k) : Int) - p ≤ sp ∧ (p : Int) - xz (xk (xb C B p c u) k) ≤ sp
    · rw [if_pos h1] at h ⊢
      by_cases h2 : xz (xk (xb C B p c u) k) < k ∧ xb C B p c u (xz (xk (xb C B p c u) k)) = true
      · have h3 := h2.2
        unfold xb at h3
        rw [Bool.and_eq_true, decide_eq_true_eq] at h3
        have h4 := xs_ok h3.1
        exact ⟨_, rfl, h2.1, h4.1, h4.2, h3.2⟩
      · rw [if_neg h2] at hz; omega
    · rw [if_neg h1] at h; exact absurd rfl h
/-- the first of all, where all before it are taken: the car's own job -/
theorem xj_own {C B : Nat → Int} {k p : Nat} {sp : Int} (hk : k ≤ 12) (hp : p < k) (hs : 0 ≤ sp) : xj C B k sp p (C p) (2 ^ p - 1) = (p : Int) := by
  have hlt : xk (xb C B p (C p) (2 ^ p - 1)) k < 4096 := Nat.lt_of_lt_of_le (xk_lt k) (Nat.pow_le_pow_right (by decide) hk)
  have pre : ∀ p, p < 12 → (2 ^ p - 1) / 2 ^ p % 2 = 0 ∧ ∀ i, i < p → (2 ^ p - 1) / 2 ^ i % 2 = 1 := by decide
  have hpre := pre p (by omega)
  have hz : xz (xk (xb C B p (C p) (2 ^ p - 1)) k) = p := by
    apply xz_eq hlt
    · have hb : xb C B p (C p) (2 ^ p - 1) p = true := by
        unfold xb
        rw [Bool.and_eq_true, decide_eq_true_eq]
        exact ⟨xs_t rfl rfl, hpre.1⟩
      rw [xk_bit, if_pos ⟨hp, hb⟩]
    · intro i hi
      rw [xk_bit, if_neg (fun h => ?_)]
      have h2 := h.2
      unfold xb at h2
      rw [Bool.and_eq_true, decide_eq_true_eq] at h2
      have := hpre.2 i hi
      omega
  have h0 : xk (xb C B p (C p) (2 ^ p - 1)) k ≠ 0 := fun e => by
    have h1 := @xk_bit (xb C B p (C p) (2 ^ p - 1)) p k
    rw [e, Nat.zero_div, if_pos ⟨hp, by unfold xb; rw [Bool.and_eq_true, decide_eq_true_eq]; exact ⟨xs_t rfl rfl, hpre.1⟩⟩] at h1
    omega
  unfold xj
  rw [if_neg h0, hz, if_pos ⟨by omega, by omega⟩]
/-- the least of five, 15 at most -/
def xm (f : Nat → Nat) : Nat := min (min (min (min (min 15 (f 0)) (f 1)) (f 2)) (f 3)) (f 4)
theorem xm_le (f : Nat → Nat) : xm f ≤ 15 ∧ ∀ c, c < 5 → xm f ≤ f c := by
  unfold xm
  refine ⟨by omega, fun c hc => ?_⟩
  rcases (show c = 0 ∨ c = 1 ∨ c = 2 ∨ c = 3 ∨ c = 4 by omega) with rfl | rfl | rfl | rfl | rfl <;> omega
theorem xm_at {f : Nat → Nat} (h : xm f < 15) : ∃ c, c < 5 ∧ f c = xm f := by
  unfold xm at h ⊢
  by_cases h0 : f 0 = min (min (min (min (min 15 (f 0)) (f 1)) (f 2)) (f 3)) (f 4)
  · exact ⟨0, by decide, h0⟩
  by_cases h1 : f 1 = min (min (min (min (min 15 (f 0)) (f 1)) (f 2)) (f 3)) (f 4)
  · exact ⟨1, by decide, h1⟩
  by_cases h2 : f 2 = min (min (min (min (min 15 (f 0)) (f 1)) (f 2)) (f 3)) (f 4)
  · exact ⟨2, by decide, h2⟩
  by_cases h3 : f 3 = min (min (min (min (min 15 (f 0)) (f 1)) (f 2)) (f 3)) (f 4)
  · exact ⟨3, by decide, h3⟩
  · exact ⟨4, by decide, by omega⟩
/-- the fewest changes from a place on, r places before the end, by the color there -/
def xw (C B : Nat → Int) (k : Nat) (sp : Int) : Nat → Nat → Nat → Nat
  | 0, _, _ => 0
  | r + 1, u, c =>
    if xj C B k sp (k - (r + 1)) (c : Int) u = -1 then 15
    else min (xw C B k sp r (u ||| 2 ^ (xj C B k sp (k - (r + 1)) (c : Int) u).toNat) c) (xm (xw C B k sp r (u ||| 2 ^ (xj C B k sp (k - (r + 1)) (c : Int) u).toNat)) + 1)
theorem xw_le {C B : Nat → Int} {k : Nat} {sp : Int} : ∀ r u c, xw C B k sp r u c ≤ 15
  | 0, _, _ => Nat.zero_le _
  | r + 1, u, c => by
    unfold xw
    split
    · exact Nat.le_refl _
    · have := @xw_le C B k sp r (u ||| 2 ^ (xj C B k sp (k - (r + 1)) (c : Int) u).toNat) c
      omega
/-- each car's own job can be had: few changes are enough -/
theorem xw_own {C B : Nat → Int} {k : Nat} {sp : Int} (hk : k ≤ 12) (hs : 0 ≤ sp) (hC : ∀ j, j < k → 0 ≤ C j ∧ C j ≤ 4) : ∀ r, r ≤ k → xm (xw C B k sp r (2 ^ (k - r) - 1)) ≤ r
  | 0, _ => by
    have := (xm_le (xw C B k sp 0 (2 ^ (k - 0) - 1))).2 0 (by decide)
    exact this
  | r + 1, hr => by
    have ih := xw_own (B := B) hk hs hC r (by omega)
    have hc := hC (k - (r + 1)) (by omega)
    have hown := xj_own (C := C) (B := B) (sp := sp) hk (p := k - (r + 1)) (by omega) hs
    have hm := (xm_le (xw C B k sp (r + 1) (2 ^ (k - (r + 1)) - 1))).2 (C (k - (r + 1))).toNat (by omega)
    have hw : xw C B k sp (r + 1) (2 ^ (k - (r + 1)) - 1) (C (k - (r + 1))).toNat ≤ r + 1 := by
      unfold xw
      rw [show (((C (k - (r + 1))).toNat : Nat) : Int) = C (k - (r + 1)) by omega, hown, if_neg (by omega), show ((((k - (r + 1) : Nat) : Int)).toNat) = k - (r + 1) by omega]
      have ho := (pre_or (i := k - (r + 1)) (by omega)).2
      rw [ho, show k - (r + 1) + 1 = k - r by omega]
      omega
    omega
/-- what a change of color costs at a place: a the color before, -1 if there is none -/
def xc (a : Int) (c : Nat) : Nat := if a = -1 ∨ a = (c : Int) then 0 else 1
/-- some color is as good as is due -/
def XE (f : Nat → Nat) (a v : Int) : Prop := v ≤ 14 ∧ ∃ c, c < 5 ∧ (f c : Int) + xc a c = v
/-- the next place's colors are as good as is due then -/
theorem XE.next {C B : Nat → Int} {k u c : Nat} {sp v : Int} {r : Nat} (h : (xw C B k sp (r + 1) u c : Int) = v) (hv : v ≤ 14) :
    xj C B k sp (k - (r + 1)) (c : Int) u ≠ -1 ∧ (c < 5 → XE (xw C B k sp r (u ||| 2 ^ (xj C B k sp (k - (r + 1)) (c : Int) u).toNat)) (c : Int) v) := by
  unfold xw at h
  by_cases e : xj C B k sp (k - (r + 1)) (c : Int) u = -1
  · rw [if_pos e] at h; omega
  · rw [if_neg e] at h
    refine ⟨e, fun hc => ⟨hv, ?_⟩⟩
    generalize hf : xw C B k sp r (u ||| 2 ^ (xj C B k sp (k - (r + 1)) (c : Int) u).toNat) = f at h ⊢
    have hl := xm_le f
    by_cases h1 : f c ≤ xm f + 1
    · refine ⟨c, hc, ?_⟩
      unfold xc
      rw [if_pos (Or.inr rfl)]
      omega
    · obtain ⟨c2, hc2, e2⟩ := xm_at (f := f) (by omega)
      refine ⟨c2, hc2, ?_⟩
      unfold xc
      rw [if_neg (fun h3 => by
        rcases h3 with h3 | h3
        · omega
        · have : c = c2 := by omega
          subst this
          omega)]
      omega
theorem XE.start {f : Nat → Nat} (h : xm f ≤ 14) : XE f (-1) (xm f : Int) := by
  obtain ⟨c, hc, e⟩ := xm_at (f := f) (by omega)
  refine ⟨by omega, c, hc, ?_⟩
  unfold xc
  rw [if_pos (Or.inl rfl), e]
  omega
/-! the five numbers in one -/
def xp (f : Nat → Nat) : Nat → Nat
  | 0 => 0
  | n + 1 => xp f n + f n * 16 ^ n
theorem xp_lt {f : Nat → Nat} (h : ∀ c, f c ≤ 15) : ∀ n, xp f n < 16 ^ n
  | 0 => show 0 < 16 ^ 0 by decide
  | n + 1 => by
    have := xp_lt h n
    have h2 := h n
    show xp f n + f n * 16 ^ n < 16 ^ (n + 1)
    rw [Nat.pow_succ]
    have h3 : f n * 16 ^ n ≤ 15 * 16 ^ n := Nat.mul_le_mul_right _ h2
    omega
theorem xp_at {f : Nat → Nat} (h : ∀ c, f c ≤ 15) (c : Nat) : ∀ n, c < n → xp f n / 16 ^ c % 16 = f c
  | 0, hc => absurd hc (Nat.not_lt_zero _)
  | n + 1, hc => by
    show (xp f n + f n * 16 ^ n) / 16 ^ c % 16 = f c
    by_cases e : c = n
    · subst e
      rw [Nat.add_mul_div_right _ _ (Nat.pow_pos (by decide)), Nat.div_eq_of_lt (xp_lt h c), Nat.zero_add]
      have := h c
      omega
    · have ih := xp_at h c n (by omega)
      obtain ⟨d, rfl⟩ : ∃ d, n = c + 1 + d := ⟨n - c - 1, by omega⟩
      rw [show f (c + 1 + d) * 16 ^ (c + 1 + d) = 16 ^ c * (16 * (f (c + 1 + d) * 16 ^ d)) by rw [Nat.pow_add, Nat.pow_succ]; simp only [Nat.mul_comm, Nat.mul_left_comm, Nat.mul_assoc], Nat.add_mul_div_left _ _ (Nat.pow_pos (by decide))]
      omega
/-! the cars of each kind, of the places before p (by the row D), and of the jobs that are used -/
def xn (P : Nat → Bool) : Nat → Nat
  | 0 => 0
  | n + 1 => xn P n + (if P n = true then 1 else 0)
def xq (B C : Nat → Int) (b c : Int) (j : Nat) : Bool := decide (B j = b) && decide (C j = c)
theorem xn_ms {B C : Nat → Int} {b c : Int} : ∀ n, xn (xq B C b c) n = ms_n B C b c n
  | 0 => rfl
  | n + 1 => by
    show xn (xq B C b c) n + (if xq B C b c n = true then 1 else 0) = ms_n B C b c n + (if B n = b ∧ C n = c then 1 else 0)
    rw [xn_ms n]
    unfold xq
    by_cases h : B n = b ∧ C n = c
    · rw [if_pos h, if_pos (by rw [Bool.and_eq_true, decide_eq_true_eq, decide_eq_true_eq]; exact h)]
    · rw [if_neg h, if_neg (by rw [Bool.and_eq_true, decide_eq_true_eq, decide_eq_true_eq]; exact h)]
theorem xn_add {P Q : Nat → Bool} {j : Nat} (hj : Q j = true) (hn : P j = false) (ho : ∀ i, i ≠ j → Q i = P i) : ∀ n, xn Q n = xn P n + (if j < n then 1 else 0)
  | 0 => rfl
  | n + 1 => by
    have ih := xn_add hj hn ho n
    show xn Q n + (if Q n = true then 1 else 0) = xn P n + (if P n = true then 1 else 0) + (if j < n + 1 then 1 else 0)
    by_cases e : n = j
    · subst e
      rw [ih, hj, hn, if_neg (Nat.lt_irrefl n), if_pos rfl, if_neg (by decide), if_pos (Nat.lt_succ_self n)]
    · rw [ih, ho n e]
      by_cases h : j < n
      · rw [if_pos h, if_pos (show j < n + 1 by omega)]; omega
      · rw [if_neg h, if_neg (show ¬ j < n + 1 by omega)]; omega
theorem xn_congr {P Q : Nat → Bool} : ∀ n, (∀ i, i < n → P i = Q i) → xn P n = xn Q n
  | 0, _ => rfl
  | n + 1, h => by
    show xn P n + (if P n = true then 1 else 0) = xn Q n + (if Q n = true then 1 else 0)
    rw [xn_congr n (fun i hi => h i (by omega)), h n (Nat.lt_succ_self n)]
theorem xn_full {P : Nat → Bool} : ∀ n, xn P n ≤ n ∧ (xn P n = n → ∀ i, i < n → P i = true)
  | 0 => ⟨Nat.le_refl _, fun _ i hi => absurd hi (Nat.not_lt_zero _)⟩
  | n + 1 => by
    have ih := @xn_full P n
    show xn P n + (if P n = true then 1 else 0) ≤ n + 1 ∧ (xn P n + (if P n = true then 1 else 0) = n + 1 → ∀ i, i < n + 1 → P i = true)
    by_cases h : P n = true
    · rw [if_pos h]
      refine ⟨by omega, fun e i hi => ?_⟩
      by_cases e2 : i = n
      · subst e2; exact h
      · exact ih.2 (by omega) i (by omega)
    · rw [if_neg h]
      exact ⟨by omega, fun e => absurd e (by omega)⟩
/-- the bits of a set -/
def xu (u j : Nat) : Bool := decide (u / 2 ^ j % 2 = 1)
/-- p places have jobs, those of the set u: as many of each kind -/
def XU (B C D : Nat → Int) (k p u : Nat) : Prop := u < 2 ^ k ∧ xn (xu u) k = p ∧ ∀ b c, ms_n B D b c p = xn (fun j => xu u j && xq B C b c j) k
theorem XU.zero {B C D : Nat → Int} {k : Nat} : XU B C D k 0 0 := by
  have h : ∀ n, xn (xu 0) n = 0 := fun n => by
    rw [xn_congr (Q := fun _ => false) n (fun i _ => by unfold xu; rw [Nat.zero_div]; rfl)]
    induction n with
    | zero => rfl
    | succ n ih => show xn (fun _ => false) n + (if false = true then 1 else 0) = 0; rw [ih]; rfl
  refine ⟨Nat.two_pow_pos k, h k, fun b c => ?_⟩
  have h2 : ∀ n, xn (fun j => xu 0 j && xq B C b c j) n = 0 := fun n => by
    rw [xn_congr (Q := xu 0) n (fun i _ => by unfold xu; rw [Nat.zero_div]; rfl)]
    exact h n
  rw [h2]; rfl
theorem bt_tb {x i : Nat} : x / 2 ^ i % 2 = 1 ↔ Nat.testBit x i = true := by rw [Nat.testBit_eq_decide_div_mod_eq, decide_eq_true_eq]
theorem xu_or {u j : Nat} (hu : u < 4096) (hj : j < 12) (hb : u / 2 ^ j % 2 = 0) : xu (u ||| 2 ^ j) j = true ∧ ∀ i, i ≠ j → xu (u ||| 2 ^ j) i = xu u i := by
  have hor := (bit_or hu hj hb).1
  have key : ∀ i, (u ||| 2 ^ j) / 2 ^ i % 2 = 1 ↔ (u / 2 ^ i % 2 = 1 ∨ i = j) := fun i => by
    rw [bt_tb, bt_tb, Nat.testBit_or, Bool.or_eq_true, Nat.testBit_two_pow, decide_eq_true_eq]
    constructor
    · intro h; rcases h with h | h
      · exact Or.inl h
      · exact Or.inr h.symm
    · intro h; rcases h with h | h
      · exact Or.inl h
      · exact Or.inr h.symm
  unfold xu
  refine ⟨decide_eq_true ((key j).mpr (Or.inr rfl)), fun i hi => ?_⟩
  by_cases h : u / 2 ^ i % 2 = 1
  · rw [decide_eq_true h, decide_eq_true ((key i).mpr (Or.inl h))]
  · rw [decide_eq_false h, decide_eq_false (fun h2 => ((key i).mp h2).elim h hi)]
theorem XU.add {B C D : Nat → Int} {k p u j : Nat} (x : XU B C D k p u) (hk : k ≤ 12) (hj : j < k) (hb : u / 2 ^ j % 2 = 0) (hB : B j = B p) (hC : C j = D p) : XU B C D k (p + 1) (u ||| 2 ^ j) := by
  obtain ⟨x1, x2, x3⟩ := x
  have hu : u < 4096 := Nat.lt_of_lt_of_le x1 (Nat.pow_le_pow_right (by decide) hk)
  obtain ⟨o1, o2⟩ := xu_or hu (by omega) hb
  have hf : xu u j = false := by unfold xu; rw [hb]; rfl
  refine ⟨Nat.or_lt_two_pow x1 (Nat.pow_lt_pow_right (by decide) hj), ?_, fun b c => ?_⟩
  · rw [xn_add o1 hf o2 k, if_pos hj, x2]
  · show ms_n B D b c p + (if B p = b ∧ D p = c then 1 else 0) = _
    rw [x3]
    by_cases h : B p = b ∧ D p = c
    · rw [if_pos h]
      have hq : xq B C b c j = true := by
        unfold xq
        rw [Bool.and_eq_true, decide_eq_true_eq, decide_eq_true_eq, hB, hC]
        exact h
      rw [xn_add (P := fun j => xu u j && xq B C b c j) (Q := fun i => xu (u ||| 2 ^ j) i && xq B C b c i) (j := j) (by rw [o1, hq]; rfl) (by rw [hf]; rfl) (fun i hi => by rw [o2 i hi]) k, if_pos hj]
    · rw [if_neg h, Nat.add_zero]
      have hq : xq B C b c j = false := by
        unfold xq
        rw [Bool.eq_false_iff, ne_eq, Bool.and_eq_true, decide_eq_true_eq, decide_eq_true_eq, hB, hC]
        exact h
      apply xn_congr
      intro i _
      by_cases e : i = j
      · subst e; rw [hq, Bool.and_false, Bool.and_false]
      · rw [o2 i e]
/-- once all places have theirs, the row has as many of each kind as there were -/
theorem XU.all {B C D : Nat → Int} {k u : Nat} (x : XU B C D k k u) : MSE B D B C k := fun b c => by
  obtain ⟨x1, x2, x3⟩ := x
  rw [x3, ← xn_ms]
  apply xn_congr
  intro i hi
  rw [(xn_full k).2 x2 i hi, Bool.true_and]
