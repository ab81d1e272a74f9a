/-! ===== the best exchange: sets of jobs, what its table holds ===== -/
def pc (n : Nat) : Nat := n % 2 + n / 2 % 2 + n / 4 % 2 + n / 8 % 2 + n / 16 % 2 + n / 32 % 2 + n / 64 % 2 + n / 128 % 2 + n / 256 % 2 + n / 512 % 2 + n / 1024 % 2 + n / 2048 % 2
theorem pc_le (n : Nat) : pc n ≤ 12 := by unfold pc; omega
theorem pc_and {n : Nat} (h : n < 4096) (h0 : n ≠ 0) : pc (n &&& (n - 1)) + 1 = pc n := by
  have key : ∀ a, a < 64 → ∀ b, b < 64 → (64 * a + b = 0 ∨ pc ((64 * a + b) &&& (64 * a + b - 1)) + 1 = pc (64 * a + b)) := by decide +kernel
  have := key (n / 64) (by omega) (n % 64) (by omega)
  rw [show 64 * (n / 64) + n % 64 = n by omega] at this
  rcases this with h1 | h1
  · exact absurd h1 h0
  · exact h1
theorem bit_or {s j : Nat} (h : s < 4096) (hj : j < 12) (hb : s / 2 ^ j % 2 = 0) : s ||| 2 ^ j = s + 2 ^ j ∧ pc (s ||| 2 ^ j) = pc s + 1 := by
  have key : ∀ a, a < 64 → ∀ b, b < 64 → ∀ j, j < 12 → ((64 * a + b) / 2 ^ j % 2 = 0 → (64 * a + b) ||| 2 ^ j = (64 * a + b) + 2 ^ j ∧ pc ((64 * a + b) ||| 2 ^ j) = pc (64 * a + b) + 1) := by decide +kernel
  have := key (s / 64) (by omega) (s % 64) (by omega) j hj
  rw [show 64 * (s / 64) + s % 64 = s by omega] at this
  exact this hb
theorem pre_or {i : Nat} (hi : i < 12) : (2 ^ i - 1) / 2 ^ i % 2 = 0 ∧ (2 ^ i - 1) ||| 2 ^ i = 2 ^ (i + 1) - 1 := by
  have key : ∀ i, i < 12 → (2 ^ i - 1) / 2 ^ i % 2 = 0 ∧ (2 ^ i - 1) ||| 2 ^ i = 2 ^ (i + 1) - 1 := by decide
  exact key i hi
theorem pc_pre {i : Nat} (hi : i ≤ 12) : pc (2 ^ i - 1) = i := by
  have key : ∀ i, i < 13 → pc (2 ^ i - 1) = i := by decide
  exact key i (by omega)
theorem pow_le {w : Nat} (hw : w ≤ 12) : 2 ^ w ≤ 4096 ∧ 1 ≤ 2 ^ w := by
  have key : ∀ i, i < 13 → 2 ^ i ≤ 4096 ∧ 1 ≤ 2 ^ i := by decide
  exact key w (by omega)
theorem pow_ij {i j : Nat} (hj : j ≤ 12) (e : 2 ^ i - 1 = 2 ^ j - 1) (hi : i ≤ 12) : i = j := by
  have a := pc_pre hi
  have b := pc_pre hj
  rw [e] at a
  omega
def jc (R : Nat → Int) (j : Nat) : Int := R (31 + (R 73).toNat + j)
def jb (R : Nat → Int) (s : Nat) (i : Int) (j : Nat) : Prop := s / 2 ^ j % 2 = 0 ∧ (i - (j : Int) ≤ R 9 ∧ (j : Int) - i ≤ R 9) ∧ R (19 + (R 73 + i).toNat) = R (19 + (R 73).toNat + j)
def fb (R F : Nat → Int) (s : Nat) (a : Int) (j : Nat) : Int :=
  if F (6 * (s ||| 2 ^ j) + (jc R j).toNat) = 1000000 then 1000000 else (if a ≠ 5 ∧ a ≠ jc R j then 1 else 0) + F (6 * (s ||| 2 ^ j) + (jc R j).toNat)
/-- how many wait -/
def wn (R : Nat → Int) : Nat := (R 2 - R 73).toNat
def RC (R : Nat → Int) : Prop := (∀ i, 31 ≤ i → i < 43 → 0 ≤ R i ∧ R i ≤ 4) ∧ 0 ≤ R 73 ∧ R 73 ≤ R 2 ∧ R 2 ≤ 12 ∧ 0 ≤ R 9
theorem RC.w {R : Nat → Int} (rc : RC R) : wn R ≤ 12 ∧ ((wn R : Nat) : Int) = R 2 - R 73 := by
  unfold wn
  obtain ⟨_, a, b, c, _⟩ := rc
  omega
theorem RC.jc {R : Nat → Int} (rc : RC R) {j : Nat} (hj : j < wn R) : 0 ≤ jc R j ∧ jc R j ≤ 4 := by
  have hw := rc.w
  obtain ⟨a, b, c, d, _⟩ := rc
  exact a _ (by omega) (by omega)
def FT (R F : Nat → Int) (s n : Nat) : Prop := ∀ a : Nat, a < n → (s ≠ 2 ^ wn R - 1 → F (6 * s + a) = 1000000 ∨ ∃ j, j < wn R ∧ jb R s (pc s : Int) j ∧ fb R F s a j = F (6 * s + a)) ∧ (∀ i, i ≤ wn R → s = 2 ^ i - 1 → F (6 * s + a) ≤ ((wn R - i : Nat) : Int))
theorem fb_eq {R F F2 : Nat → Int} {s : Nat} {a : Int} {j : Nat} (e : F2 (6 * (s ||| 2 ^ j) + (jc R j).toNat) = F (6 * (s ||| 2 ^ j) + (jc R j).toNat)) : fb R F2 s a j = fb R F s a j := by
  unfold fb
  rw [e]
theorem FT.upd {R F F2 : Nat → Int} {s t n : Nat} (hst : s < t) (hn : n ≤ 6) (e : ∀ i, 6 * (s + 1) ≤ i → F2 i = F i) (f : FT R F t n) : FT R F2 t n := fun a ha => by
  have e1 : F2 (6 * t + a) = F (6 * t + a) := e _ (by omega)
  obtain ⟨f1, f2⟩ := f a ha
  rw [e1]
  refine ⟨fun hne => ?_, f2⟩
  rcases f1 hne with h1 | ⟨j, hj, h1, h2⟩
  · exact Or.inl h1
  · refine Or.inr ⟨j, hj, h1, ?_⟩
    rw [fb_eq (e _ (by have := Nat.left_le_or (n := t) (m := 2 ^ j); omega))]
    exact h2
theorem FT.put {R F F2 : Nat → Int} (rc : RC R) {s n : Nat} (hs : s < 2 ^ wn R) (hn : n < 6) (e : ∀ i, i ≠ 6 * s + n → F2 i = F i) (f : FT R F s n)
    (v1 : s ≠ 2 ^ wn R - 1 → F2 (6 * s + n) = 1000000 ∨ ∃ j, j < wn R ∧ jb R s (pc s : Int) j ∧ fb R F s n j = F2 (6 * s + n))
    (v2 : ∀ i, i ≤ wn R → s = 2 ^ i - 1 → F2 (6 * s + n) ≤ ((wn R - i : Nat) : Int)) : FT R F2 s (n + 1) := fun a ha => by
  have hw := rc.w
  have h4 := pow_le hw.1
  have key : ∀ j, j < wn R → jb R s (pc s : Int) j → ∀ x : Int, fb R F2 s x j = fb R F s x j := fun j hj hb x => by
    have hor := (bit_or (s := s) (j := j) (by omega) (by omega) hb.1).1
    have hp : 1 ≤ 2 ^ j := Nat.one_le_two_pow
    exact fb_eq (e _ (by omega))
  by_cases han : a = n
  · subst han
    refine ⟨fun hne => ?_, v2⟩
    rcases v1 hne with h1 | ⟨j, hj, h1, h2⟩
    · exact Or.inl h1
    · exact Or.inr ⟨j, hj, h1, by rw [key j hj h1]; exact h2⟩
  · have e1 : F2 (6 * s + a) = F (6 * s + a) := e _ (by omega)
    obtain ⟨f1, f2⟩ := f a (by omega)
    rw [e1]
    refine ⟨fun hne => ?_, f2⟩
    rcases f1 hne with h1 | ⟨j, hj, h1, h2⟩
    · exact Or.inl h1
    · exact Or.inr ⟨j, hj, h1, by rw [key j hj h1]; exact h2⟩
/-- what the loop over the jobs holds: the best so far, and that it is the least -/
def BJ (R F : Nat → Int) (s : Nat) (a init best : Int) (n : Int) : Prop := (best = init ∨ ∃ j : Nat, (j : Int) < n ∧ j < wn R ∧ jb R s (pc s : Int) j ∧ fb R F s a j = best) ∧ best ≤ init ∧ (∀ j : Nat, (j : Int) < n → jb R s (pc s : Int) j → best ≤ fb R F s a j)
theorem BJ.start {R F : Nat → Int} {s : Nat} {a init : Int} : BJ R F s a init init 0 := ⟨Or.inl rfl, Int.le_refl _, fun j hj => absurd hj (by omega)⟩
theorem BJ.no {R F : Nat → Int} {s : Nat} {a init best n n2 : Int} (b : BJ R F s a init best n) (e : n2 = n + 1) (hn : ¬ jb R s (pc s : Int) n.toNat) (h0 : 0 ≤ n) : BJ R F s a init best n2 := by
  obtain ⟨b1, b2, b3⟩ := b
  refine ⟨?_, b2, fun j hj hb => ?_⟩
  · rcases b1 with h1 | ⟨j, h1, h2⟩
    · exact Or.inl h1
    · exact Or.inr ⟨j, by omega, h2⟩
  · by_cases hjn : (j : Int) = n
    · exact absurd hb (by rw [show j = n.toNat by omega]; exact hn)
    · exact b3 j (by omega) hb
theorem BJ.yes {R F : Nat → Int} {s : Nat} {a init best best2 n n2 v : Int} (b : BJ R F s a init best n) (e : n2 = n + 1) (h0 : 0 ≤ n) (hw : n < (wn R : Int)) (hb : jb R s (pc s : Int) n.toNat) (hv : v = fb R F s a n.toNat) (h2 : (best2 = best ∧ best ≤ v) ∨ (best2 = v ∧ v ≤ best)) : BJ R F s a init best2 n2 := by
  obtain ⟨b1, b2, b3⟩ := b
  have hbi : best2 ≤ init := by clear b1 b3; omega
  refine ⟨?_, hbi, fun j hj hb2 => ?_⟩
  · rcases h2 with ⟨h2, h3⟩ | ⟨h2, h3⟩
    · rw [h2]
      rcases b1 with h1 | ⟨j, h1, h4⟩
      · exact Or.inl h1
      · exact Or.inr ⟨j, by omega, h4⟩
    · exact Or.inr ⟨n.toNat, by omega, by omega, hb, by rw [h2, hv]⟩
  · by_cases hjn : (j : Int) = n
    · have : j = n.toNat := by omega
      subst this
      clear b1
      omega
    · have := b3 j (by omega) hb2
      clear b1
      omega
/-- the cell of a set, once all jobs are looked at -/
theorem BJ.done {R F F2 : Nat → Int} (rc : RC R) {s n : Nat} {a init best k : Int} (hs : s < 2 ^ wn R) (hn : n < 6) (ha : a = (n : Int)) (hk : (wn R : Int) ≤ k) (b : BJ R F s a init best k) (hi : (s = 2 ^ wn R - 1 ∧ init = 0) ∨ (s ≠ 2 ^ wn R - 1 ∧ init = 1000000)) (e : ∀ i, i ≠ 6 * s + n → F2 i = F i) (ev : F2 (6 * s + n) = best) (f : FT R F s n) (up : ∀ t, s < t → t < 2 ^ wn R → FT R F t 6) : FT R F2 s (n + 1) := by
  obtain ⟨b1, b2, b3⟩ := b
  subst ha
  have hw := rc.w
  have h4 := pow_le hw.1
  refine FT.put rc hs hn e f (fun hne => ?_) (fun i hiw hsi => ?_)
  · rw [ev]
    rcases b1 with h1 | ⟨j, _, h1, h2⟩
    · rcases hi with ⟨h3, _⟩ | ⟨_, h3⟩
      · exact absurd h3 hne
      · exact Or.inl (by omega)
    · exact Or.inr ⟨j, h1, h2⟩
  · rw [ev]
    by_cases hiw2 : i = wn R
    · subst hiw2
      rcases hi with ⟨_, h3⟩ | ⟨h3, _⟩
      · omega
      · exact absurd hsi h3
    · have hpo := pre_or (i := i) (by omega)
      have hpc : pc s = i := by rw [hsi]; exact pc_pre (by omega)
      have hjb : jb R s (pc s : Int) i := by
        refine ⟨by rw [hsi]; exact hpo.1, ⟨by rw [hpc]; have := rc.2.2.2.2; omega, by rw [hpc]; have := rc.2.2.2.2; omega⟩, ?_⟩
        rw [hpc, show (R 73 + (i : Int)).toNat = (R 73).toNat + i by have := rc.2.1; omega, Nat.add_assoc]
      have h5 := b3 i (by omega) hjb
      have hjc := rc.jc (j := i) (by omega)
      have ht : 2 ^ (i + 1) - 1 < 2 ^ wn R := by
        have : 2 ^ (i + 1) ≤ 2 ^ wn R := Nat.pow_le_pow_right (by decide) (by omega)
        omega
      have hst : s < 2 ^ (i + 1) - 1 := by
        have : 2 ^ (i + 1) = 2 * 2 ^ i := by rw [Nat.pow_succ]; omega
        have h1 : 1 ≤ 2 ^ i := Nat.one_le_two_pow
        omega
      have h6 := (up _ hst ht (jc R i).toNat (by omega)).2 (i + 1) (by omega) rfl
      have h7 : fb R F s (n : Int) i ≤ 1 + F (6 * (2 ^ (i + 1) - 1) + (jc R i).toNat) := by
        unfold fb
        rw [show s ||| 2 ^ i = 2 ^ (i + 1) - 1 by rw [hsi]; exact hpo.2]
        split
        · omega
        · split <;> omega
      omega
def FTA (R F : Nat → Int) : Prop := ∀ s, s < 2 ^ wn R → FT R F s 6
/-- some set stands at a stage from where the rest costs what is due -/
def EX (R F St : Nat → Int) (i a due : Int) : Prop := (∃ s : Nat, s < 2 ^ wn R ∧ St s = 1 ∧ F (6 * s + a.toNat) = due ∧ due < 1000000) ∧ ∀ s : Nat, s < 2 ^ wn R → St s = 1 → (pc s : Int) = i
def QJ (R F St : Nat → Int) (i a due : Int) (s j : Nat) : Prop := St s = 1 ∧ jb R s i j ∧ fb R F s a j = due
/-- there is a next job -/
theorem EX.job {R F St : Nat → Int} (rc : RC R) {i a due : Int} (ft : FTA R F) (ha : 0 ≤ a ∧ a ≤ 5) (hi : i < (wn R : Int)) (x : EX R F St i a due) : ∃ s j, s < 2 ^ wn R ∧ j < wn R ∧ QJ R F St i a due s j := by
  obtain ⟨⟨s, h1, h2, h4, h5⟩, hall⟩ := x
  have h3 := hall s h1 h2
  have hw := rc.w
  rcases (ft s h1 a.toNat (by omega)).1 (fun e => by
    have := pc_pre hw.1
    rw [← e] at this
    omega) with h6 | ⟨j, h6, h7, h8⟩
  · omega
  · refine ⟨s, j, h1, h6, h2, by rw [← h3]; exact h7, ?_⟩
    rw [show ((a.toNat : Nat) : Int) = a by omega] at h8
    rw [h8, h4]
/-- and by it a next stage -/
theorem EX.next {R F St St2 : Nat → Int} (rc : RC R) {i a due l : Int} {s j : Nat} (hs : s < 2 ^ wn R) (hj : j < wn R) (q : QJ R F St i a due s j) (hd : due < 1000000) (hl : jc R j = l) (h2 : St2 (s ||| 2 ^ j) = 1) (hF : ∀ k, F k ≤ 1000000) (hall : ∀ k : Nat, k < 2 ^ wn R → St2 k = 1 → (pc k : Int) = i + 1) : EX R F St2 (i + 1) l (due - (if a ≠ 5 ∧ a ≠ l then 1 else 0)) := by
  obtain ⟨q1, q2, q3⟩ := q
  have hw := rc.w
  have h4 := pow_le hw.1
  have hor := bit_or (s := s) (j := j) (by omega) (by omega) q2.1
  have hlt : s ||| 2 ^ j < 2 ^ wn R := Nat.or_lt_two_pow hs (Nat.pow_lt_pow_right (by decide) hj)
  unfold fb at q3
  rw [hl] at q3
  refine ⟨⟨s ||| 2 ^ j, hlt, h2, ?_, ?_⟩, hall⟩
  · split at q3
    · omega
    · omega
  · split at q3
    · omega
    · rename_i h5
      have := hF (6 * (s ||| 2 ^ j) + l.toNat)
      omega
/-- the least color so far, over the sets and jobs before a place -/
def LC (R F St : Nat → Int) (i a due l : Int) (P : Nat → Nat → Prop) : Prop := (l = 5 ∨ ∃ s j, P s j ∧ QJ R F St i a due s j ∧ jc R j = l) ∧ (∀ s j, P s j → QJ R F St i a due s j → l ≤ jc R j)
theorem LC.mono {R F St : Nat → Int} {i a due l : Int} {P P2 : Nat → Nat → Prop} (c : LC R F St i a due l P) (h1 : ∀ s j, P s j → P2 s j) (h2 : ∀ s j, P2 s j → QJ R F St i a due s j → P s j) : LC R F St i a due l P2 := by
  obtain ⟨c1, c2⟩ := c
  refine ⟨?_, fun s j hp hq => c2 s j (h2 s j hp hq) hq⟩
  rcases c1 with h | ⟨s, j, hp, hq, hj⟩
  · exact Or.inl h
  · exact Or.inr ⟨s, j, h1 s j hp, hq, hj⟩
theorem LC.add {R F St : Nat → Int} {i a due l l2 : Int} {P P2 : Nat → Nat → Prop} {s0 j0 : Nat} (c : LC R F St i a due l P) (h1 : ∀ s j, P s j → P2 s j) (h0 : P2 s0 j0) (h2 : ∀ s j, P2 s j → P s j ∨ (s = s0 ∧ j = j0)) (q : QJ R F St i a due s0 j0) (hl : (l2 = l ∧ l ≤ jc R j0) ∨ (l2 = jc R j0 ∧ jc R j0 ≤ l)) : LC R F St i a due l2 P2 := by
  obtain ⟨c1, c2⟩ := c
  refine ⟨?_, fun s j hp hq => ?_⟩
  · rcases hl with ⟨h3, _⟩ | ⟨h3, _⟩
    · rw [h3]
      rcases c1 with h | ⟨s, j, hp, hq, hj⟩
      · exact Or.inl h
      · exact Or.inr ⟨s, j, h1 s j hp, hq, hj⟩
    · exact Or.inr ⟨s0, j0, h0, q, h3.symm⟩
  · rcases h2 s j hp with h4 | ⟨rfl, rfl⟩
    · have := c2 s j h4 hq
      omega
    · omega
theorem gi_RC {h : hp} (g : GI h) (h1 : h 238 73 ≤ h 238 2) : RC (h 238) := by
  refine ⟨fun i h1 h2 => gi_b (lo := 0) (hi := 4) g 238 i (gi_rg 31 12 (fun _ => rfl) (by decide +kernel) (by omega)), ?_, h1, ?_, ?_⟩
  · exact (gi_b (lo := 0) (hi := 12) g 238 73 rfl).1
  · exact (gi_b (lo := 0) (hi := 12) g 238 2 rfl).2
  · exact (gi_b (lo := 0) (hi := 999) g 238 9 rfl).1
/-- a next set has one job more -/
theorem pc_next {R F St : Nat → Int} (rc : RC R) {i a due : Int} {s j : Nat} (hs : s < 2 ^ wn R) (hj : j < wn R) (hall : ∀ s : Nat, s < 2 ^ wn R → St s = 1 → (pc s : Int) = i) (q : QJ R F St i a due s j) : (pc (s ||| 2 ^ j) : Int) = i + 1 := by
  have hw := rc.w
  have h4 := pow_le hw.1
  have hor := bit_or (s := s) (j := j) (by omega) (by omega) q.2.1.1
  have := hall s hs q.1
  rw [hor.2]
  omega
