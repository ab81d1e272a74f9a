/-! ===== the class's exchange and its kinds, as the rows want them (p14, p15; draft, not compiled) ===== -/
theorem or_pow {x n : Nat} (h : x < 2 ^ n) : x ||| 2 ^ n = x + 2 ^ n := by
  have := Nat.two_pow_add_eq_or_of_lt h 1
  rw [Nat.mul_one] at this
  rw [Nat.or_comm, ← this, Nat.add_comm]
section
variable {xa : mm_Xa} {d j pc nx r1 r2 r3 : Nat} {lo : List (Nat × Value)} {st : List Value} {W : mm_W} {b c : Nat} {Q : hp_Q}
theorem wr_iushrL {x y : Int} (z : Int) (hc : md_cd j pc = some (.iushr, nx, r1, r2, r3)) (h : (Int32.ofInt x).toUInt32 >>> ((Int32.ofInt y).toUInt32 &&& Int32.toUInt32 31) = (Int32.ofInt z).toUInt32) (k : wp xa d j (nx, lo, vi z :: st, W, b, c) Q) : wp xa d j (pc, lo, vi y :: vi x :: st, W, b, c) Q := by
  refine wp.step (F' := (nx, lo, vi z :: st, W, b, c)) ?_ k
  simp only [mm_step, hc, mm_stepI, vi, h]
  rfl
theorem wr_ishl16 {x y : Int} (hc : md_cd j pc = some (.ishl, nx, r1, r2, r3)) (hx : 0 ≤ x ∧ x ≤ 15) (hy : 0 ≤ y ∧ y ≤ 16) (k : ∀ e : Int, 0 ≤ e ∧ e ≤ 983040 → e = ((x.toNat * 2 ^ y.toNat : Nat) : Int) → wp xa d j (nx, lo, vi e :: st, W, b, c) Q) : wp xa d j (pc, lo, vi y :: vi x :: st, W, b, c) Q := by
  have key : ∀ a, a < 16 → ∀ n, n < 17 → Int32.ofInt ((a : Nat) : Int) <<< (Int32.ofInt ((n : Nat) : Int) &&& 31) = Int32.ofInt ((a * 2 ^ n : Nat) : Int) ∧ a * 2 ^ n ≤ 983040 := by decide +kernel
  obtain ⟨h1, h2⟩ := key x.toNat (by omega) y.toNat (by omega)
  rw [show ((x.toNat : Nat) : Int) = x by omega, show ((y.toNat : Nat) : Int) = y by omega] at h1
  exact wp.step (by simp only [mm_step, hc, mm_stepI, vi]; rw [h1]; try rfl) (k _ (by omega) rfl)
theorem wr_ishl1W {y : Int} (hc : md_cd j pc = some (.ishl, nx, r1, r2, r3)) (k : ∀ e : Int, -2147483648 ≤ e ∧ e ≤ 2147483647 → (0 ≤ y → y ≤ 12 → e = ((2 ^ y.toNat : Nat) : Int)) → wp xa d j (nx, lo, vi e :: st, W, b, c) Q) : wp xa d j (pc, lo, vi y :: vi 1 :: st, W, b, c) Q := by
  by_cases h : 0 ≤ y ∧ y ≤ 12
  · exact wr_ishl1 hc h (fun e h1 h2 => k e (by omega) (fun _ _ => h2))
  · exact wr_ishlA hc (fun e h1 => k e h1 (fun h2 h3 => absurd ⟨h2, h3⟩ h))
end
theorem xz_lits {n : Nat} {e : Int} (h : xz n < 12) (he : e = ((2 ^ xz n : Nat) : Int)) : e = 1 ∨ e = 2 ∨ e = 4 ∨ e = 8 ∨ e = 16 ∨ e = 32 ∨ e = 64 ∨ e = 128 ∨ e = 256 ∨ e = 512 ∨ e = 1024 ∨ e = 2048 := by
  have key : ∀ k, k < 12 → (2 : Nat) ^ k = 1 ∨ 2 ^ k = 2 ∨ 2 ^ k = 4 ∨ 2 ^ k = 8 ∨ 2 ^ k = 16 ∨ 2 ^ k = 32 ∨ 2 ^ k = 64 ∨ 2 ^ k = 128 ∨ 2 ^ k = 256 ∨ 2 ^ k = 512 ∨ 2 ^ k = 1024 ∨ 2 ^ k = 2048 := by decide
  have := key _ h
  omega
theorem xz_inj {a b : Nat} (ha : a < 12) (hb : b < 12) (h : 2 ^ a = 2 ^ b) : a = b := by
  have key : ∀ a, a < 12 → ∀ b, b < 12 → (2 : Nat) ^ a = 2 ^ b → a = b := by decide
  exact key a ha b hb h
theorem xj_free {C B : Nat → Int} {k p u x e : Nat} {c : Int} (hk : k ≤ 12) (hx : x = xk (xsu C B p c) k) (he : e ≤ x) (hb : ∀ i, i < 12 → e / 2 ^ i % 2 = if x / 2 ^ i % 2 = 1 ∧ u / 2 ^ i % 2 = 0 then 1 else 0) : e = xk (xb C B p c u) k := by
  have hl := @xk_lt (xsu C B p c) k
  refine xk_eq (by omega) (fun i hi => ?_)
  rw [hb i (by omega), hx, xk_bit]
  by_cases h1 : xsu C B p c i = true
  · have e1 : (if i < k ∧ xsu C B p c i = true then 1 else 0) = 1 := if_pos ⟨hi, h1⟩
    rw [e1]
    by_cases h2 : u / 2 ^ i % 2 = 0
    · have h4 : xb C B p c u i = true := by
        unfold xb
        rw [Bool.and_eq_true, decide_eq_true_eq]
        exact ⟨h1, h2⟩
      rw [if_pos ⟨rfl, h2⟩, if_pos h4]
    · have h4 : ¬ xb C B p c u i = true := fun h3 => by
        unfold xb at h3
        rw [Bool.and_eq_true, decide_eq_true_eq] at h3
        exact h2 h3.2
      have h5 : ¬ (1 = 1 ∧ u / 2 ^ i % 2 = 0) := fun h3 => h2 h3.2
      rw [if_neg h5, if_neg h4]
  · have e1 : (if i < k ∧ xsu C B p c i = true then 1 else 0) = 0 := if_neg (fun h3 => h1 h3.2)
    have h4 : ¬ xb C B p c u i = true := fun h3 => by
      unfold xb at h3
      rw [Bool.and_eq_true] at h3
      exact h1 h3.1
    have h5 : ¬ (0 = 1 ∧ u / 2 ^ i % 2 = 0) := fun h3 => absurd h3.1 (by decide)
    rw [e1, if_neg h5, if_neg h4]
theorem xj_none {C B : Nat → Int} {k p u : Nat} {sp c : Int} (h : xk (xb C B p c u) k = 0) : xj C B k sp p c u = -1 := by
  unfold xj
  rw [if_pos h]
theorem xj_some {C B : Nat → Int} {k p u : Nat} {sp c : Int} (h : xk (xb C B p c u) k ≠ 0) {z : Nat} (hz : z = xz (xk (xb C B p c u) k)) (h1 : (z : Int) - p ≤ sp) (h2 : (p : Int) - z ≤ sp) : xj C B k sp p c u = (z : Int) := by
  unfold xj
  rw [if_neg h, ← hz, if_pos ⟨h1, h2⟩]
theorem xj_far {C B : Nat → Int} {k p u : Nat} {sp c : Int} (h : xk (xb C B p c u) k ≠ 0) {z : Nat} (hz : z = xz (xk (xb C B p c u) k)) (h1 : sp < (z : Int) - p ∨ sp < (p : Int) - z) : xj C B k sp p c u = -1 := by
  unfold xj
  rw [if_neg h, ← hz, if_neg (fun h2 => by omega)]
theorem xC_eq {h H : hp} (e : H 19 = h 19) (e7 : H 18 7 = h 18 7) : xC H = xC h := by unfold xC; rw [e, e7]
theorem xB_eq {h H : hp} (e : H 8 = h 8) (e7 : H 18 7 = h 18 7) : xB H = xB h := by unfold xB; rw [e, e7]
theorem xK_eq {h H : hp} (e : H 63 4 = h 63 4) : xK H = xK h := by unfold xK; rw [e]
theorem XJp.at {h H : hp} (e19 : H 19 = h 19) (e8 : H 8 = h 8) (e7 : H 18 7 = h 18 7) (e4 : H 63 4 = h 63 4) (_e9 : H 3 9 = h 3 9) (e65 : H 65 = h 65) (j : XJp (xC h) (xB h) (xK h) (h 65)) : XJp (xC H) (xB H) (xK H) (H 65) := by
  rw [xC_eq e19 e7, xB_eq e8 e7, xK_eq e4, e65]; exact j
theorem xj_eq {h H : hp} {p u : Nat} {c : Int} (e19 : H 19 = h 19) (e8 : H 8 = h 8) (e7 : H 18 7 = h 18 7) (e4 : H 63 4 = h 63 4) (e9 : H 3 9 = h 3 9) : xj (xC H) (xB H) (xK H) (H 3 9) p c u = xj (xC h) (xB h) (xK h) (h 3 9) p c u := by
  rw [xC_eq e19 e7, xB_eq e8 e7, xK_eq e4, e9]
def xW (h : hp) (u : Nat) : Nat → Nat := xw (xC h) (xB h) (xK h) (h 3 9) (xK h - pc u) u
theorem xW_eq {h H : hp} {u : Nat} (e19 : H 19 = h 19) (e8 : H 8 = h 8) (e7 : H 18 7 = h 18 7) (e4 : H 63 4 = h 63 4) (e9 : H 3 9 = h 3 9) : xW H u = xW h u := by
  unfold xW
  rw [xC_eq e19 e7, xB_eq e8 e7, xK_eq e4, e9]
theorem xW_le (h : hp) (u c : Nat) : xW h u c ≤ 15 := xw_le _ _ _
theorem xW_0 {h : hp} {u : Nat} (e : xK h - pc u = 0) : xW h u = fun _ => 0 := by
  unfold xW
  rw [e]
  rfl
theorem xw_u {C B : Nat → Int} {k r u c : Nat} {sp : Int} : xw C B k sp (r + 1) u c = if xj C B k sp (k - (r + 1)) (c : Int) u = -1 then 15 else min (xw C B k sp r (u ||| 2 ^ (xj C B k sp (k - (r + 1)) (c : Int) u).toNat) c) (xm (xw C B k sp r (u ||| 2 ^ (xj C B k sp (k - (r + 1)) (c : Int) u).toNat)) + 1) := rfl
theorem xW_go {h : hp} {u c j : Nat} (jr : xK h - pc u = xK h - (pc u + 1) + 1) (e : xj (xC h) (xB h) (xK h) (h 3 9) (pc u) (c : Int) u = (j : Int)) (o : pc (u ||| 2 ^ j) = pc u + 1) : xW h u c = min (xW h (u ||| 2 ^ j) c) (xm (xW h (u ||| 2 ^ j)) + 1) := by
  unfold xW
  rw [o, jr, xw_u, show xK h - (xK h - (pc u + 1) + 1) = pc u by omega, e, if_neg (by omega)]
  rfl
theorem xW_no {h : hp} {u c : Nat} (jr : xK h - pc u = xK h - (pc u + 1) + 1) (e : xj (xC h) (xB h) (xK h) (h 3 9) (pc u) (c : Int) u = -1) : xW h u c = 15 := by
  unfold xW
  rw [jr, xw_u, show xK h - (xK h - (pc u + 1) + 1) = pc u by omega, if_pos e]
theorem xm_congr {f g : Nat → Nat} (h : ∀ c, c < 5 → f c = g c) : xm f = xm g := by
  unfold xm
  rw [h 0 (by decide), h 1 (by decide), h 2 (by decide), h 3 (by decide), h 4 (by decide)]
theorem XMp.none {C B : Nat → Int} {k : Nat} {sp : Int} {M : Nat → Int} (h : ∀ u, u < 2 ^ k → pc u < k → M u = -1) : XMp C B k sp M := fun u hu hp => Or.inl (h u hu hp)
/-! the jobs by places and colors, while they are collected -/
def XJd (C B : Nat → Int) (k p n : Nat) (J : Nat → Int) : Prop :=
  (∀ q, q < p → ∀ c, c < 5 → J (5 * q + c) = (xk (xsu C B q (c : Int)) k : Int)) ∧ (p < 12 → ∀ c, c < 5 → J (5 * p + c) = (xk (xsu C B p (c : Int)) n : Int)) ∧ (∀ q, p < q → q < 12 → ∀ c, c < 5 → J (5 * q + c) = 0)
theorem XJd.zero {C B : Nat → Int} {k : Nat} {J : Nat → Int} (z : ∀ i, i < 60 → J i = 0) : XJd C B k 0 0 J :=
  ⟨fun q hq => absurd hq (Nat.not_lt_zero q), fun _ c hc => z _ (by omega), fun q _ hq c hc => z _ (by omega)⟩
theorem XJd.next {C B : Nat → Int} {k p n : Nat} {J : Nat → Int} (x : XJd C B k p n J) (hn : n = k) (hp : p < 12) : XJd C B k (p + 1) 0 J := by
  subst hn
  obtain ⟨x1, x2, x3⟩ := x
  refine ⟨fun q hq c hc => ?_, fun h12 c hc => x3 (p + 1) (by omega) h12 c hc, fun q hq h12 c hc => x3 q (by omega) h12 c hc⟩
  by_cases e : q = p
  · subst e; exact x2 hp c hc
  · exact x1 q (by omega) c hc
theorem XJd.done {C B : Nat → Int} {k p n : Nat} {J : Nat → Int} (x : XJd C B k p n J) (hp : k ≤ p) : XJp C B k J := fun q hq c hc => x.1 q (by omega) c hc
theorem XJd.skip {C B : Nat → Int} {k p n : Nat} {J : Nat → Int} (x : XJd C B k p n J) (hB : ¬ B n = B p) : XJd C B k p (n + 1) J := by
  obtain ⟨x1, x2, x3⟩ := x
  refine ⟨x1, fun hp c hc => ?_, x3⟩
  rw [x2 hp c hc]
  show _ = ((xk (xsu C B p (c : Int)) n + (if xsu C B p (c : Int) n = true then 2 ^ n else 0) : Nat) : Int)
  rw [if_neg (fun h => hB (xs_ok h).2), Nat.add_zero]
theorem XJd.put {C B : Nat → Int} {k p n : Nat} {J J2 : Nat → Int} (x : XJd C B k p n J) (hB : B n = B p) (c0 : Nat) (hC : C n = (c0 : Int)) (hc0 : c0 < 5) (e : J2 (5 * p + c0) = ((xk (xsu C B p (c0 : Int)) n + 2 ^ n : Nat) : Int)) (o : ∀ i, i ≠ 5 * p + c0 → J2 i = J i) : XJd C B k p (n + 1) J2 := by
  obtain ⟨x1, x2, x3⟩ := x
  refine ⟨fun q hq c hc => ?_, fun hp c hc => ?_, fun q hq h12 c hc => ?_⟩
  · rw [o _ (by omega)]; exact x1 q hq c hc
  · show _ = ((xk (xsu C B p (c : Int)) n + (if xsu C B p (c : Int) n = true then 2 ^ n else 0) : Nat) : Int)
    by_cases hcc : c = c0
    · subst hcc
      rw [e, if_pos (xs_t hC hB)]
    · rw [o _ (by omega), x2 hp c hc, if_neg (fun h => by have := (xs_ok h).1; omega), Nat.add_zero]
  · rw [o _ (by omega)]; exact x3 q hq h12 c hc
/-! what is collected -/
def xl (D : Nat → Int) : Nat → Int
  | 0 => -1
  | n + 1 => D n
theorem XE_first {h : hp} (jk : xK h ≤ 12) (hs : 0 ≤ h 3 9) (hC : ∀ j, j < xK h → 0 ≤ xC h j ∧ xC h j ≤ 4) (e : h 63 7 = ((xm (xW h 0) : Nat) : Int)) : XE (xw (xC h) (xB h) (xK h) (h 3 9) (xK h - (0 : Int).toNat) (0 : Int).toNat) (xl (h 67) (0 : Int).toNat) (h 63 7) := by
  have h1 := xw_own (C := xC h) (B := xB h) (sp := h 3 9) jk hs hC (xK h) (Nat.le_refl _)
  rw [Nat.sub_self, show 2 ^ 0 - 1 = 0 by decide] at h1
  rw [e]
  have h2 : xW h 0 = xw (xC h) (xB h) (xK h) (h 3 9) (xK h) 0 := rfl
  rw [h2]
  show XE (xw (xC h) (xB h) (xK h) (h 3 9) (xK h) 0) (-1) _
  exact XE.start (by omega)
theorem XE.low {f g : Nat → Nat} {a v z : Int} (x : XE f a v) (hg : ∀ c, c < 5 → g c = f c) (y : (z = -1 ∧ ∀ c : Nat, c < 5 → ((g c : Nat) : Int) + xc a c ≠ v) ∨ (0 ≤ z ∧ z ≤ 4 ∧ ((g z.toNat : Nat) : Int) + xc a z.toNat = v)) : 0 ≤ z ∧ z ≤ 4 ∧ ((f z.toNat : Nat) : Int) + xc a z.toNat = v := by
  rcases y with ⟨_, y⟩ | ⟨y1, y2, y3⟩
  · obtain ⟨_, c, hc, e⟩ := x
    exact absurd (by rw [hg c hc]; exact e) (y c hc)
  · exact ⟨y1, y2, by rw [← hg z.toNat (by omega)]; exact y3⟩
theorem XE.go {h : hp} {u p c : Nat} {a v : Int} (jr : xK h - p = xK h - (p + 1) + 1) (xpc : pc u = p) (hc : c < 5) (e : ((xW h u c : Nat) : Int) + xc a c = v) (hv : v ≤ 14) :
    xj (xC h) (xB h) (xK h) (h 3 9) p (c : Int) u ≠ -1 ∧ XE (xw (xC h) (xB h) (xK h) (h 3 9) (xK h - (p + 1)) (u ||| 2 ^ (xj (xC h) (xB h) (xK h) (h 3 9) p (c : Int) u).toNat)) (c : Int) ((xW h u c : Nat) : Int) := by
  have h1 : (xw (xC h) (xB h) (xK h) (h 3 9) (xK h - (p + 1) + 1) u c : Int) = ((xW h u c : Nat) : Int) := by
    unfold xW
    rw [xpc, jr]
  have h2 := XE.next h1 (by omega)
  rw [show xK h - (xK h - (p + 1) + 1) = p by omega] at h2
  exact ⟨h2.1, h2.2 hc⟩
theorem ms_n_congr {B D E : Nat → Int} {b c : Int} : ∀ n, (∀ i, i < n → D i = E i) → ms_n B D b c n = ms_n B E b c n
  | 0, _ => rfl
  | n + 1, h => by
    show ms_n B D b c n + (if B n = b ∧ D n = c then 1 else 0) = ms_n B E b c n + (if B n = b ∧ E n = c then 1 else 0)
    rw [ms_n_congr n (fun i hi => h i (by omega)), h n (Nat.lt_succ_self n)]
theorem ms_n_congrB {A B D E : Nat → Int} {b c : Int} : ∀ n, (∀ i, i < n → A i = B i ∧ D i = E i) → ms_n A D b c n = ms_n B E b c n
  | 0, _ => rfl
  | n + 1, h => by
    show ms_n A D b c n + (if A n = b ∧ D n = c then 1 else 0) = ms_n B E b c n + (if B n = b ∧ E n = c then 1 else 0)
    rw [ms_n_congrB n (fun i hi => h i (by omega)), (h n (Nat.lt_succ_self n)).1, (h n (Nat.lt_succ_self n)).2]
theorem XU.congr {B C D E : Nat → Int} {k p u : Nat} (x : XU B C D k p u) (h : ∀ i, i < p → E i = D i) : XU B C E k p u :=
  ⟨x.1, x.2.1, fun b c => (ms_n_congr p h).trans (x.2.2 b c)⟩
theorem xn_ext {u k : Nat} (hk : k ≤ 12) (hu : u < 2 ^ k) : xn (xu u) 12 = xn (xu u) k := by
  have key : ∀ d, k + d ≤ 12 → xn (xu u) (k + d) = xn (xu u) k := by
    intro d
    induction d with
    | zero => intro _; rfl
    | succ d ih =>
      intro hd
      show xn (xu u) (k + d) + (if xu u (k + d) = true then 1 else 0) = _
      rw [ih (by omega), if_neg (fun h => by
        unfold xu at h
        rw [decide_eq_true_eq, bt_lt hu (k + d) (by omega)] at h
        exact absurd h (by decide)), Nat.add_zero]
  have := key (12 - k) (by omega)
  rw [show k + (12 - k) = 12 by omega] at this
  exact this
theorem pc_xn {u : Nat} (h : u < 4096) : pc u = xn (xu u) 12 := by
  have key : ∀ a, a < 64 → ∀ b, b < 64 → pc (64 * a + b) = xn (xu (64 * a + b)) 12 := by decide +kernel
  have := key (u / 64) (by omega) (u % 64) (by omega)
  rw [show 64 * (u / 64) + u % 64 = u by omega] at this
  exact this
/-! ===== kinds of the class's lines ===== -/
theorem MSE.refl {B C : Nat → Int} {n : Nat} : MSE B C B C n := fun _ _ => rfl
theorem MSE.trans {A B C D E F : Nat → Int} {n : Nat} (x : MSE A B C D n) (y : MSE C D E F n) : MSE A B E F n := fun b c => (x b c).trans (y b c)
theorem MSE.symm {A B C D : Nat → Int} {n : Nat} (x : MSE A B C D n) : MSE C D A B n := fun b c => (x b c).symm
theorem ms_n_add {B C : Nat → Int} {b c : Int} (e : Nat) : ∀ k, ms_n B C b c (e + k) = ms_n B C b c e + ms_n (fun j => B (e + j)) (fun j => C (e + j)) b c k
  | 0 => rfl
  | k + 1 => by
    show ms_n B C b c (e + k) + (if B (e + k) = b ∧ C (e + k) = c then 1 else 0) = _ + (ms_n (fun j => B (e + j)) (fun j => C (e + j)) b c k + (if B (e + k) = b ∧ C (e + k) = c then 1 else 0))
    rw [ms_n_add e k, Nat.add_assoc]
/-- a stretch of a row is exchanged by one of the same kinds -/
theorem MSE.part {B C C2 D : Nat → Int} {e k n : Nat} (x : MSE (fun j => B (e + j)) D (fun j => B (e + j)) (fun j => C (e + j)) k) (hn : n = e + k) (h1 : ∀ p, p < k → C2 (e + p) = D p) (h2 : ∀ i, i < e → C2 i = C i) : MSE B C2 B C n := fun b c => by
  subst hn
  rw [ms_n_add e k, ms_n_add e k, ms_n_congr e h2, ms_n_congr (B := fun j => B (e + j)) (D := fun j => C2 (e + j)) (E := D) k h1]
  rw [x b c]
def MSL (h : hp) (L : Nat) : Prop := MSE (h 8) (h (L + 1)) (h 8) (h 7) (h 3 2).toNat
theorem MSL.mv {h H : hp} {L L2 : Nat} (m : MSL h L) (e8 : H 8 = h 8) (e7 : H 7 = h 7) (e2 : H 3 2 = h 3 2) (b : h 3 2 ≤ 12) (eL : ∀ i, i < 12 → H (L2 + 1) i = h (L + 1) i) : MSL H L2 := fun b' c => by
  rw [e8, e7, e2, ← m b' c]
  exact ms_n_congr _ (fun i hi => eL i (by omega))
theorem MSL.same {h : hp} {L : Nat} (b : h 3 2 ≤ 12) (e : ∀ i, i < 12 → h (L + 1) i = h 7 i) : MSL h L := fun b' c => ms_n_congr _ (fun i hi => e i (by omega))
theorem MSE.cp {A B D A2 B2 D2 : Nat → Int} {n m : Int} (x : MSE A B A D n.toNat) (e : m = n) (b : n ≤ 12) (eA : ∀ i, i < 12 → A2 i = A i) (eD : ∀ i, i < 12 → D2 i = D i) (eB : ∀ i, i < 12 → B2 i = B i) : MSE A2 B2 A2 D2 m.toNat := fun b' c => by
  subst e
  rw [ms_n_congrB (A := A2) (D := B2) (B := A) (E := B) _ (fun i hi => ⟨eA i (by omega), eB i (by omega)⟩), ms_n_congrB (A := A2) (D := D2) (B := A) (E := D) _ (fun i hi => ⟨eA i (by omega), eD i (by omega)⟩)]
  exact x b' c
theorem MSL.of {h H : hp} {L : Nat} (x : MSE (h 215) (h 218) (h 215) (h 214) (h 210 2).toNat) (e : H 3 2 = h 210 2) (b : h 210 2 ≤ 12) (eA : ∀ i, i < 12 → H 8 i = h 215 i) (eD : ∀ i, i < 12 → H 7 i = h 214 i) (eB : ∀ i, i < 12 → H (L + 1) i = h 218 i) : MSL H L := MSE.cp (B := h 218) x e b eA eD eB
theorem ms_n_pos {B C : Nat → Int} : ∀ n i, i < n → 0 < ms_n B C (B i) (C i) n
  | 0, i, hi => absurd hi (Nat.not_lt_zero i)
  | n + 1, i, hi => by
    show 0 < ms_n B C (B i) (C i) n + (if B n = B i ∧ C n = C i then 1 else 0)
    by_cases e : i = n
    · subst e; rw [if_pos ⟨rfl, rfl⟩]; omega
    · have := ms_n_pos (B := B) (C := C) n i (by omega)
      omega
/-- the best row: as many cars as wait, of the same kinds -/
def XBe (h : hp) : Prop := MSE (xB h) (h 67) (xB h) (xC h) (h 3 2 - h 18 7).toNat
/-- what holds of the line while cars move: its kinds, the cars' colors, and the plan, if it still holds -/
def MCL (h : hp) : Prop := MSL h 18 ∧ (∀ i : Nat, (i : Int) < h 3 2 → 0 ≤ h 7 i ∧ h 7 i ≤ 4) ∧ (h 63 5 = h 18 16 → XBe h)
theorem MCL.xbe {h : hp} (m : MCL h) (e : h 63 5 = h 18 16) : XBe h := m.2.2 e
theorem MCL.col {h : hp} (m : MCL h) (j : Nat) (hj : (j : Int) < h 3 2 - h 18 7) (h0 : 0 ≤ h 18 7) : 0 ≤ xC h j ∧ xC h j ≤ 4 := by
  obtain ⟨m1, m2, _⟩ := m
  unfold xC
  have hi : (h 18 7).toNat + j < (h 3 2).toNat := by omega
  have h1 := ms_n_pos (B := h 8) (C := h 19) _ _ hi
  have h2 := m1 (h 8 ((h 18 7).toNat + j)) (h 19 ((h 18 7).toNat + j))
  rw [show h (18 + 1) = h 19 from rfl] at h2
  rw [h2] at h1
  obtain ⟨k, hk, _, e⟩ := ms_n_ex _ h1
  rw [← e]
  exact m2 k (by omega)
theorem MCL.mv {h H : hp} (m : MCL h) (e8 : H 8 = h 8) (e7 : H 7 = h 7) (e19 : H 19 = h 19) (e67 : H 67 = h 67) (e2 : H 3 2 = h 3 2) (b : h 3 2 ≤ 12) (e5 : H 63 5 = h 63 5) (d : H 63 5 = H 18 16 → h 63 5 = h 18 16 ∧ H 18 7 = h 18 7) : MCL H := by
  obtain ⟨m1, m2, m3⟩ := m
  refine ⟨m1.mv e8 e7 e2 b (fun i _ => congrFun e19 i), fun i hi => ?_, fun e => ?_⟩
  · rw [e7]; exact m2 i (by omega)
  · obtain ⟨d1, d2⟩ := d e
    have x := m3 d1
    unfold XBe xB xC at *
    rw [e8, e19, e67, e2, d2]
    exact x
theorem MCL.gone {h H : hp} (m : MCL h) (l : MSL H 18) (e7 : H 7 = h 7) (e2 : H 3 2 = h 3 2) (ne : H 63 5 ≠ H 18 16) : MCL H :=
  ⟨l, fun i hi => by rw [e7]; exact m.2.1 i (by omega), fun e => absurd e ne⟩
theorem MCL.swap {h H : hp} (m : MCL h) (x : XBe h) (e8 : H 8 = h 8) (e7 : H 7 = h 7) (e67 : H 67 = h 67) (e2 : H 3 2 = h 3 2) (b : 0 ≤ h 3 2 ∧ h 3 2 ≤ 12 ∧ 0 ≤ h 18 7) (e187 : H 18 7 = h 18 7) (eq : H 63 5 = H 18 16 → h 63 5 = h 18 16 ∧ H 18 16 = h 18 16)
    (p1 : ∀ p : Nat, (p : Int) < h 3 2 - h 18 7 → H 19 ((h 18 7).toNat + p) = h 67 p) (p2 : ∀ i : Nat, ((i : Int) < h 18 7 ∨ h 3 2 ≤ (i : Int)) → H 19 i = h 19 i) (p3 : H 18 16 = h 18 16 → ∀ i : Nat, H 19 i = h 19 i) : MCL H := by
  obtain ⟨m1, m2, m3⟩ := m
  have hs : MSE (h 8) (H 19) (h 8) (h 19) (h 3 2).toNat := by
    by_cases hle : h 18 7 ≤ h 3 2
    · exact MSE.part (e := (h 18 7).toNat) (k := (h 3 2 - h 18 7).toNat) x (by omega) (fun p hp => p1 p (by omega)) (fun i hi => p2 i (by omega))
    · exact fun b' c => ms_n_congr _ (fun i hi => p2 i (by omega))
  refine ⟨?_, fun i hi => ?_, fun e => ?_⟩
  · unfold MSL
    rw [e8, e7, e2]
    exact hs.trans m1
  · rw [e7]; exact m2 i (by omega)
  · obtain ⟨_, d2⟩ := eq e
    have e19 : H 19 = h 19 := funext (p3 d2)
    unfold XBe xB xC at *
    rw [e8, e19, e67, e2, e187]
    exact x
/-! what can be undone -/
def hv (h : hp) (x : Nat) : Prop := (h 73 1 + 13 - (x : Int)) % 7 < h 73 2
def HIv (h : hp) : Prop := ∀ x : Nat, x < 7 → hv h x → MSL h (75 + 19 * x)
def HIn (h : hp) : Prop := ∀ x : Nat, x < 7 → (hv h x ∨ (x : Int) = h 73 1) → MSL h (75 + 19 * x)
theorem sv_seven {P : Nat → Prop} (p0 : P 0) (p1 : P 1) (p2 : P 2) (p3 : P 3) (p4 : P 4) (p5 : P 5) (p6 : P 6) : ∀ x, x < 7 → P x := fun x hx => by
  rcases (show x = 0 ∨ x = 1 ∨ x = 2 ∨ x = 3 ∨ x = 4 ∨ x = 5 ∨ x = 6 by omega) with rfl | rfl | rfl | rfl | rfl | rfl | rfl
  · exact p0
  · exact p1
  · exact p2
  · exact p3
  · exact p4
  · exact p5
  · exact p6
theorem ms_st {h H : hp} {x : Nat} (m : MSL h (75 + 19 * x)) (e8 : H 8 = h 8) (e7 : H 7 = h 7) (e2 : H 3 2 = h 3 2) (b : h 3 2 ≤ 12) (e : ∀ i, H (76 + 19 * x) i = h (76 + 19 * x) i) : MSL H (75 + 19 * x) :=
  m.mv e8 e7 e2 b (fun i _ => by rw [show 75 + 19 * x + 1 = 76 + 19 * x by omega]; exact e i)
theorem HIv.n {h H : hp} (n : HIn h) (e8 : H 8 = h 8) (e7 : H 7 = h 7) (e2 : H 3 2 = h 3 2) (b : h 3 2 ≤ 12) (es : ∀ x, x < 7 → ∀ i, H (76 + 19 * x) i = h (76 + 19 * x) i) (k1 : H 73 1 = h 73 1) (k2 : H 73 2 = h 73 2) : HIv H := fun x hx hw =>
  ms_st (n x hx (Or.inl (by unfold hv at *; rw [k1, k2] at hw; exact hw))) e8 e7 e2 b (es x hx)
theorem HIv.mv {h H : hp} (n : HIv h) (e8 : H 8 = h 8) (e7 : H 7 = h 7) (e2 : H 3 2 = h 3 2) (b : h 3 2 ≤ 12) (es : ∀ x, x < 7 → ∀ i, H (76 + 19 * x) i = h (76 + 19 * x) i) (k1 : H 73 1 = h 73 1) (k2 : H 73 2 = h 73 2) : HIv H := fun x hx hw =>
  ms_st (n x hx (by unfold hv at *; rw [k1, k2] at hw; exact hw)) e8 e7 e2 b (es x hx)
theorem HIv.k {h H : hp} (n : HIn h) (e8 : H 8 = h 8) (e7 : H 7 = h 7) (e2 : H 3 2 = h 3 2) (b : h 3 2 ≤ 12) (es : ∀ x, x < 7 → ∀ i, H (76 + 19 * x) i = h (76 + 19 * x) i) (k1 : (0 ≤ h 73 1 ∧ h 73 1 ≤ 5 ∧ H 73 1 = h 73 1 + 1) ∨ (h 73 1 = 6 ∧ H 73 1 = 0)) (k2 : (h 73 2 ≤ 5 ∧ H 73 2 = h 73 2 + 1) ∨ (h 73 2 = 6 ∧ H 73 2 = 6)) : HIv H := fun x hx hw =>
  ms_st (n x hx (by
    unfold hv at *
    have ha : h 73 1 = 0 ∨ h 73 1 = 1 ∨ h 73 1 = 2 ∨ h 73 1 = 3 ∨ h 73 1 = 4 ∨ h 73 1 = 5 ∨ h 73 1 = 6 := by omega
    have hb : x = 0 ∨ x = 1 ∨ x = 2 ∨ x = 3 ∨ x = 4 ∨ x = 5 ∨ x = 6 := by omega
    clear es e8 e7 e2 n
    rcases ha with ha | ha | ha | ha | ha | ha | ha <;> rcases hb with hb | hb | hb | hb | hb | hb | hb <;> subst hb <;> rw [ha] at k1 ⊢ <;> omega)) e8 e7 e2 b (es x hx)
theorem HIv.back {h H : hp} (n : HIv h) (e8 : H 8 = h 8) (e7 : H 7 = h 7) (e2 : H 3 2 = h 3 2) (b : h 3 2 ≤ 12) (es : ∀ x, x < 7 → ∀ i, H (76 + 19 * x) i = h (76 + 19 * x) i) (k1 : (1 ≤ h 73 1 ∧ H 73 1 = h 73 1 - 1) ∨ (h 73 1 = 0 ∧ H 73 1 = 6)) (k2 : H 73 2 = h 73 2 - 1) : HIv H := fun x hx hw =>
  ms_st (n x hx (by unfold hv at *; omega)) e8 e7 e2 b (es x hx)
theorem HIv.zero {h : hp} (e : h 73 2 ≤ 0) : HIv h := fun x hx hw => by unfold hv at hw; omega
/-! a script's commands: numbers of those that wait or step -/
def NBc (W N : Nat → Int) : Prop := ∀ i, i < 80 → (W i = 16 ∨ W i = 17) → 0 ≤ N i ∧ N i ≤ 99
theorem NBc.put {W N W2 N2 : Nat → Int} {i : Nat} {w v : Int} (n : NBc W N) (e1 : W2 i = w) (e2 : N2 i = v) (o1 : ∀ k, k ≠ i → W2 k = W k) (o2 : ∀ k, k ≠ i → N2 k = N k) (d : (w ≠ 16 ∧ w ≠ 17) ∨ (0 ≤ v ∧ v ≤ 99)) : NBc W2 N2 := fun k hk hw => by
  by_cases e : k = i
  · subst e; rw [e1] at hw; rw [e2]; omega
  · rw [o1 k e] at hw; rw [o2 k e]; exact n k hk hw
def MCI (h : hp) : Prop := MCL h ∧ HIv h ∧ NBc (h 69) (h 70)
theorem MCI.mv {h H : hp} (m : MCI h) (e8 : H 8 = h 8) (e7 : H 7 = h 7) (e19 : H 19 = h 19) (e67 : H 67 = h 67) (e69 : H 69 = h 69) (e70 : H 70 = h 70) (e2 : H 3 2 = h 3 2) (b : h 3 2 ≤ 12) (e5 : H 63 5 = h 63 5) (d : H 63 5 = H 18 16 → h 63 5 = h 18 16 ∧ H 18 7 = h 18 7) (es : ∀ x, x < 7 → ∀ i, H (76 + 19 * x) i = h (76 + 19 * x) i) (k1 : H 73 1 = h 73 1) (k2 : H 73 2 = h 73 2) : MCI H :=
  ⟨m.1.mv e8 e7 e19 e67 e2 b e5 d, m.2.1.mv e8 e7 e2 b es k1 k2, by rw [e69, e70]; exact m.2.2⟩
theorem cv_lt {s : tk_S} {h : hp} (c : CVc s h) (b : h 11 2 ≤ 12) {i : Nat} (hi : (i : Int) < s 2) : i < 12 := by
  have := c.1.2.2.1
  omega
theorem MCL.plan {h H : hp} (m : MCL h) (x : XBe H) (e8 : H 8 = h 8) (e7 : H 7 = h 7) (e19 : H 19 = h 19) (e2 : H 3 2 = h 3 2) (b : h 3 2 ≤ 12) : MCL H :=
  ⟨m.1.mv e8 e7 e2 b (fun i _ => congrFun e19 i), fun i hi => by rw [e7]; exact m.2.1 i (by omega), fun _ => x⟩
