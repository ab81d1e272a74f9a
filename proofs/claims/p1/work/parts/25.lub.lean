/-! ===== steps with the callers held in a list ===== -/
abbrev ss_C : Type := List (Nat × Nat × List (Nat × Value) × List Value)
noncomputable def ss_1 (R : Nat → Option (Int × Int)) (s : ss_C × Nat × y_F) : Option (ss_C × Nat × y_F) :=
  match fx_step R s.2.1 s.2.2 with
  | some (.inl F') => some (s.1, s.2.1, F')
  | some (.inr (.inr (j', as, nx, _, G))) =>
    if s.1.length < 30 then
      fx_n j' (fun j2 => if (fx_mt j2).2.2.1 < g_sum as then none else some ((s.2.1, nx, G.2.1, G.2.2.1) :: s.1, j2, (0, lv_args 0 as, [], G.2.2.2.1, G.2.2.2.2.1, G.2.2.2.2.2)))
    else none
  | some (.inr (.inl (.inl v, W2, b2, c2))) =>
    match s.1 with
    | [] => none
    | q :: cs => if v.all ts_ok then some (cs, q.1, (q.2.1, q.2.2.1, v.toList ++ q.2.2.2, W2, b2, c2)) else none
  | _ => none
noncomputable def ss_n (R : Nat → Option (Int × Int)) (n : Nat) : ss_C × Nat × y_F → Option (ss_C × Nat × y_F) := Nat.rec (motive := fun _ => ss_C × Nat × y_F → Option (ss_C × Nat × y_F)) (fun s => some s) (fun _ ih s => match ss_1 R s with | some s' => ih s' | none => none) n
def es_ (xa : mm_Xa) : ss_C → Nat → Nat → mm_F → mm_O → Prop
  | [], d, j, F, o => Ev xa d j F o
  | q :: cs, d, j, F, o => ∃ v W2 b2 c2, Ev xa d j F (.inl v, W2, b2, c2) ∧ es_ xa cs (d + 1) q.1 (q.2.1, q.2.2.1, v.toList ++ q.2.2.2, W2, b2, c2) o
theorem es_step {xa : mm_Xa} {d j : Nat} {F F' : mm_F} (h : ∀ o, Ev xa d j F' o → Ev xa d j F o) : ∀ (cs : ss_C) (o : mm_O), es_ xa cs d j F' o → es_ xa cs d j F o
  | [], o, k => h o k
  | _ :: _, _, ⟨v, W2, b2, c2, k1, k2⟩ => ⟨v, W2, b2, c2, h _ k1, k2⟩
def ts_cs (xs : Nat → Int32) (cs : ss_C) : ss_C := cs.map (fun q => (q.1, q.2.1, ts_l xs q.2.2.1, ts_s xs q.2.2.2))
theorem ts_csl (xs : Nat → Int32) (cs : ss_C) : (ts_cs xs cs).length = cs.length := List.length_map _
theorem ss_s {R : Nat → Option (Int × Int)} {xs : Nat → Int32} (hR : ts_R R xs) {s s' : ss_C × Nat × y_F} (h : ss_1 R s = some s') (hl : s.1.length ≤ 30) : s'.1.length ≤ 30 ∧ ∀ o, es_ (md_xa (6, xs)) (ts_cs xs s'.1) (41 - s'.1.length) s'.2.1 (ts_F xs (ya_F s'.2.2)) o → es_ (md_xa (6, xs)) (ts_cs xs s.1) (41 - s.1.length) s.2.1 (ts_F xs (ya_F s.2.2)) o := by
  obtain ⟨cs, j, F⟩ := s
  unfold ss_1 at h
  dsimp only at h hl
  cases hs : fx_step R j F with
  | none => rw [hs] at h; cases h
  | some T =>
    rw [hs] at h
    have hst := ts_steps hR (fx_step_s hs)
    rcases T with F' | ⟨v | E, W2, b2, c2⟩ | ⟨j', as, nx, fl, G⟩
    · cases Option.some.inj (show some (cs, j, F') = some s' from h)
      exact ⟨hl, fun o k => es_step (fun o k => Ev.step hst k) _ _ k⟩
    · cases cs with
      | nil => cases h
      | cons q cs =>
        have h2 : (if v.all ts_ok then some (cs, q.1, (q.2.1, q.2.2.1, v.toList ++ q.2.2.2, W2, b2, c2)) else none) = some s' := h
        by_cases hv : v.all ts_ok = true
        · rw [if_pos hv] at h2
          cases Option.some.inj h2
          have hl2 : cs.length + 1 ≤ 30 := hl
          refine ⟨by show cs.length ≤ 30; omega, fun o k => ?_⟩
          refine ⟨v, y_a W2, b2, c2, Ev.done hst, ?_⟩
          have e1 : 41 - (q :: cs).length + 1 = 41 - cs.length := by
            rw [List.length_cons]; omega
          show es_ (md_xa (6, xs)) (ts_cs xs cs) (41 - (q :: cs).length + 1) q.1 (q.2.1, ts_l xs q.2.2.1, v.toList ++ ts_s xs q.2.2.2, y_a W2, b2, c2) o
          rw [e1, ← ts_ap xs v (ts_all hv)]
          exact k
        · rw [if_neg hv] at h2; cases h2
    · cases h
    · have h2 : (if cs.length < 30 then fx_n j' (fun j2 => if (fx_mt j2).2.2.1 < g_sum as then none else some ((j, nx, G.2.1, G.2.2.1) :: cs, j2, (0, lv_args 0 as, [], G.2.2.2.1, G.2.2.2.2.1, G.2.2.2.2.2))) else none) = some s' := h
      by_cases hc : cs.length < 30
      · rw [if_pos hc, fx_n_eq, fx_mt_eq, g_sum_eq] at h2
        by_cases hm : (md_mt j').2.2.1 < (as.map fun v => v.category).sum
        · rw [if_pos hm] at h2; cases h2
        · rw [if_neg hm] at h2
          cases Option.some.inj h2
          refine ⟨by show cs.length + 1 ≤ 30; omega, fun o k => ?_⟩
          obtain ⟨v, W2, b2, c2, k1, k2⟩ : ∃ v W2 b2 c2, Ev (md_xa (6, xs)) (41 - (cs.length + 1)) j' (ts_F xs (ya_F (0, lv_args 0 as, [], G.2.2.2.1, G.2.2.2.2.1, G.2.2.2.2.2))) (.inl v, W2, b2, c2) ∧ es_ (md_xa (6, xs)) (ts_cs xs cs) (41 - (cs.length + 1) + 1) j (nx, ts_l xs G.2.1, v.toList ++ ts_s xs G.2.2.1, W2, b2, c2) o := k
          have e1 : 41 - cs.length = 41 - (cs.length + 1) + 1 := by omega
          show es_ (md_xa (6, xs)) (ts_cs xs cs) (41 - cs.length) j (ts_F xs (ya_F F)) o
          rw [e1]
          refine es_step (fun o k => ?_) _ _ k2
          refine Ev.call (j' := j') (as := ts_s xs as) (nx := nx) (fl := fl) (G := ts_F xs (ya_F G)) hst (by rw [ts_sum]; exact hm) ?_ k
          rw [ts_args]
          exact k1
      · rw [if_neg hc] at h2; cases h2
theorem ss_ns {R : Nat → Option (Int × Int)} {xs : Nat → Int32} (hR : ts_R R xs) : ∀ (n : Nat) (s s' : ss_C × Nat × y_F), ss_n R n s = some s' → s.1.length ≤ 30 → s'.1.length ≤ 30 ∧ ∀ o, es_ (md_xa (6, xs)) (ts_cs xs s'.1) (41 - s'.1.length) s'.2.1 (ts_F xs (ya_F s'.2.2)) o → es_ (md_xa (6, xs)) (ts_cs xs s.1) (41 - s.1.length) s.2.1 (ts_F xs (ya_F s.2.2)) o
  | 0, s, s', h, hl => by
    cases Option.some.inj (show some s = some s' from h)
    exact ⟨hl, fun _ k => k⟩
  | n + 1, s, s', h, hl => by
    have h2 : (match ss_1 R s with | some s' => ss_n R n s' | none => none) = some s' := h
    cases h1 : ss_1 R s with
    | none => rw [h1] at h2; cases h2
    | some s1 =>
      rw [h1] at h2
      obtain ⟨hl1, k1⟩ := ss_s hR h1 hl
      obtain ⟨hl2, k2⟩ := ss_ns hR n s1 s' h2 hl1
      exact ⟨hl2, fun o k => k1 o (k2 o k)⟩
def lu_cc : Nat → List (Nat × Int × Int)
  | 37 => [(3316001366, (-2147483648), 2147483647)]
  | 43 => [(820001358, (-2147483648), 2147483647)]
  | 44 => [(820001358, (-2147483648), 2147483647)]
  | 45 => [(837001369, (-2147483648), (-1)), (841001373, 0, 0), (841001373, 1, 2147483647)]
  | _ => []
def lu_ks : List Nat := [37, 43, 44, 45]
noncomputable def lu_sA (k : Nat) (q : Nat × Int × Int) : Option (ss_C × Nat × y_F) := ss_n (md_R q.2.1 q.2.2) (q.1 / 1000000) ([], 0, (md_pc k, md_lo 0, [], md_zW, md_zb, md_zn))
noncomputable def lu_chk (X : y_W) : Bool :=
  Nat.blt 247 X.1 && Nat.ble X.1 512 &&
  (match y_get X 236 with
    | some (.inr (c, fs)) => c == 11 && decide (fs[13]? = some (.ref 238)) && decide (fs[30]? = some (.ref 247))
    | _ => false) &&
  (match y_get X 238 with
    | some (.inl (t, n, .inl nf)) => t == 0 && n == 200 && decide (nf 98 = 0) && decide (nf 99 = 0) && decide (nf 100 = 0) && decide (nf 101 = 0)
    | _ => false) &&
  (match y_get X 247 with
    | some (.inl (t, n, .inl _)) => t == 0 && n == 4
    | _ => false)
theorem lu_chks {X : y_W} (h : lu_chk X = true) : ∃ fs nf g, lu_F (y_a X) fs nf ∧ y_a X = lu_w (y_a X) g := by
  unfold lu_chk at h
  simp only [Bool.and_eq_true] at h
  obtain ⟨⟨⟨⟨h1, h2⟩, h3⟩, h4⟩, h5⟩ := h
  have hn1 : 247 < X.1 := Nat.ble_eq.mp h1
  have hn2 : X.1 ≤ 512 := Nat.ble_eq.mp h2
  have hlen : 247 < (y_a X).length := by rw [y_len_eq]; omega
  have e1 := y_get_eq X 236
  have e2 := y_get_eq X 238
  have e3 := y_get_eq X 247
  rcases g1 : y_get X 236 with _ | e | ⟨c, fs⟩
  · rw [g1] at h3; cases h3
  · rw [g1] at h3; cases h3
  rcases g2 : y_get X 238 with _ | ⟨t, n, f | f | f⟩ | e
  · rw [g2] at h4; cases h4
  rotate_left
  · rw [g2] at h4; cases h4
  · rw [g2] at h4; cases h4
  · rw [g2] at h4; cases h4
  rcases g3 : y_get X 247 with _ | ⟨t', n', f' | f' | f'⟩ | e
  · rw [g3] at h5; cases h5
  rotate_left
  · rw [g3] at h5; cases h5
  · rw [g3] at h5; cases h5
  · rw [g3] at h5; cases h5
  rw [g1] at h3 e1
  rw [g2] at h4 e2
  rw [g3] at h5 e3
  simp only [Bool.and_eq_true, beq_iff_eq, decide_eq_true_eq] at h3 h4 h5
  obtain ⟨⟨rfl, a1⟩, a2⟩ := h3
  obtain ⟨⟨⟨⟨⟨rfl, rfl⟩, b1⟩, b2⟩, b3⟩, b4⟩ := h4
  obtain ⟨rfl, rfl⟩ := h5
  refine ⟨fs, f, f', ⟨hlen, e1, a1, a2, e2, b1, b2, b3, b4⟩, ?_⟩
  apply List.ext_getElem?
  intro i
  unfold lu_w
  rw [List.getElem?_set]
  by_cases hi : 247 = i
  · subst hi
    rw [if_pos rfl, if_pos hlen, e3]
    rfl
  · rw [if_neg hi]
noncomputable def lu_c1 (k : Nat) (q : Nat × Int × Int) : Bool :=
  match lu_sA k q with
  | some (cs, j, (pc, lo, st, X, _, _)) => decide (cs.length ≤ 30) && j == 299 && pc == 14 && decide (lo = lu_lo (Int32.ofNat 2399)) && st.isEmpty && lu_chk X
  | none => false
noncomputable def lu_c2 (k : Nat) (q : Nat × Int × Int) (g : Nat → Int32) : Bool :=
  match lu_sA k q with
  | some (cs, _, (_, _, _, X, b, c)) =>
    (match ss_n (md_R q.2.1 q.2.2) (q.1 % 1000000) (cs, 299, (14, lu_lo 0, [], y_set X 247 (lu_A g), b, c)) with
      | some (cs2, j2, F2) => cs2.isEmpty && j2 == 0 && md_end (some F2)
      | none => false)
  | none => false
set_option maxRecDepth 1000000 in
theorem lu_k1 : lu_ks.all (fun k => (lu_cc k).all (fun q => lu_c1 k q)) = true := by decide +kernel
noncomputable def lu_c2a (g : Nat → Int32) : Bool := lu_ks.all (fun k => (lu_cc k).all (fun q => lu_c2 k q g))
noncomputable def lu_any : Nat → Int32 := Classical.epsilon (fun g => ¬ lu_c2a g = true)
set_option maxRecDepth 1000000 in
theorem lu_k2 : lu_c2a lu_any = true := by decide +kernel
theorem lu_k2a (g : Nat → Int32) : lu_c2a g = true :=
  Classical.byContradiction (fun h => (Classical.epsilon_spec (p := fun g => ¬ lu_c2a g = true) ⟨g, h⟩) lu_k2)
theorem lu_cova : ∀ k, k ∈ lu_ks → md_cov (lu_cc k) (-2147483648) = true := by decide +kernel
theorem md_lu (xs : Nat → Int32) (k : Nat) (hk : k ∈ lu_ks) : ∃ W2 b2 c2, Ev (md_xa (6, xs)) 41 0 (md_pc k, md_lo 0, [], y_a md_zW, md_zb, md_zn) (.inl (some (.int 1)), W2, b2, c2) := by
  have hz1 : -2147483648 ≤ (xs 1).toInt := Int32.le_toInt (xs 1)
  have hz2 : (xs 1).toInt ≤ 2147483647 := by
    have := Int32.toInt_lt (xs 1)
    omega
  obtain ⟨⟨n, p, q⟩, hq, hp1, hp2⟩ := md_covs _ _ _ (lu_cova k hk) hz1 hz2
  have hc1 := List.all_eq_true.mp (List.all_eq_true.mp lu_k1 k hk) _ hq
  have hc2 := fun g => List.all_eq_true.mp (List.all_eq_true.mp (lu_k2a g) k hk) _ hq
  have hR := md_Rok hp1 hp2
  unfold lu_c1 at hc1
  unfold lu_c2 at hc2
  cases hA : lu_sA k (n, p, q) with
  | none => rw [hA] at hc1; cases hc1
  | some s =>
    obtain ⟨cs, j, pc, lo, st, X, b, c⟩ := s
    rw [hA] at hc1 hc2
    dsimp only at hc1 hc2
    simp only [Bool.and_eq_true, beq_iff_eq, decide_eq_true_eq, List.isEmpty_iff] at hc1
    obtain ⟨⟨⟨⟨⟨hl, e1⟩, e2⟩, e3⟩, e4⟩, hX⟩ := hc1
    subst e1 e2 e3 e4
    obtain ⟨fs, nf, g, HF, hg⟩ := lu_chks hX
    obtain ⟨-, k1⟩ := ss_ns hR _ _ _ hA (by show 0 ≤ 30; omega)
    obtain ⟨g', hloop⟩ := lu_loop (xa := md_xa (6, xs)) (d := 40 - cs.length) (b := b) (c := c) HF 2399 (by decide) g
    have h2 := hc2 g'
    cases hB : ss_n (md_R p q) (n % 1000000) (cs, 299, (14, lu_lo 0, [], y_set X 247 (lu_A g'), b, c)) with
    | none => rw [hB] at h2; cases h2
    | some s2 =>
      rw [hB] at h2
      obtain ⟨cs2, j2, pc2, lo2, st2, X2, b2, c2⟩ := s2
      dsimp only at h2
      simp only [Bool.and_eq_true, beq_iff_eq, List.isEmpty_iff] at h2
      obtain ⟨⟨f1, f2⟩, hend⟩ := h2
      unfold md_end at hend
      simp only [Bool.and_eq_true, beq_iff_eq, decide_eq_true_eq, List.isEmpty_iff] at hend
      obtain ⟨⟨⟨f3, f4⟩, f5⟩, f6⟩ := hend
      subst f1 f2 f3 f6
      obtain ⟨-, k2⟩ := ss_ns hR _ _ _ hB hl
      refine ⟨y_a X2, b2, c2, ?_⟩
      have hex : Ev (md_xa (6, xs)) 41 0 (23, ts_l xs lo2, [], y_a X2, b2, c2) (.inl (some (.int 1)), y_a X2, b2, c2) :=
        md_exit (L := 6) 6 (by rw [ts_get, f4]; rfl) (by rw [ts_get, f5]; rfl) (by decide)
      have k3 := k2 (.inl (some (.int 1)), y_a X2, b2, c2) hex
      have k4 : es_ (md_xa (6, xs)) (ts_cs xs cs) (41 - cs.length) 299 (14, lu_lo (Int32.ofNat 2399), [], y_a X, b, c) (.inl (some (.int 1)), y_a X2, b2, c2) := by
        have e5 : 41 - cs.length = 40 - cs.length + 1 := by omega
        rw [e5, hg]
        refine es_step (F' := (14, lu_lo 0, [], lu_w (y_a X) g', b, c)) hloop _ _ ?_
        rw [← e5]
        have e6 : lu_w (y_a X) g' = y_a (y_set X 247 (lu_A g')) := (y_set_eq X 247 (lu_A g')).symm
        rw [e6]
        exact k3
      have k5 : Ev (md_xa (6, xs)) 41 0 (ts_F xs (ya_F (md_pc k, md_lo 0, [], md_zW, md_zb, md_zn))) (.inl (some (.int 1)), y_a X2, b2, c2) := k1 _ k4
      rw [ts_ya, show ts_l xs (md_lo 0) = md_lo 0 from rfl, show ts_s xs [] = [] from rfl] at k5
      exact k5
