/-! ===== the law's run at a script of at most six ints ===== -/
def md_offs : Array Int := #[248, 352, 408, 452, 496, 509, 522, 578, 634, 690, 746, 802, 858, 871, 884, 940, 953, 1009, 1077, 1102, 1115, 1128, 1153, 1209, 1222, 1235, 1298, 1311, 1324, 1337, 1350, 1363, 1376, 1432, 1488, 1544, 1557, 1570, 1583, 1596, 1652, 1708, 1764, 1820, 1833, 1846, 1871, 1884, 1897, 1910, 1923, 1948, 1961, 2029, 2042, 2098, 2111, 2124]
theorem md_e40 : md_cd 0 40 = some (.tableswitch 2168 0 57 md_offs, 248, 0, 0, 0) := by rfl
set_option maxRecDepth 100000 in
theorem md_tk : ∀ k, k < 64 → mm_tsw 40 2168 0 57 md_offs (Int32.ofNat k) = some (md_pc k) := by decide +kernel
theorem md_and63 (x : Int32) : ∃ k, k < 64 ∧ x &&& 63 = Int32.ofNat k := by
  have e : fx_u (x &&& 63) = fx_u x &&& 63 := by
    rw [show fx_u (x &&& 63) = (x.toBitVec &&& (63 : Int32).toBitVec).toNat from rfl, BitVec.toNat_and]
    rfl
  have hlt : fx_u (x &&& 63) < 64 := by
    rw [e]
    exact Nat.lt_of_le_of_lt Nat.and_le_right (by decide)
  refine ⟨fx_u (x &&& 63), hlt, fx_u_inj ?_⟩
  rw [show fx_u (Int32.ofNat (fx_u (x &&& 63))) = fx_u (x &&& 63) % 4294967296 from rfl, Nat.mod_eq_of_lt (by omega)]
theorem md_alenx {L : Nat} {xs : Nat → Int32} (W : mm_W) : mm_alen (md_xa (L, xs)) W mm_XB = some L := by
  unfold mm_alen
  rw [if_neg (Nat.lt_irrefl _), Nat.sub_self]
  rfl
theorem md_exit {L : Nat} {xs : Nat → Int32} {d : Nat} {lo : List (Nat × Value)} {W : mm_W} {b c : Nat} (i : Int32) (h4 : mm_get lo 4 = some (.int i)) (h0 : mm_get lo 0 = some (.ref mm_XB)) (hc : mm_cmp .gt i (Int32.ofNat L - 6) = true) : Ev (md_xa (L, xs)) d 0 (23, lo, [], W, b, c) (.inl (some (.int 1)), W, b, c) :=
  ev_iload (i := 4) (nx := 25) (r1 := 0) (r2 := 0) (r3 := 0) rfl h4 <| ev_aload_n (i := 0) (nx := 26) (r1 := 0) (r2 := 0) (r3 := 0) rfl h0 <| ev_arraylength (nx := 27) (r1 := 0) (r2 := 0) (r3 := 0) rfl (md_alenx W) rfl <| ev_bipush (n := 6) (nx := 29) (r1 := 0) (r2 := 0) (r3 := 0) rfl (v := 6) (by decide) <| ev_isub (nx := 30) (r1 := 0) (r2 := 0) (r3 := 0) rfl rfl <| ev_icmp_t (cd := .gt) (off := 2184) (nx := 33) (r1 := 2214) (r2 := 0) (r3 := 0) rfl hc <| ev_iconst (n := 1) (nx := 2215) (r1 := 0) (r2 := 0) (r3 := 0) rfl (v := 1) (by decide) <| ev_ireturn (nx := 2216) (r1 := 0) (r2 := 0) (r3 := 0) (ty := .boolean) rfl rfl rfl
theorem md_ent {xs : Nat → Int32} {d k : Nat} {W : mm_W} {b c : Nat} {o : mm_O} (hk : k < 64) (hx : xs 0 &&& 63 = Int32.ofNat k) (K : Ev (md_xa (6, xs)) d 0 (md_pc k, md_lo 0, [], W, b, c) o) : Ev (md_xa (6, xs)) d 0 (23, md_lo 0, [], W, b, c) o :=
  ev_iload (i := 4) (nx := 25) (r1 := 0) (r2 := 0) (r3 := 0) (x := 0) rfl rfl <| ev_aload_n (i := 0) (nx := 26) (r1 := 0) (r2 := 0) (r3 := 0) (x := mm_XB) rfl rfl <| ev_arraylength (nx := 27) (r1 := 0) (r2 := 0) (r3 := 0) (v := 6) rfl (md_alenx W) (by decide) <| ev_bipush (n := 6) (nx := 29) (r1 := 0) (r2 := 0) (r3 := 0) rfl (v := 6) (by decide) <| ev_isub (nx := 30) (r1 := 0) (r2 := 0) (r3 := 0) (v := 0) rfl (by decide) <| ev_icmp_f (cd := .gt) (off := 2184) (nx := 33) (r1 := 2214) (r2 := 0) (r3 := 0) rfl (by decide) <| ev_aload_n (i := 0) (nx := 34) (r1 := 0) (r2 := 0) (r3 := 0) (x := mm_XB) rfl rfl <| ev_iload (i := 4) (nx := 36) (r1 := 0) (r2 := 0) (r3 := 0) (x := 0) rfl rfl <| ev_iaload (nx := 37) (r1 := 0) (r2 := 0) (r3 := 0) (v := .int (xs 0)) rfl (by
    unfold mm_aget
    rw [if_neg (Nat.lt_irrefl _), Nat.sub_self]
    rfl) <| ev_bipush (n := 63) (nx := 39) (r1 := 0) (r2 := 0) (r3 := 0) rfl (v := 63) (by decide) <| ev_iand (nx := 40) (r1 := 0) (r2 := 0) (r3 := 0) rfl hx <| ev_tsw md_e40 (md_tk k hk) K
theorem md_Rok {p q : Int} {xs : Nat → Int32} (h1 : p ≤ (xs 1).toInt) (h2 : (xs 1).toInt ≤ q) : ts_R (md_R p q) xs := by
  intro u a b h
  unfold md_R at h
  by_cases hu : u = 1
  · rw [if_pos hu] at h
    cases h
    subst hu
    exact ⟨h1, h2⟩
  · rw [if_neg hu] at h
    cases h
theorem ts_ya (xs : Nat → Int32) (pc : Nat) (lo : List (Nat × Value)) (st : List Value) (W : y_W) (b c : Nat) : ts_F xs (ya_F (pc, lo, st, W, b, c)) = (pc, ts_l xs lo, ts_s xs st, y_a W, b, c) := rfl
theorem y_a0 (t : y_t 9) : y_a (0, t) = [] := by
  unfold y_a
  rw [Nat.zero_min]
  rfl
theorem md_case {xs : Nat → Int32} {k n : Nat} {p q : Int} (h1 : p ≤ (xs 1).toInt) (h2 : (xs 1).toInt ≤ q) (hd : md_do k (n, p, q) = true) : ∃ W2 b2 c2, Ev (md_xa (6, xs)) 41 0 (md_pc k, md_lo 0, [], y_a md_zW, md_zb, md_zn) (.inl (some (.int 1)), W2, b2, c2) := by
  unfold md_do at hd
  cases hr : fx_go (md_R p q) 300000 40 0 n (md_pc k, md_lo 0, [], md_zW, md_zb, md_zn) with
  | none =>
    rw [show fx_go (md_R (n, p, q).2.1 (n, p, q).2.2) 300000 40 0 (n, p, q).1 (md_pc k, md_lo 0, [], md_zW, md_zb, md_zn) = none from hr] at hd
    cases hd
  | some F =>
    rw [show fx_go (md_R (n, p, q).2.1 (n, p, q).2.2) 300000 40 0 (n, p, q).1 (md_pc k, md_lo 0, [], md_zW, md_zb, md_zn) = some F from hr] at hd
    have hg := fx_go_s _ _ _ _ _ _ _ hr
    obtain ⟨pc, lo, st, W, b, c⟩ := F
    unfold md_end at hd
    simp only [Bool.and_eq_true, beq_iff_eq, decide_eq_true_eq, List.isEmpty_iff] at hd
    obtain ⟨⟨⟨e1, e2⟩, e3⟩, e4⟩ := hd
    subst e1 e4
    have hex : Ev (md_xa (6, xs)) 41 0 (ts_F xs (ya_F (23, lo, [], W, b, c))) (.inl (some (.int 1)), y_a W, b, c) :=
      md_exit (L := 6) (lo := ts_l xs lo) 6 (by rw [ts_get, e2]; rfl) (by rw [ts_get, e3]; rfl) (by decide)
    have hev := ts_gos (md_Rok h1 h2) _ _ _ hg hex
    rw [ts_ya, show ts_l xs (md_lo 0) = md_lo 0 from rfl, show ts_s xs [] = [] from rfl] at hev
    exact ⟨y_a W, b, c, hev⟩
def md_cov : List (Nat × Int × Int) → Int → Bool
  | [], _ => false
  | [q], f => decide (q.2.1 ≤ f) && decide (2147483647 ≤ q.2.2)
  | q :: r :: l, f => decide (q.2.1 ≤ f) && md_cov (r :: l) (q.2.2 + 1)
theorem md_covs : ∀ (l : List (Nat × Int × Int)) (f z : Int), md_cov l f = true → f ≤ z → z ≤ 2147483647 → ∃ q, q ∈ l ∧ q.2.1 ≤ z ∧ z ≤ q.2.2
  | [], _, _, h, _, _ => by cases h
  | [q], f, z, h, h1, h2 => by
    simp only [md_cov, Bool.and_eq_true, decide_eq_true_eq] at h
    exact ⟨q, List.mem_cons_self, by omega, by omega⟩
  | q :: r :: l, f, z, h, h1, h2 => by
    simp only [md_cov, Bool.and_eq_true, decide_eq_true_eq] at h
    by_cases hz : z ≤ q.2.2
    · exact ⟨q, List.mem_cons_self, by omega, hz⟩
    · obtain ⟨q', hq, hq2⟩ := md_covs (r :: l) (q.2.2 + 1) z h.2 (by omega) h2
      exact ⟨q', List.mem_cons_of_mem _ hq, hq2⟩
theorem md_cova : ∀ k, k < 64 → k ≠ 0 → md_cov (md_cc k) (-2147483648) = true := by decide +kernel
/-- feed: nothing looks at what is fed -/
def md_mend : Option mm_F → Bool
  | some (pc, lo, st, _, _, _) => pc == 23 && decide (mm_get lo 4 = some (.int 6)) && decide (mm_get lo 0 = some (.ref mm_XB)) && st.isEmpty
  | none => false
noncomputable def md_fd (xs : Nat → Int32) : Bool := md_mend (mm_go (md_xa (6, xs)) 20000 40 0 73 (md_pc 0, md_lo 0, [], y_a md_zW, md_zb, md_zn))
noncomputable def md_any : Nat → Int32 := Classical.epsilon (fun xs => ¬ md_fd xs = true)
set_option maxRecDepth 1000000 in
theorem md_fdk : md_fd md_any = true := by decide +kernel
theorem md_fda (xs : Nat → Int32) : md_fd xs = true :=
  Classical.byContradiction (fun h => (Classical.epsilon_spec (p := fun xs => ¬ md_fd xs = true) ⟨xs, h⟩) md_fdk)
theorem md_feed (xs : Nat → Int32) : ∃ W2 b2 c2, Ev (md_xa (6, xs)) 41 0 (md_pc 0, md_lo 0, [], y_a md_zW, md_zb, md_zn) (.inl (some (.int 1)), W2, b2, c2) := by
  have hd := md_fda xs
  unfold md_fd at hd
  cases hr : mm_go (md_xa (6, xs)) 20000 40 0 73 (md_pc 0, md_lo 0, [], y_a md_zW, md_zb, md_zn) with
  | none => rw [hr] at hd; cases hd
  | some F =>
    rw [hr] at hd
    obtain ⟨pc, lo, st, W, b, c⟩ := F
    unfold md_mend at hd
    simp only [Bool.and_eq_true, beq_iff_eq, decide_eq_true_eq, List.isEmpty_iff] at hd
    obtain ⟨⟨⟨e1, e2⟩, e3⟩, e4⟩ := hd
    subst e1 e4
    exact ⟨W, b, c, mm_go_ev (fun _ _ h => h) _ _ _ hr (md_exit (L := 6) 6 e2 e3 (by decide))⟩
theorem md_pre {xs : Nat → Int32} {o : mm_O} (K : Ev (md_xa (6, xs)) 41 0 (23, md_lo 0, [], y_a md_zW, md_zb, md_zn) o) : Ev (md_xa (6, xs)) 41 0 (0, [(0, .ref mm_XB)], [], [], md_cells, md_slots) o := by
  have hg := fx_go_s _ _ _ _ _ _ _ md_zSe
  have hR : ts_R md_N xs := fun u a b h => by cases h
  have h2 := ts_gos (o := o) hR _ _ _ hg
  rw [ts_ya, ts_ya, y_a0, show ts_l xs (md_lo 0) = md_lo 0 from rfl, show ts_s xs [] = [] from rfl, show ts_l xs [(0, .ref mm_XB)] = [(0, .ref mm_XB)] from rfl] at h2
  exact h2 K
/-- a shorter script: the loop isn't entered -/
noncomputable def md_sS : Option mm_F := mm_go md_xz 20000 40 0 13 (0, [(0, .ref mm_XB)], [], [], md_cells, md_slots)
noncomputable def md_sc : Bool := match md_sS with
  | some (pc, lo, st, _, _, _) => pc == 23 && decide (mm_get lo 4 = some (.int 0)) && decide (mm_get lo 0 = some (.ref mm_XB)) && st.isEmpty
  | none => false
set_option maxRecDepth 1000000 in
theorem md_sk : md_sc = true := by decide +kernel
theorem md_lt6 : ∀ L, L < 6 → mm_cmp .gt 0 (Int32.ofNat L - 6) = true := by decide +kernel
theorem md_short {L : Nat} {xs : Nat → Int32} (hL : L < 6) : ∃ W2 b2 c2, Ev (md_xa (L, xs)) 41 0 (0, [(0, .ref mm_XB)], [], [], md_cells, md_slots) (.inl (some (.int 1)), W2, b2, c2) := by
  have hd := md_sk
  unfold md_sc at hd
  cases hr : md_sS with
  | none => rw [hr] at hd; cases hd
  | some F =>
    rw [hr] at hd
    obtain ⟨pc, lo, st, W, b, c⟩ := F
    simp only [Bool.and_eq_true, beq_iff_eq, decide_eq_true_eq, List.isEmpty_iff] at hd
    obtain ⟨⟨⟨e1, e2⟩, e3⟩, e4⟩ := hd
    subst e1 e4
    exact ⟨W, b, c, mm_go_ev (md_xz_le _) _ _ _ hr (md_exit 0 e2 e3 (md_lt6 L hL))⟩
