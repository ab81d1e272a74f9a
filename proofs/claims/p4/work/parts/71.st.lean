/-! ===== the world behind the constructors ===== -/
/-! runs over tries that don't look at the script -/
noncomputable def vx_at (F : y_F) (j pc : Nat) : Option y_T :=
  match fx_cd j pc with
  | none => none
  | some e => (fx_P e.1).1 md_xz j e.2.1 e.2.2.1 e.2.2.2.1 e.2.2.2.2 pc F.2.1 F.2.2.1 F.2.2.2.1 F.2.2.2.2.1 F.2.2.2.2.2
noncomputable def vx_step (j : Nat) (F : y_F) : Option y_T := fx_n F.1 (vx_at F j)
theorem vx_step_s {j : Nat} {F : y_F} {T : y_T} (h : vx_step j F = some T) : mm_step md_xz j (ya_F F) = some (ya_T T) := by
  unfold vx_step at h
  rw [fx_n_eq] at h
  unfold vx_at at h
  rw [fx_cd_eq] at h
  unfold mm_step
  show (match md_cd j F.1 with | none => none | some e => mm_stepI md_xz j e.1 e.2.1 e.2.2.1 e.2.2.2.1 e.2.2.2.2 F.1 F.2.1 F.2.2.1 (y_a F.2.2.2.1) F.2.2.2.2.1 F.2.2.2.2.2) = _
  cases hc : md_cd j F.1 with
  | none => rw [hc] at h; cases h
  | some e =>
    rw [hc] at h
    exact fx_I_s _ _ _ _ _ _ _ _ _ _ _ _ _ _ h
noncomputable def vx_call (ex : Nat → Nat → y_F → Option y_O) (d j : Nat) (j' : Nat) (as : List Value) (nx : Nat) (G : y_F) : Option y_O :=
  match d with
  | 0 => none
  | d' + 1 =>
    match fx_n j' (fun j2 => if (fx_mt j2).2.2.1 < g_sum as then none else ex d' j2 (0, lv_args 0 as, [], G.2.2.2.1, G.2.2.2.2.1, G.2.2.2.2.2)) with
    | some (.inl v, W2, b2, c2) => ex (d' + 1) j (nx, G.2.1, v.toList ++ G.2.2.1, W2, b2, c2)
    | _ => none
noncomputable def vx_nxt (ex : Nat → Nat → y_F → Option y_O) (d j : Nat) (r : Option y_T) : Option y_O :=
  match r with
  | none => none
  | some (.inl F') => ex d j F'
  | some (.inr (.inl o)) => some o
  | some (.inr (.inr (j', as, nx, _, G))) => vx_call ex d j j' as nx G
noncomputable def vx_ex (f : Nat) : Nat → Nat → y_F → Option y_O := Nat.rec (motive := fun _ => Nat → Nat → y_F → Option y_O) (fun _ _ _ => none) (fun _ ih d j F => vx_nxt ih d j (vx_step j F)) f
theorem vx_ex_s : ∀ (f d j : Nat) (F : y_F) (o : y_O), vx_ex f d j F = some o → mm_ex md_xz f d j (ya_F F) = some (ya_O o)
  | 0, _, _, _, _, h => by cases (show (none : Option y_O) = some _ from h)
  | f + 1, d, j, F, o, h => by
    have h1 : vx_nxt (vx_ex f) d j (vx_step j F) = some o := h
    unfold vx_nxt at h1
    unfold mm_ex
    cases hs : vx_step j F with
    | none => rw [hs] at h1; cases h1
    | some T =>
      rw [hs] at h1
      rw [vx_step_s hs]
      rcases T with F' | o' | ⟨j', as, nx, fl, G⟩
      · exact vx_ex_s f d j F' o h1
      · cases Option.some.inj (show some o' = some o from h1)
        rfl
      · have h2 : vx_call (vx_ex f) d j j' as nx G = some o := h1
        unfold vx_call at h2
        try dsimp only [ya_T]
        cases d with
        | zero => cases h2
        | succ d0 =>
          dsimp only at h2 ⊢
          rw [fx_n_eq, fx_mt_eq, g_sum_eq] at h2
          by_cases hl : (md_mt j').2.2.1 < (as.map fun v => v.category).sum
          · rw [if_pos hl] at h2; cases h2
          · rw [if_neg hl] at h2
            rw [if_neg hl]
            cases hx : vx_ex f d0 j' (0, lv_args 0 as, [], G.2.2.2.1, G.2.2.2.2.1, G.2.2.2.2.2) with
            | none => rw [hx] at h2; cases h2
            | some r =>
              rw [hx] at h2
              have h3 := vx_ex_s f d0 j' _ _ hx
              rw [show mm_ex md_xz f d0 j' (0, lv_args 0 as, [], (ya_F G).2.2.2.1, (ya_F G).2.2.2.2.1, (ya_F G).2.2.2.2.2) = some (ya_O r) from h3]
              obtain ⟨v | E, W2, b2, c2⟩ := r
              · exact vx_ex_s f (d0 + 1) j _ _ h2
              · cases h2
noncomputable def vx_go (f d j : Nat) : Nat → y_F → Option y_F
  | 0, F => some F
  | n + 1, F =>
    match vx_step j F with
    | some (.inl F') => vx_go f d j n F'
    | some (.inr (.inr (j', as, nx, _, G))) =>
      match fx_n j' (fun j2 => if (fx_mt j2).2.2.1 < g_sum as then none else vx_ex f d j2 (0, lv_args 0 as, [], G.2.2.2.1, G.2.2.2.2.1, G.2.2.2.2.2)) with
      | some (.inl v, W2, b2, c2) => vx_go f d j n (nx, G.2.1, v.toList ++ G.2.2.1, W2, b2, c2)
      | _ => none
    | _ => none
theorem vx_go_s (f d j : Nat) : ∀ (n : Nat) (F F' : y_F), vx_go f d j n F = some F' → mm_go md_xz f d j n (ya_F F) = some (ya_F F')
  | 0, _, _, h => by
    cases Option.some.inj (show some _ = some _ from h)
    rfl
  | n + 1, F, F', h => by
    unfold vx_go at h
    unfold mm_go
    cases hs : vx_step j F with
    | none => rw [hs] at h; cases h
    | some T =>
      rw [hs] at h
      rw [vx_step_s hs]
      rcases T with F1 | o' | ⟨j', as, nx, fl, G⟩
      · exact vx_go_s f d j n F1 F' h
      · cases h
      · try dsimp only [ya_T] at h ⊢
        rw [fx_n_eq, fx_mt_eq, g_sum_eq] at h
        by_cases hl : (md_mt j').2.2.1 < (as.map fun v => v.category).sum
        · rw [if_pos hl] at h; cases h
        · rw [if_neg hl] at h
          rw [if_neg hl]
          cases hx : vx_ex f d j' (0, lv_args 0 as, [], G.2.2.2.1, G.2.2.2.2.1, G.2.2.2.2.2) with
          | none => rw [hx] at h; cases h
          | some r =>
            rw [hx] at h
            have h3 := vx_ex_s f d j' _ _ hx
            rw [show mm_ex md_xz f d j' (0, lv_args 0 as, [], (ya_F G).2.2.2.1, (ya_F G).2.2.2.2.1, (ya_F G).2.2.2.2.2) = some (ya_O r) from h3]
            obtain ⟨v | E, W2, b2, c2⟩ := r
            · exact vx_go_s f d j n _ _ h
            · cases h
def st_lo : List (Nat × Value) := [(4, .int 0), (3, .ref 259), (2, .ref 236), (1, .ref 0), (0, .ref mm_XB)]
noncomputable def st_S : Option y_F := vx_go 20000 200 0 13 (0, [(0, .ref mm_XB)], [], (0, yt_def 9), md_cells, md_slots)
noncomputable def st_F : y_F := st_S.getD (0, [], [], (0, yt_def 9), 0, 0)
noncomputable def st_Y : y_W := st_F.2.2.2.1
noncomputable def st_W : mm_W := y_a st_Y
def st_b : Nat := md_cells - 260
def st_c : Nat := md_slots - 211952
def st_in (q : Int × Int) (x : Int) : Bool := decide (q.1 ≤ x) && decide (x ≤ q.2)
/-- the int that a cell holds -/
def st_hE (k i : Nat) : va_E → Int
  | .inl (_, _, .inl f) => (f i).toInt
  | .inl (_, _, .inr (.inl f)) => (f i).toInt
  | .inl (t, n, .inr (.inr (.inr (.inr f)))) => if t = 6 ∧ i < n then ((f i).getD mm_XB : Int) - mm_XB else (md_bd k i).1
  | .inr (_, fs) => (match fs[i]? with
    | some (.int x) => x.toInt
    | some (.long x) => x.toInt
    | some (.ref r) => if mm_XB ≤ r then (r : Int) - mm_XB else (md_bd k i).1
    | _ => (md_bd k i).1)
  | _ => (md_bd k i).1
def st_hO (k i : Nat) : Option va_E → Int
  | some E => st_hE k i E
  | none => (md_bd k i).1
noncomputable def st_h : hp := fun k i => st_hO k i st_W[k]?
def st_rE (i : Nat) : Option va_E → Option Nat
  | some (.inl (_, _, .inr (.inr (.inr (.inr f))))) => f i
  | _ => none
noncomputable def st_r : Nat → Nat → Option Nat := fun k i => st_rE i st_W[k]?
/-- for all places from a, 2^d of them -/
def st_all (p : Nat → Bool) : Nat → Nat → Bool
  | 0, a => p a
  | d + 1, a => st_all p d a && st_all p d (a + 2 ^ d)
theorem st_alls (p : Nat → Bool) : ∀ (d a : Nat), st_all p d a = true → ∀ i, a ≤ i → i < a + 2 ^ d → p i = true
  | 0, a, h, i, h1, h2 => by
    have e : i = a := by omega
    rw [e]; exact h
  | d + 1, a, h, i, h1, h2 => by
    rw [show st_all p (d + 1) a = (st_all p d a && st_all p d (a + 2 ^ d)) from rfl, Bool.and_eq_true] at h
    rw [Nat.pow_succ] at h2
    by_cases hi : i < a + 2 ^ d
    · exact st_alls p d a h.1 i h1 hi
    · exact st_alls p d (a + 2 ^ d) h.2 i (by omega) (by omega)
def st_fok : List hp_K → List Value → Bool
  | [], [] => true
  | .inr k :: sl, .ref r :: vs => decide (r = k) && st_fok sl vs
  | .inl s :: sl, v :: vs => (match v with
    | .int _ => decide (s ≠ 1) && decide (s ≠ 3)
    | .long _ => decide (s = 1)
    | .ref r => decide (s = 3) && decide (mm_XB ≤ r)
    | _ => false) && st_fok sl vs
  | _, _ => false
/-- an object's bounds -/
abbrev st_ET : Type := ((Int × Int) ⊕ Nat) ⊕ List (Int × Int)
def st_E (k : Nat) : st_ET := (((md_bdL[k / 26]?).getD [])[k % 26]?).getD (.inl (.inl (-9223372036854775808, 9223372036854775807)))
def st_bdE (i : Nat) : st_ET → Int × Int
  | .inl (.inl q) => q
  | .inl (.inr 0) => md_rb i
  | .inl (.inr 1) => md_rb (i % 200)
  | .inl (.inr _) => md_rr i
  | .inr l => (l[i]?).getD (-9223372036854775808, 9223372036854775807)
theorem st_bdEe (k i : Nat) : md_bd k i = st_bdE i (st_E k) := rfl
/-- zero is in every bound of the object k -/
def st_zE : st_ET → Bool
  | .inl (.inl q) => st_in q 0
  | .inl (.inr 0) => md_row.all (fun q => st_in q 0)
  | .inl (.inr 1) => md_row.all (fun q => st_in q 0)
  | .inl (.inr _) => md_rrow.all (fun q => st_in q 0)
  | .inr l => l.all (fun q => st_in q 0)
def st_z (k : Nat) : Bool := st_zE (st_E k)
/-- every bound of the object k has something in it -/
def st_nE : st_ET → Bool
  | .inl (.inl q) => decide (q.1 ≤ q.2)
  | .inl (.inr 0) => md_row.all (fun q => decide (q.1 ≤ q.2))
  | .inl (.inr 1) => md_row.all (fun q => decide (q.1 ≤ q.2))
  | .inl (.inr _) => md_rrow.all (fun q => decide (q.1 ≤ q.2))
  | .inr l => l.all (fun q => decide (q.1 ≤ q.2))
def st_n (k : Nat) : Bool := st_nE (st_E k)
theorem st_la {l : List (Int × Int)} {P : Int × Int → Bool} (h : l.all P = true) (i : Nat) (d : Int × Int) (hd : P d = true) : P ((l[i]?).getD d) = true := by
  cases hq : l[i]? with
  | none => exact hd
  | some q => exact List.all_eq_true.mp h q (List.mem_of_getElem? hq)
set_option maxRecDepth 1000000 in
theorem st_zEs : ∀ (E : st_ET), st_zE E = true → ∀ (i : Nat), st_in (st_bdE i E) 0 = true
  | .inl (.inl q), h, i => h
  | .inl (.inr 0), h, i => st_la (P := fun q => st_in q 0) h i _ (by decide)
  | .inl (.inr 1), h, i => st_la (P := fun q => st_in q 0) h (i % 200) _ (by decide)
  | .inl (.inr (n + 2)), h, i => st_la (P := fun q => st_in q 0) h i _ (by decide)
  | .inr l, h, i => st_la (P := fun q => st_in q 0) h i _ (by decide)
theorem st_zs {k : Nat} (h : st_z k = true) (i : Nat) : st_in (md_bd k i) 0 = true := by
  rw [st_bdEe]; exact st_zEs _ h i
set_option maxRecDepth 1000000 in
theorem st_nEs : ∀ (E : st_ET), st_nE E = true → ∀ (i : Nat), decide ((st_bdE i E).1 ≤ (st_bdE i E).2) = true
  | .inl (.inl q), h, i => h
  | .inl (.inr 0), h, i => st_la (P := fun q => decide (q.1 ≤ q.2)) h i _ (by decide)
  | .inl (.inr 1), h, i => st_la (P := fun q => decide (q.1 ≤ q.2)) h (i % 200) _ (by decide)
  | .inl (.inr (n + 2)), h, i => st_la (P := fun q => decide (q.1 ≤ q.2)) h i _ (by decide)
  | .inr l, h, i => st_la (P := fun q => decide (q.1 ≤ q.2)) h i _ (by decide)
theorem st_ns {k : Nat} (h : st_n k = true) (i : Nat) : (md_bd k i).1 ≤ (md_bd k i).2 := by
  rw [st_bdEe]; exact of_decide_eq_true (st_nEs _ h i)
/-- an array that was never written to: its content doesn't look at the place -/
noncomputable def st_eI (f : Nat → Int32) : Nat := Classical.epsilon (fun i => f i ≠ 0)
noncomputable def st_eL (f : Nat → Int64) : Nat := Classical.epsilon (fun i => f i ≠ 0)
theorem st_eIs {f : Nat → Int32} (h : decide (f (st_eI f) = 0) = true) (i : Nat) : f i = 0 :=
  Classical.byContradiction (fun hn => (Classical.epsilon_spec (p := fun i => f i ≠ 0) ⟨i, hn⟩) (of_decide_eq_true h))
theorem st_eLs {f : Nat → Int64} (h : decide (f (st_eL f) = 0) = true) (i : Nat) : f i = 0 :=
  Classical.byContradiction (fun hn => (Classical.epsilon_spec (p := fun i => f i ≠ 0) ⟨i, hn⟩) (of_decide_eq_true h))
/-- an object's content has its shape, its ints are in their bounds; the elements of the reference's row are looked at one by one -/
noncomputable def st_ok (k : Nat) : va_E → Bool
  | .inl (t, n, .inl f) => decide (t < 4) && decide (t ≠ 1) && decide (md_sh k = .inl (t, n)) && st_z k && (if k = 238 then decide (n ≤ 2 ^ n.log2 * 2) && st_all (fun i => decide (n ≤ i) || st_in (md_bd k i) (f i).toInt) (n.log2 + 1) 0 else decide (f (st_eI f) = 0))
  | .inl (t, n, .inr (.inl f)) => decide (t = 1) && decide (md_sh k = .inl (t, n)) && st_z k && decide (f (st_eL f) = 0)
  | .inl (t, n, .inr (.inr (.inr (.inr f)))) => decide (4 ≤ t) && decide (md_sh k = .inl (t, n)) && st_n k && (decide (t ≠ 6) || decide (n ≤ 2 ^ n.log2 * 2) && st_all (fun i => decide (n ≤ i) || (match f i with | some r => decide (mm_XB ≤ r) && st_in (md_bd k i) ((r : Int) - mm_XB) | none => false)) (n.log2 + 1) 0)
  | .inr (c, fs) => (match md_sh k with
    | .inr (c2, sl) => decide (c2 = c) && st_fok sl fs && st_n k && (List.range fs.length).all (fun i => st_in (md_bd k i) (st_hE k i (.inr (c, fs))))
    | _ => false)
  | _ => false
theorem st_ext {k : Nat} {n : Nat} {p : Nat → Bool} (h : decide (n ≤ 2 ^ n.log2 * 2) = true) (h2 : st_all (fun i => decide (n ≤ i) || p i) (n.log2 + 1) 0 = true) (i : Nat) (hi : i < n) : p i = true := by
  have h1 := of_decide_eq_true h
  have h3 := st_alls _ _ _ h2 i (Nat.zero_le _) (by rw [Nat.pow_succ]; omega)
  rw [Bool.or_eq_true] at h3
  rcases h3 with h3 | h3
  · have := of_decide_eq_true h3; omega
  · exact h3
theorem st_inb {q : Int × Int} {x : Int} (h : st_in q x = true) : q.1 ≤ x ∧ x ≤ q.2 := by
  unfold st_in at h
  rw [Bool.and_eq_true] at h
  exact ⟨of_decide_eq_true h.1, of_decide_eq_true h.2⟩
theorem st_bnd {k : Nat} {E : va_E} (hz : Zo E) (h : st_ok k E = true) (i : Nat) : st_in (md_bd k i) (st_hE k i E) = true := by
  have low : st_n k = true → st_in (md_bd k i) (md_bd k i).1 = true := fun hn => by
    have := st_ns hn i
    unfold st_in
    rw [Bool.and_eq_true]
    exact ⟨decide_eq_true (Int.le_refl _), decide_eq_true this⟩
  match E, hz, h with
  | .inl (t, n, .inl f), hz, h =>
    simp only [st_ok, Bool.and_eq_true] at h
    obtain ⟨⟨-, h3⟩, h4⟩ := h
    show st_in (md_bd k i) (f i).toInt = true
    by_cases hi : i < n
    · by_cases hk : k = 238
      · rw [if_pos hk, Bool.and_eq_true] at h4
        exact st_ext (k := k) (p := fun i => st_in (md_bd k i) (f i).toInt) h4.1 h4.2 i hi
      · rw [if_neg hk] at h4
        rw [st_eIs h4 i]; exact st_zs h3 i
    · have e : f i = 0 := hz i (by omega)
      rw [e]; exact st_zs h3 i
  | .inl (t, n, .inr (.inl f)), hz, h =>
    simp only [st_ok, Bool.and_eq_true] at h
    obtain ⟨⟨-, h3⟩, h4⟩ := h
    show st_in (md_bd k i) (f i).toInt = true
    rw [st_eLs h4 i]; exact st_zs h3 i
  | .inl (t, n, .inr (.inr (.inr (.inr f)))), hz, h =>
    simp only [st_ok, Bool.and_eq_true] at h
    obtain ⟨⟨-, h3⟩, h4⟩ := h
    show st_in (md_bd k i) (if t = 6 ∧ i < n then ((f i).getD mm_XB : Int) - mm_XB else (md_bd k i).1) = true
    split
    · rename_i hi
      rw [Bool.or_eq_true, Bool.and_eq_true] at h4
      rcases h4 with h4 | ⟨h4, h5⟩
      · exact absurd hi.1 (of_decide_eq_true h4)
      · have h6 := st_ext (k := k) h4 h5 i hi.2
        cases hf : f i with
        | none => rw [hf] at h6; cases h6
        | some r =>
          rw [hf] at h6
          simp only [Bool.and_eq_true] at h6
          exact h6.2
    · exact low h3
  | .inr (c, fs), hz, h =>
    simp only [st_ok] at h
    split at h
    · simp only [Bool.and_eq_true] at h
      obtain ⟨⟨-, h3⟩, h4⟩ := h
      by_cases hi : i < fs.length
      · exact List.all_eq_true.mp h4 i (List.mem_range.mpr hi)
      · have e : fs[i]? = none := List.getElem?_eq_none (by omega)
        show st_in (md_bd k i) (match fs[i]? with
          | some (.int x) => x.toInt
          | some (.long x) => x.toInt
          | some (.ref r) => if mm_XB ≤ r then (r : Int) - mm_XB else (md_bd k i).1
          | _ => (md_bd k i).1) = true
        rw [e]
        exact low h3
    · cases h
theorem st_fos {h : hp} {k : Nat} {c : Nat} {all : List Value} (he : ∀ i, h k i = st_hE k i (.inr (c, all))) : ∀ (sl : List hp_K) (vs : List Value) (f : Nat), (∀ i, all[f + i]? = vs[i]?) → st_fok sl vs = true → hp_f h k f sl = vs
  | [], [], _, _, _ => rfl
  | [], v :: vs, _, _, e => by cases e
  | s :: sl, [], _, _, e => by cases s <;> cases e
  | .inr q :: sl, v :: vs, f, ha, e => by
    cases v <;> first | (cases e; done) | skip
    rename_i r
    simp only [st_fok, Bool.and_eq_true, decide_eq_true_eq] at e
    obtain ⟨rfl, e2⟩ := e
    show _ :: hp_f h k (f + 1) sl = _
    rw [st_fos he sl vs (f + 1) (fun i => by rw [show f + 1 + i = f + (i + 1) by omega, ha]; rfl) e2]
    rfl
  | .inl q :: sl, v :: vs, f, ha, e => by
    simp only [st_fok, Bool.and_eq_true] at e
    have h0 : all[f]? = some v := ha 0
    show hp_s (.inl q) (h k f) :: hp_f h k (f + 1) sl = _
    rw [st_fos he sl vs (f + 1) (fun i => by rw [show f + 1 + i = f + (i + 1) by omega, ha]; rfl) e.2]
    have e1 := e.1
    congr 1
    rw [he]
    simp only [st_hE]
    rw [h0]
    cases v <;> first | (cases e1; done) | skip
    · rename_i x
      simp only [Bool.and_eq_true, decide_eq_true_eq] at e1
      unfold hp_s
      split
      · rename_i z; cases z; exact absurd rfl e1.1
      · rename_i z; cases z; exact absurd rfl e1.2
      · dsimp only; rw [Int32.ofInt_toInt]
      · rename_i z; cases z
    · rename_i x
      simp only [decide_eq_true_eq] at e1
      subst e1
      show Value.long (Int64.ofInt x.toInt) = _
      rw [Int64.ofInt_toInt]
    · rename_i r
      simp only [Bool.and_eq_true, decide_eq_true_eq] at e1
      obtain ⟨rfl, e2⟩ := e1
      dsimp only
      rw [if_pos e2]
      show Value.ref (mm_XB + ((r : Int) - mm_XB).toNat) = _
      rw [show mm_XB + ((r : Int) - mm_XB).toNat = r by omega]
theorem st_obj {h : hp} {cr : Nat → Nat → Option Nat} {k : Nat} {E : va_E} (he : ∀ i, h k i = st_hE k i E) (hr : ∀ i, cr k i = st_rE i (some E)) (e : st_ok k E = true) : hp_o h cr k = E := by
  match E, he, hr, e with
  | .inl (t, n, .inl f), he, hr, e =>
    simp only [st_ok, Bool.and_eq_true, decide_eq_true_eq] at e
    obtain ⟨⟨⟨⟨e1, e2⟩, e3⟩, -⟩, -⟩ := e
    unfold hp_o
    rw [e3]
    dsimp only
    rw [if_neg e2, if_neg (fun h6 : t = 6 => absurd (h6 ▸ e1) (by decide)), if_pos e1]
    have : (fun i => Int32.ofInt (h k i)) = f := funext fun i => by rw [he i]; exact Int32.ofInt_toInt _
    rw [this]
  | .inl (t, n, .inr (.inl f)), he, hr, e =>
    simp only [st_ok, Bool.and_eq_true, decide_eq_true_eq] at e
    obtain ⟨⟨⟨e1, e3⟩, -⟩, -⟩ := e
    subst e1
    unfold hp_o
    rw [e3]
    dsimp only
    rw [if_pos rfl]
    have : (fun i => Int64.ofInt (h k i)) = f := funext fun i => by rw [he i]; exact Int64.ofInt_toInt _
    rw [this]
  | .inl (t, n, .inr (.inr (.inr (.inr f)))), he, hr, e =>
    simp only [st_ok, Bool.and_eq_true] at e
    obtain ⟨⟨⟨e1, e3⟩, -⟩, e4⟩ := e
    have e1 := of_decide_eq_true e1
    have e3 := of_decide_eq_true e3
    have ef : cr k = f := funext fun i => hr i
    unfold hp_o
    rw [e3]
    dsimp only
    rw [if_neg (fun h1 : t = 1 => absurd (h1 ▸ e1) (by decide))]
    by_cases h6 : t = 6
    · subst h6
      rw [if_pos rfl]
      have : (fun i => if i < n then some (mm_XB + (h k i).toNat) else cr k i) = f := funext fun i => by
        split
        · rename_i hi
          rw [Bool.or_eq_true, Bool.and_eq_true] at e4
          rcases e4 with e4 | ⟨e4, e5⟩
          · exact absurd rfl (of_decide_eq_true e4)
          · have h6 := st_ext (k := k) e4 e5 i hi
            rw [he i, show st_hE k i (.inl (6, n, .inr (.inr (.inr (.inr f))))) = ((f i).getD mm_XB : Int) - mm_XB from if_pos ⟨rfl, hi⟩]
            cases hf : f i with
            | none => rw [hf] at h6; cases h6
            | some r =>
              rw [hf] at h6
              simp only [Bool.and_eq_true, decide_eq_true_eq] at h6
              have h7 := h6.1
              show some (mm_XB + ((r : Int) - mm_XB).toNat) = some r
              rw [show mm_XB + ((r : Int) - mm_XB).toNat = r by omega]
        · rw [ef]
      rw [this]
    · rw [if_neg h6, if_neg (fun h4 : t < 4 => absurd (Nat.lt_of_le_of_lt e1 h4) (Nat.lt_irrefl _)), ef]
  | .inr (c, fs), he, hr, e =>
    simp only [st_ok] at e
    split at e
    · rename_i c2 sl hs
      simp only [Bool.and_eq_true, decide_eq_true_eq] at e
      obtain ⟨⟨⟨rfl, e2⟩, -⟩, -⟩ := e
      unfold hp_o
      rw [hs]
      dsimp only
      rw [st_fos he sl fs 0 (fun i => by rw [Nat.zero_add]) e2]
    · cases e
def st_RS (f : Nat → Int) (o : Nat) : Bool := decide (f (o + 98) + f (o + 99) + f (o + 100) + f (o + 101) + f (o + 102) + f (o + 106) = f (o + 73)) && decide (f (o + 73) ≤ f (o + 2)) && decide (f (o + 119) ≤ f (o + 67)) && decide (f (o + 69) ≤ f (o + 5)) && decide (f (o + 2) ≤ 12 * f (o + 5))
theorem st_RSs {f : Nat → Int} {o : Nat} (h : st_RS f o = true) : RS f o := by
  unfold st_RS at h
  simp only [Bool.and_eq_true, decide_eq_true_eq] at h
  obtain ⟨⟨⟨⟨h1, h2⟩, h3⟩, h4⟩, h5⟩ := h
  exact ⟨h1, h2, h3, h4, h5⟩
def st_as : List Nat := [21, 40, 78, 97, 116, 135, 154, 173, 192, 220]
noncomputable def st_c1 (F : y_F) : Bool := F.1 == 23 && decide (F.2.1 = st_lo) && decide (F.2.2.1 = []) && F.2.2.2.2.1 == st_b && F.2.2.2.2.2 == st_c && F.2.2.2.1.1 == 260
noncomputable def st_k1 : Bool := match st_S with | some F => st_c1 F | none => false
noncomputable def st_c2 (F : y_F) (a n : Nat) : Bool := (List.range n).all (fun k => st_ok (a + k) (yt_get 9 F.2.2.2.1.2 (a + k)))
noncomputable def st_k2 (a n : Nat) : Bool := match st_S with | some F => st_c2 F a n | none => false
noncomputable def st_hY (F : y_F) : hp := fun k i => st_hE k i (yt_get 9 F.2.2.2.1.2 k)
noncomputable def st_rY (F : y_F) : Nat → Nat → Option Nat := fun k i => st_rE i (some (yt_get 9 F.2.2.2.1.2 k))
noncomputable def st_c3 (F : y_F) : Bool := decide (st_hY F 1 1 = st_hY F 236 2) && st_RS (st_hY F 238) 0 && st_RS (st_hY F 241) 0 && (List.range 6).all (fun r => st_RS (st_hY F 242) (200 * r)) && st_as.all (fun a => (List.range 4).all (fun i => decide (st_rY F a i = some (a + 8 + 2 * i)))) && (List.range 7).all (fun i => decide (st_rY F 74 i = some (75 + 19 * i)))
noncomputable def st_k3 : Bool := match st_S with | some F => st_c3 F | none => false
set_option maxRecDepth 1000000 in
theorem st_k1t : st_k1 = true := by decide +kernel
set_option maxRecDepth 1000000 in
theorem st_k2a : st_k2 0 100 = true := by decide +kernel
set_option maxRecDepth 1000000 in
theorem st_k2b : st_k2 100 136 = true := by decide +kernel
set_option maxRecDepth 1000000 in
theorem st_k2c : st_k2 236 24 = true := by decide +kernel
set_option maxRecDepth 1000000 in
theorem st_k3t : st_k3 = true := by decide +kernel
def st_nn : Bool := (List.range 260).all st_n
theorem st_nnt : st_nn = true := by decide +kernel
theorem st_bdn (k i : Nat) : (md_bd k i).1 ≤ (md_bd k i).2 := by
  by_cases hk : k < 260
  · exact st_ns (List.all_eq_true.mp st_nnt k (List.mem_range.mpr hk)) i
  · have h1 : md_bdL[k / 26]? = none := List.getElem?_eq_none (by show 10 ≤ k / 26; omega)
    unfold md_bd
    rw [h1]
    show (-9223372036854775808 : Int) ≤ 9223372036854775807
    omega
theorem st_Ss : st_S = some st_F := by
  have h := st_k1t
  unfold st_k1 at h
  unfold st_F
  cases hF : st_S with
  | none => rw [hF] at h; cases h
  | some F => rfl
theorem st_k1f : st_c1 st_F = true := by
  have h := st_k1t
  unfold st_k1 at h
  rw [st_Ss] at h
  exact h
theorem st_k2f (k : Nat) (hk : k < 260) : st_ok k (yt_get 9 st_F.2.2.2.1.2 k) = true := by
  have a := st_k2a
  have b := st_k2b
  have c := st_k2c
  unfold st_k2 at a b c
  rw [st_Ss] at a b c
  have a1 := List.all_eq_true.mp (show (List.range 100).all _ = true from a)
  have b1 := List.all_eq_true.mp (show (List.range 136).all _ = true from b)
  have c1 := List.all_eq_true.mp (show (List.range 24).all _ = true from c)
  by_cases h1 : k < 100
  · have := a1 k (List.mem_range.mpr h1)
    rwa [Nat.zero_add] at this
  · by_cases h2 : k < 236
    · have := b1 (k - 100) (List.mem_range.mpr (by omega))
      rwa [show 100 + (k - 100) = k by omega] at this
    · have := c1 (k - 236) (List.mem_range.mpr (by omega))
      rwa [show 236 + (k - 236) = k by omega] at this
theorem st_k3f : st_c3 st_F = true := by
  have h := st_k3t
  unfold st_k3 at h
  rw [st_Ss] at h
  exact h
theorem st_c1f : st_F.1 = 23 ∧ st_F.2.1 = st_lo ∧ st_F.2.2.1 = [] ∧ st_F.2.2.2.2.1 = st_b ∧ st_F.2.2.2.2.2 = st_c ∧ st_F.2.2.2.1.1 = 260 := by
  have h := st_k1f
  unfold st_c1 at h
  simp only [Bool.and_eq_true, beq_iff_eq, decide_eq_true_eq] at h
  obtain ⟨⟨⟨⟨⟨h1, h2⟩, h3⟩, h4⟩, h5⟩, h6⟩ := h
  exact ⟨h1, h2, h3, h4, h5, h6⟩
set_option maxRecDepth 1000000 in
theorem st_Wg (k : Nat) (hk : k < 260) : st_W[k]? = some (yt_get 9 st_F.2.2.2.1.2 k) := by
  unfold st_W y_a
  rw [List.getElem?_map, show min st_Y.1 512 = 260 by have e : st_Y.1 = 260 := st_c1f.2.2.2.2.2; omega, List.getElem?_range hk]
  rfl
set_option maxRecDepth 1000000 in
theorem st_len : st_W.length = md_nW := by
  unfold st_W y_a
  rw [List.length_map, List.length_range, show st_Y.1 = 260 from st_c1f.2.2.2.2.2]
  rfl
set_option maxRecDepth 1000000 in
theorem st_Se0 : mm_go md_xz 20000 200 0 13 (0, [(0, .ref mm_XB)], [], [], md_cells, md_slots) = some (23, st_lo, [], st_W, st_b, st_c) := by
  have h := vx_go_s _ _ _ _ _ _ st_Ss
  have e0 : ya_F (0, [(0, .ref mm_XB)], [], (0, yt_def 9), md_cells, md_slots) = (0, [(0, .ref mm_XB)], [], [], md_cells, md_slots) := by
    show (_, _, _, y_a (0, yt_def 9), _, _) = _
    unfold y_a
    rw [Nat.zero_min]
    rfl
  rw [e0] at h
  rw [h]
  obtain ⟨h1, h2, h3, h4, h5, -⟩ := st_c1f
  show some (st_F.1, st_F.2.1, st_F.2.2.1, y_a st_F.2.2.2.1, st_F.2.2.2.2.1, st_F.2.2.2.2.2) = _
  rw [h1, h2, h3, h4, h5]
  rfl
set_option maxRecDepth 1000000 in
theorem st_Zw : Zw st_W := zw_go 13 (0, [(0, .ref mm_XB)], [], [], md_cells, md_slots) (23, st_lo, [], st_W, st_b, st_c) (fun E hE => by cases hE) st_Se0
theorem st_We : hp_w st_h st_r = st_W := by
  apply List.ext_getElem?
  intro k
  by_cases hk : k < md_nW
  · have hE := st_Wg k hk
    rw [hp_get st_h st_r hk, hE]
    rw [st_obj (E := yt_get 9 st_F.2.2.2.1.2 k) (fun i => by unfold st_h; rw [hE]; rfl) (fun i => by unfold st_r; rw [hE]) (st_k2f k hk)]
  · rw [List.getElem?_eq_none (by unfold hp_w; rw [List.length_map, List.length_range]; omega), List.getElem?_eq_none (by rw [st_len]; omega)]
theorem st_hY_e (k : Nat) (hk : k < 260) : st_h k = st_hY st_F k := funext (fun i => by unfold st_h; rw [st_Wg k hk]; rfl)
theorem st_rY_e (k i : Nat) (hk : k < 260) : st_r k i = st_rY st_F k i := by unfold st_r; rw [st_Wg k hk]; rfl
theorem st_GI : GI st_h := by
  intro k i
  by_cases hk : k < 260
  · have hE := st_Wg k hk
    have e : st_h k i = st_hE k i (yt_get 9 st_F.2.2.2.1.2 k) := by unfold st_h; rw [hE]; rfl
    rw [e]
    exact st_inb (st_bnd (st_Zw.get hE) (st_k2f k hk) i)
  · have hE : st_W[k]? = none := List.getElem?_eq_none (by rw [st_len]; exact Nat.le_of_not_lt hk)
    have e : st_h k i = (md_bd k i).1 := by unfold st_h; rw [hE]; rfl
    rw [e]
    exact ⟨Int.le_refl _, st_bdn k i⟩
theorem st_3 : (st_h 1 1 = st_h 236 2 ∧ RS (st_h 238) 0 ∧ RS (st_h 241) 0 ∧ GPH st_h) ∧ CR st_r := by
  have h := st_k3f
  unfold st_c3 at h
  rw [← st_hY_e 1 (by decide), ← st_hY_e 236 (by decide), ← st_hY_e 238 (by decide), ← st_hY_e 241 (by decide), ← st_hY_e 242 (by decide)] at h
  simp only [Bool.and_eq_true, decide_eq_true_eq] at h
  obtain ⟨⟨⟨⟨⟨h1, h2⟩, h3⟩, h4⟩, h5⟩, h6⟩ := h
  refine ⟨⟨h1, st_RSs h2, st_RSs h3, fun r hr => st_RSs (List.all_eq_true.mp h4 r (List.mem_range.mpr hr))⟩, fun a ha i hi => ?_, fun i hi => ?_⟩
  · have hm : a ∈ st_as ∧ a < 260 := by
      rcases ha with h | h | h | h | h | h | h | h | h | h <;> rw [h] <;> decide
    have := List.all_eq_true.mp (List.all_eq_true.mp h5 a hm.1) i (List.mem_range.mpr hi)
    rw [st_rY_e a i hm.2]
    exact of_decide_eq_true this
  · rw [st_rY_e 74 i (by decide)]
    exact of_decide_eq_true (List.all_eq_true.mp h6 i (List.mem_range.mpr hi))
