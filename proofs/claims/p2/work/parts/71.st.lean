/-! ===== the world behind the constructors ===== -/
noncomputable def st_S : Option mm_F := mm_go md_xz 20000 200 0 13 (0, [(0, .ref mm_XB)], [], [], md_cells, md_slots)
noncomputable def st_F : mm_F := st_S.getD (0, [], [], [], 0, 0)
noncomputable def st_W : mm_W := st_F.2.2.2.1
def st_b : Nat := md_cells - 260
def st_c : Nat := md_slots - 211952
def st_in (q : Int × Int) (x : Int) : Bool := decide (q.1 ≤ x) && decide (x ≤ q.2)
/-- the int that a cell holds -/
def st_hE (k i : Nat) : va_E → Int
  | .inl (_, _, .inl f) => (f i).toInt
  | .inl (_, _, .inr (.inl f)) => (f i).toInt
  | .inl (t, n, .inr (.inr (.inr (.inr f)))) => if t = 6 ∧ i < n then ((f i).getD mm_XB : Int) - mm_XB else (md_bd k i).1
  | .inr (_, fs) => (match fs[i]? with
    | some (.int x) => x.toInt
    | some (.long x) => x.toInt
    | some (.ref r) => if mm_XB ≤ r then (r : Int) - mm_XB else (md_bd k i).1
    | _ => (md_bd k i).1)
  | _ => (md_bd k i).1
def st_hO (k i : Nat) : Option va_E → Int
  | some E => st_hE k i E
  | none => (md_bd k i).1
noncomputable def st_h : hp := fun k i => st_hO k i st_W[k]?
def st_rE (i : Nat) : Option va_E → Option Nat
  | some (.inl (_, _, .inr (.inr (.inr (.inr f))))) => f i
  | _ => none
noncomputable def st_r : Nat → Nat → Option Nat := fun k i => st_rE i st_W[k]?
/-- for all places from a, 2^d of them -/
def st_all (p : Nat → Bool) : Nat → Nat → Bool
  | 0, a => p a
  | d + 1, a => st_all p d a && st_all p d (a + 2 ^ d)
theorem st_alls (p : Nat → Bool) : ∀ (d a : Nat), st_all p d a = true → ∀ i, a ≤ i → i < a + 2 ^ d → p i = true
  | 0, a, h, i, h1, h2 => by
    have e : i = a := by omega
    rw [e]; exact h
  | d + 1, a, h, i, h1, h2 => by
    rw [show st_all p (d + 1) a = (st_all p d a && st_all p d (a + 2 ^ d)) from rfl, Bool.and_eq_true] at h
    rw [Nat.pow_succ] at h2
    by_cases hi : i < a + 2 ^ d
    · exact st_alls p d a h.1 i h1 hi
    · exact st_alls p d (a + 2 ^ d) h.2 i (by omega) (by omega)
def st_fok : List hp_K → List Value → Bool
  | [], [] => true
  | .inr k :: sl, .ref r :: vs => decide (r = k) && st_fok sl vs
  | .inl s :: sl, v :: vs => (match v with
    | .int _ => decide (s ≠ 1) && decide (s ≠ 3)
    | .long _ => decide (s = 1)
    | .ref r => decide (s = 3) && decide (mm_XB ≤ r)
    | _ => false) && st_fok sl vs
  | _, _ => false
/-- zero is in every bound of the object k -/
def st_z (k : Nat) : Bool :=
  match (((md_bdL[k / 26]?).getD [])[k % 26]?).getD (.inl (.inl (-9223372036854775808, 9223372036854775807))) with
  | .inl (.inl q) => st_in q 0
  | .inl (.inr 0) => md_row.all (fun q => st_in q 0)
  | .inl (.inr 1) => md_row.all (fun q => st_in q 0)
  | .inl (.inr _) => md_rrow.all (fun q => st_in q 0)
  | .inr l => l.all (fun q => st_in q 0)
/-- every bound of the object k has something in it -/
def st_n (k : Nat) : Bool :=
  match (((md_bdL[k / 26]?).getD [])[k % 26]?).getD (.inl (.inl (-9223372036854775808, 9223372036854775807))) with
  | .inl (.inl q) => decide (q.1 ≤ q.2)
  | .inl (.inr 0) => md_row.all (fun q => decide (q.1 ≤ q.2))
  | .inl (.inr 1) => md_row.all (fun q => decide (q.1 ≤ q.2))
  | .inl (.inr _) => md_rrow.all (fun q => decide (q.1 ≤ q.2))
  | .inr l => l.all (fun q => decide (q.1 ≤ q.2))
theorem st_la {l : List (Int × Int)} {P : Int × Int → Bool} (h : l.all P = true) (i : Nat) (d : Int × Int) (hd : P d = true) : P ((l[i]?).getD d) = true := by
  cases hq : l[i]? with
  | none => exact hd
  | some q => exact List.all_eq_true.mp h q (List.mem_of_getElem? hq)
theorem st_zs {k : Nat} (h : st_z k = true) (i : Nat) : st_in (md_bd k i) 0 = true := by
  unfold st_z at h
  unfold md_bd
  split at h <;> rename_i e <;> rw [e] <;> dsimp only
  · exact h
  · exact st_la h i _ (by decide)
  · exact st_la h (i % 200) _ (by decide)
  · rename_i n h0 h1
    split
    · rename_i e2; cases e2
    · rename_i e2; exact absurd rfl h0
    · rename_i e2; exact absurd rfl h1
    · exact st_la h i _ (by decide)
    · rename_i e2; cases e2
  · exact st_la h i _ (by decide)
theorem st_ns {k : Nat} (h : st_n k = true) (i : Nat) : (md_bd k i).1 ≤ (md_bd k i).2 := by
  have key : decide ((md_bd k i).1 ≤ (md_bd k i).2) = true := by
    unfold st_n at h
    unfold md_bd
    split at h <;> rename_i e <;> rw [e] <;> dsimp only
    · exact h
    · exact st_la (P := fun q => decide (q.1 ≤ q.2)) h i _ (by decide)
    · exact st_la (P := fun q => decide (q.1 ≤ q.2)) h (i % 200) _ (by decide)
    · rename_i n h0 h1
      split
      · rename_i e2; cases e2
      · rename_i e2; exact absurd rfl h0
      · rename_i e2; exact absurd rfl h1
      · exact st_la (P := fun q => decide (q.1 ≤ q.2)) h i _ (by decide)
      · rename_i e2; cases e2
    · exact st_la (P := fun q => decide (q.1 ≤ q.2)) h i _ (by decide)
  exact of_decide_eq_true key
/-- an object's content has its shape, its ints are in their bounds; d tells how many elements are looked at -/
def st_ok (k : Nat) : va_E → Bool
  | .inl (t, n, .inl f) => decide (t < 4) && decide (t ≠ 1) && decide (md_sh k = .inl (t, n)) && st_z k && decide (n ≤ 2 ^ n.log2 * 2) && st_all (fun i => decide (n ≤ i) || decide (f i = 0) || st_in (md_bd k i) (f i).toInt) (n.log2 + 1) 0
  | .inl (t, n, .inr (.inl f)) => decide (t = 1) && decide (md_sh k = .inl (t, n)) && st_z k && decide (n ≤ 2 ^ n.log2 * 2) && st_all (fun i => decide (n ≤ i) || decide (f i = 0) || st_in (md_bd k i) (f i).toInt) (n.log2 + 1) 0
  | .inl (t, n, .inr (.inr (.inr (.inr f)))) => decide (4 ≤ t) && decide (md_sh k = .inl (t, n)) && st_n k && (decide (t ≠ 6) || decide (n ≤ 2 ^ n.log2 * 2) && st_all (fun i => decide (n ≤ i) || (match f i with | some r => decide (mm_XB ≤ r) && st_in (md_bd k i) ((r : Int) - mm_XB) | none => false)) (n.log2 + 1) 0)
  | .inr (c, fs) => (match md_sh k with
    | .inr (c2, sl) => decide (c2 = c) && st_fok sl fs && st_n k && (List.range fs.length).all (fun i => st_in (md_bd k i) (st_hE k i (.inr (c, fs))))
    | _ => false)
  | _ => false
theorem st_ext {k : Nat} {n : Nat} {p : Nat → Bool} (h : decide (n ≤ 2 ^ n.log2 * 2) = true) (h2 : st_all (fun i => decide (n ≤ i) || p i) (n.log2 + 1) 0 = true) (i : Nat) (hi : i < n) : p i = true := by
  have h1 := of_decide_eq_true h
  have h3 := st_alls _ _ _ h2 i (Nat.zero_le _) (by rw [Nat.pow_succ]; omega)
  rw [Bool.or_eq_true] at h3
  rcases h3 with h3 | h3
  · have := of_decide_eq_true h3; omega
  · exact h3
theorem st_inb {q : Int × Int} {x : Int} (h : st_in q x = true) : q.1 ≤ x ∧ x ≤ q.2 := by
  unfold st_in at h
  rw [Bool.and_eq_true] at h
  exact ⟨of_decide_eq_true h.1, of_decide_eq_true h.2⟩
theorem st_bnd {k : Nat} {E : va_E} (hz : Zo E) (h : st_ok k E = true) (i : Nat) : st_in (md_bd k i) (st_hE k i E) = true := by
  have low : st_n k = true → st_in (md_bd k i) (md_bd k i).1 = true := fun hn => by
    have := st_ns hn i
    unfold st_in
    rw [Bool.and_eq_true]
    exact ⟨decide_eq_true (Int.le_refl _), decide_eq_true this⟩
  match E, hz, h with
  | .inl (t, n, .inl f), hz, h =>
    simp only [st_ok, Bool.and_eq_true] at h
    obtain ⟨⟨⟨⟨-, -⟩, h3⟩, h4⟩, h5⟩ := h
    show st_in (md_bd k i) (f i).toInt = true
    by_cases hi : i < n
    · have h6 := st_ext (k := k) (p := fun i => decide (f i = 0) || st_in (md_bd k i) (f i).toInt) h4 (by simpa only [Bool.or_assoc] using h5) i hi
      rw [Bool.or_eq_true] at h6
      rcases h6 with h6 | h6
      · rw [of_decide_eq_true h6]; exact st_zs h3 i
      · exact h6
    · have e : f i = 0 := hz i (by omega)
      rw [e]; exact st_zs h3 i
  | .inl (t, n, .inr (.inl f)), hz, h =>
    simp only [st_ok, Bool.and_eq_true] at h
    obtain ⟨⟨⟨-, h3⟩, h4⟩, h5⟩ := h
    show st_in (md_bd k i) (f i).toInt = true
    by_cases hi : i < n
    · have h6 := st_ext (k := k) (p := fun i => decide (f i = 0) || st_in (md_bd k i) (f i).toInt) h4 (by simpa only [Bool.or_assoc] using h5) i hi
      rw [Bool.or_eq_true] at h6
      rcases h6 with h6 | h6
      · rw [of_decide_eq_true h6]; exact st_zs h3 i
      · exact h6
    · have e : f i = 0 := hz i (by omega)
      rw [e]; exact st_zs h3 i
  | .inl (t, n, .inr (.inr (.inr (.inr f)))), hz, h =>
    simp only [st_ok, Bool.and_eq_true] at h
    obtain ⟨⟨-, h3⟩, h4⟩ := h
    show st_in (md_bd k i) (if t = 6 ∧ i < n then ((f i).getD mm_XB : Int) - mm_XB else (md_bd k i).1) = true
    split
    · rename_i hi
      rw [Bool.or_eq_true, Bool.and_eq_true] at h4
      rcases h4 with h4 | ⟨h4, h5⟩
      · exact absurd hi.1 (of_decide_eq_true h4)
      · have h6 := st_ext (k := k) h4 h5 i hi.2
        cases hf : f i with
        | none => rw [hf] at h6; cases h6
        | some r =>
          rw [hf] at h6
          simp only [Bool.and_eq_true] at h6
          exact h6.2
    · exact low h3
  | .inr (c, fs), hz, h =>
    simp only [st_ok] at h
    split at h
    · simp only [Bool.and_eq_true] at h
      obtain ⟨⟨-, h3⟩, h4⟩ := h
      by_cases hi : i < fs.length
      · exact List.all_eq_true.mp h4 i (List.mem_range.mpr hi)
      · have e : fs[i]? = none := List.getElem?_eq_none (by omega)
        show st_in (md_bd k i) (match fs[i]? with
          | some (.int x) => x.toInt
          | some (.long x) => x.toInt
          | some (.ref r) => if mm_XB ≤ r then (r : Int) - mm_XB else (md_bd k i).1
          | _ => (md_bd k i).1) = true
        rw [e]
        exact low h3
    · cases h
theorem st_fos {h : hp} {k : Nat} {c : Nat} {all : List Value} (he : ∀ i, h k i = st_hE k i (.inr (c, all))) : ∀ (sl : List hp_K) (vs : List Value) (f : Nat), (∀ i, all[f + i]? = vs[i]?) → st_fok sl vs = true → hp_f h k f sl = vs
  | [], [], _, _, _ => rfl
  | [], v :: vs, _, _, e => by cases e
  | s :: sl, [], _, _, e => by cases s <;> cases e
  | .inr q :: sl, v :: vs, f, ha, e => by
    cases v <;> first | (cases e; done) | skip
    rename_i r
    simp only [st_fok, Bool.and_eq_true, decide_eq_true_eq] at e
    obtain ⟨rfl, e2⟩ := e
    show _ :: hp_f h k (f + 1) sl = _
    rw [st_fos he sl vs (f + 1) (fun i => by rw [show f + 1 + i = f + (i + 1) by omega, ha]; rfl) e2]
    rfl
  | .inl q :: sl, v :: vs, f, ha, e => by
    simp only [st_fok, Bool.and_eq_true] at e
    have h0 : all[f]? = some v := ha 0
    show hp_s (.inl q) (h k f) :: hp_f h k (f + 1) sl = _
    rw [st_fos he sl vs (f + 1) (fun i => by rw [show f + 1 + i = f + (i + 1) by omega, ha]; rfl) e.2]
    have e1 := e.1
    congr 1
    rw [he]
    simp only [st_hE]
    rw [h0]
    cases v <;> first | (cases e1; done) | skip
    · rename_i x
      simp only [Bool.and_eq_true, decide_eq_true_eq] at e1
      unfold hp_s
      split
      · rename_i z; cases z; exact absurd rfl e1.1
      · rename_i z; cases z; exact absurd rfl e1.2
      · dsimp only; rw [Int32.ofInt_toInt]
      · rename_i z; cases z
    · rename_i x
      simp only [decide_eq_true_eq] at e1
      subst e1
      show Value.long (Int64.ofInt x.toInt) = _
      rw [Int64.ofInt_toInt]
    · rename_i r
      simp only [Bool.and_eq_true, decide_eq_true_eq] at e1
      obtain ⟨rfl, e2⟩ := e1
      dsimp only
      rw [if_pos e2]
      show Value.ref (mm_XB + ((r : Int) - mm_XB).toNat) = _
      congr 1
      omega
theorem st_obj {h : hp} {cr : Nat → Nat → Option Nat} {k : Nat} {E : va_E} (he : ∀ i, h k i = st_hE k i E) (hr : ∀ i, cr k i = st_rE i (some E)) (e : st_ok k E = true) : hp_o h cr k = E := by
  match E, he, hr, e with
  | .inl (t, n, .inl f), he, hr, e =>
    simp only [st_ok, Bool.and_eq_true, decide_eq_true_eq] at e
    obtain ⟨⟨⟨⟨⟨e1, e2⟩, e3⟩, -⟩, -⟩, -⟩ := e
    unfold hp_o
    rw [e3]
    dsimp only
    rw [if_neg e2, if_neg (by omega), if_pos e1]
    have : (fun i => Int32.ofInt (h k i)) = f := funext fun i => by rw [he i]; exact Int32.ofInt_toInt _
    rw [this]
  | .inl (t, n, .inr (.inl f)), he, hr, e =>
    simp only [st_ok, Bool.and_eq_true, decide_eq_true_eq] at e
    obtain ⟨⟨⟨⟨e1, e3⟩, -⟩, -⟩, -⟩ := e
    subst e1
    unfold hp_o
    rw [e3]
    dsimp only
    rw [if_pos rfl]
    have : (fun i => Int64.ofInt (h k i)) = f := funext fun i => by rw [he i]; exact Int64.ofInt_toInt _
    rw [this]
  | .inl (t, n, .inr (.inr (.inr (.inr f)))), he, hr, e =>
    simp only [st_ok, Bool.and_eq_true] at e
    obtain ⟨⟨⟨e1, e3⟩, -⟩, e4⟩ := e
    have e1 := of_decide_eq_true e1
    have e3 := of_decide_eq_true e3
    have ef : cr k = f := funext fun i => hr i
    unfold hp_o
    rw [e3]
    dsimp only
    rw [if_neg (by omega)]
    by_cases h6 : t = 6
    · subst h6
      rw [if_pos rfl]
      have : (fun i => if i < n then some (mm_XB + (h k i).toNat) else cr k i) = f := funext fun i => by
        split
        · rename_i hi
          rw [Bool.or_eq_true, Bool.and_eq_true] at e4
          rcases e4 with e4 | ⟨e4, e5⟩
          · exact absurd rfl (of_decide_eq_true e4)
          · have h6 := st_ext (k := k) e4 e5 i hi
            rw [he i]
            simp only [st_hE]
            rw [if_pos ⟨rfl, hi⟩]
            cases hf : f i with
            | none => rw [hf] at h6; cases h6
            | some r =>
              rw [hf] at h6
              simp only [Bool.and_eq_true, decide_eq_true_eq] at h6
              have h7 := h6.1
              show some (mm_XB + ((r : Int) - mm_XB).toNat) = some r
              congr 1
              omega
        · rw [ef]
      rw [this]
    · rw [if_neg h6, if_neg (by omega), ef]
  | .inr (c, fs), he, hr, e =>
    simp only [st_ok] at e
    split at e
    · rename_i c2 sl hs
      simp only [Bool.and_eq_true, decide_eq_true_eq] at e
      obtain ⟨⟨⟨rfl, e2⟩, -⟩, -⟩ := e
      unfold hp_o
      rw [hs]
      dsimp only
      rw [st_fos he sl fs 0 (fun i => by rw [Nat.zero_add]) e2]
    · cases e
/-- the whole world -/
def st_Ws : Nat → mm_W → Bool
  | _, [] => true
  | k, E :: W => st_ok k E && st_Ws (k + 1) W
theorem st_Wss : ∀ (W : mm_W) (a : Nat), st_Ws a W = true → ∀ (k : Nat) (E : va_E), W[k]? = some E → st_ok (a + k) E = true
  | [], _, _, k, E, e => by cases e
  | E :: W, a, h, 0, E', e => by
    rw [show st_Ws a (E :: W) = (st_ok a E && st_Ws (a + 1) W) from rfl, Bool.and_eq_true] at h
    cases Option.some.inj e
    exact h.1
  | E :: W, a, h, k + 1, E', e => by
    rw [show st_Ws a (E :: W) = (st_ok a E && st_Ws (a + 1) W) from rfl, Bool.and_eq_true] at h
    have := st_Wss W (a + 1) h.2 k E' e
    rwa [show a + (k + 1) = a + 1 + k by omega]
def st_RS (f : Nat → Int) (o : Nat) : Bool := decide (f (o + 98) + f (o + 99) + f (o + 100) + f (o + 101) + f (o + 102) + f (o + 106) = f (o + 73)) && decide (f (o + 73) ≤ f (o + 2)) && decide (f (o + 119) ≤ f (o + 67)) && decide (f (o + 69) ≤ f (o + 5)) && decide (f (o + 2) ≤ 12 * f (o + 5))
theorem st_RSs {f : Nat → Int} {o : Nat} (h : st_RS f o = true) : RS f o := by
  unfold st_RS at h
  simp only [Bool.and_eq_true, decide_eq_true_eq] at h
  obtain ⟨⟨⟨⟨h1, h2⟩, h3⟩, h4⟩, h5⟩ := h
  exact ⟨h1, h2, h3, h4, h5⟩
def st_as : List Nat := [21, 40, 78, 97, 116, 135, 154, 173, 192, 220]
noncomputable def st_k1 : Bool := st_S.isSome && st_F.1 == 23 && decide (st_F.2.1 = [(4, .int 0), (3, .ref 259), (2, .ref 236), (1, .ref 0), (0, .ref mm_XB)]) && decide (st_F.2.2.1 = []) && st_F.2.2.2.2.1 == st_b && st_F.2.2.2.2.2 == st_c && st_W.length == md_nW
noncomputable def st_k2 : Bool := st_Ws 0 st_W
noncomputable def st_k3 : Bool := decide (st_h 1 1 = st_h 236 2) && st_RS (st_h 238) 0 && st_RS (st_h 241) 0 && (List.range 6).all (fun r => st_RS (st_h 242) (200 * r)) && st_as.all (fun a => (List.range 4).all (fun i => decide (st_r a i = some (a + 8 + 2 * i)))) && (List.range 7).all (fun i => decide (st_r 74 i = some (75 + 19 * i)))
set_option maxRecDepth 1000000 in
theorem st_k1t : st_k1 = true := by decide +kernel
set_option maxRecDepth 1000000 in
theorem st_k2t : st_k2 = true := by decide +kernel
set_option maxRecDepth 1000000 in
theorem st_k3t : st_k3 = true := by decide +kernel
def st_nn : Bool := (List.range 260).all st_n
theorem st_nnt : st_nn = true := by decide +kernel
theorem st_bdn (k i : Nat) : (md_bd k i).1 ≤ (md_bd k i).2 := by
  by_cases hk : k < 260
  · exact st_ns (List.all_eq_true.mp st_nnt k (List.mem_range.mpr hk)) i
  · have h1 : md_bdL[k / 26]? = none := List.getElem?_eq_none (by show 10 ≤ k / 26; omega)
    unfold md_bd
    rw [h1]
    show (-9223372036854775808 : Int) ≤ 9223372036854775807
    omega
def st_lo : List (Nat × Value) := [(4, .int 0), (3, .ref 259), (2, .ref 236), (1, .ref 0), (0, .ref mm_XB)]
theorem st_Se0 : st_S = some (23, st_lo, [], st_W, st_b, st_c) := by
  have h := st_k1t
  unfold st_k1 at h
  simp only [Bool.and_eq_true, beq_iff_eq, decide_eq_true_eq] at h
  obtain ⟨⟨⟨⟨⟨⟨h1, h2⟩, h3⟩, h4⟩, h5⟩, h6⟩, -⟩ := h
  obtain ⟨F, hF⟩ := Option.isSome_iff_exists.mp h1
  have hF0 : st_F = F := by unfold st_F; rw [hF]; rfl
  rw [hF]
  unfold st_W
  rw [hF0] at h2 h3 h4 h5 h6 ⊢
  obtain ⟨a, b, c, d, e, g⟩ := F
  dsimp only at h2 h3 h4 h5 h6
  subst h2 h3 h4 h5 h6
  rfl
theorem st_len : st_W.length = md_nW := by
  have h := st_k1t
  unfold st_k1 at h
  simp only [Bool.and_eq_true, beq_iff_eq] at h
  exact h.2
theorem st_Zw : Zw st_W := by
  have h := zw_go 13 (0, [(0, .ref mm_XB)], [], [], md_cells, md_slots) _ (fun E hE => by cases hE) st_Se0
  exact h
theorem st_We : hp_w st_h st_r = st_W := by
  apply List.ext_getElem?
  intro k
  by_cases hk : k < md_nW
  · rw [hp_get st_h st_r hk]
    cases hE : st_W[k]? with
    | none =>
      have := List.getElem?_eq_none_iff.mp hE
      rw [st_len] at this
      omega
    | some E =>
      have ok := st_Wss st_W 0 st_k2t k E hE
      rw [Nat.zero_add] at ok
      rw [st_obj (E := E) (fun i => by unfold st_h; rw [hE]; rfl) (fun i => by unfold st_r; rw [hE]) ok]
  · rw [List.getElem?_eq_none (by unfold hp_w; rw [List.length_map, List.length_range]; omega), List.getElem?_eq_none (by rw [st_len]; omega)]
theorem st_GI : GI st_h := by
  intro k i
  cases hE : st_W[k]? with
  | none =>
    have e : st_h k i = (md_bd k i).1 := by unfold st_h; rw [hE]; rfl
    rw [e]
    exact ⟨Int.le_refl _, st_bdn k i⟩
  | some E =>
    have e : st_h k i = st_hE k i E := by unfold st_h; rw [hE]; rfl
    have ok := st_Wss st_W 0 st_k2t k E hE
    rw [Nat.zero_add] at ok
    rw [e]
    exact st_inb (st_bnd (st_Zw.get hE) ok i)
theorem st_3 : (st_h 1 1 = st_h 236 2 ∧ RS (st_h 238) 0 ∧ RS (st_h 241) 0 ∧ GPH st_h) ∧ CR st_r := by
  have h := st_k3t
  unfold st_k3 at h
  simp only [Bool.and_eq_true, decide_eq_true_eq] at h
  obtain ⟨⟨⟨⟨⟨h1, h2⟩, h3⟩, h4⟩, h5⟩, h6⟩ := h
  refine ⟨⟨h1, st_RSs h2, st_RSs h3, fun r hr => st_RSs (List.all_eq_true.mp h4 r (List.mem_range.mpr hr))⟩, fun a ha i hi => ?_, fun i hi => ?_⟩
  · have hm : a ∈ st_as := by
      rcases ha with h | h | h | h | h | h | h | h | h | h <;> rw [h] <;> decide
    have := List.all_eq_true.mp (List.all_eq_true.mp h5 a hm) i (List.mem_range.mpr hi)
    exact of_decide_eq_true this
  · exact of_decide_eq_true (List.all_eq_true.mp h6 i (List.mem_range.mpr hi))
