/-! ===== runs of the law's own frame, and runs that don't look at the script ===== -/
def md_xz : mm_Xa := fun i => if i = 0 then none else (md_xaL[i]?).getD none
def mm_xle (xa xb : mm_Xa) : Prop := ∀ i q, xa i = some q → xb i = some q
theorem md_xz_le (sc : Nat × (Nat → Int32)) : mm_xle md_xz (md_xa sc) := by
  intro i q h
  unfold md_xz at h
  unfold md_xa
  by_cases hi : i = 0
  · rw [if_pos hi] at h; cases h
  · rw [if_neg hi] at h ⊢; exact h
theorem mm_aget_xa {xa xb : mm_Xa} (hx : mm_xle xa xb) {W : mm_W} {k : Nat} {i : Int32} {q : Nat × Value} (h : mm_aget xa W k i = some q) : mm_aget xb W k i = some q := by
  unfold mm_aget at h ⊢
  by_cases hk : k < mm_XB
  · rw [if_pos hk] at h ⊢; exact h
  · rw [if_neg hk] at h ⊢
    cases hq : xa (k - mm_XB) with
    | none => rw [hq] at h; cases h
    | some z => rw [hx _ _ hq]; rw [hq] at h; exact h
theorem mm_alen_xa {xa xb : mm_Xa} (hx : mm_xle xa xb) {W : mm_W} {k : Nat} {n : Nat} (h : mm_alen xa W k = some n) : mm_alen xb W k = some n := by
  unfold mm_alen at h ⊢
  by_cases hk : k < mm_XB
  · rw [if_pos hk] at h ⊢; exact h
  · rw [if_neg hk] at h ⊢
    cases hq : xa (k - mm_XB) with
    | none => rw [hq] at h; cases h
    | some z => rw [hx _ _ hq]; rw [hq] at h; exact h
set_option maxHeartbeats 4000000 in
theorem mm_stepI_xa {xa xb : mm_Xa} (hx : mm_xle xa xb) {j : Nat} {ins : Instr} {nx r1 r2 r3 pc : Nat} {lo : List (Nat × Value)} {st : List Value} {W : mm_W} {b c : Nat} {T : mm_T} (h : mm_stepI xa j ins nx r1 r2 r3 pc lo st W b c = some T) : mm_stepI xb j ins nx r1 r2 r3 pc lo st W b c = some T := by
  cases ins
  case iaload =>
    match st, h with
    | .int i :: .ref k :: st, h =>
      have h2 : (match mm_aget xa W k i with | some (t, v) => if t = 0 then some (Sum.inl (nx, lo, v :: st, W, b, c) : mm_T) else none | none => none) = some T := h
      show (match mm_aget xb W k i with | some (t, v) => if t = 0 then some (Sum.inl (nx, lo, v :: st, W, b, c) : mm_T) else none | none => none) = some T
      cases hq : mm_aget xa W k i with
      | none => rw [hq] at h2; cases h2
      | some q => rw [mm_aget_xa hx hq]; rw [hq] at h2; exact h2
  case baload =>
    match st, h with
    | .int i :: .ref k :: st, h =>
      have h2 : (match mm_aget xa W k i with | some (t, v) => if t = 2 ∨ t = 3 then some (Sum.inl (nx, lo, v :: st, W, b, c) : mm_T) else none | none => none) = some T := h
      show (match mm_aget xb W k i with | some (t, v) => if t = 2 ∨ t = 3 then some (Sum.inl (nx, lo, v :: st, W, b, c) : mm_T) else none | none => none) = some T
      cases hq : mm_aget xa W k i with
      | none => rw [hq] at h2; cases h2
      | some q => rw [mm_aget_xa hx hq]; rw [hq] at h2; exact h2
  case laload =>
    match st, h with
    | .int i :: .ref k :: st, h =>
      have h2 : (match mm_aget xa W k i with | some (t, v) => if t = 1 then some (Sum.inl (nx, lo, v :: st, W, b, c) : mm_T) else none | none => none) = some T := h
      show (match mm_aget xb W k i with | some (t, v) => if t = 1 then some (Sum.inl (nx, lo, v :: st, W, b, c) : mm_T) else none | none => none) = some T
      cases hq : mm_aget xa W k i with
      | none => rw [hq] at h2; cases h2
      | some q => rw [mm_aget_xa hx hq]; rw [hq] at h2; exact h2
  case aaload =>
    match st, h with
    | .int i :: .ref k :: st, h =>
      have h2 : (match mm_aget xa W k i with | some (t, v) => if 4 ≤ t then some (Sum.inl (nx, lo, v :: st, W, b, c) : mm_T) else none | none => none) = some T := h
      show (match mm_aget xb W k i with | some (t, v) => if 4 ≤ t then some (Sum.inl (nx, lo, v :: st, W, b, c) : mm_T) else none | none => none) = some T
      cases hq : mm_aget xa W k i with
      | none => rw [hq] at h2; cases h2
      | some q => rw [mm_aget_xa hx hq]; rw [hq] at h2; exact h2
  case arraylength =>
    match st, h with
    | .ref k :: st, h =>
      have h2 : (mm_alen xa W k).map (fun n => (Sum.inl (nx, lo, .int (Int32.ofNat n) :: st, W, b, c) : mm_T)) = some T := h
      show (mm_alen xb W k).map (fun n => (Sum.inl (nx, lo, .int (Int32.ofNat n) :: st, W, b, c) : mm_T)) = some T
      obtain ⟨n, hn, h3⟩ := Option.map_eq_some_iff.mp h2
      rw [mm_alen_xa hx hn, Option.map_some, h3]
  all_goals exact h
theorem mm_step_xa {xa xb : mm_Xa} (hx : mm_xle xa xb) {j : Nat} {F : mm_F} {T : mm_T} (h : mm_step xa j F = some T) : mm_step xb j F = some T := by
  unfold mm_step at h ⊢
  cases hc : md_cd j F.1 with
  | none => rw [hc] at h; cases h
  | some e => rw [hc] at h; exact mm_stepI_xa hx h
theorem mm_ex_xa {xa xb : mm_Xa} (hx : mm_xle xa xb) : ∀ (f d j : Nat) (F : mm_F) (o : mm_O), mm_ex xa f d j F = some o → mm_ex xb f d j F = some o
  | 0, _, _, _, _, h => by cases h
  | f + 1, d, j, F, o, h => by
    unfold mm_ex at h ⊢
    cases hs : mm_step xa j F with
    | none => rw [hs] at h; cases h
    | some T =>
      rw [mm_step_xa hx hs]
      rw [hs] at h
      rcases T with F' | o' | ⟨j', as, nx, fl, G⟩
      · exact mm_ex_xa hx f d j F' o h
      · exact h
      · dsimp only at h ⊢
        cases d with
        | zero => cases h
        | succ d0 =>
          dsimp only at h ⊢
          split at h
          · cases h
          · rename_i hlen
            rw [if_neg hlen]
            split at h
            · cases h
            · rename_i v W2 b2 c2 hcall
              rw [mm_ex_xa hx f d0 j' _ _ hcall]
              exact mm_ex_xa hx f (d0 + 1) j _ o h
            · rename_i E W2 b2 c2 hcall
              rw [mm_ex_xa hx f d0 j' _ _ hcall]
              dsimp only
              split at h
              · cases h
              · rename_i hfl
                rw [if_neg hfl]
                split at h
                · rename_i hh
                  rw [if_pos hh]
                  exact h
                · rename_i hh
                  rw [if_neg hh]
                  split at h
                  · cases h
                  · rename_i hp hhd
                    exact mm_ex_xa hx f (d0 + 1) j _ o h
theorem Ev.xa {xa xb : mm_Xa} (hx : mm_xle xa xb) {d j : Nat} {F : mm_F} {o : mm_O} (h : Ev xa d j F o) : Ev xb d j F o := by
  obtain ⟨f, h⟩ := h
  exact ⟨f, mm_ex_xa hx _ _ _ _ _ h⟩
/-- n steps of one frame; a call is one step -/
noncomputable def mm_go (xa : mm_Xa) (f d j : Nat) : Nat → mm_F → Option mm_F
  | 0, F => some F
  | n + 1, F =>
    match mm_step xa j F with
    | some (.inl F') => mm_go xa f d j n F'
    | some (.inr (.inr (j', as, nx, fl, G))) =>
      if (md_mt j').2.2.1 < (as.map fun v => v.category).sum then none else
      match mm_ex xa f d j' (0, lv_args 0 as, [], G.2.2.2.1, G.2.2.2.2.1, G.2.2.2.2.2) with
      | some (.inl v, W2, b2, c2) => mm_go xa f d j n (nx, G.2.1, v.toList ++ G.2.2.1, W2, b2, c2)
      | some (.inr E, W2, b2, c2) =>
        if fl = false then none else
        if (md_mt j).2.2.2.2 = [] then none else
        match md_hd j G.1 E with
        | some h => mm_go xa f d j n (h, G.2.1, [.retAddr 0], W2, b2, c2)
        | none => none
      | none => none
    | _ => none
theorem mm_go_ev {xa xb : mm_Xa} (hx : mm_xle xa xb) {f d j : Nat} {o : mm_O} : ∀ (n : Nat) (F F' : mm_F), mm_go xa f d j n F = some F' → Ev xb (d + 1) j F' o → Ev xb (d + 1) j F o
  | 0, F, F', h, k => by
    cases Option.some.inj h
    exact k
  | n + 1, F, F', h, k => by
    unfold mm_go at h
    split at h
    · rename_i F1 hs
      exact Ev.step (mm_step_xa hx hs) (mm_go_ev hx n F1 F' h k)
    · rename_i j' as nx fl G hs
      split at h
      · cases h
      · rename_i hlen
        split at h
        · rename_i v W2 b2 c2 hcall
          exact Ev.call (mm_step_xa hx hs) hlen ⟨f, mm_ex_xa hx _ _ _ _ _ hcall⟩ (mm_go_ev hx n _ F' h k)
        · rename_i E W2 b2 c2 hcall
          split at h
          · cases h
          · rename_i hfl
            split at h
            · cases h
            · rename_i hh
              split at h
              · rename_i h0 hhd
                have hfl2 : fl = true := by cases fl <;> simp_all
                subst hfl2
                exact Ev.catch (mm_step_xa hx hs) hlen ⟨f, mm_ex_xa hx _ _ _ _ _ hcall⟩ hh hhd (mm_go_ev hx n _ F' h k)
              · cases h
        · cases h
    · cases h
theorem mm_go_add {xa : mm_Xa} {f d j : Nat} (m : Nat) (F' : mm_F) (r : Option mm_F) : ∀ (n : Nat) (F : mm_F), mm_go xa f d j n F = some F' → mm_go xa f d j m F' = r → mm_go xa f d j (n + m) F = r
  | 0, F, h, k => by
    cases Option.some.inj h
    rw [Nat.zero_add]
    exact k
  | n + 1, F, h, k => by
    rw [Nat.succ_add]
    unfold mm_go at h ⊢
    split at h
    · exact mm_go_add m F' r n _ h k
    · split at h
      · cases h
      · rename_i hlen
        rw [if_neg hlen]
        split at h
        · exact mm_go_add m F' r n _ h k
        · split at h
          · cases h
          · rename_i hfl
            rw [if_neg hfl]
            split at h
            · cases h
            · rename_i hh
              rw [if_neg hh]
              split at h
              · exact mm_go_add m F' r n _ h k
              · cases h
        · cases h
    · cases h
