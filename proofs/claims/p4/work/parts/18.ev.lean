/-! ===== runs as a relation: a rule an instruction (laid by wip/mm/gen18.py) ===== -/
theorem mm_ex_mono {xa : mm_Xa} : ∀ (f f' d d' j : Nat) (F : mm_F) (o : mm_O), mm_ex xa f d j F = some o → f ≤ f' → d ≤ d' → mm_ex xa f' d' j F = some o
  | 0, _, _, _, _, _, _, h, _, _ => by cases h
  | f + 1, 0, _, _, _, _, _, _, hf, _ => absurd hf (by omega)
  | f + 1, g + 1, d, d', j, F, o, h, hf, hd => by
    have hf' : f ≤ g := by omega
    unfold mm_ex at h ⊢
    cases hs : mm_step xa j F with
    | none => rw [hs] at h; cases h
    | some T =>
      rw [hs] at h
      rcases T with F' | o' | ⟨j', as, nx, fl, G⟩
      · exact mm_ex_mono f g d d' j F' o h hf' hd
      · exact h
      · dsimp only at h ⊢
        cases d with
        | zero => cases h
        | succ d0 =>
          cases d' with
          | zero => omega
          | succ d1 =>
            have hd' : d0 ≤ d1 := by omega
            dsimp only at h ⊢
            split at h
            · cases h
            · rename_i hlen
              rw [if_neg hlen]
              split at h
              · cases h
              · rename_i v W2 b2 c2 hcall
                rw [mm_ex_mono f g d0 d1 j' _ _ hcall hf' hd']
                exact mm_ex_mono f g (d0 + 1) (d1 + 1) j _ o h hf' hd
              · rename_i E W2 b2 c2 hcall
                rw [mm_ex_mono f g d0 d1 j' _ _ hcall hf' hd']
                dsimp only
                split at h
                · cases h
                · rename_i hfl
                  rw [if_neg hfl]
                  split at h
                  · rename_i hh
                    rw [if_pos hh]
                    exact h
                  · rename_i hh
                    rw [if_neg hh]
                    split at h
                    · cases h
                    · rename_i hp hhd
                      exact mm_ex_mono f g (d0 + 1) (d1 + 1) j _ o h hf' hd
def Ev (xa : mm_Xa) (d j : Nat) (F : mm_F) (o : mm_O) : Prop := ∃ f, mm_ex xa f d j F = some o
theorem Ev.mono {xa : mm_Xa} {d d' j : Nat} {F : mm_F} {o : mm_O} (h : Ev xa d j F o) (hd : d ≤ d') : Ev xa d' j F o := by
  obtain ⟨f, h⟩ := h
  exact ⟨f, mm_ex_mono _ _ _ _ _ _ _ h (Nat.le_refl _) hd⟩
theorem Ev.step {xa : mm_Xa} {d j : Nat} {F F' : mm_F} {o : mm_O} (h : mm_step xa j F = some (.inl F')) (k : Ev xa d j F' o) : Ev xa d j F o := by
  obtain ⟨f, k⟩ := k
  refine ⟨f + 1, ?_⟩
  unfold mm_ex
  rw [h]
  exact k
theorem Ev.done {xa : mm_Xa} {d j : Nat} {F : mm_F} {o : mm_O} (h : mm_step xa j F = some (.inr (.inl o))) : Ev xa d j F o := by
  refine ⟨1, ?_⟩
  unfold mm_ex
  rw [h]
theorem Ev.call {xa : mm_Xa} {d j j' nx : Nat} {F G : mm_F} {as : List Value} {fl : Bool} {v : Option Value} {W2 : mm_W} {b2 c2 : Nat} {o : mm_O} (h : mm_step xa j F = some (.inr (.inr (j', as, nx, fl, G)))) (hl : ¬ (md_mt j').2.2.1 < (as.map fun v => v.category).sum)
    (hc : Ev xa d j' (0, lv_args 0 as, [], G.2.2.2.1, G.2.2.2.2.1, G.2.2.2.2.2) (.inl v, W2, b2, c2)) (k : Ev xa (d + 1) j (nx, G.2.1, v.toList ++ G.2.2.1, W2, b2, c2) o) : Ev xa (d + 1) j F o := by
  obtain ⟨f1, hc⟩ := hc
  obtain ⟨f2, k⟩ := k
  refine ⟨max f1 f2 + 1, ?_⟩
  unfold mm_ex
  rw [h]
  dsimp only
  rw [if_neg hl, mm_ex_mono _ _ _ _ _ _ _ hc (Nat.le_max_left f1 f2) (Nat.le_refl _)]
  exact mm_ex_mono _ _ _ _ _ _ _ k (Nat.le_max_right f1 f2) (Nat.le_refl _)
/-- a callee's throw that is caught here -/
theorem Ev.catch {xa : mm_Xa} {d j j' nx : Nat} {F G : mm_F} {as : List Value} {E h0 : Nat} {W2 : mm_W} {b2 c2 : Nat} {o : mm_O} (h : mm_step xa j F = some (.inr (.inr (j', as, nx, true, G)))) (hl : ¬ (md_mt j').2.2.1 < (as.map fun v => v.category).sum)
    (hc : Ev xa d j' (0, lv_args 0 as, [], G.2.2.2.1, G.2.2.2.2.1, G.2.2.2.2.2) (.inr E, W2, b2, c2)) (hh : ¬ (md_mt j).2.2.2.2 = []) (hhd : md_hd j G.1 E = some h0) (k : Ev xa (d + 1) j (h0, G.2.1, [.retAddr 0], W2, b2, c2) o) : Ev xa (d + 1) j F o := by
  obtain ⟨f1, hc⟩ := hc
  obtain ⟨f2, k⟩ := k
  refine ⟨max f1 f2 + 1, ?_⟩
  unfold mm_ex
  rw [h]
  dsimp only
  rw [if_neg hl, mm_ex_mono _ _ _ _ _ _ _ hc (Nat.le_max_left f1 f2) (Nat.le_refl _)]
  dsimp only
  rw [if_neg (by decide), if_neg hh, hhd]
  exact mm_ex_mono _ _ _ _ _ _ _ k (Nat.le_max_right f1 f2) (Nat.le_refl _)
/-- a callee's throw that goes on -/
theorem Ev.thru {xa : mm_Xa} {d j j' nx : Nat} {F G : mm_F} {as : List Value} {E : Nat} {W2 : mm_W} {b2 c2 : Nat} (h : mm_step xa j F = some (.inr (.inr (j', as, nx, true, G)))) (hl : ¬ (md_mt j').2.2.1 < (as.map fun v => v.category).sum)
    (hc : Ev xa d j' (0, lv_args 0 as, [], G.2.2.2.1, G.2.2.2.2.1, G.2.2.2.2.2) (.inr E, W2, b2, c2)) (hh : (md_mt j).2.2.2.2 = []) : Ev xa (d + 1) j F (.inr E, W2, b2, c2) := by
  obtain ⟨f1, hc⟩ := hc
  refine ⟨f1 + 1, ?_⟩
  unfold mm_ex
  rw [h]
  dsimp only
  rw [if_neg hl, hc]
  dsimp only
  rw [if_neg (by decide), if_pos hh]
section EV
variable {xa : mm_Xa} {d j pc nx r1 r2 r3 : Nat} {lo : List (Nat × Value)} {st : List Value} {W : mm_W} {b c : Nat} {o : mm_O}
theorem ev_iconst {n : Int} (hc : md_cd j pc = some (.iconst n, nx, r1, r2, r3)) {v : Int32} (hv : Int32.ofInt n = v) (k : Ev xa d j (nx, lo, .int v :: st, W, b, c) o) : Ev xa d j (pc, lo, st, W, b, c) o :=
  Ev.step (by simp only [mm_step, hc, mm_stepI, hv]) k
theorem ev_bipush {n : Int} (hc : md_cd j pc = some (.bipush n, nx, r1, r2, r3)) {v : Int32} (hv : (Int8.ofInt n).toInt32 = v) (k : Ev xa d j (nx, lo, .int v :: st, W, b, c) o) : Ev xa d j (pc, lo, st, W, b, c) o :=
  Ev.step (by simp only [mm_step, hc, mm_stepI, hv]) k
theorem ev_sipush {n : Int} (hc : md_cd j pc = some (.sipush n, nx, r1, r2, r3)) {v : Int32} (hv : (Int16.ofInt n).toInt32 = v) (k : Ev xa d j (nx, lo, .int v :: st, W, b, c) o) : Ev xa d j (pc, lo, st, W, b, c) o :=
  Ev.step (by simp only [mm_step, hc, mm_stepI, hv]) k
theorem ev_lconst {n : Fin 2} (hc : md_cd j pc = some (.lconst n, nx, r1, r2, r3)) {v : Int64} (hv : Int64.ofNat (n : Nat) = v) (k : Ev xa d j (nx, lo, .long v :: st, W, b, c) o) : Ev xa d j (pc, lo, st, W, b, c) o :=
  Ev.step (by simp only [mm_step, hc, mm_stepI, hv]) k
theorem ev_aconst_null  (hc : md_cd j pc = some (.aconst_null, nx, r1, r2, r3))  (k : Ev xa d j (nx, lo, .null :: st, W, b, c) o) : Ev xa d j (pc, lo, st, W, b, c) o :=
  Ev.step (by simp only [mm_step, hc, mm_stepI]) k
theorem ev_ldci {i : Nat} (hc : md_cd j pc = some (.ldc i, nx, r1, r2, r3)) (h1 : r1 = 0) {v : Int32} (hv : Int32.ofNat r2 = v) (k : Ev xa d j (nx, lo, .int v :: st, W, b, c) o) : Ev xa d j (pc, lo, st, W, b, c) o :=
  Ev.step (by simp only [mm_step, hc, mm_stepI, h1, if_true, hv]) k
theorem ev_ldcs {i : Nat} (hc : md_cd j pc = some (.ldc i, nx, r1, r2, r3)) (h1 : ¬ r1 = 0) (k : Ev xa d j (nx, lo, .ref (mm_XB + r2) :: st, W, b, c) o) : Ev xa d j (pc, lo, st, W, b, c) o :=
  Ev.step (by simp only [mm_step, hc, mm_stepI, h1, if_false]) k
theorem ev_ldc_w {i : Nat} (hc : md_cd j pc = some (.ldc_w i, nx, r1, r2, r3)) {v : Int32} (hv : Int32.ofNat r2 = v) (k : Ev xa d j (nx, lo, .int v :: st, W, b, c) o) : Ev xa d j (pc, lo, st, W, b, c) o :=
  Ev.step (by simp only [mm_step, hc, mm_stepI, hv]) k
theorem ev_ldc2_w {i : Nat} (hc : md_cd j pc = some (.ldc2_w i, nx, r1, r2, r3)) {v : Int64} (hv : Int64.ofNat r1 = v) (k : Ev xa d j (nx, lo, .long v :: st, W, b, c) o) : Ev xa d j (pc, lo, st, W, b, c) o :=
  Ev.step (by simp only [mm_step, hc, mm_stepI, hv]) k
theorem ev_iload {i : Nat} {x : Int32} (hc : md_cd j pc = some (.iload i, nx, r1, r2, r3)) (hg : mm_get lo i = some (.int x)) (k : Ev xa d j (nx, lo, .int x :: st, W, b, c) o) : Ev xa d j (pc, lo, st, W, b, c) o :=
  Ev.step (by simp only [mm_step, hc, mm_stepI, hg]) k
theorem ev_iload_n {i : Fin 4} {x : Int32} (hc : md_cd j pc = some (.iload_n i, nx, r1, r2, r3)) (hg : mm_get lo i = some (.int x)) (k : Ev xa d j (nx, lo, .int x :: st, W, b, c) o) : Ev xa d j (pc, lo, st, W, b, c) o :=
  Ev.step (by simp only [mm_step, hc, mm_stepI, hg]) k
theorem ev_lload {i : Nat} {x : Int64} (hc : md_cd j pc = some (.lload i, nx, r1, r2, r3)) (hg : mm_get lo i = some (.long x)) (k : Ev xa d j (nx, lo, .long x :: st, W, b, c) o) : Ev xa d j (pc, lo, st, W, b, c) o :=
  Ev.step (by simp only [mm_step, hc, mm_stepI, hg]) k
theorem ev_lload_n {i : Fin 4} {x : Int64} (hc : md_cd j pc = some (.lload_n i, nx, r1, r2, r3)) (hg : mm_get lo i = some (.long x)) (k : Ev xa d j (nx, lo, .long x :: st, W, b, c) o) : Ev xa d j (pc, lo, st, W, b, c) o :=
  Ev.step (by simp only [mm_step, hc, mm_stepI, hg]) k
theorem ev_aload {i : Nat} {x : Nat} (hc : md_cd j pc = some (.aload i, nx, r1, r2, r3)) (hg : mm_get lo i = some (.ref x)) (k : Ev xa d j (nx, lo, .ref x :: st, W, b, c) o) : Ev xa d j (pc, lo, st, W, b, c) o :=
  Ev.step (by simp only [mm_step, hc, mm_stepI, hg]) k
theorem ev_aload_n {i : Fin 4} {x : Nat} (hc : md_cd j pc = some (.aload_n i, nx, r1, r2, r3)) (hg : mm_get lo i = some (.ref x)) (k : Ev xa d j (nx, lo, .ref x :: st, W, b, c) o) : Ev xa d j (pc, lo, st, W, b, c) o :=
  Ev.step (by simp only [mm_step, hc, mm_stepI, hg]) k
theorem ev_istore {i : Nat} {x : Int32} {lo2 : List (Nat × Value)} (hc : md_cd j pc = some (.istore i, nx, r1, r2, r3)) (hl : mm_sto lo i (.int x) = lo2) (k : Ev xa d j (nx, lo2, st, W, b, c) o) : Ev xa d j (pc, lo, .int x :: st, W, b, c) o :=
  Ev.step (by simp only [mm_step, hc, mm_stepI, hl]) k
theorem ev_istore_n {i : Fin 4} {x : Int32} {lo2 : List (Nat × Value)} (hc : md_cd j pc = some (.istore_n i, nx, r1, r2, r3)) (hl : mm_sto lo i (.int x) = lo2) (k : Ev xa d j (nx, lo2, st, W, b, c) o) : Ev xa d j (pc, lo, .int x :: st, W, b, c) o :=
  Ev.step (by simp only [mm_step, hc, mm_stepI, hl]) k
theorem ev_lstore {i : Nat} {x : Int64} {lo2 : List (Nat × Value)} (hc : md_cd j pc = some (.lstore i, nx, r1, r2, r3)) (hl : mm_stl lo i (.long x) = lo2) (k : Ev xa d j (nx, lo2, st, W, b, c) o) : Ev xa d j (pc, lo, .long x :: st, W, b, c) o :=
  Ev.step (by simp only [mm_step, hc, mm_stepI, hl]) k
theorem ev_lstore_n {i : Fin 4} {x : Int64} {lo2 : List (Nat × Value)} (hc : md_cd j pc = some (.lstore_n i, nx, r1, r2, r3)) (hl : mm_stl lo i (.long x) = lo2) (k : Ev xa d j (nx, lo2, st, W, b, c) o) : Ev xa d j (pc, lo, .long x :: st, W, b, c) o :=
  Ev.step (by simp only [mm_step, hc, mm_stepI, hl]) k
theorem ev_astore {i : Nat} {x : Nat} {lo2 : List (Nat × Value)} (hc : md_cd j pc = some (.astore i, nx, r1, r2, r3)) (hl : mm_sto lo i (.ref x) = lo2) (k : Ev xa d j (nx, lo2, st, W, b, c) o) : Ev xa d j (pc, lo, .ref x :: st, W, b, c) o :=
  Ev.step (by simp only [mm_step, hc, mm_stepI, hl]) k
theorem ev_astore_n {i : Fin 4} {x : Nat} {lo2 : List (Nat × Value)} (hc : md_cd j pc = some (.astore_n i, nx, r1, r2, r3)) (hl : mm_sto lo i (.ref x) = lo2) (k : Ev xa d j (nx, lo2, st, W, b, c) o) : Ev xa d j (pc, lo, .ref x :: st, W, b, c) o :=
  Ev.step (by simp only [mm_step, hc, mm_stepI, hl]) k
theorem ev_astorex {i : Nat} {x : Nat} {lo2 : List (Nat × Value)} (hc : md_cd j pc = some (.astore i, nx, r1, r2, r3)) (hl : mm_sto lo i (.retAddr x) = lo2) (k : Ev xa d j (nx, lo2, st, W, b, c) o) : Ev xa d j (pc, lo, .retAddr x :: st, W, b, c) o :=
  Ev.step (by simp only [mm_step, hc, mm_stepI, hl]) k
theorem ev_astore_nx {i : Fin 4} {x : Nat} {lo2 : List (Nat × Value)} (hc : md_cd j pc = some (.astore_n i, nx, r1, r2, r3)) (hl : mm_sto lo i (.retAddr x) = lo2) (k : Ev xa d j (nx, lo2, st, W, b, c) o) : Ev xa d j (pc, lo, .retAddr x :: st, W, b, c) o :=
  Ev.step (by simp only [mm_step, hc, mm_stepI, hl]) k
theorem ev_iinc {i : Nat} {n : Int} {x v : Int32} {lo2 : List (Nat × Value)} (hc : md_cd j pc = some (.iinc i n, nx, r1, r2, r3)) (hg : mm_get lo i = some (.int x)) (hv : x + Int32.ofInt n = v) (hl : mm_sto lo i (.int v) = lo2) (k : Ev xa d j (nx, lo2, st, W, b, c) o) : Ev xa d j (pc, lo, st, W, b, c) o :=
  Ev.step (by simp only [mm_step, hc, mm_stepI, hg, hv, hl]) k
theorem ev_dup {v : Value} (hc : md_cd j pc = some (.dup, nx, r1, r2, r3)) (hv : v.category = 1) (k : Ev xa d j (nx, lo, v :: v :: st, W, b, c) o) : Ev xa d j (pc, lo, v :: st, W, b, c) o :=
  Ev.step (by simp only [mm_step, hc, mm_stepI, hv, if_true]) k
theorem ev_pop {v : Value} (hc : md_cd j pc = some (.pop, nx, r1, r2, r3)) (hv : v.category = 1) (k : Ev xa d j (nx, lo, st, W, b, c) o) : Ev xa d j (pc, lo, v :: st, W, b, c) o :=
  Ev.step (by simp only [mm_step, hc, mm_stepI, hv, if_true]) k
theorem ev_dup2 {v w : Value} (hc : md_cd j pc = some (.dup2, nx, r1, r2, r3)) (hv : v.category = 1) (hw : w.category = 1) (k : Ev xa d j (nx, lo, v :: w :: v :: w :: st, W, b, c) o) : Ev xa d j (pc, lo, v :: w :: st, W, b, c) o :=
  Ev.step (by simp only [mm_step, hc, mm_stepI, hv, hw, and_self, if_true]) k
theorem ev_iadd {y : Int32} {x : Int32} {v : Int32} (hc : md_cd j pc = some (.iadd, nx, r1, r2, r3)) (hv : x + y = v) (k : Ev xa d j (nx, lo, .int v :: st, W, b, c) o) : Ev xa d j (pc, lo, .int y :: .int x :: st, W, b, c) o :=
  Ev.step (by simp only [mm_step, hc, mm_stepI, hv]) k
theorem ev_isub {y : Int32} {x : Int32} {v : Int32} (hc : md_cd j pc = some (.isub, nx, r1, r2, r3)) (hv : x - y = v) (k : Ev xa d j (nx, lo, .int v :: st, W, b, c) o) : Ev xa d j (pc, lo, .int y :: .int x :: st, W, b, c) o :=
  Ev.step (by simp only [mm_step, hc, mm_stepI, hv]) k
theorem ev_imul {y : Int32} {x : Int32} {v : Int32} (hc : md_cd j pc = some (.imul, nx, r1, r2, r3)) (hv : x * y = v) (k : Ev xa d j (nx, lo, .int v :: st, W, b, c) o) : Ev xa d j (pc, lo, .int y :: .int x :: st, W, b, c) o :=
  Ev.step (by simp only [mm_step, hc, mm_stepI, hv]) k
theorem ev_iand {y : Int32} {x : Int32} {v : Int32} (hc : md_cd j pc = some (.iand, nx, r1, r2, r3)) (hv : x &&& y = v) (k : Ev xa d j (nx, lo, .int v :: st, W, b, c) o) : Ev xa d j (pc, lo, .int y :: .int x :: st, W, b, c) o :=
  Ev.step (by simp only [mm_step, hc, mm_stepI, hv]) k
theorem ev_ior {y : Int32} {x : Int32} {v : Int32} (hc : md_cd j pc = some (.ior, nx, r1, r2, r3)) (hv : x ||| y = v) (k : Ev xa d j (nx, lo, .int v :: st, W, b, c) o) : Ev xa d j (pc, lo, .int y :: .int x :: st, W, b, c) o :=
  Ev.step (by simp only [mm_step, hc, mm_stepI, hv]) k
theorem ev_ixor {y : Int32} {x : Int32} {v : Int32} (hc : md_cd j pc = some (.ixor, nx, r1, r2, r3)) (hv : x ^^^ y = v) (k : Ev xa d j (nx, lo, .int v :: st, W, b, c) o) : Ev xa d j (pc, lo, .int y :: .int x :: st, W, b, c) o :=
  Ev.step (by simp only [mm_step, hc, mm_stepI, hv]) k
theorem ev_ineg {x : Int32} {v : Int32} (hc : md_cd j pc = some (.ineg, nx, r1, r2, r3)) (hv : -x = v) (k : Ev xa d j (nx, lo, .int v :: st, W, b, c) o) : Ev xa d j (pc, lo, .int x :: st, W, b, c) o :=
  Ev.step (by simp only [mm_step, hc, mm_stepI, hv]) k
theorem ev_ishl {y : Int32} {x : Int32} {v : Int32} (hc : md_cd j pc = some (.ishl, nx, r1, r2, r3)) (hv : x <<< (y &&& 31) = v) (k : Ev xa d j (nx, lo, .int v :: st, W, b, c) o) : Ev xa d j (pc, lo, .int y :: .int x :: st, W, b, c) o :=
  Ev.step (by simp only [mm_step, hc, mm_stepI, hv]) k
theorem ev_ishr {y : Int32} {x : Int32} {v : Int32} (hc : md_cd j pc = some (.ishr, nx, r1, r2, r3)) (hv : x >>> (y &&& 31) = v) (k : Ev xa d j (nx, lo, .int v :: st, W, b, c) o) : Ev xa d j (pc, lo, .int y :: .int x :: st, W, b, c) o :=
  Ev.step (by simp only [mm_step, hc, mm_stepI, hv]) k
theorem ev_iushr {y : Int32} {x : Int32} {v : Int32} (hc : md_cd j pc = some (.iushr, nx, r1, r2, r3)) (hv : (x.toUInt32 >>> (y.toUInt32 &&& Int32.toUInt32 31)).toInt32 = v) (k : Ev xa d j (nx, lo, .int v :: st, W, b, c) o) : Ev xa d j (pc, lo, .int y :: .int x :: st, W, b, c) o :=
  Ev.step (by simp only [mm_step, hc, mm_stepI, hv]) k
theorem ev_land {y : Int64} {x : Int64} {v : Int64} (hc : md_cd j pc = some (.land, nx, r1, r2, r3)) (hv : x &&& y = v) (k : Ev xa d j (nx, lo, .long v :: st, W, b, c) o) : Ev xa d j (pc, lo, .long y :: .long x :: st, W, b, c) o :=
  Ev.step (by simp only [mm_step, hc, mm_stepI, hv]) k
theorem ev_lor {y : Int64} {x : Int64} {v : Int64} (hc : md_cd j pc = some (.lor, nx, r1, r2, r3)) (hv : x ||| y = v) (k : Ev xa d j (nx, lo, .long v :: st, W, b, c) o) : Ev xa d j (pc, lo, .long y :: .long x :: st, W, b, c) o :=
  Ev.step (by simp only [mm_step, hc, mm_stepI, hv]) k
theorem ev_lshl {y : Int32} {x : Int64} {v : Int64} (hc : md_cd j pc = some (.lshl, nx, r1, r2, r3)) (hv : x <<< (y.toInt64 &&& 63) = v) (k : Ev xa d j (nx, lo, .long v :: st, W, b, c) o) : Ev xa d j (pc, lo, .int y :: .long x :: st, W, b, c) o :=
  Ev.step (by simp only [mm_step, hc, mm_stepI, hv]) k
theorem ev_lshr {y : Int32} {x : Int64} {v : Int64} (hc : md_cd j pc = some (.lshr, nx, r1, r2, r3)) (hv : x >>> (y.toInt64 &&& 63) = v) (k : Ev xa d j (nx, lo, .long v :: st, W, b, c) o) : Ev xa d j (pc, lo, .int y :: .long x :: st, W, b, c) o :=
  Ev.step (by simp only [mm_step, hc, mm_stepI, hv]) k
theorem ev_lcmp {y : Int64} {x : Int64} {v : Int32} (hc : md_cd j pc = some (.lcmp, nx, r1, r2, r3)) (hv : lg_cmp x y = v) (k : Ev xa d j (nx, lo, .int v :: st, W, b, c) o) : Ev xa d j (pc, lo, .long y :: .long x :: st, W, b, c) o :=
  Ev.step (by simp only [mm_step, hc, mm_stepI, hv]) k
theorem ev_i2l {x : Int32} {v : Int64} (hc : md_cd j pc = some (.i2l, nx, r1, r2, r3)) (hv : x.toInt64 = v) (k : Ev xa d j (nx, lo, .long v :: st, W, b, c) o) : Ev xa d j (pc, lo, .int x :: st, W, b, c) o :=
  Ev.step (by simp only [mm_step, hc, mm_stepI, hv]) k
theorem ev_l2i {x : Int64} {v : Int32} (hc : md_cd j pc = some (.l2i, nx, r1, r2, r3)) (hv : x.toInt32 = v) (k : Ev xa d j (nx, lo, .int v :: st, W, b, c) o) : Ev xa d j (pc, lo, .long x :: st, W, b, c) o :=
  Ev.step (by simp only [mm_step, hc, mm_stepI, hv]) k
theorem ev_i2b {x : Int32} {v : Int32} (hc : md_cd j pc = some (.i2b, nx, r1, r2, r3)) (hv : x.toInt8.toInt32 = v) (k : Ev xa d j (nx, lo, .int v :: st, W, b, c) o) : Ev xa d j (pc, lo, .int x :: st, W, b, c) o :=
  Ev.step (by simp only [mm_step, hc, mm_stepI, hv]) k
theorem ev_i2c {x : Int32} {v : Int32} (hc : md_cd j pc = some (.i2c, nx, r1, r2, r3)) (hv : (x.toUInt32 % 65536).toInt32 = v) (k : Ev xa d j (nx, lo, .int v :: st, W, b, c) o) : Ev xa d j (pc, lo, .int x :: st, W, b, c) o :=
  Ev.step (by simp only [mm_step, hc, mm_stepI, hv]) k
theorem ev_idiv {x y v : Int32} (hc : md_cd j pc = some (.idiv, nx, r1, r2, r3)) (hy : ¬ y = 0) (hv : x / y = v) (k : Ev xa d j (nx, lo, .int v :: st, W, b, c) o) : Ev xa d j (pc, lo, .int y :: .int x :: st, W, b, c) o :=
  Ev.step (by simp only [mm_step, hc, mm_stepI, hy, if_false, hv]) k
theorem ev_irem {x y v : Int32} (hc : md_cd j pc = some (.irem, nx, r1, r2, r3)) (hy : ¬ y = 0) (hv : x - x / y * y = v) (k : Ev xa d j (nx, lo, .int v :: st, W, b, c) o) : Ev xa d j (pc, lo, .int y :: .int x :: st, W, b, c) o :=
  Ev.step (by simp only [mm_step, hc, mm_stepI, hy, if_false, hv]) k
theorem ev_if_t {cd : Jvm.ClassFile.Cond} {off : Int} {x : Int32} (hc : md_cd j pc = some (.ifCond cd off, nx, r1, r2, r3)) (hb : mm_cmp cd x 0 = true) (k : Ev xa d j (r1, lo, st, W, b, c) o) : Ev xa d j (pc, lo, .int x :: st, W, b, c) o :=
  Ev.step (by simp only [mm_step, hc, mm_stepI, hb, if_true]) k
theorem ev_icmp_t {cd : Jvm.ClassFile.Cond} {off : Int} {x y : Int32} (hc : md_cd j pc = some (.if_icmp cd off, nx, r1, r2, r3)) (hb : mm_cmp cd x y = true) (k : Ev xa d j (r1, lo, st, W, b, c) o) : Ev xa d j (pc, lo, .int y :: .int x :: st, W, b, c) o :=
  Ev.step (by simp only [mm_step, hc, mm_stepI, hb, if_true]) k
theorem ev_acmp_t {cd : Jvm.ClassFile.ACond} {off : Int} {x y : Nat} (hc : md_cd j pc = some (.if_acmp cd off, nx, r1, r2, r3)) (hx : mm_XB < x ∧ mm_XB < y ∧ x ≤ mm_XB + md_ne ∧ y ≤ mm_XB + md_ne) (hb : (decide (x = y) == decide (cd = .eq)) = true) (k : Ev xa d j (r1, lo, st, W, b, c) o) : Ev xa d j (pc, lo, .ref y :: .ref x :: st, W, b, c) o :=
  Ev.step (by simp only [mm_step, hc, mm_stepI, if_pos hx, hb, if_true]) k
theorem ev_if_f {cd : Jvm.ClassFile.Cond} {off : Int} {x : Int32} (hc : md_cd j pc = some (.ifCond cd off, nx, r1, r2, r3)) (hb : mm_cmp cd x 0 = false) (k : Ev xa d j (nx, lo, st, W, b, c) o) : Ev xa d j (pc, lo, .int x :: st, W, b, c) o :=
  Ev.step (by simp only [mm_step, hc, mm_stepI, hb]; rfl) k
theorem ev_icmp_f {cd : Jvm.ClassFile.Cond} {off : Int} {x y : Int32} (hc : md_cd j pc = some (.if_icmp cd off, nx, r1, r2, r3)) (hb : mm_cmp cd x y = false) (k : Ev xa d j (nx, lo, st, W, b, c) o) : Ev xa d j (pc, lo, .int y :: .int x :: st, W, b, c) o :=
  Ev.step (by simp only [mm_step, hc, mm_stepI, hb]; rfl) k
theorem ev_acmp_f {cd : Jvm.ClassFile.ACond} {off : Int} {x y : Nat} (hc : md_cd j pc = some (.if_acmp cd off, nx, r1, r2, r3)) (hx : mm_XB < x ∧ mm_XB < y ∧ x ≤ mm_XB + md_ne ∧ y ≤ mm_XB + md_ne) (hb : (decide (x = y) == decide (cd = .eq)) = false) (k : Ev xa d j (nx, lo, st, W, b, c) o) : Ev xa d j (pc, lo, .ref y :: .ref x :: st, W, b, c) o :=
  Ev.step (by simp only [mm_step, hc, mm_stepI, if_pos hx, hb]; rfl) k
theorem ev_goto {off : Int} (hc : md_cd j pc = some (.goto off, nx, r1, r2, r3))  (k : Ev xa d j (r1, lo, st, W, b, c) o) : Ev xa d j (pc, lo, st, W, b, c) o :=
  Ev.step (by simp only [mm_step, hc, mm_stepI]) k
theorem ev_tsw {df lw hh : Int} {offs : Array Int} {x : Int32} {t : Nat} (hc : md_cd j pc = some (.tableswitch df lw hh offs, nx, r1, r2, r3)) (ht : mm_tsw pc df lw hh offs x = some t) (k : Ev xa d j (t, lo, st, W, b, c) o) : Ev xa d j (pc, lo, .int x :: st, W, b, c) o :=
  Ev.step (by simp only [mm_step, hc, mm_stepI, ht]) k
theorem ev_lsw {df : Int} {ps : Array (Int × Int)} {x : Int32} {t : Nat} (hc : md_cd j pc = some (.lookupswitch df ps, nx, r1, r2, r3)) (ht : mm_at pc (Op.lookupswitch.offset ps.toList df x.toInt) = some t) (k : Ev xa d j (t, lo, st, W, b, c) o) : Ev xa d j (pc, lo, .int x :: st, W, b, c) o :=
  Ev.step (by simp only [mm_step, hc, mm_stepI, ht]) k
theorem ev_iaload {i : Int32} {k0 : Nat} {v : Value} (hc : md_cd j pc = some (.iaload, nx, r1, r2, r3)) (hg : mm_aget xa W k0 i = some (0, v)) (k : Ev xa d j (nx, lo, v :: st, W, b, c) o) : Ev xa d j (pc, lo, .int i :: .ref k0 :: st, W, b, c) o :=
  Ev.step (by simp only [mm_step, hc, mm_stepI, hg, if_true]) k
theorem ev_laload {i : Int32} {k0 : Nat} {v : Value} (hc : md_cd j pc = some (.laload, nx, r1, r2, r3)) (hg : mm_aget xa W k0 i = some (1, v)) (k : Ev xa d j (nx, lo, v :: st, W, b, c) o) : Ev xa d j (pc, lo, .int i :: .ref k0 :: st, W, b, c) o :=
  Ev.step (by simp only [mm_step, hc, mm_stepI, hg, if_true]) k
theorem ev_baload {i : Int32} {k0 t : Nat} {v : Value} (hc : md_cd j pc = some (.baload, nx, r1, r2, r3)) (hg : mm_aget xa W k0 i = some (t, v)) (ht : t = 2 ∨ t = 3) (k : Ev xa d j (nx, lo, v :: st, W, b, c) o) : Ev xa d j (pc, lo, .int i :: .ref k0 :: st, W, b, c) o :=
  Ev.step (by simp only [mm_step, hc, mm_stepI, hg, ht, if_true]) k
theorem ev_aaload {i : Int32} {k0 t : Nat} {v : Value} (hc : md_cd j pc = some (.aaload, nx, r1, r2, r3)) (hg : mm_aget xa W k0 i = some (t, v)) (ht : 4 ≤ t) (k : Ev xa d j (nx, lo, v :: st, W, b, c) o) : Ev xa d j (pc, lo, .int i :: .ref k0 :: st, W, b, c) o :=
  Ev.step (by simp only [mm_step, hc, mm_stepI, hg, ht, if_true]) k
theorem ev_iastore {x i : Int32} {k0 : Nat} {W2 : mm_W} (hc : md_cd j pc = some (.iastore, nx, r1, r2, r3)) (hk : k0 < mm_XB) (hg : mm_aputi W k0 i x = some (0, W2)) (k : Ev xa d j (nx, lo, st, W2, b, c) o) : Ev xa d j (pc, lo, .int x :: .int i :: .ref k0 :: st, W, b, c) o :=
  Ev.step (by simp only [mm_step, hc, mm_stepI, hk, hg, if_true]) k
theorem ev_bastore {x i : Int32} {k0 t : Nat} {W2 : mm_W} (hc : md_cd j pc = some (.bastore, nx, r1, r2, r3)) (hk : k0 < mm_XB) (hg : mm_aputi W k0 i x = some (t, W2)) (ht : t = 2 ∨ t = 3) (k : Ev xa d j (nx, lo, st, W2, b, c) o) : Ev xa d j (pc, lo, .int x :: .int i :: .ref k0 :: st, W, b, c) o :=
  Ev.step (by simp only [mm_step, hc, mm_stepI, hk, hg, ht, if_true]) k
theorem ev_lastore {x : Int64} {i : Int32} {k0 : Nat} {W2 : mm_W} (hc : md_cd j pc = some (.lastore, nx, r1, r2, r3)) (hk : k0 < mm_XB) (hg : mm_aputl W k0 i x = some (1, W2)) (k : Ev xa d j (nx, lo, st, W2, b, c) o) : Ev xa d j (pc, lo, .long x :: .int i :: .ref k0 :: st, W, b, c) o :=
  Ev.step (by simp only [mm_step, hc, mm_stepI, hk, hg, if_true]) k
theorem ev_aastore {i : Int32} {k0 v : Nat} {W2 : mm_W} (hc : md_cd j pc = some (.aastore, nx, r1, r2, r3)) (hk : k0 < mm_XB) (hg : mm_aputr W k0 i v = some W2) (k : Ev xa d j (nx, lo, st, W2, b, c) o) : Ev xa d j (pc, lo, .ref v :: .int i :: .ref k0 :: st, W, b, c) o :=
  Ev.step (by simp only [mm_step, hc, mm_stepI, hk, hg, if_true, Option.map_some]) k
theorem ev_arraylength {k0 n : Nat} {v : Int32} (hc : md_cd j pc = some (.arraylength, nx, r1, r2, r3)) (hg : mm_alen xa W k0 = some n) (hv : Int32.ofNat n = v) (k : Ev xa d j (nx, lo, .int v :: st, W, b, c) o) : Ev xa d j (pc, lo, .ref k0 :: st, W, b, c) o :=
  Ev.step (by simp only [mm_step, hc, mm_stepI, hg, Option.map_some, hv]) k
theorem ev_getfield {i k0 : Nat} {v : Value} (hc : md_cd j pc = some (.getfield i, nx, r1, r2, r3)) (h3 : r3 = 0) (hk : k0 < mm_XB) (hg : mm_getf W k0 r1 r2 = some v) (k : Ev xa d j (nx, lo, v :: st, W, b, c) o) : Ev xa d j (pc, lo, .ref k0 :: st, W, b, c) o :=
  Ev.step (by simp only [mm_step, hc, mm_stepI, h3, hk, hg, if_true, Option.map_some]) k
theorem ev_getfieldx {i k0 : Nat} {v : Value} (hc : md_cd j pc = some (.getfield i, nx, r1, r2, r3)) (h3 : ¬ r3 = 0) (hk : ¬ k0 < mm_XB) (hg : md_xo (k0 - mm_XB) r1 = some v) (k : Ev xa d j (nx, lo, v :: st, W, b, c) o) : Ev xa d j (pc, lo, .ref k0 :: st, W, b, c) o :=
  Ev.step (by simp only [mm_step, hc, mm_stepI, h3, hk, hg, if_false, Option.map_some]) k
theorem ev_putfield {i k0 : Nat} {v : Value} {W2 : mm_W} (hc : md_cd j pc = some (.putfield i, nx, r1, r2, r3)) (hk : k0 < mm_XB) (hg : mm_put W k0 r1 r2 r3 v = some W2) (k : Ev xa d j (nx, lo, st, W2, b, c) o) : Ev xa d j (pc, lo, v :: .ref k0 :: st, W, b, c) o :=
  Ev.step (by simp only [mm_step, hc, mm_stepI, hk, hg, if_true, Option.map_some]) k
theorem ev_getstatic {i : Nat} {v : Value} (hc : md_cd j pc = some (.getstatic i, nx, r1, r2, r3)) (h3 : r3 = 0) (hv : md_st r1 = v) (k : Ev xa d j (nx, lo, v :: st, W, b, c) o) : Ev xa d j (pc, lo, st, W, b, c) o :=
  Ev.step (by simp only [mm_step, hc, mm_stepI, h3, hv, if_true]) k
theorem ev_getstaticx {i : Nat} (hc : md_cd j pc = some (.getstatic i, nx, r1, r2, r3)) (h3 : ¬ r3 = 0) (k : Ev xa d j (nx, lo, .retAddr 0 :: st, W, b, c) o) : Ev xa d j (pc, lo, st, W, b, c) o :=
  Ev.step (by simp only [mm_step, hc, mm_stepI, h3, if_false]) k
theorem ev_new {i n : Nat} {df : List Value} {b2 c2 : Nat} (hc : md_cd j pc = some (.new i, nx, r1, r2, r3)) (h3 : r3 = 0) (hdf : md_df r1 = df) (hr : 1 ≤ b ∧ df.length ≤ c ∧ W.length < mm_XB) (hn : W.length = n) (hb : b - 1 = b2) (hc2 : c - df.length = c2) (k : Ev xa d j (nx, lo, .ref n :: st, W ++ [.inr (r1, df)], b2, c2) o) : Ev xa d j (pc, lo, st, W, b, c) o :=
  Ev.step (by subst hn; simp only [mm_step, hc, mm_stepI, if_pos h3, hdf, if_pos hr, hb, hc2]) k
theorem ev_newarray {a : ArrayType} {n : Nat} {x : Int32} {m b2 c2 : Nat} (hc : md_cd j pc = some (.newarray a, nx, r1, r2, r3)) (hm : x.toNatClampNeg = m) (hr : ¬ x < 0 ∧ 1 ≤ b ∧ m ≤ c ∧ W.length < mm_XB ∧ m ≤ 1000000) (hn : W.length = n) (hb : b - 1 = b2) (hc2 : c - m = c2) (k : Ev xa d j (nx, lo, .ref n :: st, W ++ [.inl (r1, m, if r1 = 1 then .inr (.inl (fun _ => 0)) else .inl (fun _ => 0))], b2, c2) o) : Ev xa d j (pc, lo, .int x :: st, W, b, c) o :=
  Ev.step (by subst hn; simp only [mm_step, hc, mm_stepI, hm, if_pos hr, hb, hc2]) k
theorem ev_anewarray {i n : Nat} {x : Int32} {m b2 c2 : Nat} (hc : md_cd j pc = some (.anewarray i, nx, r1, r2, r3)) (hm : x.toNatClampNeg = m) (hr : ¬ x < 0 ∧ 1 ≤ b ∧ m ≤ c ∧ W.length < mm_XB ∧ m ≤ 1000000) (hn : W.length = n) (hb : b - 1 = b2) (hc2 : c - m = c2) (k : Ev xa d j (nx, lo, .ref n :: st, W ++ [.inl (r1, m, .inr (.inr (.inr (.inr (fun _ => none)))))], b2, c2) o) : Ev xa d j (pc, lo, .int x :: st, W, b, c) o :=
  Ev.step (by subst hn; simp only [mm_step, hc, mm_stepI, hm, if_pos hr, hb, hc2]) k
theorem ev_ireturn {v : Int32} {ty : FieldType} (hc : md_cd j pc = some (.ireturn, nx, r1, r2, r3)) (ht : (md_mt j).2.2.2.1 = some ty) (hn : narrow ty (.int v) = .int v) : Ev xa d j (pc, lo, [.int v], W, b, c) (.inl (some (.int v)), W, b, c) :=
  Ev.done (by simp only [mm_step, hc, mm_stepI, ht, hn, if_true])
theorem ev_lreturn {v : Int64} (hc : md_cd j pc = some (.lreturn, nx, r1, r2, r3)) (ht : (md_mt j).2.2.2.1 = some .long) : Ev xa d j (pc, lo, [.long v], W, b, c) (.inl (some (.long v)), W, b, c) :=
  Ev.done (by simp only [mm_step, hc, mm_stepI, ht, if_true])
theorem ev_areturn {v : Nat} {n : String} (hc : md_cd j pc = some (.areturn, nx, r1, r2, r3)) (ht : (md_mt j).2.2.2.1 = some (.object n)) : Ev xa d j (pc, lo, [.ref v], W, b, c) (.inl (some (.ref v)), W, b, c) :=
  Ev.done (by simp only [mm_step, hc, mm_stepI, ht])
theorem ev_return (hc : md_cd j pc = some (.return_, nx, r1, r2, r3)) (ht : (md_mt j).2.2.2.1 = none) : Ev xa d j (pc, lo, [], W, b, c) (.inl none, W, b, c) :=
  Ev.done (by simp only [mm_step, hc, mm_stepI, ht, if_true])
theorem ev_throw {i b2 c2 : Nat} (hc : md_cd j pc = some (.new i, nx, r1, r2, r3)) (h3 : ¬ r3 = 0) (hr : 1 ≤ b ∧ 6 ≤ c ∧ (st.map fun v => v.category).sum ≤ 8) (hb : b - 1 = b2) (hc2 : c - 6 = c2) : Ev xa d j (pc, lo, st, W, b, c) (.inr r1, W, b2, c2) :=
  Ev.done (by simp only [mm_step, hc, mm_stepI, if_neg h3, if_pos hr, hb, hc2])
theorem ev_V {i k0 n : Nat} {rest : List Value} {as : List Value} {v : Option Value} {W2 : mm_W} {b2 c2 : Nat} (hc : md_cd j pc = some (.invokevirtual i, nx, r1, r2, r3)) (hk : r2 / 16 = 0) (hn : r2 % 16 = n) (hl : ¬ st.length < n) (hd : st.drop n = .ref k0 :: rest) (has : .ref k0 :: (st.take n).reverse = as) (hcls : mm_cls W k0 = some r3) (hs : (rest.map fun v => v.category).sum ≤ 8) (hL : ¬ (md_mt r1).2.2.1 < (as.map fun v => v.category).sum)
    (h : Ev xa d r1 (0, lv_args 0 as, [], W, b, c) (.inl v, W2, b2, c2)) (k : Ev xa (d + 1) j (nx, lo, v.toList ++ rest, W2, b2, c2) o) : Ev xa (d + 1) j (pc, lo, st, W, b, c) o :=
  Ev.call (j' := r1) (as := as) (nx := nx) (fl := true) (G := (pc, lo, rest, W, b, c)) (by simp only [mm_step, hc, mm_stepI, mm_call, hn, hl, if_false, hk, hd, hcls, hs, has, and_self, if_true]) hL h k
theorem ev_S {i n : Nat} {rest : List Value} {as : List Value} {v : Option Value} {W2 : mm_W} {b2 c2 : Nat} (hc : md_cd j pc = some (.invokestatic i, nx, r1, r2, r3)) (hk : r2 / 16 = 1) (hn : r2 % 16 = n) (hl : ¬ st.length < n) (hd : st.drop n = rest) (has : (st.take n).reverse = as) (hs : (rest.map fun v => v.category).sum ≤ 8) (hL : ¬ (md_mt r1).2.2.1 < (as.map fun v => v.category).sum)
    (h : Ev xa d r1 (0, lv_args 0 as, [], W, b, c) (.inl v, W2, b2, c2)) (k : Ev xa (d + 1) j (nx, lo, v.toList ++ rest, W2, b2, c2) o) : Ev xa (d + 1) j (pc, lo, st, W, b, c) o :=
  Ev.call (j' := r1) (as := as) (nx := nx) (fl := true) (G := (pc, lo, rest, W, b, c)) (by simp only [mm_step, hc, mm_stepI, mm_call, hn, hl, if_false, hk, hd, hs, has, if_true]) hL h k
theorem ev_I {i k0 n : Nat} {rest : List Value} {as : List Value} {v : Option Value} {W2 : mm_W} {b2 c2 : Nat} (hc : md_cd j pc = some (.invokespecial i, nx, r1, r2, r3)) (hk : r2 / 16 = 2) (hn : r2 % 16 = n) (hl : ¬ st.length < n) (hd : st.drop n = .ref k0 :: rest) (has : .ref k0 :: (st.take n).reverse = as) (hcls : mm_cls W k0 = some r3) (hs : (rest.map fun v => v.category).sum ≤ 8) (hL : ¬ (md_mt r1).2.2.1 < (as.map fun v => v.category).sum)
    (h : Ev xa d r1 (0, lv_args 0 as, [], W, b, c) (.inl v, W2, b2, c2)) (k : Ev xa (d + 1) j (nx, lo, v.toList ++ rest, W2, b2, c2) o) : Ev xa (d + 1) j (pc, lo, st, W, b, c) o :=
  Ev.call (j' := r1) (as := as) (nx := nx) (fl := false) (G := (pc, lo, rest, W, b, c)) (by simp only [mm_step, hc, mm_stepI, mm_call, hn, hl, if_false, hk, hd, hcls, hs, has, and_self, if_true]) hL h k
theorem ev_VU {i k0 n : Nat} {rest : List Value} {as : List Value} {v : Option Value} {W2 : mm_W} {b2 c2 : Nat} (hc : md_cd j pc = some (.invokevirtual i, nx, r1, r2, r3)) (hk : r2 / 16 = 2) (hn : r2 % 16 = n) (hl : ¬ st.length < n) (hd : st.drop n = .ref k0 :: rest) (has : .ref k0 :: (st.take n).reverse = as) (hcls : mm_cls W k0 = some r3) (hs : (rest.map fun v => v.category).sum ≤ 8) (hL : ¬ (md_mt r1).2.2.1 < (as.map fun v => v.category).sum)
    (h : Ev xa d r1 (0, lv_args 0 as, [], W, b, c) (.inl v, W2, b2, c2)) (k : Ev xa (d + 1) j (nx, lo, v.toList ++ rest, W2, b2, c2) o) : Ev xa (d + 1) j (pc, lo, st, W, b, c) o :=
  Ev.call (j' := r1) (as := as) (nx := nx) (fl := false) (G := (pc, lo, rest, W, b, c)) (by simp only [mm_step, hc, mm_stepI, mm_call, hn, hl, if_false, hk, hd, hcls, hs, has, and_self, if_true]) hL h k
theorem ev_Vcatch {i k0 n E h0 : Nat} {rest : List Value} {as : List Value} {W2 : mm_W} {b2 c2 : Nat} (hc : md_cd j pc = some (.invokevirtual i, nx, r1, r2, r3)) (hk : r2 / 16 = 0) (hn : r2 % 16 = n) (hl : ¬ st.length < n) (hd : st.drop n = .ref k0 :: rest) (has : .ref k0 :: (st.take n).reverse = as) (hcls : mm_cls W k0 = some r3) (hs : (rest.map fun v => v.category).sum ≤ 8) (hL : ¬ (md_mt r1).2.2.1 < (as.map fun v => v.category).sum)
    (h : Ev xa d r1 (0, lv_args 0 as, [], W, b, c) (.inr E, W2, b2, c2)) (hh : ¬ (md_mt j).2.2.2.2 = []) (hhd : md_hd j pc E = some h0) (k : Ev xa (d + 1) j (h0, lo, [.retAddr 0], W2, b2, c2) o) : Ev xa (d + 1) j (pc, lo, st, W, b, c) o :=
  Ev.catch (j' := r1) (as := as) (nx := nx) (G := (pc, lo, rest, W, b, c)) (by simp only [mm_step, hc, mm_stepI, mm_call, hn, hl, if_false, hk, hd, hcls, hs, has, and_self, if_true]) hL h hh hhd k
theorem ev_Vthru {i k0 n E : Nat} {rest : List Value} {as : List Value} {W2 : mm_W} {b2 c2 : Nat} (hc : md_cd j pc = some (.invokevirtual i, nx, r1, r2, r3)) (hk : r2 / 16 = 0) (hn : r2 % 16 = n) (hl : ¬ st.length < n) (hd : st.drop n = .ref k0 :: rest) (has : .ref k0 :: (st.take n).reverse = as) (hcls : mm_cls W k0 = some r3) (hs : (rest.map fun v => v.category).sum ≤ 8) (hL : ¬ (md_mt r1).2.2.1 < (as.map fun v => v.category).sum)
    (h : Ev xa d r1 (0, lv_args 0 as, [], W, b, c) (.inr E, W2, b2, c2)) (hh : (md_mt j).2.2.2.2 = []) : Ev xa (d + 1) j (pc, lo, st, W, b, c) (.inr E, W2, b2, c2) :=
  Ev.thru (j' := r1) (as := as) (nx := nx) (G := (pc, lo, rest, W, b, c)) (by simp only [mm_step, hc, mm_stepI, mm_call, hn, hl, if_false, hk, hd, hcls, hs, has, and_self, if_true]) hL h hh
theorem ev_Sthru {i n E : Nat} {rest : List Value} {as : List Value} {W2 : mm_W} {b2 c2 : Nat} (hc : md_cd j pc = some (.invokestatic i, nx, r1, r2, r3)) (hk : r2 / 16 = 1) (hn : r2 % 16 = n) (hl : ¬ st.length < n) (hd : st.drop n = rest) (has : (st.take n).reverse = as) (hs : (rest.map fun v => v.category).sum ≤ 8) (hL : ¬ (md_mt r1).2.2.1 < (as.map fun v => v.category).sum)
    (h : Ev xa d r1 (0, lv_args 0 as, [], W, b, c) (.inr E, W2, b2, c2)) (hh : (md_mt j).2.2.2.2 = []) : Ev xa (d + 1) j (pc, lo, st, W, b, c) (.inr E, W2, b2, c2) :=
  Ev.thru (j' := r1) (as := as) (nx := nx) (G := (pc, lo, rest, W, b, c)) (by simp only [mm_step, hc, mm_stepI, mm_call, hn, hl, if_false, hk, hd, hs, has, if_true]) hL h hh
theorem ev_objInit {i k0 : Nat} (hc : md_cd j pc = some (.invokespecial i, nx, r1, r2, r3)) (hk : r2 / 16 = 5) (hn : r2 % 16 = 0) (hs : (st.map fun v => v.category).sum ≤ 8) (k : Ev xa d j (nx, lo, st, W, b, c) o) : Ev xa d j (pc, lo, .ref k0 :: st, W, b, c) o :=
  Ev.step (by simp only [mm_step, hc, mm_stepI, mm_call, hn, hk, List.length_cons, Nat.not_lt_zero, if_false, hs, if_true]) k
theorem ev_copy {i s0 d0 : Nat} {sp dp n : Int32} {W2 : mm_W} (hc : md_cd j pc = some (.invokestatic i, nx, r1, r2, r3)) (hk : r2 = 101) (hg : mm_cpy W s0 sp d0 dp n = some W2) (hs : (st.map fun v => v.category).sum ≤ 8) (k : Ev xa d j (nx, lo, st, W2, b, c) o) : Ev xa d j (pc, lo, .int n :: .int dp :: .ref d0 :: .int sp :: .ref s0 :: st, W, b, c) o :=
  Ev.step (by
    have h1 : 101 / 16 = 6 := by decide
    have h2 : 101 % 16 = 5 := by decide
    have h3 : ¬ (Value.int n :: .int dp :: .ref d0 :: .int sp :: .ref s0 :: st).length < 5 := by simp only [List.length_cons]; omega
    simp only [mm_step, hc, mm_stepI, mm_call, hk, h1, h2, h3, if_false, hs, hg, if_true, Option.map_some]) k
end EV
