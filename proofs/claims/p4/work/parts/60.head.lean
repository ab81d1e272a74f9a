/-! ===== the law: its script, its loop ===== -/
theorem sc_b (x : Int32) : -2147483648 ≤ x.toInt ∧ x.toInt ≤ 2147483647 := ⟨Int32.le_toInt x, by have := Int32.toInt_lt x; omega⟩
theorem wr_sc {L : Nat} {xs : Nat → Int32} {d j pc nx r1 r2 r3 : Nat} {lo : List (Nat × Value)} {st : List Value} {W : mm_W} {b c : Nat} {Q : hp_Q} {a : Int} {f : Nat} (hc : md_cd j pc = some (.iaload, nx, r1, r2, r3)) (ha : a = (f : Int)) (hi : f < L) (hL : L ≤ 3072) (k : wp (md_xa (L, xs)) d j (nx, lo, vi (xs f).toInt :: st, W, b, c) Q) : wp (md_xa (L, xs)) d j (pc, lo, vi a :: .ref mm_XB :: st, W, b, c) Q :=
  wr_xa (t := 0) (n := L) (fv := fun j => .int (xs j)) (f := f) .iaload (Or.inl ⟨rfl, rfl⟩) hc (by decide) rfl ha hi (by omega) (by unfold vi; rw [Int32.ofInt_toInt]) k
/-- what holds between two calls -/
def LI (h : hp) : Prop := GI h ∧ h 1 1 = h 236 2 ∧ RS (h 238) 0 ∧ RS (h 241) 0 ∧ GPH h ∧ BRh h ∧ h 1 2 = h 236 10 ∧ h 1 3 = h 236 11 ∧ SVx (h 3) (h 5) (h 6) (h 8) (h 238) ∧ h 0 12 = h 236 21 ∧ (h 0 12 = 1 → SVx (h 210) (h 212) (h 213) (h 215) (h 241)) ∧ GPS h
theorem RB0.of {h h9 : hp} (br : BRh h) (h0 : 0 ≤ h 1 1 ∧ h 1 1 ≤ 800) (e : ∀ i, h9 237 i = h 237 i) (e2 : h9 236 2 = h 1 1) : RB0 (h 2) (h 1 1) h9 :=
  ⟨fun i hi => by rw [e i]; exact br i (by omega), e2, h0.1, h0.2⟩
theorem wl_law {L : Nat} {xs : Nat → Int32} {d : Nat} {Q : hp_Q} {cr : Nat → Nat → Option Nat} {F : Int → mm_W → Nat → Nat → mm_F}
    (step : ∀ (i : Int) (h : hp) (b c : Nat), LI h → 0 ≤ i → i ≤ L → (3072 - i).toNat ≤ b → 6 * (3072 - i).toNat ≤ c → (∀ (h2 : hp) (b2 c2 : Nat), LI h2 → i + 6 ≤ L → b ≤ b2 + 1 → c ≤ c2 + 6 → wp (md_xa (L, xs)) d 0 (F (i + 6) (hp_w h2 cr) b2 c2) Q) → wp (md_xa (L, xs)) d 0 (F i (hp_w h cr) b c) Q)
    (h : hp) (b c : Nat) (hI : LI h) (hb : 3072 ≤ b) (hc : 6 * 3072 ≤ c) : wp (md_xa (L, xs)) d 0 (F 0 (hp_w h cr) b c) Q := by
  have key : ∀ (n : Nat) (i : Int) (h : hp) (b c : Nat), (L - i).toNat = n → LI h → 0 ≤ i → i ≤ L → (3072 - i).toNat ≤ b → 6 * (3072 - i).toNat ≤ c → wp (md_xa (L, xs)) d 0 (F i (hp_w h cr) b c) Q := by
    intro n
    induction n using Nat.strongRecOn with
    | _ n ih =>
      intro i h b c hn hI h0 hL hb hc
      refine step i h b c hI h0 hL hb hc (fun h2 b2 c2 hI2 hi6 hb2 hc2 => ?_)
      exact ih (L - (i + 6)).toNat (by omega) (i + 6) h2 b2 c2 rfl hI2 (by omega) hi6 (by omega) (by omega)
  exact key _ 0 h b c rfl hI (by omega) (by omega) (by omega) (by omega)
