/-! ===== what was decided on the way: closed, so that no line splits it ===== -/
def TKn (P : Prop) : Prop := ¬ P
theorem TKn.no {P : Prop} (h : TKn P) : ¬ P := h
theorem tkn_o {a b c d : Int} (o : a ≠ b ∨ c ≠ d) : TKn (a = b ∧ c = d) := fun e => o.elim (fun x => x e.1) (fun x => x e.2)
theorem tkn_r {lo hi v : Int} (o : v < lo ∨ hi < v) : TKn (lo ≤ v ∧ v ≤ hi) := fun e => o.elim (fun x => Int.not_le.mpr x e.1) (fun x => Int.not_le.mpr x e.2)
theorem tk_wcp {B : Nat → Int} {n p K w : Int} (i : Nat) (hi : i < 20) (hK : tk_K5.getD i 0 = K) (hw : (i : Int) + 1 = w) (h0 : 0 ≤ p) (h1 : p ≤ n) (k : tk_kd B n p = 1) (s : tk_sw B n p = K) : tk_kd B n p = 1 ∧ tk_wd (tk_lw B n p) = w :=
  ⟨k, ((tk_wk i hi h0 h1 k).mp (s.trans hK.symm)).trans hw⟩
theorem tk_wcm {B : Nat → Int} {n p K w : Int} (i : Nat) (hi : i < 20) (hK : tk_K5.getD i 0 = K) (hw : (i : Int) + 1 = w) (h0 : 0 ≤ p) (h1 : p ≤ n) (k : tk_kd B n p = 1) (s : tk_sw B n p ≠ K) : TKn (tk_wd (tk_lw B n p) = w) :=
  fun e => s (((tk_wk i hi h0 h1 k).mpr (e.trans hw.symm)).trans hK)
theorem tk_wcn {B : Nat → Int} {n p K w : Int} (i : Nat) (hi : i < 20) (hK : tk_K5.getD i 0 = K) (hw : (i : Int) + 1 = w) (h0 : 0 ≤ p) (h1 : p ≤ n) (o : tk_kd B n p ≠ 1 ∨ tk_sw B n p ≠ K) : TKn (tk_kd B n p = 1 ∧ tk_wd (tk_lw B n p) = w) :=
  fun e => o.elim (fun x => x e.1) (fun x => x (((tk_wk i hi h0 h1 e.1).mpr (e.2.trans hw.symm)).trans hK))
theorem tkn_c {a w : Int} (o : a ≠ 1 ∨ w < 13 ∨ 20 < w) : TKn (a = 1 ∧ 13 ≤ w ∧ w ≤ 20) := fun e => o.elim (fun x => x e.1) (fun x => x.elim (fun y => Int.not_le.mpr y e.2.1) (fun y => Int.not_le.mpr y e.2.2))
theorem tkn_8 {w : Int} (a : ¬ w = 13) (b : ¬ w = 14) (c : ¬ w = 15) (d : ¬ w = 16) (e : ¬ w = 17) (f : ¬ w = 18) (g : ¬ w = 19) (h : ¬ w = 20) : w < 13 ∨ 20 < w := by omega
theorem SCI.n5 {B : Nat → Int} {n p a6 a7 a12 o : Int} (T : TKk B n p a6 a7 a12) (x : o ≤ 0 ∨ a6 ≠ 3 ∨ a7 ≠ 41) : TKn (tk_kd B n p = 5 ∧ 0 < o) := by
  intro e
  obtain ⟨e1, e2⟩ := e
  unfold TKk at T
  omega
