/-! ===== kinds: what the law keeps (p14, p15; draft, not compiled) ===== -/
/-- the reference's cars of each kind are as the class's setup has them -/
def MR (h : hp) : Prop := MSE (fun i => h 238 (19 + i)) (fun i => h 238 (31 + i)) (h 8) (h 7) (h 3 2).toNat
theorem MR.mv {h H : hp} (m : MR h) (N : MSN h H) (b : h 238 2 = h 3 2 ∧ h 3 2 ≤ 12) (e8 : H 8 = h 8) (e7 : H 7 = h 7) (e2 : H 3 2 = h 3 2) : MR H := by
  have x := N.2 (by omega)
  unfold MR at *
  rw [e8, e7, e2]
  rw [b.1] at x
  exact x.trans m
theorem MR.read {h2 : hp} {s : tk_S} (g : GI h2) (x : CVS s (h2 3) (h2 5) (h2 6) (h2 8)) (y : CVR s (h2 238)) (c7 : ∀ i : Nat, (i : Int) < s 2 → h2 7 i = s (31 + i)) (cr : ∀ i : Nat, (i : Int) < s 2 → h2 238 (31 + i) = s (31 + i)) : (∀ i : Nat, (i : Int) < h2 3 2 → 0 ≤ h2 7 i ∧ h2 7 i ≤ 4) ∧ MR h2 := by
  have e2 : h2 3 2 = s 2 := x.1 2 (by decide)
  have b2 := gi_b (lo := 0) (hi := 12) g 3 2 rfl
  refine ⟨fun i hi => ?_, fun b c => ?_⟩
  · rw [c7 i (by omega), ← cr i (by omega)]
    exact gi_b (lo := 0) (hi := 4) g 238 (31 + i) (gi_rg 31 12 (fun _ => rfl) (by decide +kernel) (by omega))
  · exact ms_n_congrB _ (fun i hi => ⟨(y.2.2.2 i (by omega)).trans (x.2.2.2 i (by omega)).symm, (cr i (by omega)).trans (c7 i (by omega)).symm⟩)
/-- what is saved -/
def SM (h : hp) : Prop := MSE (h 215) (h 218) (h 215) (h 214) (h 210 2).toNat ∧ (∀ i : Nat, (i : Int) < h 210 2 → 0 ≤ h 214 i ∧ h 214 i ≤ 4) ∧ MSE (fun i => h 241 (19 + i)) (fun i => h 241 (31 + i)) (h 215) (h 214) (h 210 2).toNat
theorem SM.mv {h H : hp} (m : SM h) (e215 : H 215 = h 215) (e218 : H 218 = h 218) (e214 : H 214 = h 214) (e2 : H 210 2 = h 210 2) (e241 : H 241 = h 241) : SM H := by
  unfold SM at *
  rw [e215, e218, e214, e2, e241]
  exact m
theorem SM.save {h H : hp} (mi : MCI h) (mr : MR h) (x2 : H 210 2 = h 3 2) (b : h 3 2 ≤ 12) (m1 : MSE (H 215) (H 218) (H 215) (H 214) (H 210 2).toNat) (k8 : ∀ i, i < 12 → H 215 i = h 8 i) (k7 : ∀ i, i < 12 → H 214 i = h 7 i) (kr : ∀ i, i < 200 → H 241 i = h 238 i) : SM H := by
  refine ⟨m1, fun i hi => ?_, fun b' c => ?_⟩
  · rw [k7 i (by omega)]; exact mi.1.2.1 i (by omega)
  · rw [x2]
    rw [ms_n_congrB (A := fun i => H 241 (19 + i)) (D := fun i => H 241 (31 + i)) (B := fun i => h 238 (19 + i)) (E := fun i => h 238 (31 + i)) _ (fun i hi => ⟨kr _ (by omega), kr _ (by omega)⟩), ms_n_congrB (A := H 215) (D := H 214) (B := h 8) (E := h 7) _ (fun i hi => ⟨k8 _ (by omega), k7 _ (by omega)⟩)]
    exact mr b' c
theorem MR.back {h H : hp} (m : SM h) (x2 : H 3 2 = h 210 2) (b : h 210 2 ≤ 12) (k8 : ∀ i, i < 12 → H 8 i = h 215 i) (k7 : ∀ i, i < 12 → H 7 i = h 214 i) (kr : ∀ i, i < 200 → H 238 i = h 241 i) : (∀ i : Nat, (i : Int) < H 3 2 → 0 ≤ H 7 i ∧ H 7 i ≤ 4) ∧ MR H := by
  obtain ⟨_, m2, m3⟩ := m
  refine ⟨fun i hi => ?_, fun b' c => ?_⟩
  · rw [k7 i (by omega)]; exact m2 i (by omega)
  · rw [x2]
    rw [ms_n_congrB (A := fun i => H 238 (19 + i)) (D := fun i => H 238 (31 + i)) (B := fun i => h 241 (19 + i)) (E := fun i => h 241 (31 + i)) _ (fun i hi => ⟨kr _ (by omega), kr _ (by omega)⟩), ms_n_congrB (A := H 8) (D := H 7) (B := h 215) (E := h 214) _ (fun i hi => ⟨k8 _ (by omega), k7 _ (by omega)⟩)]
    exact m3 b' c
