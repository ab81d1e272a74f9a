/-! ===== the listing is looked at by program ===== -/
theorem mm_wTg {w : Jvm.Cond} (h : w ∈ lw_tbl) (h2 : goodWord w = true) : w ∈ md_Tg := List.mem_filter.mpr ⟨h, h2⟩
theorem mm_tb_in : ∀ (k : Nat) {w : Jvm.Cond}, w ∈ md_tb k → w ∈ lw_tbl := by
  intro k w h
  have t : tables_1 = tables_1_1 ++ (tables_1_2 ++ (tables_1_3 ++ (tables_1_4 ++ (tables_1_5 ++ (tables_1_6 ++ (tables_1_7 ++ (tables_1_8 ++ (tables_1_9 ++ tables_1_10)))))))) := rfl
  unfold lw_tbl
  rw [t]
  match k, h with
  | 0, h => exact List.mem_append_left _ h
  | 1, h => exact List.mem_append_right _ (List.mem_append_left _ h)
  | 2, h => exact List.mem_append_right _ (List.mem_append_right _ (List.mem_append_left _ h))
  | 3, h => exact List.mem_append_right _ (List.mem_append_right _ (List.mem_append_right _ (List.mem_append_left _ h)))
  | 4, h => exact List.mem_append_right _ (List.mem_append_right _ (List.mem_append_right _ (List.mem_append_right _ (List.mem_append_left _ h))))
  | 5, h => exact List.mem_append_right _ (List.mem_append_right _ (List.mem_append_right _ (List.mem_append_right _ (List.mem_append_right _ (List.mem_append_left _ h)))))
  | 6, h => exact List.mem_append_right _ (List.mem_append_right _ (List.mem_append_right _ (List.mem_append_right _ (List.mem_append_right _ (List.mem_append_right _ (List.mem_append_left _ h))))))
  | 7, h => exact List.mem_append_right _ (List.mem_append_right _ (List.mem_append_right _ (List.mem_append_right _ (List.mem_append_right _ (List.mem_append_right _ (List.mem_append_right _ (List.mem_append_left _ h)))))))
  | 8, h => exact List.mem_append_right _ (List.mem_append_right _ (List.mem_append_right _ (List.mem_append_right _ (List.mem_append_right _ (List.mem_append_right _ (List.mem_append_right _ (List.mem_append_right _ (List.mem_append_left _ h))))))))
  | 9, h => exact List.mem_append_right _ (List.mem_append_right _ (List.mem_append_right _ (List.mem_append_right _ (List.mem_append_right _ (List.mem_append_right _ (List.mem_append_right _ (List.mem_append_right _ (List.mem_append_right _ (List.mem_append_left _ h)))))))))
  | 10, h => exact List.mem_append_right _ (List.mem_append_right _ (List.mem_append_right _ (List.mem_append_right _ (List.mem_append_right _ (List.mem_append_right _ (List.mem_append_right _ (List.mem_append_right _ (List.mem_append_right _ (List.mem_append_right _ h)))))))))
  | n + 11, h => exact absurd h List.not_mem_nil
theorem mm_wmem (k i : Nat) {w : Jvm.Cond} (h : (md_tb k)[i]? = some w) (h2 : goodWord w = true) : w ∈ md_Tg := mm_wTg (mm_tb_in k (List.mem_of_getElem? h)) h2
def mm_hw (h : Nat) (w : Jvm.Cond) : Bool := decide ((md_tb (h / 1000))[h % 1000]? = some w) && goodWord w
theorem mm_hw_ok {h : Nat} {w : Jvm.Cond} (q : mm_hw h w = true) : w ∈ md_Tg := by
  unfold mm_hw at q
  simp only [Bool.and_eq_true, decide_eq_true_eq] at q
  exact mm_wmem _ _ q.1 q.2
/-- words at their places -/
def mm_hws : List Nat → List Jvm.Cond → Bool
  | _, [] => true
  | h :: hs, w :: ws => mm_hw h w && mm_hws hs ws
  | [], _ :: _ => false
theorem mm_hws_ok : ∀ {hs : List Nat} {ws : List Jvm.Cond}, mm_hws hs ws = true → ∀ w ∈ ws, w ∈ md_Tg
  | _, [], _, w, h => absurd h List.not_mem_nil
  | h :: hs, w :: ws, q, z, hz => by
    simp only [mm_hws, Bool.and_eq_true] at q
    rcases List.mem_cons.mp hz with rfl | hz
    · exact mm_hw_ok q.1
    · exact mm_hws_ok q.2 z hz
  | [], _ :: _, q, _, _ => by cases q
def mm_dcb (j pc : Nat) (e : mm_Ent) : Bool := decide (decode (md_mt j).2.1 pc = .ok (e.1, mm_len e.1)) && decide (e.2.1 = pc + mm_len e.1)
def mm_tycb (r3 : Nat) (ty : Option FieldType) : Bool :=
  match r3, ty with
  | 0, some .int => true
  | 1, some .long => true
  | 2, some .boolean => true
  | 3, some (.object _) => true
  | 3, some (.array _) => true
  | _, _ => false
theorem mm_tycb_ok {r3 : Nat} {ty : Option FieldType} (h : mm_tycb r3 ty = true) : ∃ t, ty = some t ∧ mm_tyc r3 t := by
  unfold mm_tycb at h
  split at h
  · exact ⟨_, rfl, Or.inl ⟨rfl, rfl⟩⟩
  · exact ⟨_, rfl, Or.inr (Or.inl ⟨rfl, rfl⟩)⟩
  · exact ⟨_, rfl, Or.inr (Or.inr (Or.inl ⟨rfl, rfl⟩))⟩
  · exact ⟨_, rfl, Or.inr (Or.inr (Or.inr ⟨rfl, Or.inl ⟨_, rfl⟩⟩))⟩
  · exact ⟨_, rfl, Or.inr (Or.inr (Or.inr ⟨rfl, Or.inr ⟨_, rfl⟩⟩))⟩
  · cases h
def mm_rcvb (r3 : Nat) (E : String) : Bool := if r3 < 1000 then (match md_cl[r3]? with | some c => decide (c.1 = E) | none => false) else decide (md_xcn (r3 - 1000) = E)
theorem mm_rcvb_ok {r3 : Nat} {E : String} (h : mm_rcvb r3 E = true) : mm_rcv r3 E := by
  unfold mm_rcvb at h
  split at h
  · rename_i hlt
    split at h
    · rename_i c hc
      have h2 : c.1 = E := by simpa using h
      subst h2
      exact Or.inl ⟨hlt, c.2.1, c.2.2, hc⟩
    · cases h
  · rename_i hlt
    exact Or.inr ⟨by omega, by simpa using h⟩
def md_ux : MethodName := ⟨"PaintBank$Word", "ordinal", "()I"⟩
def mm_chkE (j : Nat) (q : mm_Ln) : Bool :=
  let pc := q.1
  let e := q.2.1
  let hs := q.2.2
  let own := (md_mt j).1.cls
  match e.1 with
  | .tableswitch a b c d => decide (decode (md_mt j).2.1 pc = .ok (.tableswitch a b c d, e.2.1))
  | .lookupswitch a ps => decide (decode (md_mt j).2.1 pc = .ok (.lookupswitch a ps, e.2.1)) && (ps.toList.zip (ps.toList.drop 1)).all (fun (a, next) => a.1 < next.1)
  | .istore i => mm_dcb j pc e && decide (i < (md_mt j).2.2.1)
  | .istore_n i => mm_dcb j pc e && decide ((i : Nat) < (md_mt j).2.2.1)
  | .lstore i => mm_dcb j pc e && decide (i + 1 < (md_mt j).2.2.1)
  | .lstore_n i => mm_dcb j pc e && decide ((i : Nat) + 1 < (md_mt j).2.2.1)
  | .astore i => mm_dcb j pc e && decide (i < (md_mt j).2.2.1)
  | .astore_n i => mm_dcb j pc e && decide ((i : Nat) < (md_mt j).2.2.1)
  | .iinc i _ => mm_dcb j pc e && decide (i < (md_mt j).2.2.1)
  | .ifCond _ off => mm_dcb j pc e && decide ((pc : Int) + off = (e.2.2.1 : Int))
  | .if_icmp _ off => mm_dcb j pc e && decide ((pc : Int) + off = (e.2.2.1 : Int))
  | .if_acmp _ off => mm_dcb j pc e && decide ((pc : Int) + off = (e.2.2.1 : Int))
  | .goto off => mm_dcb j pc e && decide ((pc : Int) + off = (e.2.2.1 : Int))
  | .ldc i => mm_dcb j pc e && (if e.2.2.1 = 0 then mm_hws hs [.constant own i (Int32.ofNat e.2.2.2.1)] else md_sr.any (fun z => decide (z.1 = own) && decide (z.2.1 = i) && decide (z.2.2.2 = e.2.2.2.1)))
  | .ldc_w i => mm_dcb j pc e && mm_hws hs [.constant own i (Int32.ofNat e.2.2.2.1)]
  | .ldc2_w i => mm_dcb j pc e && mm_hws hs [.constantLong own i (Int64.ofNat e.2.2.1)]
  | .getstatic i => mm_dcb j pc e && (if e.2.2.2.2 = 0 then decide (e.2.2.1 < md_nst) && mm_hws hs [.fieldLink own i (md_stn e.2.2.1).1 (md_stn e.2.2.1).2.1 (md_stn e.2.2.1).2.2] else
      match md_sq[e.2.2.1]? with | some z => mm_hws hs [.fieldLink own i z.1 z.2.1 z.2.2] | none => false)
  | .getfield i => mm_dcb j pc e && (if e.2.2.2.2 = 0 then (match md_cl[e.2.2.1]? with | some c => decide (e.2.2.2.1 < c.2.2) && mm_hws hs [.fieldLink own i (c.2.1 e.2.2.2.1).1 (c.2.1 e.2.2.2.1).2.1 (c.2.1 e.2.2.2.1).2.2.1] | none => false)
      else mm_hws hs [.fieldLink own i (md_xf e.2.2.1).1 (md_xf e.2.2.1).2.1 (md_xf e.2.2.1).2.2])
  | .putfield i => mm_dcb j pc e && (match md_cl[e.2.2.1]? with
      | some c => decide (e.2.2.2.1 < c.2.2) && mm_hws hs [.fieldLink own i (c.2.1 e.2.2.2.1).1 (c.2.1 e.2.2.2.1).2.1 (c.2.1 e.2.2.2.1).2.2.1] && mm_tycb e.2.2.2.2 (parseFieldDescriptor (c.2.1 e.2.2.2.1).2.2.1) && (!(c.2.1 e.2.2.2.1).2.2.2 || (decide ((md_mt j).1.name = "<init>") && decide ((c.2.1 e.2.2.2.1).1 = own)))
      | none => false)
  | .new i => mm_dcb j pc e && (if e.2.2.2.2 = 0 then (match md_cl[e.2.2.1]? with
      | some c => decide ((md_df e.2.2.1).length = c.2.2) && mm_hws hs [.classLink own i c.1, .instantiable c.1 c.2.2, .initialized c.1]
      | none => false) else decide ((j, pc, i, e.2.2.1) ∈ md_thl))
  | .newarray a => mm_dcb j pc e && decide (newarray.typeOf a = md_ty e.2.2.1) && decide (e.2.2.1 ≤ 3) && mm_hws hs [.arrayClass (md_ty e.2.2.1)]
  | .anewarray i => mm_dcb j pc e && decide (4 ≤ e.2.2.1) && (match md_ty e.2.2.1 with | .object E => mm_hws hs [.classLink own i E] && decide (E ∈ md_ao) | _ => false)
  | .invokevirtual i => mm_dcb j pc e && decide (1 ≤ e.2.2.1) && decide (e.2.2.1 < md_nM) && decide (e.2.2.2.1 % 16 = md_np e.2.2.1) && (md_mt e.2.2.1).2.2.2.2.isEmpty &&
      (if e.2.2.2.1 / 16 = 0 then mm_rcvb e.2.2.2.2 (md_mt e.2.2.1).1.cls && mm_hws hs [.methodLink own i (md_mt e.2.2.1).1, .instanceMethod (md_mt e.2.2.1).1, .selects (md_mt e.2.2.1).1.cls (md_mt e.2.2.1).1 (md_mt e.2.2.1).1, .initialized (md_mt e.2.2.1).1.cls]
       else decide (e.2.2.2.1 / 16 = 2) && decide ((md_mt e.2.2.1).1 = ⟨(md_mt e.2.2.1).1.cls, md_ux.name, md_ux.desc⟩) && mm_rcvb e.2.2.2.2 md_ux.cls && mm_hws hs [.methodLink own i md_ux, .sameMethod md_ux.cls (md_mt e.2.2.1).1.cls md_ux.name md_ux.desc, .selects md_ux.cls md_ux (md_mt e.2.2.1).1, .instanceMethod (md_mt e.2.2.1).1, .initialized (md_mt e.2.2.1).1.cls])
  | .invokestatic i => mm_dcb j pc e &&
      (if e.2.2.2.1 / 16 = 1 then decide (1 ≤ e.2.2.1) && decide (e.2.2.1 < md_nM) && decide (e.2.2.2.1 % 16 = md_np e.2.2.1) && mm_hws hs [.methodLink own i (md_mt e.2.2.1).1, .static (md_mt e.2.2.1).1, .initialized (md_mt e.2.2.1).1.cls]
       else decide (e.2.2.2.1 / 16 = 6) && mm_hws hs [.methodLink own i arraycopyName, .native arraycopyName, .static arraycopyName, .initialized "java/lang/System"])
  | .invokespecial i => mm_dcb j pc e &&
      (if e.2.2.2.1 / 16 = 2 then decide (1 ≤ e.2.2.1) && decide (e.2.2.1 < md_nM) && decide (e.2.2.2.1 % 16 = md_np e.2.2.1) && (md_mt e.2.2.1).2.2.2.2.isEmpty && (md_mt e.2.2.1).2.2.2.1.isNone && decide ((md_mt e.2.2.1).1.name = "<init>") && mm_hws hs [.instanceMethod (md_mt e.2.2.1).1, .initialized (md_mt e.2.2.1).1.cls] &&
         (mm_hws (hs.drop 2) [.methodLink own i (md_mt e.2.2.1).1] || decide ((own, i, (md_mt e.2.2.1).1, "PaintBank") ∈ md_nw))
       else decide (e.2.2.2.1 / 16 = 5) && mm_hws hs [.methodLink own i Lib.objectInit, .instanceMethod Lib.objectInit, .code Lib.objectInit ⟨#[0xb1]⟩ 1 none])
  | _ => mm_dcb j pc e
def mm_chkM (j : Nat) (L : List (List mm_Ln)) : Bool := L.all (fun ch => ch.all (fun q => mm_chkE j q))
def mm_chkAll : Nat → List (List (List mm_Ln)) → Prop
  | _, [] => True
  | j, L :: r => mm_chkM j L = true ∧ mm_chkAll (j + 1) r
theorem mm_chkAll_at : ∀ {c : List (List (List mm_Ln))} {j i : Nat} {L : List (List mm_Ln)}, mm_chkAll j c → c[i]? = some L → mm_chkM (j + i) L = true
  | [], _, i, _, _, h => by simp at h
  | L0 :: r, j, 0, L, hc, h => by
    rw [List.getElem?_cons_zero] at h
    cases h
    exact hc.1
  | L0 :: r, j, i + 1, L, hc, h => by
    rw [List.getElem?_cons_succ] at h
    have := mm_chkAll_at hc.2 h
    rwa [show j + 1 + i = j + (i + 1) by omega] at this
theorem mm_find_in : ∀ {l : List mm_Ln} {pc : Nat} {e : mm_Ent}, mm_find pc l = some e → ∃ hs, (pc, e, hs) ∈ l
  | [], _, _, h => by cases h
  | q :: l, pc, e, h => by
    unfold mm_find at h
    split at h
    · rename_i hq
      cases h
      subst hq
      exact ⟨q.2.2, List.mem_cons_self⟩
    · obtain ⟨hs, h2⟩ := mm_find_in h
      exact ⟨hs, List.mem_cons_of_mem _ h2⟩
theorem mm_dcb_ok {j pc : Nat} {e : mm_Ent} (h : mm_dcb j pc e = true) : mm_dc j pc e := by
  unfold mm_dcb at h
  simp only [Bool.and_eq_true, decide_eq_true_eq] at h
  exact h
theorem mm_chkE_ok (hcal : ∀ r, 1 ≤ r → r < md_nM → mm_cal r (md_np r)) (hthr : ∀ q ∈ md_thl, mm_thr q.1 q.2.1 q.2.2.1 q.2.2.2) {j pc : Nat} {e : mm_Ent} {hs : List Nat} (h : mm_chkE j (pc, e, hs) = true) : mm_ok j pc e := by
  obtain ⟨ins, nx, r1, r2, r3⟩ := e
  cases ins with
  | tableswitch a b c d =>
    have h2 : decide (decode (md_mt j).2.1 pc = .ok (.tableswitch a b c d, nx)) = true := h
    have h3 := of_decide_eq_true h2
    exact h3
  | lookupswitch a ps =>
    have h2 : (decide (decode (md_mt j).2.1 pc = .ok (.lookupswitch a ps, nx)) && (ps.toList.zip (ps.toList.drop 1)).all (fun (a, next) => a.1 < next.1)) = true := h
    simp only [Bool.and_eq_true, decide_eq_true_eq] at h2
    exact h2
  | istore i => simp only [mm_chkE, Bool.and_eq_true, decide_eq_true_eq] at h; exact ⟨mm_dcb_ok h.1, h.2⟩
  | istore_n i => simp only [mm_chkE, Bool.and_eq_true, decide_eq_true_eq] at h; exact ⟨mm_dcb_ok h.1, h.2⟩
  | lstore i => simp only [mm_chkE, Bool.and_eq_true, decide_eq_true_eq] at h; exact ⟨mm_dcb_ok h.1, h.2⟩
  | lstore_n i => simp only [mm_chkE, Bool.and_eq_true, decide_eq_true_eq] at h; exact ⟨mm_dcb_ok h.1, h.2⟩
  | astore i => simp only [mm_chkE, Bool.and_eq_true, decide_eq_true_eq] at h; exact ⟨mm_dcb_ok h.1, h.2⟩
  | astore_n i => simp only [mm_chkE, Bool.and_eq_true, decide_eq_true_eq] at h; exact ⟨mm_dcb_ok h.1, h.2⟩
  | iinc i n => simp only [mm_chkE, Bool.and_eq_true, decide_eq_true_eq] at h; exact ⟨mm_dcb_ok h.1, h.2⟩
  | ifCond cd off => simp only [mm_chkE, Bool.and_eq_true, decide_eq_true_eq] at h; exact ⟨mm_dcb_ok h.1, h.2⟩
  | if_icmp cd off => simp only [mm_chkE, Bool.and_eq_true, decide_eq_true_eq] at h; exact ⟨mm_dcb_ok h.1, h.2⟩
  | if_acmp cd off => simp only [mm_chkE, Bool.and_eq_true, decide_eq_true_eq] at h; exact ⟨mm_dcb_ok h.1, h.2⟩
  | goto off => simp only [mm_chkE, Bool.and_eq_true, decide_eq_true_eq] at h; exact ⟨mm_dcb_ok h.1, h.2⟩
  | ldc i =>
    simp only [mm_chkE, Bool.and_eq_true] at h
    refine ⟨mm_dcb_ok h.1, fun h0 => ?_, fun h0 => ?_⟩
    · have h0' : r1 = 0 := h0
      rw [if_pos h0'] at h
      exact mm_hws_ok h.2 _ (by simp)
    · have h0' : ¬ r1 = 0 := h0
      rw [if_neg h0'] at h
      obtain ⟨z, hz, h3⟩ := List.any_eq_true.mp h.2
      simp only [Bool.and_eq_true, decide_eq_true_eq] at h3
      obtain ⟨⟨h4, h5⟩, h6⟩ := h3
      refine ⟨z.2.2.1, ?_⟩
      show ((md_mt j).1.cls, i, z.2.2.1, r2) ∈ md_sr
      rw [← h4, ← h5, ← h6]
      exact hz
  | ldc_w i => simp only [mm_chkE, Bool.and_eq_true] at h; exact ⟨mm_dcb_ok h.1, mm_hws_ok h.2 _ (by simp)⟩
  | ldc2_w i => simp only [mm_chkE, Bool.and_eq_true] at h; exact ⟨mm_dcb_ok h.1, mm_hws_ok h.2 _ (by simp)⟩
  | getstatic i =>
    simp only [mm_chkE, Bool.and_eq_true] at h
    refine ⟨mm_dcb_ok h.1, fun h0 => ?_, fun h0 => ?_⟩
    · have h0' : r3 = 0 := h0
      rw [if_pos h0'] at h
      simp only [Bool.and_eq_true, decide_eq_true_eq] at h
      exact ⟨h.2.1, mm_hws_ok h.2.2 _ (by simp)⟩
    · have h0' : ¬ r3 = 0 := h0
      rw [if_neg h0'] at h
      have h2 := h.2
      split at h2
      · rename_i z hz
        exact ⟨z, List.mem_of_getElem? hz, mm_hws_ok h2 _ (by simp)⟩
      · cases h2
  | getfield i =>
    simp only [mm_chkE, Bool.and_eq_true] at h
    refine ⟨mm_dcb_ok h.1, fun h0 => ?_, fun h0 => ?_⟩
    · have h0' : r3 = 0 := h0
      rw [if_pos h0'] at h
      have h2 := h.2
      split at h2
      · rename_i z hz
        simp only [Bool.and_eq_true, decide_eq_true_eq] at h2
        exact ⟨z.1, z.2.1, z.2.2, hz, h2.1, mm_hws_ok h2.2 _ (by simp)⟩
      · cases h2
    · have h0' : ¬ r3 = 0 := h0
      rw [if_neg h0'] at h
      exact mm_hws_ok h.2 _ (by simp)
  | putfield i =>
    simp only [mm_chkE, Bool.and_eq_true] at h
    refine ⟨mm_dcb_ok h.1, ?_⟩
    have h2 := h.2
    split at h2
    · rename_i z hz
      simp only [Bool.and_eq_true, decide_eq_true_eq, Bool.or_eq_true, Bool.not_eq_true'] at h2
      obtain ⟨⟨⟨h3, h4⟩, h5⟩, h6⟩ := h2
      obtain ⟨t, h7, h8⟩ := mm_tycb_ok h5
      refine ⟨z.1, z.2.1, z.2.2, t, hz, h3, mm_hws_ok h4 _ (by simp), h7, h8, fun hf => ?_⟩
      rcases h6 with h6 | h6
      · rw [hf] at h6; cases h6
      · exact h6
    · cases h2
  | new i =>
    simp only [mm_chkE, Bool.and_eq_true] at h
    refine ⟨mm_dcb_ok h.1, fun h0 => ?_, fun h0 => ?_⟩
    · have h0' : r3 = 0 := h0
      rw [if_pos h0'] at h
      have h2 := h.2
      split at h2
      · rename_i z hz
        simp only [Bool.and_eq_true, decide_eq_true_eq] at h2
        exact ⟨z.1, z.2.1, z.2.2, hz, h2.1, mm_hws_ok h2.2 _ (by simp), mm_hws_ok h2.2 _ (by simp), mm_hws_ok h2.2 _ (by simp)⟩
      · cases h2
    · have h0' : ¬ r3 = 0 := h0
      rw [if_neg h0'] at h
      have h2 : (j, pc, i, r1) ∈ md_thl := of_decide_eq_true h.2
      have h3 : mm_thr j pc i r1 := hthr (j, pc, i, r1) h2
      exact h3
  | newarray a =>
    simp only [mm_chkE, Bool.and_eq_true, decide_eq_true_eq] at h
    exact ⟨mm_dcb_ok h.1.1.1, h.1.1.2, h.1.2, mm_hws_ok h.2 _ (by simp)⟩
  | anewarray i =>
    simp only [mm_chkE, Bool.and_eq_true, decide_eq_true_eq] at h
    refine ⟨mm_dcb_ok h.1.1, h.1.2, ?_⟩
    have h2 := h.2
    split at h2
    · rename_i E hE
      simp only [Bool.and_eq_true, decide_eq_true_eq] at h2
      exact ⟨E, hE, mm_hws_ok h2.1 _ (by simp), h2.2⟩
    · cases h2
  | invokevirtual i =>
    simp only [mm_chkE, Bool.and_eq_true, decide_eq_true_eq] at h
    obtain ⟨⟨⟨⟨⟨h1, h2⟩, h3⟩, h4⟩, h5⟩, h6⟩ := h
    refine ⟨mm_dcb_ok h1, by show mm_cal r1 (r2 % 16); rw [h4]; exact hcal r1 h2 h3, List.isEmpty_iff.mp h5, ?_, fun h0 => ?_, fun h0 => ?_⟩
    · by_cases hz : r2 / 16 = 0
      · exact Or.inl hz
      · rw [if_neg hz] at h6
        simp only [Bool.and_eq_true, decide_eq_true_eq] at h6
        exact Or.inr h6.1.1.1
    · have h0' : r2 / 16 = 0 := h0
      rw [if_pos h0'] at h6
      simp only [Bool.and_eq_true] at h6
      exact ⟨mm_rcvb_ok h6.1, mm_hws_ok h6.2⟩
    · have h0' : r2 / 16 = 2 := h0
      rw [if_neg (by omega)] at h6
      simp only [Bool.and_eq_true, decide_eq_true_eq] at h6
      exact ⟨md_ux, h6.1.1.2, mm_rcvb_ok h6.1.2, mm_hws_ok h6.2⟩
  | invokestatic i =>
    simp only [mm_chkE, Bool.and_eq_true] at h
    refine ⟨mm_dcb_ok h.1, ?_⟩
    have h6 := h.2
    by_cases hz : r2 / 16 = 1
    · rw [if_pos hz] at h6
      simp only [Bool.and_eq_true, decide_eq_true_eq] at h6
      obtain ⟨⟨⟨h2, h3⟩, h4⟩, h5⟩ := h6
      exact Or.inl ⟨hz, by show mm_cal r1 (r2 % 16); rw [h4]; exact hcal r1 h2 h3, mm_hws_ok h5⟩
    · rw [if_neg hz] at h6
      simp only [Bool.and_eq_true, decide_eq_true_eq] at h6
      exact Or.inr ⟨h6.1, mm_hws_ok h6.2⟩
  | invokespecial i =>
    simp only [mm_chkE, Bool.and_eq_true] at h
    refine ⟨mm_dcb_ok h.1, ?_⟩
    have h6 := h.2
    by_cases hz : r2 / 16 = 2
    · rw [if_pos hz] at h6
      simp only [Bool.and_eq_true, decide_eq_true_eq, Bool.or_eq_true] at h6
      obtain ⟨⟨⟨⟨⟨⟨⟨h2, h3⟩, h4⟩, h5⟩, h7⟩, h8⟩, h9⟩, h10⟩ := h6
      refine Or.inl ⟨hz, by show mm_cal r1 (r2 % 16); rw [h4]; exact hcal r1 h2 h3, List.isEmpty_iff.mp h5, Option.isNone_iff_eq_none.mp h7, h8, mm_hws_ok h9, ?_⟩
      rcases h10 with h10 | h10
      · exact Or.inl (mm_hws_ok h10 _ (by simp))
      · exact Or.inr ⟨_, h10⟩
    · rw [if_neg hz] at h6
      simp only [Bool.and_eq_true, decide_eq_true_eq] at h6
      exact Or.inr ⟨h6.1, mm_hws_ok h6.2⟩
  | _ => exact mm_dcb_ok h
