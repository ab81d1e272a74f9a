-- ===== end of PART A; then your names; then what follows =====
/-! THE CLAIM OUT OF ONE WALK OF THE LAW'S BODY. Your part is whole_start (and what it stands on); all else here is the same for every law, but numbers. -/
def R_law : String := "PaintBankLaw"
def lw_P (b : Addr) (xs : List Int32) (args : Array Value) (s : State) : Prop := args = #[.ref b] ∧ s.IntsAt b xs ∧ xs.length ≤ 3072 ∧ (Jvm.Cond.and given_1 narrow_1).before args s = true
def lw_Q (_ : Array Value) (s : State) (o : Outcome) (t : State) : Prop := o = .returned (some (.int 1)) ∧ Framed s o t [] 601024 7293034
def lw_Z (below : List Frame) (a : Array Value) (s : State) : State → Prop := fun t => ∃ o, t.status = .running ∧ Ended t below o ∧ lw_Q a s o t
/-- the law's own end, with 1 on the stack, nothing written that was there before, its room as the claim has it -/
theorem lw_ret {p : Program} {l : Launch} {e : Env} {s : State} {m : MethodId} {below : List Frame} {meth : Method} {c : Code} {b : Nat} (hx : p.tables.exec = Jvm.exec) (hb : c.code = code) (hr : meth.sig.returnType = ret) (hlocks : meth.locks = false) {pc : Nat} {H : Heap} {ls : Array Slot} (hdg : decode code pc = .ok (.ireturn, 1)) : W p l e room_1 s m #[Value.ref b] below meth c H [] 601024 7293034 (lw_Z below #[Value.ref b] s) (F0 m pc ls [.int 1]) := by
  intro T hT X
  obtain ⟨fs, hret, hrun, hended, hW, hframe⟩ := X.leave (v := some (.int 1)) (hlocks := hlocks) (fun h => by rw [hr] at h; cases h)
  have hmeth' : T.vm.method? m = some meth := X.method'
  refine ⟨T.setFrames fs, ?_, .returned (some (.int 1)), hrun, hended, rfl, ⟨_, rfl⟩, hW, hframe⟩
  jvm_step X.here [X.here.top, hx, hb, hdg, hmeth', hr, ret, narrow_b1]
  (try refine ⟨rfl, ?_⟩); (try refine ⟨rfl, ?_⟩)
  first | (intro acts; rw [hret _ acts rfl rfl rfl]) | rw [hret _ _ rfl rfl rfl]
  exact Steps.refl _
/-- what holds at the law's entry: the machine, the code, the tables' words (any of lw_tbl by 'hts w (by decide +kernel)'), the script of L ints xs at the cell b, what the Statement gives of the start (any of its parts by flat_of_before) -/
def lw_At (p : Program) (s : State) (m : MethodId) (meth : Method) (c : Code) (b L : Nat) (xs : Nat → Int32) : Prop :=
  p.tables.exec = Jvm.exec ∧ c.code = code ∧ meth.sig.returnType = ret ∧ c.maxLocals = 7 ∧ s.vm.findClass R_law = some m.cls ∧ (∀ w ∈ lw_tbl, w.before #[Value.ref b] s = true) ∧ va_X b L xs s s.heap ∧ b < s.heap.size ∧ meth.locks = false ∧ (Jvm.Cond.and given_1 narrow_1).before #[Value.ref b] s = true ∧ (∀ x ∈ c.exceptionTable.toList, False) ∧ meth.name = "law"

def md_cells : Nat := 601024
def md_slots : Nat := 7293034
def md_lawL : Nat := 7
theorem md_inst : ∀ (k : Nat) (q : vw_C), md_cl[k]? = some q → Jvm.Cond.instantiable q.1 q.2.2 ∈ lw_tbl := by
  intro k q h
  match k, h with
  | 0, h => cases h; exact mm_tb_in 1 (List.mem_of_getElem? (i := 31) rfl)
  | 1, h => cases h; exact mm_tb_in 1 (List.mem_of_getElem? (i := 39) rfl)
  | 2, h => cases h; exact mm_tb_in 1 (List.mem_of_getElem? (i := 89) rfl)
  | 3, h => cases h; exact mm_tb_in 1 (List.mem_of_getElem? (i := 195) rfl)
  | 4, h => cases h; exact mm_tb_in 1 (List.mem_of_getElem? (i := 223) rfl)
  | 5, h => cases h; exact mm_tb_in 1 (List.mem_of_getElem? (i := 230) rfl)
  | 6, h => cases h; exact mm_tb_in 2 (List.mem_of_getElem? (i := 84) rfl)
  | 7, h => cases h; exact mm_tb_in 2 (List.mem_of_getElem? (i := 138) rfl)
  | 8, h => cases h; exact mm_tb_in 2 (List.mem_of_getElem? (i := 173) rfl)
  | 9, h => cases h; exact mm_tb_in 2 (List.mem_of_getElem? (i := 216) rfl)
  | 10, h => cases h; exact mm_tb_in 2 (List.mem_of_getElem? (i := 236) rfl)
  | 11, h => cases h; exact mm_tb_in 7 (List.mem_of_getElem? (i := 73) rfl)
  | n + 12, h => exact absurd (List.getElem?_eq_some_iff.mp h).1 (by show ¬ n + 12 < 12; omega)
