abbrev mm_W : Type := List va_E
abbrev mm_Ent : Type := Instr × Nat × Nat × Nat × Nat
abbrev mm_Mt : Type := MethodName × ByteArray × Nat × Option FieldType × List (Nat × Nat × Nat × Nat)
abbrev mm_Xa : Type := Nat → Option (Nat × Nat × (Nat → Value))
def md_cd : Nat → Nat → Option mm_Ent := fun _ _ => none
def md_mt : Nat → mm_Mt := fun _ => (⟨"a", "b", "c"⟩, ⟨#[]⟩, 0, none, [])
def md_st : Nat → Value := fun _ => .null
def md_stn : Nat → String × String × String := fun _ => ("", "", "")
def md_nst : Nat := 0
def md_xc : Nat → Option Nat := fun _ => none
def md_xcn : Nat → String := fun _ => ""
def md_xo : Nat → Nat → Option Value := fun _ _ => none
def md_xf : Nat → String × String × String := fun _ => ("", "", "")
def md_xa (_ : Nat × (Nat → Int32)) : mm_Xa := fun _ => none
def md_df : Nat → List Value := fun _ => []
def md_ty : Nat → FieldType := fun _ => .int
def md_ac : Nat → Nat := fun _ => 0
def md_cl : List vw_C := []
def md_Tg : List Jvm.Cond := []
def md_gw : List Jvm.Cond := []
def md_nw : List (String × Nat × MethodName × String) := []
def md_ao : List String := []
def md_nc : List (String × String) := []
def md_sr : List (String × Nat × String × Nat) := []
def md_sq : List (String × String × String) := []
def md_hd : Nat → Nat → Nat → Option Nat := fun _ _ _ => none
def md_en : Nat → String := fun _ => ""
def md_ne : Nat := 0
