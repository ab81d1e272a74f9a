def md_isv (v : Int32) : Option mm_O → Bool
  | some (.inl (some (.int x)), _, _, _) => x == v
  | _ => false
set_option maxRecDepth 1000000 in
