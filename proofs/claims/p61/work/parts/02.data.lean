/-! ===== the program's own tables, laid by wip/mm/gen02.py out of claim/Statement.lean ===== -/
abbrev mm_W : Type := List va_E
abbrev mm_Ent : Type := Instr × Nat × Nat × Nat × Nat
abbrev mm_Ln : Type := Nat × mm_Ent × List Nat
abbrev mm_Mt : Type := MethodName × ByteArray × Nat × Option FieldType × List (Nat × Nat × Nat × Nat)
abbrev mm_Xa : Type := Nat → Option (Nat × Nat × (Nat → Value))
def md_Tg : List Jvm.Cond := p6_tbl.filter goodWord
def md_tb : Nat → List Jvm.Cond
  | 0 => k2_sels lw_privs
  | 1 => tables_1_1
  | 2 => tables_1_2
  | 3 => tables_1_3
  | 4 => tables_1_4
  | 5 => tables_1_5
  | 6 => tables_1_6
  | 7 => tables_1_7
  | 8 => tables_1_8
  | 9 => p6_sels
  | _ => []
def md_F0 : u_T := fun k => match k with
  | 0 => ("PaintBank", "text", "LPaintBank$Text;", true)
  | 1 => ("PaintBank", "setup", "LPaintBank$Setup;", true)
  | 2 => ("PaintBank", "reader", "LPaintBank$SetupReader;", true)
  | 3 => ("PaintBank", "line", "LPaintBank$Line;", true)
  | 4 => ("PaintBank", "lookout", "LPaintBank$Line;", true)
  | 5 => ("PaintBank", "unloading", "LPaintBank$Unloading;", true)
  | 6 => ("PaintBank", "exchange", "LPaintBank$Exchange;", true)
  | 7 => ("PaintBank", "script", "LPaintBank$Script;", true)
  | 8 => ("PaintBank", "history", "LPaintBank$History;", true)
  | 9 => ("PaintBank", "latest", "LPaintBank$Report;", true)
  | 10 => ("PaintBank", "savedSetup", "LPaintBank$Setup;", true)
  | 11 => ("PaintBank", "savedLine", "LPaintBank$Line;", true)
  | _ => ("PaintBank", "saved", "Z", false)
def md_F1 : u_T := fun k => match k with
  | 0 => ("PaintBank$Text", "bytes", "[B", true)
  | 1 => ("PaintBank$Text", "length", "I", false)
  | 2 => ("PaintBank$Text", "errorCode", "I", false)
  | 3 => ("PaintBank$Text", "errorPosition", "I", false)
  | 4 => ("PaintBank$Text", "at", "I", false)
  | 5 => ("PaintBank$Text", "kind", "I", false)
  | 6 => ("PaintBank$Text", "start", "I", false)
  | 7 => ("PaintBank$Text", "number", "I", false)
  | 8 => ("PaintBank$Text", "letters", "J", false)
  | _ => ("PaintBank$Text", "word", "LPaintBank$Word;", false)
def md_F2 : u_T := fun k => match k with
  | 0 => ("PaintBank$Setup", "colors", "I", false)
  | 1 => ("PaintBank$Setup", "lanes", "I", false)
  | 2 => ("PaintBank$Setup", "cars", "I", false)
  | 3 => ("PaintBank$Setup", "ahead", "I", false)
  | 4 => ("PaintBank$Setup", "behind", "I", false)
  | 5 => ("PaintBank$Setup", "batch", "I", false)
  | 6 => ("PaintBank$Setup", "purgePrice", "I", false)
  | 7 => ("PaintBank$Setup", "reworkRoom", "I", false)
  | 8 => ("PaintBank$Setup", "delay", "I", false)
  | 9 => ("PaintBank$Setup", "span", "I", false)
  | 10 => ("PaintBank$Setup", "colorName", "[J", true)
  | 11 => ("PaintBank$Setup", "changePrice", "[I", true)
  | 12 => ("PaintBank$Setup", "laneRoom", "[I", true)
  | 13 => ("PaintBank$Setup", "carColor", "[I", true)
  | 14 => ("PaintBank$Setup", "carBody", "[I", true)
  | _ => ("PaintBank$Setup", "carBad", "[I", true)
def md_F3 : u_T := fun k => match k with
  | 0 => ("PaintBank$SetupReader", "draft", "LPaintBank$Setup;", true)
  | 1 => ("PaintBank$SetupReader", "text", "LPaintBank$Text;", true)
  | 2 => ("PaintBank$SetupReader", "windowSeen", "Z", false)
  | 3 => ("PaintBank$SetupReader", "batchSeen", "Z", false)
  | 4 => ("PaintBank$SetupReader", "reworkSeen", "Z", false)
  | _ => ("PaintBank$SetupReader", "spanSeen", "Z", false)
def md_F4 : u_T := fun k => match k with
  | 0 => ("PaintBank$Line", "setup", "LPaintBank$Setup;", true)
  | 1 => ("PaintBank$Line", "color", "[I", true)
  | 2 => ("PaintBank$Line", "failures", "[I", true)
  | 3 => ("PaintBank$Line", "lanes", "[LPaintBank$Row;", true)
  | 4 => ("PaintBank$Line", "rework", "LPaintBank$Row;", true)
  | 5 => ("PaintBank$Line", "readyTimes", "LPaintBank$Row;", true)
  | 6 => ("PaintBank$Line", "out", "LPaintBank$Row;", true)
  | 7 => ("PaintBank$Line", "entered", "I", false)
  | 8 => ("PaintBank$Line", "hose", "I", false)
  | 9 => ("PaintBank$Line", "run", "I", false)
  | 10 => ("PaintBank$Line", "time", "I", false)
  | 11 => ("PaintBank$Line", "changes", "I", false)
  | 12 => ("PaintBank$Line", "purges", "I", false)
  | 13 => ("PaintBank$Line", "cost", "I", false)
  | 14 => ("PaintBank$Line", "paintings", "[I", true)
  | 15 => ("PaintBank$Line", "painted", "I", false)
  | _ => ("PaintBank$Line", "edits", "I", false)
def md_F5 : u_T := fun k => match k with
  | 0 => ("PaintBank$Row", "numbers", "[I", true)
  | _ => ("PaintBank$Row", "count", "I", false)
def md_F6 : u_T := fun k => match k with
  | 0 => ("PaintBank$Unloading", "setup", "LPaintBank$Setup;", true)
  | 1 => ("PaintBank$Unloading", "line", "LPaintBank$Line;", true)
  | 2 => ("PaintBank$Unloading", "least", "[I", true)
  | 3 => ("PaintBank$Unloading", "choice", "[B", true)
  | 4 => ("PaintBank$Unloading", "taken", "[I", true)
  | 5 => ("PaintBank$Unloading", "weight", "[I", true)
  | 6 => ("PaintBank$Unloading", "total", "I", false)
  | 7 => ("PaintBank$Unloading", "plannedAt", "I", false)
  | 8 => ("PaintBank$Unloading", "best", "LPaintBank$Row;", true)
  | 9 => ("PaintBank$Unloading", "allowed", "Z", false)
  | 10 => ("PaintBank$Unloading", "completed", "Z", false)
  | 11 => ("PaintBank$Unloading", "price", "I", false)
  | _ => ("PaintBank$Unloading", "colorChanges", "I", false)
def md_F7 : u_T := fun k => match k with
  | 0 => ("PaintBank$Exchange", "setup", "LPaintBank$Setup;", true)
  | 1 => ("PaintBank$Exchange", "line", "LPaintBank$Line;", true)
  | 2 => ("PaintBank$Exchange", "memo", "[I", true)
  | 3 => ("PaintBank$Exchange", "jobsFor", "[I", true)
  | 4 => ("PaintBank$Exchange", "count", "I", false)
  | 5 => ("PaintBank$Exchange", "plannedAt", "I", false)
  | 6 => ("PaintBank$Exchange", "best", "LPaintBank$Row;", true)
  | _ => ("PaintBank$Exchange", "colorChanges", "I", false)
def md_F8 : u_T := fun k => match k with
  | 0 => ("PaintBank$Script", "text", "LPaintBank$Text;", true)
  | 1 => ("PaintBank$Script", "line", "LPaintBank$Line;", true)
  | 2 => ("PaintBank$Script", "unloading", "LPaintBank$Unloading;", true)
  | 3 => ("PaintBank$Script", "exchange", "LPaintBank$Exchange;", true)
  | 4 => ("PaintBank$Script", "words", "[LPaintBank$Word;", true)
  | 5 => ("PaintBank$Script", "numbers", "[I", true)
  | 6 => ("PaintBank$Script", "timesLeft", "[I", true)
  | 7 => ("PaintBank$Script", "openRepeats", "[I", true)
  | 8 => ("PaintBank$Script", "nesting", "I", false)
  | 9 => ("PaintBank$Script", "commands", "I", false)
  | _ => ("PaintBank$Script", "size", "I", false)
def md_F9 : u_T := fun k => match k with
  | 0 => ("PaintBank$History", "states", "[LPaintBank$Line;", true)
  | 1 => ("PaintBank$History", "next", "I", false)
  | _ => ("PaintBank$History", "count", "I", false)
def md_F10 : u_T := fun k => match k with
  | 0 => ("PaintBank$Report", "bytes", "[B", true)
  | _ => ("PaintBank$Report", "length", "I", false)
def md_F11 : u_T := fun k => match k with
  | 0 => ("PaintBankLaw$World", "rooms", "Ljava/util/List;", false)
  | 1 => ("PaintBankLaw$World", "costs", "Ljava/util/List;", false)
  | 2 => ("PaintBankLaw$World", "bodies", "Ljava/util/List;", false)
  | 3 => ("PaintBankLaw$World", "colors", "[I", false)
  | 4 => ("PaintBankLaw$World", "bad", "[I", false)
  | 5 => ("PaintBankLaw$World", "ready", "[I", false)
  | 6 => ("PaintBankLaw$World", "lanes", "Ljava/util/List;", true)
  | 7 => ("PaintBankLaw$World", "rework", "Ljava/util/LinkedList;", true)
  | 8 => ("PaintBankLaw$World", "out", "Ljava/util/List;", true)
  | 9 => ("PaintBankLaw$World", "log", "Ljava/util/List;", true)
  | 10 => ("PaintBankLaw$World", "cars", "I", false)
  | 11 => ("PaintBankLaw$World", "ahead", "I", false)
  | 12 => ("PaintBankLaw$World", "behind", "I", false)
  | 13 => ("PaintBankLaw$World", "batch", "I", false)
  | 14 => ("PaintBankLaw$World", "purge", "I", false)
  | 15 => ("PaintBankLaw$World", "room", "I", false)
  | 16 => ("PaintBankLaw$World", "delay", "I", false)
  | 17 => ("PaintBankLaw$World", "span", "I", false)
  | 18 => ("PaintBankLaw$World", "statements", "I", false)
  | 19 => ("PaintBankLaw$World", "time", "I", false)
  | 20 => ("PaintBankLaw$World", "hose", "I", false)
  | 21 => ("PaintBankLaw$World", "run", "I", false)
  | 22 => ("PaintBankLaw$World", "changes", "I", false)
  | 23 => ("PaintBankLaw$World", "purges", "I", false)
  | 24 => ("PaintBankLaw$World", "cost", "I", false)
  | 25 => ("PaintBankLaw$World", "entered", "I", false)
  | 26 => ("PaintBankLaw$World", "text", "Ljava/lang/String;", false)
  | 27 => ("PaintBankLaw$World", "s", "[I", false)
  | _ => ("PaintBankLaw$World", "at", "I", false)
def md_F12 : u_T := fun k => match k with
  | 0 => ("java/lang/AbstractStringBuilder", "value", "[B", false)
  | 1 => ("java/lang/AbstractStringBuilder", "coder", "B", false)
  | 2 => ("java/lang/AbstractStringBuilder", "maybeLatin1", "Z", false)
  | _ => ("java/lang/AbstractStringBuilder", "count", "I", false)
def md_F13 : u_T := fun k => match k with
  | 0 => ("java/lang/String", "value", "[B", true)
  | 1 => ("java/lang/String", "coder", "B", true)
  | 2 => ("java/lang/String", "hash", "I", false)
  | _ => ("java/lang/String", "hashIsZero", "Z", false)
def md_F14 : u_T := fun k => match k with
  | 0 => ("java/util/ArrayList", "elementData", "[Ljava/lang/Object;", false)
  | 1 => ("java/util/ArrayList", "size", "I", false)
  | _ => ("java/util/AbstractList", "modCount", "I", false)
def md_F15 : u_T := fun k => match k with
  | 0 => ("java/util/LinkedList", "size", "I", false)
  | 1 => ("java/util/LinkedList", "first", "Ljava/util/LinkedList$Node;", false)
  | 2 => ("java/util/LinkedList", "last", "Ljava/util/LinkedList$Node;", false)
  | _ => ("java/util/AbstractList", "modCount", "I", false)
def md_cl : List vw_C := [("PaintBank", md_F0, 13), ("PaintBank$Text", md_F1, 10), ("PaintBank$Setup", md_F2, 16), ("PaintBank$SetupReader", md_F3, 6), ("PaintBank$Line", md_F4, 17), ("PaintBank$Row", md_F5, 2), ("PaintBank$Unloading", md_F6, 13), ("PaintBank$Exchange", md_F7, 8), ("PaintBank$Script", md_F8, 11), ("PaintBank$History", md_F9, 3), ("PaintBank$Report", md_F10, 2), ("PaintBankLaw$World", md_F11, 29), ("java/lang/StringBuilder", md_F12, 4), ("java/lang/String", md_F13, 4), ("java/util/ArrayList", md_F14, 3), ("java/util/LinkedList", md_F15, 4)]
def md_dfL : List (List Value) := [[.null, .null, .null, .null, .null, .null, .null, .null, .null, .null, .null, .null, .int 0],
  [.null, .int 0, .int 0, .int 0, .int 0, .int 0, .int 0, .int 0, .long 0, .null],
  [.int 0, .int 0, .int 0, .int 0, .int 0, .int 0, .int 0, .int 0, .int 0, .int 0, .null, .null, .null, .null, .null, .null],
  [.null, .null, .int 0, .int 0, .int 0, .int 0],
  [.null, .null, .null, .null, .null, .null, .null, .int 0, .int 0, .int 0, .int 0, .int 0, .int 0, .int 0, .null, .int 0, .int 0],
  [.null, .int 0],
  [.null, .null, .null, .null, .null, .null, .int 0, .int 0, .null, .int 0, .int 0, .int 0, .int 0],
  [.null, .null, .null, .null, .int 0, .int 0, .null, .int 0],
  [.null, .null, .null, .null, .null, .null, .null, .null, .int 0, .int 0, .int 0],
  [.null, .int 0, .int 0],
  [.null, .int 0],
  [.null, .null, .null, .null, .null, .null, .null, .null, .null, .null, .int 0, .int 0, .int 0, .int 0, .int 0, .int 0, .int 0, .int 0, .int 0, .int 0, .int 0, .int 0, .int 0, .int 0, .int 0, .int 0, .null, .null, .int 0],
  [.null, .int 0, .int 0, .int 0],
  [.null, .int 0, .int 0, .int 0],
  [.null, .int 0, .int 0],
  [.int 0, .null, .null, .int 0]]
def md_df (i : Nat) : List Value := (md_dfL[i]?).getD []
def md_ty : Nat → FieldType
  | 0 => .int
  | 1 => .long
  | 2 => .byte
  | 3 => .boolean
  | 4 => .object "PaintBank$Row"
  | 5 => .object "PaintBank$Line"
  | 7 => .object "java/lang/Object"
  | 8 => .object "java/lang/Integer"
  | _ => .object "PaintBank$Word"
def md_ac : Nat → Nat
  | 4 => 5
  | 5 => 4
  | 8 => 1002
  | _ => 1000
/-- what a row of Object takes -/
def md_oc : List Nat := [15, 1002]
/-- an outer class by its number -/
def md_xk : Nat → Nat
  | 0 => 1000
  | 1 => 13
  | n + 2 => 1000 + (n + 2)
def md_ne : Nat := 21
def md_stL : List (String × String × String × Value) := [("PaintBank$Word", "COLOR", "LPaintBank$Word;", .ref 1000001),
  ("PaintBank$Word", "CHANGE", "LPaintBank$Word;", .ref 1000002),
  ("PaintBank$Word", "LANE", "LPaintBank$Word;", .ref 1000003),
  ("PaintBank$Word", "CAR", "LPaintBank$Word;", .ref 1000004),
  ("PaintBank$Word", "BODY", "LPaintBank$Word;", .ref 1000005),
  ("PaintBank$Word", "BAD", "LPaintBank$Word;", .ref 1000006),
  ("PaintBank$Word", "WINDOW", "LPaintBank$Word;", .ref 1000007),
  ("PaintBank$Word", "BATCH", "LPaintBank$Word;", .ref 1000008),
  ("PaintBank$Word", "PURGE", "LPaintBank$Word;", .ref 1000009),
  ("PaintBank$Word", "REWORK", "LPaintBank$Word;", .ref 1000010),
  ("PaintBank$Word", "DELAY", "LPaintBank$Word;", .ref 1000011),
  ("PaintBank$Word", "SPAN", "LPaintBank$Word;", .ref 1000012),
  ("PaintBank$Word", "ENTER", "LPaintBank$Word;", .ref 1000013),
  ("PaintBank$Word", "LEAVE", "LPaintBank$Word;", .ref 1000014),
  ("PaintBank$Word", "BACK", "LPaintBank$Word;", .ref 1000015),
  ("PaintBank$Word", "WAIT", "LPaintBank$Word;", .ref 1000016),
  ("PaintBank$Word", "STEP", "LPaintBank$Word;", .ref 1000017),
  ("PaintBank$Word", "UNLOAD", "LPaintBank$Word;", .ref 1000018),
  ("PaintBank$Word", "SWAP", "LPaintBank$Word;", .ref 1000019),
  ("PaintBank$Word", "REPEAT", "LPaintBank$Word;", .ref 1000020),
  ("PaintBank$Word", "OTHER", "LPaintBank$Word;", .ref 1000021),
  ("PaintBank$Word", "ALL", "[LPaintBank$Word;", .ref 1000022),
  ("PaintBank$1", "$SwitchMap$PaintBank$Word", "[I", .ref 1000023),
  ("java/lang/String", "COMPACT_STRINGS", "Z", .int 1),
  ("java/lang/Integer$IntegerCache", "high", "I", .int 127),
  ("java/lang/Integer", "DigitOnes", "[B", .ref 1000088),
  ("java/lang/Integer", "DigitTens", "[B", .ref 1000089),
  ("java/util/ArrayList", "DEFAULTCAPACITY_EMPTY_ELEMENTDATA", "[Ljava/lang/Object;", .ref 1000090),
  ("java/lang/Integer$IntegerCache", "cache", "[Ljava/lang/Integer;", .ref 1000091)]
def md_st (i : Nat) : Value := ((md_stL[i]?).map (fun q => q.2.2.2)).getD .null
def md_stn (i : Nat) : String × String × String := ((md_stL[i]?).map (fun q => (q.1, q.2.1, q.2.2.1))).getD ("", "", "")
def md_nst : Nat := 29
def md_sq : List (String × String × String) := [("jdk/internal/util/Preconditions", "SIOOBE_FORMATTER", "Ljava/util/function/BiFunction;")]
def md_xcL : List (Option Nat) := [none, some 0, some 0, some 0, some 0, some 0, some 0, some 0, some 0, some 0, some 0, some 0, some 0, some 0, some 0, some 0, some 0, some 0, some 0, some 0, some 0, some 0, none, none, some 1, some 1, some 1, some 1, some 1, some 1, some 1, some 1, some 1, some 1, some 1, some 1, some 1, some 1, some 1, some 1, some 1]
def md_xc (i : Nat) : Option Nat := if 92 ≤ i ∧ i < 348 then some 2 else (md_xcL[i]?).getD none
def md_xcn : Nat → String
  | 0 => "PaintBank$Word"
  | 1 => "java/lang/String"
  | _ => "java/lang/Integer"
def md_xfL : List (String × String × String) := [("PaintBank$Word", "letters", "J"), ("PaintBank$Word", "isCommand", "Z"), ("PaintBank$Word", "least", "I"), ("PaintBank$Word", "greatest", "I"), ("java/lang/Enum", "ordinal", "I"), ("java/lang/String", "value", "[B"), ("java/lang/String", "coder", "B"), ("java/lang/Integer", "value", "I")]
def md_xf (i : Nat) : String × String × String := (md_xfL[i]?).getD ("", "", "")
def md_xoL : List (List (Option Value)) := [[],
  [some (.long 427071139698), some (.int 0), some (.int 0), some (.int 0), some (.int 0)],
  [some (.long 109299962373989), some (.int 0), some (.int 0), some (.int 0), some (.int 1)],
  [some (.long 1818324581), some (.int 0), some (.int 0), some (.int 0), some (.int 2)],
  [some (.long 6513010), some (.int 0), some (.int 0), some (.int 0), some (.int 3)],
  [some (.long 1651467385), some (.int 0), some (.int 0), some (.int 0), some (.int 4)],
  [some (.long 6447460), some (.int 0), some (.int 0), some (.int 0), some (.int 5)],
  [some (.long 131294707347319), some (.int 0), some (.int 0), some (.int 0), some (.int 6)],
  [some (.long 422541812584), some (.int 0), some (.int 0), some (.int 0), some (.int 7)],
  [some (.long 483006768997), some (.int 0), some (.int 0), some (.int 0), some (.int 8)],
  [some (.long 125780121055851), some (.int 0), some (.int 0), some (.int 0), some (.int 9)],
  [some (.long 431198331257), some (.int 0), some (.int 0), some (.int 0), some (.int 10)],
  [some (.long 1936744814), some (.int 0), some (.int 0), some (.int 0), some (.int 11)],
  [some (.long 435644818802), some (.int 1), some (.int 0), some (.int 3), some (.int 12)],
  [some (.long 465557354085), some (.int 1), some (.int 0), some (.int 3), some (.int 13)],
  [some (.long 1650549611), some (.int 1), some (.int 0), some (.int 3), some (.int 14)],
  [some (.long 2002872692), some (.int 1), some (.int 1), some (.int 99), some (.int 15)],
  [some (.long 1937007984), some (.int 1), some (.int 1), some (.int 99), some (.int 16)],
  [some (.long 129117126091108), some (.int 1), some (.int 0), some (.int 0), some (.int 17)],
  [some (.long 1937203568), some (.int 1), some (.int 0), some (.int 0), some (.int 18)],
  [some (.long 125780002955636), some (.int 1), some (.int 1), some (.int 20), some (.int 19)],
  [some (.long 0), some (.int 0), some (.int 0), some (.int 0), some (.int 20)],
  [],
  [],
  [none, none, none, none, none, some (.ref 1000041), some (.int 0)],
  [none, none, none, none, none, some (.ref 1000042), some (.int 0)],
  [none, none, none, none, none, some (.ref 1000043), some (.int 0)],
  [none, none, none, none, none, some (.ref 1000044), some (.int 0)],
  [none, none, none, none, none, some (.ref 1000045), some (.int 0)],
  [none, none, none, none, none, some (.ref 1000046), some (.int 0)],
  [none, none, none, none, none, some (.ref 1000047), some (.int 0)],
  [none, none, none, none, none, some (.ref 1000048), some (.int 0)],
  [none, none, none, none, none, some (.ref 1000049), some (.int 0)],
  [none, none, none, none, none, some (.ref 1000050), some (.int 0)],
  [none, none, none, none, none, some (.ref 1000051), some (.int 0)],
  [none, none, none, none, none, some (.ref 1000052), some (.int 0)],
  [none, none, none, none, none, some (.ref 1000053), some (.int 0)],
  [none, none, none, none, none, some (.ref 1000054), some (.int 0)],
  [none, none, none, none, none, some (.ref 1000055), some (.int 0)],
  [none, none, none, none, none, some (.ref 1000056), some (.int 0)],
  [none, none, none, none, none, some (.ref 1000057), some (.int 0)]]
def md_xo (i k : Nat) : Option Value := if 92 ≤ i ∧ i < 348 ∧ k = 7 then some (.int (Int32.ofInt ((i : Int) - 220))) else ((((md_xoL[i]?).getD [])[k]?).getD none)
def md_xaA : List Value := [.ref 1000001, .ref 1000002, .ref 1000003, .ref 1000004, .ref 1000005, .ref 1000006, .ref 1000007, .ref 1000008, .ref 1000009, .ref 1000010, .ref 1000011, .ref 1000012, .ref 1000013, .ref 1000014, .ref 1000015, .ref 1000016, .ref 1000017, .ref 1000018, .ref 1000019, .ref 1000020, .ref 1000021]
def md_xaS : List Value := [.int 1, .int 0, .int 2, .int 3, .int 0, .int 0, .int 4, .int 5, .int 0, .int 6, .int 0, .int 7, .int 8, .int 9, .int 10, .int 11, .int 12, .int 13, .int 14, .int 0, .int 0]
def md_xaT0 : List Value := []
def md_xaT1 : List Value := [.int 99, .int 111, .int 108, .int 111, .int 114, .int 32]
def md_xaT2 : List Value := [.int 99]
def md_xaT3 : List Value := [.int 32, .int 99, .int 104, .int 97, .int 110, .int 103, .int 101, .int 32]
def md_xaT4 : List Value := [.int 32, .int 59, .int 10]
def md_xaT5 : List Value := [.int 59]
def md_xaT6 : List Value := [.int 108, .int 97, .int 110, .int 101, .int 32]
def md_xaT7 : List Value := [.int 99, .int 97, .int 114, .int 32]
def md_xaT8 : List Value := [.int 32, .int 98, .int 111, .int 100, .int 121, .int 32]
def md_xaT9 : List Value := [.int 32, .int 98, .int 97, .int 100, .int 32]
def md_xaT10 : List Value := [.int 119, .int 105, .int 110, .int 100, .int 111, .int 119, .int 32]
def md_xaT11 : List Value := [.int 32]
def md_xaT12 : List Value := [.int 98, .int 97, .int 116, .int 99, .int 104, .int 32]
def md_xaT13 : List Value := [.int 32, .int 112, .int 117, .int 114, .int 103, .int 101, .int 32]
def md_xaT14 : List Value := [.int 114, .int 101, .int 119, .int 111, .int 114, .int 107, .int 32]
def md_xaT15 : List Value := [.int 32, .int 100, .int 101, .int 108, .int 97, .int 121, .int 32]
def md_xaT16 : List Value := [.int 115, .int 112, .int 97, .int 110, .int 32]
def md_xaD0 : List Value := [.int 48, .int 49, .int 50, .int 51, .int 52, .int 53, .int 54, .int 55, .int 56, .int 57, .int 48, .int 49, .int 50, .int 51, .int 52, .int 53, .int 54, .int 55, .int 56, .int 57, .int 48, .int 49, .int 50, .int 51, .int 52, .int 53, .int 54, .int 55, .int 56, .int 57, .int 48, .int 49, .int 50, .int 51, .int 52, .int 53, .int 54, .int 55, .int 56, .int 57, .int 48, .int 49, .int 50, .int 51, .int 52, .int 53, .int 54, .int 55, .int 56, .int 57, .int 48, .int 49, .int 50, .int 51, .int 52, .int 53, .int 54, .int 55, .int 56, .int 57, .int 48, .int 49, .int 50, .int 51, .int 52, .int 53, .int 54, .int 55, .int 56, .int 57, .int 48, .int 49, .int 50, .int 51, .int 52, .int 53, .int 54, .int 55, .int 56, .int 57, .int 48, .int 49, .int 50, .int 51, .int 52, .int 53, .int 54, .int 55, .int 56, .int 57, .int 48, .int 49, .int 50, .int 51, .int 52, .int 53, .int 54, .int 55, .int 56, .int 57]
def md_xaD1 : List Value := [.int 48, .int 48, .int 48, .int 48, .int 48, .int 48, .int 48, .int 48, .int 48, .int 48, .int 49, .int 49, .int 49, .int 49, .int 49, .int 49, .int 49, .int 49, .int 49, .int 49, .int 50, .int 50, .int 50, .int 50, .int 50, .int 50, .int 50, .int 50, .int 50, .int 50, .int 51, .int 51, .int 51, .int 51, .int 51, .int 51, .int 51, .int 51, .int 51, .int 51, .int 52, .int 52, .int 52, .int 52, .int 52, .int 52, .int 52, .int 52, .int 52, .int 52, .int 53, .int 53, .int 53, .int 53, .int 53, .int 53, .int 53, .int 53, .int 53, .int 53, .int 54, .int 54, .int 54, .int 54, .int 54, .int 54, .int 54, .int 54, .int 54, .int 54, .int 55, .int 55, .int 55, .int 55, .int 55, .int 55, .int 55, .int 55, .int 55, .int 55, .int 56, .int 56, .int 56, .int 56, .int 56, .int 56, .int 56, .int 56, .int 56, .int 56, .int 57, .int 57, .int 57, .int 57, .int 57, .int 57, .int 57, .int 57, .int 57, .int 57]
def md_xaL : List (Option (Nat × Nat × (Nat → Value))) := [none, none, none, none, none, none, none, none, none, none, none, none, none, none, none, none, none, none, none, none, none, none, some (6, 21, fun j => md_xaA.getD j .null), some (0, 21, fun j => md_xaS.getD j .null), none, none, none, none, none, none, none, none, none, none, none, none, none, none, none, none, none, some (2, 0, fun j => md_xaT0.getD j .null), some (2, 6, fun j => md_xaT1.getD j .null), some (2, 1, fun j => md_xaT2.getD j .null), some (2, 8, fun j => md_xaT3.getD j .null), some (2, 3, fun j => md_xaT4.getD j .null), some (2, 1, fun j => md_xaT5.getD j .null), some (2, 5, fun j => md_xaT6.getD j .null), some (2, 4, fun j => md_xaT7.getD j .null), some (2, 6, fun j => md_xaT8.getD j .null), some (2, 5, fun j => md_xaT9.getD j .null), some (2, 7, fun j => md_xaT10.getD j .null), some (2, 1, fun j => md_xaT11.getD j .null), some (2, 6, fun j => md_xaT12.getD j .null), some (2, 7, fun j => md_xaT13.getD j .null), some (2, 7, fun j => md_xaT14.getD j .null), some (2, 7, fun j => md_xaT15.getD j .null), some (2, 5, fun j => md_xaT16.getD j .null), none, none, none, none, none, none, none, none, none, none, none, none, none, none, none, none, none, none, none, none, none, none, none, none, none, none, none, none, none, none, some (2, 100, fun j => md_xaD0.getD j .null), some (2, 100, fun j => md_xaD1.getD j .null), some (7, 0, fun _ => .null), some (8, 256, fun j => .ref (1000000 + (92 + j)))]
def md_xa (sc : Nat × (Nat → Int32)) : mm_Xa := fun i => if i = 0 then some (0, sc.1, fun j => .int (sc.2 j)) else (md_xaL[i]?).getD none
def md_sr : List (String × Nat × String × Nat) := [("PaintBank", 117, "the setup has an error", 58),
  ("PaintBank", 376, "no such car", 59),
  ("PaintBankLaw$World", 70, "", 24),
  ("PaintBankLaw$World", 128, "color ", 25),
  ("PaintBankLaw$World", 102, "c", 26),
  ("PaintBankLaw$World", 134, " change ", 27),
  ("java/lang/String", 1005, "null", 60),
  ("java/lang/Throwable", 81, ": ", 61),
  ("PaintBankLaw$World", 91, " ;\\n", 28),
  ("PaintBankLaw$World", 93, ";", 29),
  ("PaintBankLaw$World", 147, "lane ", 30),
  ("PaintBankLaw$World", 156, "car ", 31),
  ("PaintBankLaw$World", 158, " body ", 32),
  ("PaintBankLaw$World", 160, " bad ", 33),
  ("PaintBankLaw$World", 165, "window ", 34),
  ("PaintBankLaw$World", 167, " ", 35),
  ("PaintBankLaw$World", 169, "batch ", 36),
  ("PaintBankLaw$World", 171, " purge ", 37),
  ("PaintBankLaw$World", 176, "rework ", 38),
  ("PaintBankLaw$World", 178, " delay ", 39),
  ("PaintBankLaw$World", 180, "span ", 40),
  ("PaintBank", 99, "the buffer is full", 62),
  ("PaintBank", 110, "not a length to truncate to", 63),
  ("PaintBank", 374, "no such lane", 64),
  ("PaintBank", 347, "no such painting", 65),
  ("PaintBank", 349, "no such number of a painting", 66),
  ("PaintBank$Word", 184, "OTHER", 67),
  ("PaintBank$Word", 124, "CHANGE", 68),
  ("PaintBank$Word", 133, "BODY", 69),
  ("PaintBank$Word", 136, "BAD", 70),
  ("PaintBank$Word", 145, "PURGE", 71),
  ("PaintBank$Word", 151, "DELAY", 72),
  ("PaintBank$Word", 118, "COLOR", 73),
  ("PaintBank$Word", 127, "LANE", 74),
  ("PaintBank$Word", 130, "CAR", 75),
  ("PaintBank$Word", 139, "WINDOW", 76),
  ("PaintBank$Word", 142, "BATCH", 77),
  ("PaintBank$Word", 148, "REWORK", 78),
  ("PaintBank$Word", 154, "SPAN", 79),
  ("PaintBank$Word", 157, "ENTER", 80),
  ("PaintBank$Word", 163, "LEAVE", 81),
  ("PaintBank$Word", 166, "BACK", 82),
  ("PaintBank$Word", 169, "WAIT", 83),
  ("PaintBank$Word", 172, "STEP", 84),
  ("PaintBank$Word", 175, "UNLOAD", 85),
  ("PaintBank$Word", 178, "SWAP", 86),
  ("PaintBank$Word", 181, "REPEAT", 87)]
def md_enL : List String := ["java/lang/IllegalStateException", "java/lang/IllegalArgumentException", "java/lang/IndexOutOfBoundsException"]
def md_en (i : Nat) : String := (md_enL[i]?).getD ""
def md_gw : List Jvm.Cond := [.castable "java/lang/IllegalStateException" "java/lang/IllegalStateException", .castable "java/lang/IllegalArgumentException" "java/lang/IllegalArgumentException", .castable "java/lang/IndexOutOfBoundsException" "java/lang/IndexOutOfBoundsException", .castable "java/util/ArrayList" "java/util/List", .castable "[B" "java/lang/Cloneable", .castable "java/util/LinkedList" "java/lang/Object", .castable "java/lang/Integer" "java/lang/Object", .declares ⟨"java/lang/RuntimeException", "<init>", "(Ljava/lang/String;)V"⟩, .declares ⟨"java/lang/Exception", "<init>", "(Ljava/lang/String;)V"⟩, .declares ⟨"java/lang/Throwable", "<init>", "(Ljava/lang/String;)V"⟩, .declares ⟨"java/util/List", "add", "(Ljava/lang/Object;)Z"⟩, .declares ⟨"java/util/List", "get", "(I)Ljava/lang/Object;"⟩, .declares ⟨"java/util/List", "size", "()I"⟩, .declares ⟨"java/lang/Object", "toString", "()Ljava/lang/String;"⟩, .interfaceMethod "java/util/List" "java/util/List" "add" "(Ljava/lang/Object;)Z", .publicMethod ⟨"java/util/ArrayList", "add", "(Ljava/lang/Object;)Z"⟩, .unhidden "java/util/ArrayList" "add" "(Ljava/lang/Object;)Z", .interfaceMethod "java/util/List" "java/util/List" "get" "(I)Ljava/lang/Object;", .publicMethod ⟨"java/util/ArrayList", "get", "(I)Ljava/lang/Object;"⟩, .unhidden "java/util/ArrayList" "get" "(I)Ljava/lang/Object;", .interfaceMethod "java/util/List" "java/util/List" "size" "()I", .publicMethod ⟨"java/util/ArrayList", "size", "()I"⟩, .unhidden "java/util/ArrayList" "size" "()I"]
def md_cloneH : List Nat := [6169, 6170, 6171, 6172]
def md_c11 : ByteArray × Nat × Option FieldType := (prog_18_method_6_code, 1, some .int)
def md_nw : List (String × Nat × MethodName × String) := [("PaintBank", 11, ⟨"PaintBank$Text", "<init>", "()V"⟩, "PaintBank"), ("PaintBank$Line", 24, ⟨"PaintBank$Row", "<init>", "()V"⟩, "PaintBank"), ("PaintBank$Unloading", 31, ⟨"PaintBank$Row", "<init>", "()V"⟩, "PaintBank"), ("PaintBank$Exchange", 24, ⟨"PaintBank$Row", "<init>", "()V"⟩, "PaintBank"), ("PaintBank", 78, ⟨"PaintBank$Report", "<init>", "()V"⟩, "PaintBank"), ("PaintBankLaw$World", 82, ⟨"PaintBankLaw", "pick", "([III)I"⟩, "PaintBankLaw")]
def md_ao : List String := ["PaintBank$Row", "PaintBank$Word", "PaintBank$Line", "java/lang/Object"]
def md_nc : List (String × String) := []
def md_hdL : List (Nat × Nat × Nat × Nat) := []
def md_hd (j pc n : Nat) : Option Nat := (md_hdL.find? (fun q => q.1 == j && q.2.1 == pc && q.2.2.1 == n)).map (fun q => q.2.2.2)
def md_thl : List (Nat × Nat × Nat × Nat) := [(9, 21, 108, 1), (11, 15, 186, 2), (29, 16, 97, 0), (30, 15, 108, 1), (34, 15, 186, 2), (36, 20, 186, 2), (36, 40, 108, 1)]
def md_nM : Nat := 194
/-- the name as the table has it -/
def md_mn (k i : Nat) : MethodName := match (md_tb k)[i]? with
  | some (.code y _ _ _) => y
  | some (.codeWith y _ _ _ _) => y
  | _ => ⟨"A", "", ""⟩
def md_MT0 : List mm_Mt := [
  (x, code, maxLocals, ret, []),
  (⟨"PaintBankLaw", "pick", "([III)I"⟩, method_3_code, 3, some Jvm.ClassFile.FieldType.int, []),
  (⟨"PaintBankLaw", "cell", "([II)I"⟩, method_2_code, 2, some Jvm.ClassFile.FieldType.int, []),
  (⟨"PaintBankLaw", "feeds", "(LPaintBank;Ljava/lang/String;)Z"⟩, method_4_code, 6, some Jvm.ClassFile.FieldType.boolean, []),
  (⟨"PaintBankLaw", "jobs", "(LPaintBank;LPaintBankLaw$World;)[I"⟩, method_8_code, 4, some (Jvm.ClassFile.FieldType.array Jvm.ClassFile.FieldType.int), []),
  (⟨"PaintBankLaw", "lengths", "(LPaintBank;LPaintBankLaw$World;)I"⟩, method_9_code, 4, some Jvm.ClassFile.FieldType.int, []),
  (⟨"PaintBankLaw", "rework", "(LPaintBank;)I"⟩, method_10_code, 2, some Jvm.ClassFile.FieldType.int, []),
  (⟨"PaintBankLaw", "logged", "(LPaintBank;)I"⟩, method_11_code, 3, some Jvm.ClassFile.FieldType.int, []),
  (⟨"PaintBank", "<init>", "()V"⟩, prog_1_method_1_code, 1, none, []),
  (⟨"PaintBank", "readSetup", "()I"⟩, prog_1_method_4_code, 2, some Jvm.ClassFile.FieldType.int, []),
  (⟨"PaintBank", "bad", "(I)I"⟩, prog_1_method_13_code, 2, some Jvm.ClassFile.FieldType.int, []),
  (⟨"PaintBank", "checkCar", "(I)V"⟩, prog_1_method_61_code, 2, none, []),
  (⟨"PaintBank", "waiting", "()I"⟩, prog_1_method_17_code, 1, some Jvm.ClassFile.FieldType.int, []),
  (⟨"PaintBank", "outCount", "()I"⟩, prog_1_method_22_code, 1, some Jvm.ClassFile.FieldType.int, []),
  (⟨"PaintBank", "late", "()I"⟩, prog_1_method_25_code, 3, some Jvm.ClassFile.FieldType.int, []),
  (⟨"PaintBank", "time", "()I"⟩, prog_1_method_30_code, 1, some Jvm.ClassFile.FieldType.int, [])]
def md_MT1 : List mm_Mt := [
  (⟨"PaintBank", "changes", "()I"⟩, prog_1_method_31_code, 1, some Jvm.ClassFile.FieldType.int, []),
  (⟨"PaintBank", "purges", "()I"⟩, prog_1_method_32_code, 1, some Jvm.ClassFile.FieldType.int, []),
  (⟨"PaintBank", "cost", "()I"⟩, prog_1_method_33_code, 1, some Jvm.ClassFile.FieldType.int, []),
  (⟨"PaintBank", "step", "()I"⟩, prog_1_method_38_code, 1, some Jvm.ClassFile.FieldType.int, []),
  (⟨"PaintBank", "keptIfDone", "(I)I"⟩, prog_1_method_63_code, 2, some Jvm.ClassFile.FieldType.int, []),
  (⟨"PaintBank", "swap", "()I"⟩, prog_1_method_40_code, 2, some Jvm.ClassFile.FieldType.int, []),
  (⟨"PaintBank", "unloadCost", "()I"⟩, prog_1_method_45_code, 1, some Jvm.ClassFile.FieldType.int, []),
  (⟨"PaintBank", "unloadChanges", "()I"⟩, prog_1_method_46_code, 1, some Jvm.ClassFile.FieldType.int, []),
  (⟨"PaintBank", "laneBound", "()I"⟩, prog_1_method_48_code, 1, some Jvm.ClassFile.FieldType.int, []),
  (⟨"PaintBank", "bound", "()I"⟩, prog_1_method_49_code, 1, some Jvm.ClassFile.FieldType.int, []),
  (⟨"PaintBank", "waitingChanges", "()I"⟩, prog_1_method_50_code, 1, some Jvm.ClassFile.FieldType.int, []),
  (⟨"PaintBank", "swapChanges", "()I"⟩, prog_1_method_51_code, 1, some Jvm.ClassFile.FieldType.int, []),
  (⟨"PaintBank", "logCount", "()I"⟩, prog_1_method_53_code, 1, some Jvm.ClassFile.FieldType.int, []),
  (⟨"PaintBank", "feed", "(IIIII)I"⟩, prog_1_method_2_code, 6, some Jvm.ClassFile.FieldType.int, []),
  (⟨"PaintBank", "truncate", "(I)I"⟩, prog_1_method_3_code, 2, some Jvm.ClassFile.FieldType.int, []),
  (⟨"PaintBank", "body", "(I)I"⟩, prog_1_method_11_code, 2, some Jvm.ClassFile.FieldType.int, [])]
def md_MT2 : List mm_Mt := [
  (⟨"PaintBank", "colorOf", "(I)I"⟩, prog_1_method_12_code, 2, some Jvm.ClassFile.FieldType.int, []),
  (⟨"PaintBank", "laneLength", "(I)I"⟩, prog_1_method_18_code, 2, some Jvm.ClassFile.FieldType.int, []),
  (⟨"PaintBank", "checkLane", "(I)V"⟩, prog_1_method_60_code, 2, none, []),
  (⟨"PaintBank", "inRework", "(I)I"⟩, prog_1_method_20_code, 2, some Jvm.ClassFile.FieldType.int, []),
  (⟨"PaintBank", "log", "(II)I"⟩, prog_1_method_54_code, 3, some Jvm.ClassFile.FieldType.int, []),
  (⟨"PaintBank$Word", "spelled", "(J)LPaintBank$Word;"⟩, prog_13_method_6_code, 3, some (Jvm.ClassFile.FieldType.object "PaintBank$Word"), []),
  (⟨"PaintBank$Text", "<init>", "()V"⟩, prog_11_method_1_code, 1, none, []),
  (⟨"PaintBank$Text", "rewind", "()V"⟩, prog_11_method_3_code, 1, none, []),
  (⟨"PaintBank$Text", "advance", "()V"⟩, prog_11_method_10_code, 1, none, []),
  (⟨"PaintBank$Text", "isBlank", "(B)Z"⟩, prog_11_method_14_code, 1, some Jvm.ClassFile.FieldType.boolean, []),
  (⟨"PaintBank$Text", "isLetter", "(B)Z"⟩, prog_11_method_15_code, 1, some Jvm.ClassFile.FieldType.boolean, []),
  (⟨"PaintBank$Text", "readWord", "()V"⟩, prog_11_method_11_code, 1, none, []),
  (⟨"PaintBank$Text", "isDigit", "(B)Z"⟩, prog_11_method_16_code, 1, some Jvm.ClassFile.FieldType.boolean, []),
  (⟨"PaintBank$Text", "readNumber", "()V"⟩, prog_11_method_12_code, 1, none, []),
  (⟨"PaintBank$Text", "kindOfMark", "(I)I"⟩, prog_11_method_13_code, 1, some Jvm.ClassFile.FieldType.int, []),
  (⟨"PaintBank$Text", "fail", "(I)Z"⟩, prog_11_method_4_code, 2, some Jvm.ClassFile.FieldType.boolean, [])]
def md_MT3 : List mm_Mt := [
  (⟨"PaintBank$Text", "takeWord", "(LPaintBank$Word;)Z"⟩, prog_11_method_7_code, 2, some Jvm.ClassFile.FieldType.boolean, []),
  (⟨"PaintBank$Text", "takeNumber", "(II)Z"⟩, prog_11_method_9_code, 3, some Jvm.ClassFile.FieldType.boolean, []),
  (⟨"PaintBank$Text", "takeIfNext", "(LPaintBank$Word;)Z"⟩, prog_11_method_8_code, 3, some Jvm.ClassFile.FieldType.boolean, []),
  (⟨"PaintBank$Text", "takeSemicolon", "()Z"⟩, prog_11_method_5_code, 1, some Jvm.ClassFile.FieldType.boolean, []),
  (⟨"PaintBank$Text", "append", "(I)V"⟩, prog_11_method_2_code, 3, none, []),
  (⟨"PaintBank$Setup", "<init>", "()V"⟩, prog_9_method_1_code, 1, none, []),
  (⟨"PaintBank$Setup", "clear", "()V"⟩, prog_9_method_2_code, 1, none, []),
  (⟨"PaintBank$Setup", "colorNamed", "(J)I"⟩, prog_9_method_6_code, 4, some Jvm.ClassFile.FieldType.int, []),
  (⟨"PaintBank$Setup", "copyFrom", "(LPaintBank$Setup;)V"⟩, prog_9_method_3_code, 2, none, []),
  (⟨"PaintBank$Setup", "eventsOf", "(III)I"⟩, prog_9_method_7_code, 4, some Jvm.ClassFile.FieldType.int, []),
  (⟨"PaintBank$Setup", "priceOf", "(II)I"⟩, prog_9_method_8_code, 3, some Jvm.ClassFile.FieldType.int, []),
  (⟨"PaintBank$Setup", "runAfter", "(II)I"⟩, prog_9_method_9_code, 2, some Jvm.ClassFile.FieldType.int, []),
  (⟨"PaintBank$Setup", "bodyOfCar", "(I)I"⟩, prog_9_method_4_code, 2, some Jvm.ClassFile.FieldType.int, []),
  (⟨"PaintBank$SetupReader", "<init>", "(LPaintBank$Text;)V"⟩, prog_10_method_1_code, 2, none, []),
  (⟨"PaintBank$SetupReader", "readAll", "()I"⟩, prog_10_method_2_code, 2, some Jvm.ClassFile.FieldType.int, []),
  (⟨"PaintBank$SetupReader", "readStatement", "()Z"⟩, prog_10_method_3_code, 1, some Jvm.ClassFile.FieldType.boolean, [])]
def md_MT4 : List mm_Mt := [
  (⟨"PaintBank$SetupReader", "readColor", "()Z"⟩, prog_10_method_4_code, 2, some Jvm.ClassFile.FieldType.boolean, []),
  (⟨"PaintBank$SetupReader", "readLane", "()Z"⟩, prog_10_method_5_code, 2, some Jvm.ClassFile.FieldType.boolean, []),
  (⟨"PaintBank$SetupReader", "readCar", "()Z"⟩, prog_10_method_6_code, 3, some Jvm.ClassFile.FieldType.boolean, []),
  (⟨"PaintBank$SetupReader", "readWindow", "()Z"⟩, prog_10_method_7_code, 1, some Jvm.ClassFile.FieldType.boolean, []),
  (⟨"PaintBank$SetupReader", "readBatch", "()Z"⟩, prog_10_method_8_code, 1, some Jvm.ClassFile.FieldType.boolean, []),
  (⟨"PaintBank$SetupReader", "readRework", "()Z"⟩, prog_10_method_9_code, 1, some Jvm.ClassFile.FieldType.boolean, []),
  (⟨"PaintBank$SetupReader", "readSpan", "()Z"⟩, prog_10_method_10_code, 1, some Jvm.ClassFile.FieldType.boolean, []),
  (⟨"PaintBank$Line", "<init>", "(LPaintBank$Setup;)V"⟩, prog_5_method_1_code, 3, none, []),
  (⟨"PaintBank$Line", "startOver", "()V"⟩, prog_5_method_2_code, 2, none, []),
  (⟨"PaintBank$Line", "waitingCount", "()I"⟩, prog_5_method_4_code, 1, some Jvm.ClassFile.FieldType.int, []),
  (⟨"PaintBank$Line", "copyFrom", "(LPaintBank$Line;)V"⟩, prog_5_method_3_code, 3, none, []),
  (⟨"PaintBank$Line", "stepByRule", "()I"⟩, prog_5_method_22_code, 1, some Jvm.ClassFile.FieldType.int, []),
  (⟨"PaintBank$Line", "firstIsReady", "()Z"⟩, prog_5_method_19_code, 1, some Jvm.ClassFile.FieldType.boolean, []),
  (⟨"PaintBank$Line", "chosenLane", "(I)I"⟩, prog_5_method_23_code, 6, some Jvm.ClassFile.FieldType.int, []),
  (⟨"PaintBank$Line", "hasRoom", "(I)Z"⟩, prog_5_method_7_code, 2, some Jvm.ClassFile.FieldType.boolean, []),
  (⟨"PaintBank$Line", "colorOfCar", "(I)I"⟩, prog_5_method_8_code, 2, some Jvm.ClassFile.FieldType.int, [])]
def md_MT5 : List mm_Mt := [
  (⟨"PaintBank$Line", "comeBack", "(I)I"⟩, prog_5_method_20_code, 3, some Jvm.ClassFile.FieldType.int, []),
  (md_mn 4 108, prog_5_method_14_code, 3, some Jvm.ClassFile.FieldType.int, []),
  (⟨"PaintBank$Line", "chosenToLeave", "()I"⟩, prog_5_method_24_code, 5, some Jvm.ClassFile.FieldType.int, []),
  (⟨"PaintBank$Line", "mayLeave", "(I)Z"⟩, prog_5_method_15_code, 3, some Jvm.ClassFile.FieldType.boolean, []),
  (⟨"PaintBank$Line", "paintFrom", "(I)I"⟩, prog_5_method_16_code, 4, some Jvm.ClassFile.FieldType.int, []),
  (⟨"PaintBank$Line", "paint", "(IZ)V"⟩, prog_5_method_17_code, 5, none, []),
  (⟨"PaintBank$Line", "note", "(III)V"⟩, prog_5_method_18_code, 5, none, []),
  (⟨"PaintBank$Line", "passTime", "()I"⟩, prog_5_method_21_code, 1, some Jvm.ClassFile.FieldType.int, []),
  (⟨"PaintBank$Line", "recolor", "(II)Z"⟩, prog_5_method_9_code, 3, some Jvm.ClassFile.FieldType.boolean, []),
  (⟨"PaintBank$Line", "carsInLanes", "()I"⟩, prog_5_method_6_code, 3, some Jvm.ClassFile.FieldType.int, []),
  (⟨"PaintBank$Line", "colorsInLanes", "()I"⟩, prog_5_method_25_code, 4, some Jvm.ClassFile.FieldType.int, []),
  (⟨"PaintBank$Line", "boundOf", "(I)I"⟩, prog_5_method_27_code, 5, some Jvm.ClassFile.FieldType.int, []),
  (⟨"PaintBank$Line", "colorsNotOut", "()I"⟩, prog_5_method_26_code, 3, some Jvm.ClassFile.FieldType.int, []),
  (⟨"PaintBank$Line", "changesAmongWaiting", "()I"⟩, prog_5_method_12_code, 3, some Jvm.ClassFile.FieldType.int, []),
  (⟨"PaintBank$Row", "<init>", "()V"⟩, prog_7_method_1_code, 1, none, []),
  (⟨"PaintBank$Row", "at", "(I)I"⟩, prog_7_method_2_code, 2, some Jvm.ClassFile.FieldType.int, [])]
def md_MT6 : List mm_Mt := [
  (⟨"PaintBank$Row", "copyFrom", "(LPaintBank$Row;)V"⟩, prog_7_method_7_code, 2, none, []),
  (⟨"PaintBank$Row", "last", "()I"⟩, prog_7_method_3_code, 1, some Jvm.ClassFile.FieldType.int, []),
  (⟨"PaintBank$Row", "dropFirst", "()V"⟩, prog_7_method_6_code, 1, none, []),
  (⟨"PaintBank$Row", "add", "(I)V"⟩, prog_7_method_5_code, 2, none, []),
  (⟨"PaintBank$Row", "find", "(I)I"⟩, prog_7_method_4_code, 3, some Jvm.ClassFile.FieldType.int, []),
  (⟨"PaintBank$Unloading", "<init>", "(LPaintBank$Setup;LPaintBank$Line;)V"⟩, prog_12_method_1_code, 3, none, []),
  (⟨"PaintBank$Unloading", "plan", "()V"⟩, prog_12_method_2_code, 2, none, []),
  (⟨"PaintBank$Unloading", "weighLanes", "()I"⟩, prog_12_method_3_code, 3, some Jvm.ClassFile.FieldType.int, []),
  (⟨"PaintBank$Unloading", "forgetWorths", "(I)V"⟩, prog_12_method_4_code, 4, none, []),
  (⟨"PaintBank$Unloading", "worthOfRest", "(IIII)I"⟩, prog_12_method_6_code, 9, some Jvm.ClassFile.FieldType.int, []),
  (⟨"PaintBank$Unloading", "keyOf", "(III)I"⟩, prog_12_method_5_code, 5, some Jvm.ClassFile.FieldType.int, []),
  (⟨"PaintBank$Unloading", "worthThrough", "(IIIII)I"⟩, prog_12_method_7_code, 11, some Jvm.ClassFile.FieldType.int, []),
  (⟨"PaintBank$Unloading", "fitsOut", "(II)Z"⟩, prog_12_method_8_code, 3, some Jvm.ClassFile.FieldType.boolean, []),
  (⟨"PaintBank$Unloading", "collectLanes", "()V"⟩, prog_12_method_9_code, 8, none, []),
  (⟨"PaintBank$Exchange", "<init>", "(LPaintBank$Setup;LPaintBank$Line;)V"⟩, prog_3_method_1_code, 3, none, []),
  (⟨"PaintBank$Exchange", "plan", "()V"⟩, prog_3_method_2_code, 3, none, [])]
def md_MT7 : List mm_Mt := [
  (⟨"PaintBank$Exchange", "forgetWays", "()V"⟩, prog_3_method_4_code, 3, none, []),
  (⟨"PaintBank$Exchange", "offerJob", "(II)V"⟩, prog_3_method_3_code, 7, none, []),
  (⟨"PaintBank$Exchange", "waysFrom", "(II)I"⟩, prog_3_method_5_code, 8, some Jvm.ClassFile.FieldType.int, []),
  (⟨"PaintBank$Exchange", "firstJob", "(III)I"⟩, prog_3_method_6_code, 6, some Jvm.ClassFile.FieldType.int, []),
  (⟨"PaintBank$Exchange", "fewestOf", "(II)I"⟩, prog_3_method_7_code, 2, some Jvm.ClassFile.FieldType.int, []),
  (⟨"PaintBank$Exchange", "fewestOfAll", "(I)I"⟩, prog_3_method_8_code, 3, some Jvm.ClassFile.FieldType.int, []),
  (⟨"PaintBank$Exchange", "collectColors", "()V"⟩, prog_3_method_9_code, 7, none, []),
  (⟨"PaintBank$Exchange", "lowestColor", "(III)I"⟩, prog_3_method_10_code, 5, some Jvm.ClassFile.FieldType.int, []),
  (⟨"PaintBank$Exchange", "carryOut", "()I"⟩, prog_3_method_11_code, 3, some Jvm.ClassFile.FieldType.int, []),
  (⟨"PaintBank$Script", "<init>", "(LPaintBank$Text;LPaintBank$Line;LPaintBank$Unloading;LPaintBank$Exchange;)V"⟩, prog_8_method_1_code, 6, none, []),
  (⟨"PaintBank$History", "<init>", "(LPaintBank$Setup;)V"⟩, prog_4_method_1_code, 3, none, []),
  (⟨"PaintBank$History", "forget", "()V"⟩, prog_4_method_5_code, 1, none, []),
  (⟨"PaintBank$History", "draft", "(LPaintBank$Line;)V"⟩, prog_4_method_2_code, 2, none, []),
  (⟨"PaintBank$History", "keep", "()V"⟩, prog_4_method_3_code, 1, none, []),
  (⟨"PaintBank$Report", "<init>", "()V"⟩, prog_6_method_1_code, 1, none, []),
  (⟨"PaintBankLaw$World", "grown", "([I)LPaintBankLaw$World;"⟩, prog_15_method_5_code, 5, some (Jvm.ClassFile.FieldType.object "PaintBankLaw$World"), [])]
def md_MT8 : List mm_Mt := [
  (⟨"PaintBankLaw$World", "<init>", "()V"⟩, prog_15_method_1_code, 1, none, []),
  (⟨"PaintBankLaw$World", "next", "(I)I"⟩, prog_15_method_2_code, 2, some Jvm.ClassFile.FieldType.int, []),
  (⟨"PaintBankLaw$World", "nameOf", "(I)Ljava/lang/String;"⟩, prog_15_method_4_code, 1, some (Jvm.ClassFile.FieldType.object "java/lang/String"), []),
  (⟨"PaintBankLaw$World", "end", "(Ljava/lang/StringBuilder;)V"⟩, prog_15_method_3_code, 2, none, []),
  (⟨"java/lang/Math", "max", "(II)I"⟩, prog_31_method_65_code, 2, some Jvm.ClassFile.FieldType.int, []),
  (⟨"java/lang/Math", "min", "(II)I"⟩, prog_31_method_69_code, 2, some Jvm.ClassFile.FieldType.int, []),
  (⟨"java/lang/Math", "abs", "(I)I"⟩, prog_31_method_59_code, 1, some Jvm.ClassFile.FieldType.int, []),
  (⟨"java/util/Arrays", "fill", "([II)V"⟩, prog_46_method_103_code, 4, none, []),
  (⟨"java/lang/Integer", "bitCount", "(I)I"⟩, prog_28_method_49_code, 1, some Jvm.ClassFile.FieldType.int, []),
  (⟨"java/lang/Enum", "ordinal", "()I"⟩, prog_23_method_2_code, 1, some Jvm.ClassFile.FieldType.int, []),
  (⟨"java/util/ArrayList", "<init>", "()V"⟩, prog_45_method_2_code, 1, none, []),
  (⟨"java/util/AbstractList", "<init>", "()V"⟩, prog_43_method_1_code, 1, none, []),
  (⟨"java/util/AbstractCollection", "<init>", "()V"⟩, prog_42_method_1_code, 1, none, []),
  (⟨"java/util/LinkedList", "<init>", "()V"⟩, prog_49_method_1_code, 1, none, []),
  (⟨"java/util/AbstractSequentialList", "<init>", "()V"⟩, prog_44_method_1_code, 1, none, []),
  (⟨"java/lang/StringBuilder", "<init>", "()V"⟩, prog_35_method_1_code, 1, none, [])]
def md_MT9 : List mm_Mt := [
  (⟨"java/lang/AbstractStringBuilder", "<init>", "(I)V"⟩, prog_18_method_2_code, 2, none, []),
  (⟨"java/lang/Integer", "valueOf", "(I)Ljava/lang/Integer;"⟩, prog_28_method_22_code, 1, some (Jvm.ClassFile.FieldType.object "java/lang/Integer"), []),
  (⟨"java/util/ArrayList", "add", "(Ljava/lang/Object;)Z"⟩, prog_45_method_25_code, 2, some Jvm.ClassFile.FieldType.boolean, []),
  (⟨"java/util/ArrayList", "add", "(Ljava/lang/Object;[Ljava/lang/Object;I)V"⟩, prog_45_method_24_code, 4, none, []),
  (⟨"java/util/ArrayList", "grow", "()[Ljava/lang/Object;"⟩, prog_45_method_7_code, 1, some (Jvm.ClassFile.FieldType.array (Jvm.ClassFile.FieldType.object "java/lang/Object")), []),
  (⟨"java/util/ArrayList", "grow", "(I)[Ljava/lang/Object;"⟩, prog_45_method_6_code, 4, some (Jvm.ClassFile.FieldType.array (Jvm.ClassFile.FieldType.object "java/lang/Object")), []),
  (⟨"java/util/ArrayList", "get", "(I)Ljava/lang/Object;"⟩, prog_45_method_20_code, 2, some (Jvm.ClassFile.FieldType.object "java/lang/Object"), []),
  (⟨"java/util/Objects", "checkIndex", "(II)I"⟩, prog_52_method_17_code, 2, some Jvm.ClassFile.FieldType.int, []),
  (⟨"java/util/ArrayList", "elementData", "(I)Ljava/lang/Object;"⟩, prog_45_method_18_code, 2, some (Jvm.ClassFile.FieldType.object "java/lang/Object"), []),
  (⟨"java/util/ArrayList", "size", "()I"⟩, prog_45_method_8_code, 1, some Jvm.ClassFile.FieldType.int, []),
  (⟨"jdk/internal/util/ArraysSupport", "newLength", "(III)I"⟩, prog_56_method_27_code, 4, some Jvm.ClassFile.FieldType.int, []),
  (⟨"java/lang/StringBuilder", "append", "(Ljava/lang/String;)Ljava/lang/StringBuilder;"⟩, prog_35_method_7_code, 2, some (Jvm.ClassFile.FieldType.object "java/lang/StringBuilder"), []),
  (⟨"java/lang/AbstractStringBuilder", "append", "(Ljava/lang/String;)Ljava/lang/AbstractStringBuilder;"⟩, prog_18_method_22_code, 3, some (Jvm.ClassFile.FieldType.object "java/lang/AbstractStringBuilder"), []),
  (⟨"java/lang/AbstractStringBuilder", "ensureCapacityInternal", "(I)V"⟩, prog_18_method_9_code, 3, none, []),
  (⟨"java/lang/AbstractStringBuilder", "newCapacity", "(I)I"⟩, prog_18_method_10_code, 6, some Jvm.ClassFile.FieldType.int, []),
  (⟨"java/util/Arrays", "copyOf", "([BI)[B"⟩, prog_46_method_121_code, 3, some (Jvm.ClassFile.FieldType.array Jvm.ClassFile.FieldType.byte), [])]
def md_MT10 : List mm_Mt := [
  (⟨"java/lang/AbstractStringBuilder", "isLatin1", "()Z"⟩, prog_18_method_68_code, 1, some Jvm.ClassFile.FieldType.boolean, []),
  (⟨"java/lang/String", "length", "()I"⟩, prog_34_method_54_code, 1, some Jvm.ClassFile.FieldType.int, []),
  (⟨"java/lang/String", "coder", "()B"⟩, prog_34_method_152_code, 1, some Jvm.ClassFile.FieldType.byte, []),
  (⟨"java/lang/AbstractStringBuilder", "putStringAt", "(ILjava/lang/String;)V"⟩, prog_18_method_73_code, 3, none, []),
  (⟨"java/lang/AbstractStringBuilder", "inflateIfNeededFor", "(Ljava/lang/String;)V"⟩, prog_18_method_71_code, 2, none, []),
  (⟨"java/lang/String", "getBytes", "([BIB)V"⟩, prog_34_method_147_code, 4, none, []),
  (⟨"java/lang/StringBuilder", "append", "(C)Ljava/lang/StringBuilder;"⟩, prog_35_method_14_code, 2, some (Jvm.ClassFile.FieldType.object "java/lang/StringBuilder"), []),
  (⟨"java/lang/AbstractStringBuilder", "append", "(C)Ljava/lang/AbstractStringBuilder;"⟩, prog_18_method_31_code, 2, some (Jvm.ClassFile.FieldType.object "java/lang/AbstractStringBuilder"), []),
  (⟨"java/lang/StringLatin1", "canEncode", "(C)Z"⟩, prog_36_method_3_code, 1, some Jvm.ClassFile.FieldType.boolean, []),
  (⟨"java/lang/StringBuilder", "toString", "()Ljava/lang/String;"⟩, prog_35_method_42_code, 1, some (Jvm.ClassFile.FieldType.object "java/lang/String"), []),
  (⟨"java/lang/String", "<init>", "(Ljava/lang/StringBuilder;)V"⟩, prog_34_method_53_code, 2, none, []),
  (⟨"java/lang/String", "<init>", "(Ljava/lang/AbstractStringBuilder;Ljava/lang/Void;)V"⟩, prog_34_method_150_code, 5, none, []),
  (⟨"java/lang/AbstractStringBuilder", "getValue", "()[B"⟩, prog_18_method_64_code, 1, some (Jvm.ClassFile.FieldType.array Jvm.ClassFile.FieldType.byte), []),
  (⟨"java/lang/StringBuilder", "length", "()I"⟩, prog_35_method_93_code, 1, some Jvm.ClassFile.FieldType.int, []),
  (⟨"java/lang/AbstractStringBuilder", "length", "()I"⟩, prog_18_method_6_code, 1, some Jvm.ClassFile.FieldType.int, []),
  (⟨"java/util/Arrays", "copyOfRange", "([BII)[B"⟩, prog_46_method_132_code, 3, some (Jvm.ClassFile.FieldType.array Jvm.ClassFile.FieldType.byte), [])]
def md_MT11 : List mm_Mt := [
  (⟨"java/util/Arrays", "copyOfRangeByte", "([BII)[B"⟩, prog_46_method_133_code, 5, some (Jvm.ClassFile.FieldType.array Jvm.ClassFile.FieldType.byte), []),
  (⟨"java/util/Arrays", "checkLength", "(II)V"⟩, prog_46_method_131_code, 2, none, []),
  (⟨"java/lang/StringBuilder", "append", "(Ljava/lang/Object;)Ljava/lang/StringBuilder;"⟩, prog_35_method_6_code, 2, some (Jvm.ClassFile.FieldType.object "java/lang/StringBuilder"), []),
  (⟨"java/lang/String", "valueOf", "(Ljava/lang/Object;)Ljava/lang/String;"⟩, prog_34_method_133_code, 1, some (Jvm.ClassFile.FieldType.object "java/lang/String"), []),
  (⟨"java/lang/Integer", "toString", "()Ljava/lang/String;"⟩, prog_28_method_31_code, 1, some (Jvm.ClassFile.FieldType.object "java/lang/String"), []),
  (⟨"java/lang/Integer", "toString", "(I)Ljava/lang/String;"⟩, prog_28_method_10_code, 3, some (Jvm.ClassFile.FieldType.object "java/lang/String"), []),
  (⟨"java/lang/Integer", "stringSize", "(I)I"⟩, prog_28_method_13_code, 4, some Jvm.ClassFile.FieldType.int, []),
  (⟨"java/lang/Integer", "getChars", "(II[B)I"⟩, prog_28_method_12_code, 7, some Jvm.ClassFile.FieldType.int, []),
  (⟨"java/lang/String", "<init>", "([BB)V"⟩, prog_34_method_151_code, 3, none, []),
  (⟨"java/lang/StringBuilder", "append", "(I)Ljava/lang/StringBuilder;"⟩, prog_35_method_15_code, 2, some (Jvm.ClassFile.FieldType.object "java/lang/StringBuilder"), []),
  (⟨"java/lang/AbstractStringBuilder", "append", "(I)Ljava/lang/AbstractStringBuilder;"⟩, prog_18_method_32_code, 4, some (Jvm.ClassFile.FieldType.object "java/lang/AbstractStringBuilder"), []),
  (⟨"java/lang/String", "charAt", "(I)C"⟩, prog_34_method_56_code, 2, some Jvm.ClassFile.FieldType.char, []),
  (⟨"java/lang/String", "isLatin1", "()Z"⟩, prog_34_method_154_code, 1, some Jvm.ClassFile.FieldType.boolean, []),
  (⟨"java/lang/StringLatin1", "charAt", "([BI)C"⟩, prog_36_method_2_code, 2, some Jvm.ClassFile.FieldType.char, []),
  (⟨"java/lang/String", "checkIndex", "(II)V"⟩, prog_34_method_155_code, 2, none, []),
  (⟨"java/lang/String", "isEmpty", "()Z"⟩, prog_34_method_55_code, 1, some Jvm.ClassFile.FieldType.boolean, [])]
def md_MT12 : List mm_Mt := [
  (⟨"jdk/internal/util/Preconditions", "checkIndex", "(IILjava/util/function/BiFunction;)I"⟩, prog_57_method_11_code, 3, some Jvm.ClassFile.FieldType.int, []),
  (⟨"java/util/AbstractList", "<init>", "()V"⟩, prog_43_method_1_code, 1, none, [])]
def md_MT : List (List mm_Mt) := [md_MT0, md_MT1, md_MT2, md_MT3, md_MT4, md_MT5, md_MT6, md_MT7, md_MT8, md_MT9, md_MT10, md_MT11, md_MT12]
def md_mt (j : Nat) : mm_Mt := (((md_MT[j / 16]?).getD [])[j % 16]?).getD (⟨"A", "", ""⟩, ⟨#[]⟩, 0, none, [])
def md_npL : List Nat := [1, 3, 2, 2, 2, 2, 1, 1, 0, 0, 1, 1, 0, 0, 0, 0, 0, 0, 0, 0, 1, 0, 0, 0, 0, 0, 0, 0, 0, 5, 1, 1, 1, 1, 1, 1, 2, 1, 0, 0, 0, 1, 1, 0, 1, 0, 1, 1, 1, 2, 1, 0, 1, 0, 0, 1, 1, 3, 2, 2, 1, 1, 0, 0, 0, 0, 0, 0, 0, 0, 0, 1, 0, 0, 1, 0, 0, 1, 1, 1, 1, 1, 0, 1, 1, 2, 3, 0, 2, 0, 0, 1, 0, 0, 0, 1, 1, 0, 0, 1, 1, 2, 0, 0, 1, 4, 3, 5, 2, 0, 2, 0, 0, 2, 2, 3, 2, 1, 0, 3, 0, 4, 1, 0, 1, 0, 0, 1, 0, 1, 1, 1, 2, 2, 1, 2, 1, 0, 0, 0, 0, 0, 0, 0, 1, 1, 1, 3, 0, 1, 1, 2, 1, 0, 3, 1, 1, 1, 1, 2, 0, 0, 0, 2, 1, 3, 1, 1, 1, 0, 1, 2, 0, 0, 0, 3, 3, 2, 1, 1, 0, 1, 1, 3, 2, 1, 1, 1, 0, 2, 2, 0, 3, 0]
def md_np (j : Nat) : Nat := (md_npL[j]?).getD 99
