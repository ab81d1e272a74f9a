/-! ===== the program's own tables, laid by wip/mm/gen02.py out of claim/Statement.lean ===== -/
abbrev mm_W : Type := List va_E
abbrev mm_Ent : Type := Instr × Nat × Nat × Nat × Nat
abbrev mm_Ln : Type := Nat × mm_Ent × List Nat
abbrev mm_Mt : Type := MethodName × ByteArray × Nat × Option FieldType × List (Nat × Nat × Nat × Nat)
abbrev mm_Xa : Type := Nat → Option (Nat × Nat × (Nat → Value))
def md_Tg : List Jvm.Cond := (k2_sels lw_privs ++ tables_1).filter goodWord
def md_tb : Nat → List Jvm.Cond
  | 0 => k2_sels lw_privs
  | 1 => tables_1_1
  | 2 => tables_1_2
  | 3 => tables_1_3
  | 4 => tables_1_4
  | 5 => tables_1_5
  | 6 => tables_1_6
  | 7 => tables_1_7
  | 8 => tables_1_8
  | 9 => tables_1_9
  | 10 => tables_1_10
  | _ => []
def md_F0 : u_T := fun k => match k with
  | 0 => ("PaintBank", "text", "LPaintBank$Text;", true)
  | 1 => ("PaintBank", "setup", "LPaintBank$Setup;", true)
  | 2 => ("PaintBank", "reader", "LPaintBank$SetupReader;", true)
  | 3 => ("PaintBank", "line", "LPaintBank$Line;", true)
  | 4 => ("PaintBank", "lookout", "LPaintBank$Line;", true)
  | 5 => ("PaintBank", "unloading", "LPaintBank$Unloading;", true)
  | 6 => ("PaintBank", "exchange", "LPaintBank$Exchange;", true)
  | 7 => ("PaintBank", "script", "LPaintBank$Script;", true)
  | 8 => ("PaintBank", "history", "LPaintBank$History;", true)
  | 9 => ("PaintBank", "latest", "LPaintBank$Report;", true)
  | 10 => ("PaintBank", "savedSetup", "LPaintBank$Setup;", true)
  | 11 => ("PaintBank", "savedLine", "LPaintBank$Line;", true)
  | _ => ("PaintBank", "saved", "Z", false)
def md_F1 : u_T := fun k => match k with
  | 0 => ("PaintBank$Text", "bytes", "[B", true)
  | 1 => ("PaintBank$Text", "length", "I", false)
  | 2 => ("PaintBank$Text", "errorCode", "I", false)
  | 3 => ("PaintBank$Text", "errorPosition", "I", false)
  | 4 => ("PaintBank$Text", "at", "I", false)
  | 5 => ("PaintBank$Text", "kind", "I", false)
  | 6 => ("PaintBank$Text", "start", "I", false)
  | 7 => ("PaintBank$Text", "number", "I", false)
  | 8 => ("PaintBank$Text", "letters", "J", false)
  | _ => ("PaintBank$Text", "word", "LPaintBank$Word;", false)
def md_F2 : u_T := fun k => match k with
  | 0 => ("PaintBank$Setup", "colors", "I", false)
  | 1 => ("PaintBank$Setup", "lanes", "I", false)
  | 2 => ("PaintBank$Setup", "cars", "I", false)
  | 3 => ("PaintBank$Setup", "ahead", "I", false)
  | 4 => ("PaintBank$Setup", "behind", "I", false)
  | 5 => ("PaintBank$Setup", "batch", "I", false)
  | 6 => ("PaintBank$Setup", "purgePrice", "I", false)
  | 7 => ("PaintBank$Setup", "reworkRoom", "I", false)
  | 8 => ("PaintBank$Setup", "delay", "I", false)
  | 9 => ("PaintBank$Setup", "span", "I", false)
  | 10 => ("PaintBank$Setup", "colorName", "[J", true)
  | 11 => ("PaintBank$Setup", "changePrice", "[I", true)
  | 12 => ("PaintBank$Setup", "laneRoom", "[I", true)
  | 13 => ("PaintBank$Setup", "carColor", "[I", true)
  | 14 => ("PaintBank$Setup", "carBody", "[I", true)
  | _ => ("PaintBank$Setup", "carBad", "[I", true)
def md_F3 : u_T := fun k => match k with
  | 0 => ("PaintBank$SetupReader", "draft", "LPaintBank$Setup;", true)
  | 1 => ("PaintBank$SetupReader", "text", "LPaintBank$Text;", true)
  | 2 => ("PaintBank$SetupReader", "windowSeen", "Z", false)
  | 3 => ("PaintBank$SetupReader", "batchSeen", "Z", false)
  | 4 => ("PaintBank$SetupReader", "reworkSeen", "Z", false)
  | _ => ("PaintBank$SetupReader", "spanSeen", "Z", false)
def md_F4 : u_T := fun k => match k with
  | 0 => ("PaintBank$Line", "setup", "LPaintBank$Setup;", true)
  | 1 => ("PaintBank$Line", "color", "[I", true)
  | 2 => ("PaintBank$Line", "failures", "[I", true)
  | 3 => ("PaintBank$Line", "lanes", "[LPaintBank$Row;", true)
  | 4 => ("PaintBank$Line", "rework", "LPaintBank$Row;", true)
  | 5 => ("PaintBank$Line", "readyTimes", "LPaintBank$Row;", true)
  | 6 => ("PaintBank$Line", "out", "LPaintBank$Row;", true)
  | 7 => ("PaintBank$Line", "entered", "I", false)
  | 8 => ("PaintBank$Line", "hose", "I", false)
  | 9 => ("PaintBank$Line", "run", "I", false)
  | 10 => ("PaintBank$Line", "time", "I", false)
  | 11 => ("PaintBank$Line", "changes", "I", false)
  | 12 => ("PaintBank$Line", "purges", "I", false)
  | 13 => ("PaintBank$Line", "cost", "I", false)
  | 14 => ("PaintBank$Line", "paintings", "[I", true)
  | 15 => ("PaintBank$Line", "painted", "I", false)
  | _ => ("PaintBank$Line", "edits", "I", false)
def md_F5 : u_T := fun k => match k with
  | 0 => ("PaintBank$Row", "numbers", "[I", true)
  | _ => ("PaintBank$Row", "count", "I", false)
def md_F6 : u_T := fun k => match k with
  | 0 => ("PaintBank$Unloading", "setup", "LPaintBank$Setup;", true)
  | 1 => ("PaintBank$Unloading", "line", "LPaintBank$Line;", true)
  | 2 => ("PaintBank$Unloading", "least", "[I", true)
  | 3 => ("PaintBank$Unloading", "choice", "[B", true)
  | 4 => ("PaintBank$Unloading", "taken", "[I", true)
  | 5 => ("PaintBank$Unloading", "weight", "[I", true)
  | 6 => ("PaintBank$Unloading", "total", "I", false)
  | 7 => ("PaintBank$Unloading", "plannedAt", "I", false)
  | 8 => ("PaintBank$Unloading", "best", "LPaintBank$Row;", true)
  | 9 => ("PaintBank$Unloading", "allowed", "Z", false)
  | 10 => ("PaintBank$Unloading", "completed", "Z", false)
  | 11 => ("PaintBank$Unloading", "price", "I", false)
  | _ => ("PaintBank$Unloading", "colorChanges", "I", false)
def md_F7 : u_T := fun k => match k with
  | 0 => ("PaintBank$Exchange", "setup", "LPaintBank$Setup;", true)
  | 1 => ("PaintBank$Exchange", "line", "LPaintBank$Line;", true)
  | 2 => ("PaintBank$Exchange", "memo", "[I", true)
  | 3 => ("PaintBank$Exchange", "jobsFor", "[I", true)
  | 4 => ("PaintBank$Exchange", "count", "I", false)
  | 5 => ("PaintBank$Exchange", "plannedAt", "I", false)
  | 6 => ("PaintBank$Exchange", "best", "LPaintBank$Row;", true)
  | _ => ("PaintBank$Exchange", "colorChanges", "I", false)
def md_F8 : u_T := fun k => match k with
  | 0 => ("PaintBank$Script", "text", "LPaintBank$Text;", true)
  | 1 => ("PaintBank$Script", "line", "LPaintBank$Line;", true)
  | 2 => ("PaintBank$Script", "unloading", "LPaintBank$Unloading;", true)
  | 3 => ("PaintBank$Script", "exchange", "LPaintBank$Exchange;", true)
  | 4 => ("PaintBank$Script", "words", "[LPaintBank$Word;", true)
  | 5 => ("PaintBank$Script", "numbers", "[I", true)
  | 6 => ("PaintBank$Script", "timesLeft", "[I", true)
  | 7 => ("PaintBank$Script", "openRepeats", "[I", true)
  | 8 => ("PaintBank$Script", "nesting", "I", false)
  | 9 => ("PaintBank$Script", "commands", "I", false)
  | _ => ("PaintBank$Script", "size", "I", false)
def md_F9 : u_T := fun k => match k with
  | 0 => ("PaintBank$History", "states", "[LPaintBank$Line;", true)
  | 1 => ("PaintBank$History", "next", "I", false)
  | _ => ("PaintBank$History", "count", "I", false)
def md_F10 : u_T := fun k => match k with
  | 0 => ("PaintBank$Report", "bytes", "[B", true)
  | _ => ("PaintBank$Report", "length", "I", false)
def md_F11 : u_T := fun k => match k with
  | 0 => ("PaintBankModel", "code", "I", false)
  | 1 => ("PaintBankModel", "buffer", "[I", true)
  | 2 => ("PaintBankModel", "filled", "I", false)
  | 3 => ("PaintBankModel", "bytes", "I", false)
  | 4 => ("PaintBankModel", "at", "I", false)
  | 5 => ("PaintBankModel", "place", "I", false)
  | 6 => ("PaintBankModel", "sort", "I", false)
  | 7 => ("PaintBankModel", "value", "I", false)
  | 8 => ("PaintBankModel", "error", "I", false)
  | 9 => ("PaintBankModel", "errorPlace", "I", false)
  | 10 => ("PaintBankModel", "toldError", "I", false)
  | 11 => ("PaintBankModel", "toldPlace", "I", false)
  | 12 => ("PaintBankModel", "word", "J", false)
  | 13 => ("PaintBankModel", "now", "[I", true)
  | 14 => ("PaintBankModel", "read", "[I", true)
  | 15 => ("PaintBankModel", "aside", "[I", true)
  | 16 => ("PaintBankModel", "kept", "[I", true)
  | 17 => ("PaintBankModel", "past", "[I", true)
  | 18 => ("PaintBankModel", "names", "[J", true)
  | 19 => ("PaintBankModel", "readNames", "[J", true)
  | 20 => ("PaintBankModel", "keptNames", "[J", true)
  | 21 => ("PaintBankModel", "hasKept", "Z", false)
  | 22 => ("PaintBankModel", "undos", "I", false)
  | 23 => ("PaintBankModel", "hasWindow", "Z", false)
  | 24 => ("PaintBankModel", "hasBatch", "Z", false)
  | 25 => ("PaintBankModel", "hasRework", "Z", false)
  | 26 => ("PaintBankModel", "hasSpan", "Z", false)
  | 27 => ("PaintBankModel", "statements", "I", false)
  | 28 => ("PaintBankModel", "spare", "I", false)
  | 29 => ("PaintBankModel", "least", "[I", true)
  | 30 => ("PaintBankModel", "taken", "[I", true)
  | 31 => ("PaintBankModel", "unloaded", "[I", true)
  | 32 => ("PaintBankModel", "unloads", "I", false)
  | 33 => ("PaintBankModel", "fewest", "[I", true)
  | 34 => ("PaintBankModel", "stands", "[Z", true)
  | 35 => ("PaintBankModel", "comes", "[Z", true)
  | 36 => ("PaintBankModel", "swapped", "[I", true)
  | 37 => ("PaintBankModel", "script", "[I", true)
  | 38 => ("PaintBankModel", "one", "[I", true)
  | 39 => ("PaintBankModel", "begun", "[I", true)
  | 40 => ("PaintBankModel", "laps", "[I", true)
  | 41 => ("PaintBankModel", "before", "[I", true)
  | 42 => ("PaintBankModel", "scripted", "I", false)
  | 43 => ("PaintBankModel", "wordsHad", "I", false)
  | 44 => ("PaintBankModel", "open", "I", false)
  | 45 => ("PaintBankModel", "touched", "Z", false)
  | 46 => ("PaintBankModel", "told", "[I", true)
  | 47 => ("PaintBankModel", "tellings", "I", false)
  | _ => ("PaintBankModel", "hasReport", "Z", false)
def md_cl : List vw_C := [("PaintBank", md_F0, 13), ("PaintBank$Text", md_F1, 10), ("PaintBank$Setup", md_F2, 16), ("PaintBank$SetupReader", md_F3, 6), ("PaintBank$Line", md_F4, 17), ("PaintBank$Row", md_F5, 2), ("PaintBank$Unloading", md_F6, 13), ("PaintBank$Exchange", md_F7, 8), ("PaintBank$Script", md_F8, 11), ("PaintBank$History", md_F9, 3), ("PaintBank$Report", md_F10, 2), ("PaintBankModel", md_F11, 49)]
def md_dfL : List (List Value) := [[.null, .null, .null, .null, .null, .null, .null, .null, .null, .null, .null, .null, .int 0],
  [.null, .int 0, .int 0, .int 0, .int 0, .int 0, .int 0, .int 0, .long 0, .null],
  [.int 0, .int 0, .int 0, .int 0, .int 0, .int 0, .int 0, .int 0, .int 0, .int 0, .null, .null, .null, .null, .null, .null],
  [.null, .null, .int 0, .int 0, .int 0, .int 0],
  [.null, .null, .null, .null, .null, .null, .null, .int 0, .int 0, .int 0, .int 0, .int 0, .int 0, .int 0, .null, .int 0, .int 0],
  [.null, .int 0],
  [.null, .null, .null, .null, .null, .null, .int 0, .int 0, .null, .int 0, .int 0, .int 0, .int 0],
  [.null, .null, .null, .null, .int 0, .int 0, .null, .int 0],
  [.null, .null, .null, .null, .null, .null, .null, .null, .int 0, .int 0, .int 0],
  [.null, .int 0, .int 0],
  [.null, .int 0],
  [.int 0, .null, .int 0, .int 0, .int 0, .int 0, .int 0, .int 0, .int 0, .int 0, .int 0, .int 0, .long 0, .null, .null, .null, .null, .null, .null, .null, .null, .int 0, .int 0, .int 0, .int 0, .int 0, .int 0, .int 0, .int 0, .null, .null, .null, .int 0, .null, .null, .null, .null, .null, .null, .null, .null, .null, .int 0, .int 0, .int 0, .int 0, .null, .int 0, .int 0]]
def md_df (i : Nat) : List Value := (md_dfL[i]?).getD []
def md_ty : Nat → FieldType
  | 0 => .int
  | 1 => .long
  | 2 => .byte
  | 3 => .boolean
  | 4 => .object "PaintBank$Row"
  | 5 => .object "PaintBank$Line"
  | _ => .object "PaintBank$Word"
def md_ac : Nat → Nat
  | 4 => 5
  | 5 => 4
  | _ => 1000
def md_ne : Nat := 21
def md_stL : List (String × String × String × Value) := [("PaintBank$Word", "COLOR", "LPaintBank$Word;", .ref 1000001),
  ("PaintBank$Word", "CHANGE", "LPaintBank$Word;", .ref 1000002),
  ("PaintBank$Word", "LANE", "LPaintBank$Word;", .ref 1000003),
  ("PaintBank$Word", "CAR", "LPaintBank$Word;", .ref 1000004),
  ("PaintBank$Word", "BODY", "LPaintBank$Word;", .ref 1000005),
  ("PaintBank$Word", "BAD", "LPaintBank$Word;", .ref 1000006),
  ("PaintBank$Word", "WINDOW", "LPaintBank$Word;", .ref 1000007),
  ("PaintBank$Word", "BATCH", "LPaintBank$Word;", .ref 1000008),
  ("PaintBank$Word", "PURGE", "LPaintBank$Word;", .ref 1000009),
  ("PaintBank$Word", "REWORK", "LPaintBank$Word;", .ref 1000010),
  ("PaintBank$Word", "DELAY", "LPaintBank$Word;", .ref 1000011),
  ("PaintBank$Word", "SPAN", "LPaintBank$Word;", .ref 1000012),
  ("PaintBank$Word", "ENTER", "LPaintBank$Word;", .ref 1000013),
  ("PaintBank$Word", "LEAVE", "LPaintBank$Word;", .ref 1000014),
  ("PaintBank$Word", "BACK", "LPaintBank$Word;", .ref 1000015),
  ("PaintBank$Word", "WAIT", "LPaintBank$Word;", .ref 1000016),
  ("PaintBank$Word", "STEP", "LPaintBank$Word;", .ref 1000017),
  ("PaintBank$Word", "UNLOAD", "LPaintBank$Word;", .ref 1000018),
  ("PaintBank$Word", "SWAP", "LPaintBank$Word;", .ref 1000019),
  ("PaintBank$Word", "REPEAT", "LPaintBank$Word;", .ref 1000020),
  ("PaintBank$Word", "OTHER", "LPaintBank$Word;", .ref 1000021),
  ("PaintBank$Word", "ALL", "[LPaintBank$Word;", .ref 1000022),
  ("PaintBank$1", "$SwitchMap$PaintBank$Word", "[I", .ref 1000023),
  ("java/lang/String", "COMPACT_STRINGS", "Z", .int 1)]
def md_st (i : Nat) : Value := ((md_stL[i]?).map (fun q => q.2.2.2)).getD .null
def md_stn (i : Nat) : String × String × String := ((md_stL[i]?).map (fun q => (q.1, q.2.1, q.2.2.1))).getD ("", "", "")
def md_nst : Nat := 24
def md_sq : List (String × String × String) := [("jdk/internal/util/Preconditions", "SIOOBE_FORMATTER", "Ljava/util/function/BiFunction;")]
def md_xcL : List (Option Nat) := [none, some 0, some 0, some 0, some 0, some 0, some 0, some 0, some 0, some 0, some 0, some 0, some 0, some 0, some 0, some 0, some 0, some 0, some 0, some 0, some 0, some 0, none, none, some 1, some 1]
def md_xc (i : Nat) : Option Nat := (md_xcL[i]?).getD none
def md_xcn : Nat → String
  | 0 => "PaintBank$Word"
  | _ => "java/lang/String"
def md_xfL : List (String × String × String) := [("PaintBank$Word", "letters", "J"), ("PaintBank$Word", "isCommand", "Z"), ("PaintBank$Word", "least", "I"), ("PaintBank$Word", "greatest", "I"), ("java/lang/Enum", "ordinal", "I"), ("java/lang/String", "value", "[B"), ("java/lang/String", "coder", "B")]
def md_xf (i : Nat) : String × String × String := (md_xfL[i]?).getD ("", "", "")
def md_xoL : List (List (Option Value)) := [[],
  [some (.long 427071139698), some (.int 0), some (.int 0), some (.int 0), some (.int 0)],
  [some (.long 109299962373989), some (.int 0), some (.int 0), some (.int 0), some (.int 1)],
  [some (.long 1818324581), some (.int 0), some (.int 0), some (.int 0), some (.int 2)],
  [some (.long 6513010), some (.int 0), some (.int 0), some (.int 0), some (.int 3)],
  [some (.long 1651467385), some (.int 0), some (.int 0), some (.int 0), some (.int 4)],
  [some (.long 6447460), some (.int 0), some (.int 0), some (.int 0), some (.int 5)],
  [some (.long 131294707347319), some (.int 0), some (.int 0), some (.int 0), some (.int 6)],
  [some (.long 422541812584), some (.int 0), some (.int 0), some (.int 0), some (.int 7)],
  [some (.long 483006768997), some (.int 0), some (.int 0), some (.int 0), some (.int 8)],
  [some (.long 125780121055851), some (.int 0), some (.int 0), some (.int 0), some (.int 9)],
  [some (.long 431198331257), some (.int 0), some (.int 0), some (.int 0), some (.int 10)],
  [some (.long 1936744814), some (.int 0), some (.int 0), some (.int 0), some (.int 11)],
  [some (.long 435644818802), some (.int 1), some (.int 0), some (.int 3), some (.int 12)],
  [some (.long 465557354085), some (.int 1), some (.int 0), some (.int 3), some (.int 13)],
  [some (.long 1650549611), some (.int 1), some (.int 0), some (.int 3), some (.int 14)],
  [some (.long 2002872692), some (.int 1), some (.int 1), some (.int 99), some (.int 15)],
  [some (.long 1937007984), some (.int 1), some (.int 1), some (.int 99), some (.int 16)],
  [some (.long 129117126091108), some (.int 1), some (.int 0), some (.int 0), some (.int 17)],
  [some (.long 1937203568), some (.int 1), some (.int 0), some (.int 0), some (.int 18)],
  [some (.long 125780002955636), some (.int 1), some (.int 1), some (.int 20), some (.int 19)],
  [some (.long 0), some (.int 0), some (.int 0), some (.int 0), some (.int 20)],
  [],
  [],
  [none, none, none, none, none, some (.ref 1000026), some (.int 0)],
  [none, none, none, none, none, some (.ref 1000027), some (.int 0)]]
def md_xo (i k : Nat) : Option Value := ((((md_xoL[i]?).getD [])[k]?).getD none)
def md_xaA : List Value := [.ref 1000001, .ref 1000002, .ref 1000003, .ref 1000004, .ref 1000005, .ref 1000006, .ref 1000007, .ref 1000008, .ref 1000009, .ref 1000010, .ref 1000011, .ref 1000012, .ref 1000013, .ref 1000014, .ref 1000015, .ref 1000016, .ref 1000017, .ref 1000018, .ref 1000019, .ref 1000020, .ref 1000021]
def md_xaS : List Value := [.int 1, .int 0, .int 2, .int 3, .int 0, .int 0, .int 4, .int 5, .int 0, .int 6, .int 0, .int 7, .int 8, .int 9, .int 10, .int 11, .int 12, .int 13, .int 14, .int 0, .int 0]
def md_xaT0 : List Value := [.int 108, .int 97, .int 110, .int 101, .int 32]
def md_xaT1 : List Value := [.int 111, .int 117, .int 116]
def md_xaL : List (Option (Nat × Nat × (Nat → Value))) := [none, none, none, none, none, none, none, none, none, none, none, none, none, none, none, none, none, none, none, none, none, none, some (6, 21, fun j => md_xaA.getD j .null), some (0, 21, fun j => md_xaS.getD j .null), none, none, some (2, 5, fun j => md_xaT0.getD j .null), some (2, 3, fun j => md_xaT1.getD j .null)]
def md_xa (sc : Nat × (Nat → Int32)) : mm_Xa := fun i => if i = 0 then some (0, sc.1, fun j => .int (sc.2 j)) else (md_xaL[i]?).getD none
def md_sr : List (String × Nat × String × Nat) := [("PaintBank$Report", 24, "lane ", 24),
  ("PaintBank$Report", 43, "out", 25),
  ("PaintBank", 99, "the buffer is full", 28),
  ("PaintBank", 110, "not a length to truncate to", 29),
  ("PaintBank", 117, "the setup has an error", 30),
  ("PaintBank", 134, "the script has an error", 31),
  ("PaintBank", 184, "no such setting", 32),
  ("PaintBank", 188, "no such color", 33),
  ("PaintBank", 374, "no such lane", 34),
  ("PaintBank", 376, "no such car", 35),
  ("PaintBank", 253, "the car is not out", 36),
  ("PaintBank", 378, "not a number of steps to look ahead", 37),
  ("PaintBank", 347, "no such painting", 38),
  ("PaintBank", 349, "no such number of a painting", 39),
  ("PaintBank", 359, "no such byte of a report", 40),
  ("PaintBank", 372, "nothing was saved", 41)]
def md_enL : List String := ["java/lang/IllegalStateException", "java/lang/IllegalArgumentException", "java/lang/IndexOutOfBoundsException"]
def md_en (i : Nat) : String := (md_enL[i]?).getD ""
def md_gw : List Jvm.Cond := [.castable "java/lang/IllegalStateException" "java/lang/IllegalStateException", .castable "java/lang/IllegalArgumentException" "java/lang/IllegalArgumentException", .castable "java/lang/IndexOutOfBoundsException" "java/lang/IndexOutOfBoundsException", .declares ⟨"java/lang/RuntimeException", "<init>", "(Ljava/lang/String;)V"⟩, .declares ⟨"java/lang/Exception", "<init>", "(Ljava/lang/String;)V"⟩, .declares ⟨"java/lang/Throwable", "<init>", "(Ljava/lang/String;)V"⟩]
def md_nw : List (String × Nat × MethodName × String) := [("PaintBank", 11, ⟨"PaintBank$Text", "<init>", "()V"⟩, "PaintBank"), ("PaintBank$Line", 24, ⟨"PaintBank$Row", "<init>", "()V"⟩, "PaintBank"), ("PaintBank$Unloading", 31, ⟨"PaintBank$Row", "<init>", "()V"⟩, "PaintBank"), ("PaintBank$Exchange", 24, ⟨"PaintBank$Row", "<init>", "()V"⟩, "PaintBank"), ("PaintBank", 78, ⟨"PaintBank$Report", "<init>", "()V"⟩, "PaintBank")]
def md_ao : List String := ["PaintBank$Row", "PaintBank$Word", "PaintBank$Line"]
def md_nc : List (String × String) := [("java/lang/IllegalArgumentException", "java/lang/IllegalStateException"), ("java/lang/IndexOutOfBoundsException", "java/lang/IllegalStateException"), ("java/lang/IllegalStateException", "java/lang/IllegalArgumentException"), ("java/lang/IndexOutOfBoundsException", "java/lang/IllegalArgumentException"), ("java/lang/IllegalStateException", "java/lang/IndexOutOfBoundsException"), ("java/lang/IllegalArgumentException", "java/lang/IndexOutOfBoundsException")]
def md_hdL : List (Nat × Nat × Nat × Nat) := [(1, 11, 0, 19), (2, 4, 1, 12), (3, 3, 1, 11), (4, 3, 1, 11), (5, 4, 1, 12), (6, 4, 2, 12), (7, 4, 2, 12), (8, 4, 2, 12), (9, 4, 2, 12), (10, 4, 2, 12), (11, 4, 2, 12), (12, 4, 2, 12), (13, 5, 2, 13), (14, 4, 0, 15), (14, 4, 2, 12), (15, 4, 2, 19), (16, 4, 2, 12), (17, 4, 2, 12), (18, 4, 2, 12), (19, 4, 1, 12), (20, 4, 1, 12), (21, 4, 2, 12), (22, 4, 2, 12), (23, 5, 1, 17), (23, 5, 2, 13), (24, 4, 2, 12), (25, 3, 0, 11)]
def md_hd (j pc n : Nat) : Option Nat := (md_hdL.find? (fun q => q.1 == j && q.2.1 == pc && q.2.2.1 == n)).map (fun q => q.2.2.2)
def md_thl : List (Nat × Nat × Nat × Nat) := [(61, 16, 97, 0), (62, 15, 108, 1), (63, 21, 108, 1), (64, 20, 108, 1), (65, 136, 108, 1), (66, 15, 186, 2), (68, 15, 186, 2), (70, 15, 186, 2), (76, 22, 97, 0), (82, 11, 108, 1), (87, 20, 186, 2), (87, 40, 108, 1), (88, 15, 186, 2), (89, 7, 97, 0)]
def md_nM : Nat := 367
/-- the name as the table has it -/
def md_mn (k i : Nat) : MethodName := match (md_tb k)[i]? with
  | some (.code y _ _ _) => y
  | some (.codeWith y _ _ _ _) => y
  | _ => ⟨"A", "", ""⟩
def md_MT0 : List mm_Mt := [
  (x, code, maxLocals, ret, []),
  (⟨"PaintBankLaw", "feed", "(LPaintBank;IIIII[J)I"⟩, method_3_code, 8, some Jvm.ClassFile.FieldType.int, [(0, 16, 19, 13)]),
  (⟨"PaintBankLaw", "truncate", "(LPaintBank;I[J)I"⟩, method_4_code, 4, some Jvm.ClassFile.FieldType.int, [(0, 9, 12, 19)]),
  (⟨"PaintBankLaw", "readSetup", "(LPaintBank;[J)I"⟩, method_5_code, 3, some Jvm.ClassFile.FieldType.int, [(0, 8, 11, 19)]),
  (⟨"PaintBankLaw", "runScript", "(LPaintBank;[J)I"⟩, method_6_code, 3, some Jvm.ClassFile.FieldType.int, [(0, 8, 11, 19)]),
  (⟨"PaintBankLaw", "setting", "(LPaintBank;I[J)I"⟩, method_7_code, 4, some Jvm.ClassFile.FieldType.int, [(0, 9, 12, 19)]),
  (⟨"PaintBankLaw", "changeCost", "(LPaintBank;I[J)I"⟩, method_8_code, 4, some Jvm.ClassFile.FieldType.int, [(0, 9, 12, 34)]),
  (⟨"PaintBankLaw", "room", "(LPaintBank;I[J)I"⟩, method_9_code, 4, some Jvm.ClassFile.FieldType.int, [(0, 9, 12, 34)]),
  (⟨"PaintBankLaw", "body", "(LPaintBank;I[J)I"⟩, method_10_code, 4, some Jvm.ClassFile.FieldType.int, [(0, 9, 12, 34)]),
  (⟨"PaintBankLaw", "colorOf", "(LPaintBank;I[J)I"⟩, method_11_code, 4, some Jvm.ClassFile.FieldType.int, [(0, 9, 12, 34)]),
  (⟨"PaintBankLaw", "bad", "(LPaintBank;I[J)I"⟩, method_12_code, 4, some Jvm.ClassFile.FieldType.int, [(0, 9, 12, 34)]),
  (⟨"PaintBankLaw", "where", "(LPaintBank;I[J)I"⟩, method_13_code, 4, some Jvm.ClassFile.FieldType.int, [(0, 9, 12, 34)]),
  (⟨"PaintBankLaw", "laneLength", "(LPaintBank;I[J)I"⟩, method_14_code, 4, some Jvm.ClassFile.FieldType.int, [(0, 9, 12, 34)]),
  (⟨"PaintBankLaw", "inLane", "(LPaintBank;II[J)I"⟩, method_15_code, 5, some Jvm.ClassFile.FieldType.int, [(0, 10, 13, 34)]),
  (⟨"PaintBankLaw", "move", "(LPaintBank;I[J)I"⟩, method_16_code, 4, some Jvm.ClassFile.FieldType.int, [(0, 9, 12, 34), (0, 9, 15, 13)]),
  (⟨"PaintBankLaw", "canLeave", "(LPaintBank;I[J)I"⟩, method_17_code, 4, some Jvm.ClassFile.FieldType.int, [(0, 16, 19, 34)])]
def md_MT1 : List mm_Mt := [
  (⟨"PaintBankLaw", "enter", "(LPaintBank;I[J)I"⟩, method_18_code, 4, some Jvm.ClassFile.FieldType.int, [(0, 9, 12, 34)]),
  (⟨"PaintBankLaw", "leave", "(LPaintBank;I[J)I"⟩, method_19_code, 4, some Jvm.ClassFile.FieldType.int, [(0, 9, 12, 34)]),
  (⟨"PaintBankLaw", "back", "(LPaintBank;I[J)I"⟩, method_20_code, 4, some Jvm.ClassFile.FieldType.int, [(0, 9, 12, 34)]),
  (⟨"PaintBankLaw", "ruleCost", "(LPaintBank;I[J)I"⟩, method_21_code, 4, some Jvm.ClassFile.FieldType.int, [(0, 9, 12, 19)]),
  (⟨"PaintBankLaw", "ruleOut", "(LPaintBank;I[J)I"⟩, method_22_code, 4, some Jvm.ClassFile.FieldType.int, [(0, 9, 12, 19)]),
  (⟨"PaintBankLaw", "stepsToOut", "(LPaintBank;I[J)I"⟩, method_23_code, 4, some Jvm.ClassFile.FieldType.int, [(0, 9, 12, 34)]),
  (⟨"PaintBankLaw", "laneFor", "(LPaintBank;I[J)I"⟩, method_24_code, 4, some Jvm.ClassFile.FieldType.int, [(0, 9, 12, 34)]),
  (⟨"PaintBankLaw", "log", "(LPaintBank;II[J)I"⟩, method_25_code, 5, some Jvm.ClassFile.FieldType.int, [(0, 10, 13, 34), (0, 10, 17, 19)]),
  (⟨"PaintBankLaw", "reportByte", "(LPaintBank;I[J)I"⟩, method_26_code, 4, some Jvm.ClassFile.FieldType.int, [(0, 9, 12, 34)]),
  (⟨"PaintBankLaw", "restore", "(LPaintBank;[J)I"⟩, method_27_code, 3, some Jvm.ClassFile.FieldType.int, [(0, 8, 11, 13)]),
  (⟨"PaintBank", "<init>", "()V"⟩, prog_1_method_1_code, 1, none, []),
  (⟨"PaintBank", "errorCode", "()I"⟩, prog_1_method_6_code, 1, some Jvm.ClassFile.FieldType.int, []),
  (⟨"PaintBank", "errorPosition", "()I"⟩, prog_1_method_7_code, 1, some Jvm.ClassFile.FieldType.int, []),
  (⟨"PaintBank", "kinds", "()I"⟩, prog_1_method_14_code, 3, some Jvm.ClassFile.FieldType.int, []),
  (⟨"PaintBank", "commonest", "()I"⟩, prog_1_method_15_code, 3, some Jvm.ClassFile.FieldType.int, []),
  (⟨"PaintBank", "waiting", "()I"⟩, prog_1_method_17_code, 1, some Jvm.ClassFile.FieldType.int, [])]
def md_MT2 : List mm_Mt := [
  (⟨"PaintBank", "inRework", "(I)I"⟩, prog_1_method_20_code, 2, some Jvm.ClassFile.FieldType.int, []),
  (⟨"PaintBank", "readyIn", "()I"⟩, prog_1_method_21_code, 1, some Jvm.ClassFile.FieldType.int, []),
  (⟨"PaintBank", "outCount", "()I"⟩, prog_1_method_22_code, 1, some Jvm.ClassFile.FieldType.int, []),
  (⟨"PaintBank", "out", "(I)I"⟩, prog_1_method_23_code, 2, some Jvm.ClassFile.FieldType.int, []),
  (⟨"PaintBank", "late", "()I"⟩, prog_1_method_25_code, 3, some Jvm.ClassFile.FieldType.int, []),
  (⟨"PaintBank", "longestBatch", "()I"⟩, prog_1_method_26_code, 1, some Jvm.ClassFile.FieldType.int, []),
  (⟨"PaintBank", "hose", "()I"⟩, prog_1_method_28_code, 1, some Jvm.ClassFile.FieldType.int, []),
  (⟨"PaintBank", "run", "()I"⟩, prog_1_method_29_code, 1, some Jvm.ClassFile.FieldType.int, []),
  (⟨"PaintBank", "time", "()I"⟩, prog_1_method_30_code, 1, some Jvm.ClassFile.FieldType.int, []),
  (⟨"PaintBank", "changes", "()I"⟩, prog_1_method_31_code, 1, some Jvm.ClassFile.FieldType.int, []),
  (⟨"PaintBank", "purges", "()I"⟩, prog_1_method_32_code, 1, some Jvm.ClassFile.FieldType.int, []),
  (⟨"PaintBank", "cost", "()I"⟩, prog_1_method_33_code, 1, some Jvm.ClassFile.FieldType.int, []),
  (⟨"PaintBank", "waits", "()I"⟩, prog_1_method_37_code, 1, some Jvm.ClassFile.FieldType.int, []),
  (⟨"PaintBank", "keptIfDone", "(I)I"⟩, prog_1_method_63_code, 2, some Jvm.ClassFile.FieldType.int, []),
  (⟨"PaintBank", "step", "()I"⟩, prog_1_method_38_code, 1, some Jvm.ClassFile.FieldType.int, []),
  (⟨"PaintBank", "unload", "()I"⟩, prog_1_method_39_code, 2, some Jvm.ClassFile.FieldType.int, [])]
def md_MT3 : List mm_Mt := [
  (⟨"PaintBank", "swap", "()I"⟩, prog_1_method_40_code, 2, some Jvm.ClassFile.FieldType.int, []),
  (⟨"PaintBank", "unloadCost", "()I"⟩, prog_1_method_45_code, 1, some Jvm.ClassFile.FieldType.int, []),
  (⟨"PaintBank", "unloadChanges", "()I"⟩, prog_1_method_46_code, 1, some Jvm.ClassFile.FieldType.int, []),
  (⟨"PaintBank", "unloadLane", "(I)I"⟩, prog_1_method_47_code, 2, some Jvm.ClassFile.FieldType.int, []),
  (⟨"PaintBank", "laneBound", "()I"⟩, prog_1_method_48_code, 1, some Jvm.ClassFile.FieldType.int, []),
  (⟨"PaintBank", "bound", "()I"⟩, prog_1_method_49_code, 1, some Jvm.ClassFile.FieldType.int, []),
  (⟨"PaintBank", "waitingChanges", "()I"⟩, prog_1_method_50_code, 1, some Jvm.ClassFile.FieldType.int, []),
  (⟨"PaintBank", "swapChanges", "()I"⟩, prog_1_method_51_code, 1, some Jvm.ClassFile.FieldType.int, []),
  (⟨"PaintBank", "swapColor", "(I)I"⟩, prog_1_method_52_code, 2, some Jvm.ClassFile.FieldType.int, []),
  (⟨"PaintBank", "logCount", "()I"⟩, prog_1_method_53_code, 1, some Jvm.ClassFile.FieldType.int, []),
  (⟨"PaintBank", "report", "()I"⟩, prog_1_method_55_code, 1, some Jvm.ClassFile.FieldType.int, []),
  (⟨"PaintBank", "undo", "()I"⟩, prog_1_method_57_code, 1, some Jvm.ClassFile.FieldType.int, []),
  (⟨"PaintBank", "save", "()I"⟩, prog_1_method_58_code, 1, some Jvm.ClassFile.FieldType.int, []),
  (⟨"PaintBank", "feed", "(IIIII)I"⟩, prog_1_method_2_code, 6, some Jvm.ClassFile.FieldType.int, []),
  (⟨"PaintBank", "truncate", "(I)I"⟩, prog_1_method_3_code, 2, some Jvm.ClassFile.FieldType.int, []),
  (⟨"PaintBank", "readSetup", "()I"⟩, prog_1_method_4_code, 2, some Jvm.ClassFile.FieldType.int, [])]
def md_MT4 : List mm_Mt := [
  (⟨"PaintBank", "runScript", "()I"⟩, prog_1_method_5_code, 4, some Jvm.ClassFile.FieldType.int, []),
  (⟨"PaintBank", "setting", "(I)I"⟩, prog_1_method_8_code, 2, some Jvm.ClassFile.FieldType.int, []),
  (⟨"PaintBank", "changeCost", "(I)I"⟩, prog_1_method_9_code, 2, some Jvm.ClassFile.FieldType.int, []),
  (⟨"PaintBank", "room", "(I)I"⟩, prog_1_method_10_code, 2, some Jvm.ClassFile.FieldType.int, []),
  (⟨"PaintBank", "checkLane", "(I)V"⟩, prog_1_method_60_code, 2, none, []),
  (⟨"PaintBank", "body", "(I)I"⟩, prog_1_method_11_code, 2, some Jvm.ClassFile.FieldType.int, []),
  (⟨"PaintBank", "checkCar", "(I)V"⟩, prog_1_method_61_code, 2, none, []),
  (⟨"PaintBank", "colorOf", "(I)I"⟩, prog_1_method_12_code, 2, some Jvm.ClassFile.FieldType.int, []),
  (⟨"PaintBank", "bad", "(I)I"⟩, prog_1_method_13_code, 2, some Jvm.ClassFile.FieldType.int, []),
  (⟨"PaintBank", "where", "(I)I"⟩, prog_1_method_16_code, 2, some Jvm.ClassFile.FieldType.int, []),
  (⟨"PaintBank", "laneLength", "(I)I"⟩, prog_1_method_18_code, 2, some Jvm.ClassFile.FieldType.int, []),
  (⟨"PaintBank", "inLane", "(II)I"⟩, prog_1_method_19_code, 3, some Jvm.ClassFile.FieldType.int, []),
  (⟨"PaintBank", "move", "(I)I"⟩, prog_1_method_24_code, 3, some Jvm.ClassFile.FieldType.int, []),
  (⟨"PaintBank", "canLeave", "(I)Z"⟩, prog_1_method_27_code, 2, some Jvm.ClassFile.FieldType.boolean, []),
  (⟨"PaintBank", "enter", "(I)I"⟩, prog_1_method_34_code, 2, some Jvm.ClassFile.FieldType.int, []),
  (⟨"PaintBank", "leave", "(I)I"⟩, prog_1_method_35_code, 2, some Jvm.ClassFile.FieldType.int, [])]
def md_MT5 : List mm_Mt := [
  (⟨"PaintBank", "back", "(I)I"⟩, prog_1_method_36_code, 2, some Jvm.ClassFile.FieldType.int, []),
  (⟨"PaintBank", "ruleCost", "(I)I"⟩, prog_1_method_41_code, 2, some Jvm.ClassFile.FieldType.int, []),
  (⟨"PaintBank", "checkSteps", "(I)V"⟩, prog_1_method_62_code, 1, none, []),
  (⟨"PaintBank", "lookAhead", "(II)I"⟩, prog_1_method_64_code, 4, some Jvm.ClassFile.FieldType.int, []),
  (⟨"PaintBank", "ruleOut", "(I)I"⟩, prog_1_method_42_code, 2, some Jvm.ClassFile.FieldType.int, []),
  (⟨"PaintBank", "stepsToOut", "(I)I"⟩, prog_1_method_43_code, 3, some Jvm.ClassFile.FieldType.int, []),
  (⟨"PaintBank", "laneFor", "(I)I"⟩, prog_1_method_44_code, 2, some Jvm.ClassFile.FieldType.int, []),
  (⟨"PaintBank", "log", "(II)I"⟩, prog_1_method_54_code, 3, some Jvm.ClassFile.FieldType.int, []),
  (⟨"PaintBank", "reportByte", "(I)I"⟩, prog_1_method_56_code, 2, some Jvm.ClassFile.FieldType.int, []),
  (⟨"PaintBank", "restore", "()I"⟩, prog_1_method_59_code, 1, some Jvm.ClassFile.FieldType.int, []),
  (⟨"PaintBank$Word", "spelled", "(J)LPaintBank$Word;"⟩, prog_13_method_6_code, 3, some (Jvm.ClassFile.FieldType.object "PaintBank$Word"), []),
  (⟨"PaintBank$Text", "<init>", "()V"⟩, prog_11_method_1_code, 1, none, []),
  (⟨"PaintBank$Text", "append", "(I)V"⟩, prog_11_method_2_code, 3, none, []),
  (⟨"PaintBank$Text", "rewind", "()V"⟩, prog_11_method_3_code, 1, none, []),
  (⟨"PaintBank$Text", "advance", "()V"⟩, prog_11_method_10_code, 1, none, []),
  (⟨"PaintBank$Text", "isBlank", "(B)Z"⟩, prog_11_method_14_code, 1, some Jvm.ClassFile.FieldType.boolean, [])]
def md_MT6 : List mm_Mt := [
  (⟨"PaintBank$Text", "isLetter", "(B)Z"⟩, prog_11_method_15_code, 1, some Jvm.ClassFile.FieldType.boolean, []),
  (⟨"PaintBank$Text", "readWord", "()V"⟩, prog_11_method_11_code, 1, none, []),
  (⟨"PaintBank$Text", "isDigit", "(B)Z"⟩, prog_11_method_16_code, 1, some Jvm.ClassFile.FieldType.boolean, []),
  (⟨"PaintBank$Text", "readNumber", "()V"⟩, prog_11_method_12_code, 1, none, []),
  (⟨"PaintBank$Text", "kindOfMark", "(I)I"⟩, prog_11_method_13_code, 1, some Jvm.ClassFile.FieldType.int, []),
  (⟨"PaintBank$Text", "fail", "(I)Z"⟩, prog_11_method_4_code, 2, some Jvm.ClassFile.FieldType.boolean, []),
  (⟨"PaintBank$Text", "takeWord", "(LPaintBank$Word;)Z"⟩, prog_11_method_7_code, 2, some Jvm.ClassFile.FieldType.boolean, []),
  (⟨"PaintBank$Text", "takeNumber", "(II)Z"⟩, prog_11_method_9_code, 3, some Jvm.ClassFile.FieldType.boolean, []),
  (⟨"PaintBank$Text", "takeIfNext", "(LPaintBank$Word;)Z"⟩, prog_11_method_8_code, 3, some Jvm.ClassFile.FieldType.boolean, []),
  (⟨"PaintBank$Text", "takeSemicolon", "()Z"⟩, prog_11_method_5_code, 1, some Jvm.ClassFile.FieldType.boolean, []),
  (⟨"PaintBank$Text", "takeOpening", "()Z"⟩, prog_11_method_6_code, 1, some Jvm.ClassFile.FieldType.boolean, []),
  (⟨"PaintBank$Setup", "<init>", "()V"⟩, prog_9_method_1_code, 1, none, []),
  (⟨"PaintBank$Setup", "clear", "()V"⟩, prog_9_method_2_code, 1, none, []),
  (⟨"PaintBank$Setup", "eventsOf", "(III)I"⟩, prog_9_method_7_code, 4, some Jvm.ClassFile.FieldType.int, []),
  (⟨"PaintBank$Setup", "priceOf", "(II)I"⟩, prog_9_method_8_code, 3, some Jvm.ClassFile.FieldType.int, []),
  (⟨"PaintBank$Setup", "runAfter", "(II)I"⟩, prog_9_method_9_code, 2, some Jvm.ClassFile.FieldType.int, [])]
def md_MT7 : List mm_Mt := [
  (⟨"PaintBank$Setup", "bodyOfCar", "(I)I"⟩, prog_9_method_4_code, 2, some Jvm.ClassFile.FieldType.int, []),
  (⟨"PaintBank$Setup", "nameOfColor", "(I)J"⟩, prog_9_method_5_code, 2, some Jvm.ClassFile.FieldType.long, []),
  (⟨"PaintBank$Setup", "copyFrom", "(LPaintBank$Setup;)V"⟩, prog_9_method_3_code, 2, none, []),
  (⟨"PaintBank$Setup", "colorNamed", "(J)I"⟩, prog_9_method_6_code, 4, some Jvm.ClassFile.FieldType.int, []),
  (⟨"PaintBank$SetupReader", "<init>", "(LPaintBank$Text;)V"⟩, prog_10_method_1_code, 2, none, []),
  (⟨"PaintBank$SetupReader", "readAll", "()I"⟩, prog_10_method_2_code, 2, some Jvm.ClassFile.FieldType.int, []),
  (⟨"PaintBank$SetupReader", "readStatement", "()Z"⟩, prog_10_method_3_code, 1, some Jvm.ClassFile.FieldType.boolean, []),
  (⟨"PaintBank$SetupReader", "readColor", "()Z"⟩, prog_10_method_4_code, 2, some Jvm.ClassFile.FieldType.boolean, []),
  (⟨"PaintBank$SetupReader", "readLane", "()Z"⟩, prog_10_method_5_code, 2, some Jvm.ClassFile.FieldType.boolean, []),
  (⟨"PaintBank$SetupReader", "readCar", "()Z"⟩, prog_10_method_6_code, 3, some Jvm.ClassFile.FieldType.boolean, []),
  (⟨"PaintBank$SetupReader", "readWindow", "()Z"⟩, prog_10_method_7_code, 1, some Jvm.ClassFile.FieldType.boolean, []),
  (⟨"PaintBank$SetupReader", "readBatch", "()Z"⟩, prog_10_method_8_code, 1, some Jvm.ClassFile.FieldType.boolean, []),
  (⟨"PaintBank$SetupReader", "readRework", "()Z"⟩, prog_10_method_9_code, 1, some Jvm.ClassFile.FieldType.boolean, []),
  (⟨"PaintBank$SetupReader", "readSpan", "()Z"⟩, prog_10_method_10_code, 1, some Jvm.ClassFile.FieldType.boolean, []),
  (⟨"PaintBank$Line", "<init>", "(LPaintBank$Setup;)V"⟩, prog_5_method_1_code, 3, none, []),
  (⟨"PaintBank$Line", "likeFrom", "(II)I"⟩, prog_5_method_10_code, 5, some Jvm.ClassFile.FieldType.int, [])]
def md_MT8 : List mm_Mt := [
  (⟨"PaintBank$Line", "waitingCount", "()I"⟩, prog_5_method_4_code, 1, some Jvm.ClassFile.FieldType.int, []),
  (⟨"PaintBank$Line", "timeToReady", "()I"⟩, prog_5_method_13_code, 1, some Jvm.ClassFile.FieldType.int, []),
  (⟨"PaintBank$Line", "longestRowOut", "()I"⟩, prog_5_method_11_code, 5, some Jvm.ClassFile.FieldType.int, []),
  (⟨"PaintBank$Line", "colorOfCar", "(I)I"⟩, prog_5_method_8_code, 2, some Jvm.ClassFile.FieldType.int, []),
  (⟨"PaintBank$Line", "copyFrom", "(LPaintBank$Line;)V"⟩, prog_5_method_3_code, 3, none, []),
  (⟨"PaintBank$Line", "passTime", "()I"⟩, prog_5_method_21_code, 1, some Jvm.ClassFile.FieldType.int, []),
  (⟨"PaintBank$Line", "stepByRule", "()I"⟩, prog_5_method_22_code, 1, some Jvm.ClassFile.FieldType.int, []),
  (⟨"PaintBank$Line", "firstIsReady", "()Z"⟩, prog_5_method_19_code, 1, some Jvm.ClassFile.FieldType.boolean, []),
  (⟨"PaintBank$Line", "chosenLane", "(I)I"⟩, prog_5_method_23_code, 6, some Jvm.ClassFile.FieldType.int, []),
  (⟨"PaintBank$Line", "hasRoom", "(I)Z"⟩, prog_5_method_7_code, 2, some Jvm.ClassFile.FieldType.boolean, []),
  (⟨"PaintBank$Line", "comeBack", "(I)I"⟩, prog_5_method_20_code, 3, some Jvm.ClassFile.FieldType.int, []),
  (md_mn 3 221, prog_5_method_14_code, 3, some Jvm.ClassFile.FieldType.int, []),
  (⟨"PaintBank$Line", "chosenToLeave", "()I"⟩, prog_5_method_24_code, 5, some Jvm.ClassFile.FieldType.int, []),
  (⟨"PaintBank$Line", "mayLeave", "(I)Z"⟩, prog_5_method_15_code, 3, some Jvm.ClassFile.FieldType.boolean, []),
  (⟨"PaintBank$Line", "paintFrom", "(I)I"⟩, prog_5_method_16_code, 4, some Jvm.ClassFile.FieldType.int, []),
  (⟨"PaintBank$Line", "paint", "(IZ)V"⟩, prog_5_method_17_code, 5, none, [])]
def md_MT9 : List mm_Mt := [
  (⟨"PaintBank$Line", "note", "(III)V"⟩, prog_5_method_18_code, 5, none, []),
  (⟨"PaintBank$Line", "carsInLanes", "()I"⟩, prog_5_method_6_code, 3, some Jvm.ClassFile.FieldType.int, []),
  (⟨"PaintBank$Line", "recolor", "(II)Z"⟩, prog_5_method_9_code, 3, some Jvm.ClassFile.FieldType.boolean, []),
  (⟨"PaintBank$Line", "colorsInLanes", "()I"⟩, prog_5_method_25_code, 4, some Jvm.ClassFile.FieldType.int, []),
  (⟨"PaintBank$Line", "boundOf", "(I)I"⟩, prog_5_method_27_code, 5, some Jvm.ClassFile.FieldType.int, []),
  (⟨"PaintBank$Line", "colorsNotOut", "()I"⟩, prog_5_method_26_code, 3, some Jvm.ClassFile.FieldType.int, []),
  (⟨"PaintBank$Line", "changesAmongWaiting", "()I"⟩, prog_5_method_12_code, 3, some Jvm.ClassFile.FieldType.int, []),
  (⟨"PaintBank$Line", "startOver", "()V"⟩, prog_5_method_2_code, 2, none, []),
  (⟨"PaintBank$Line", "placeKind", "(I)I"⟩, prog_5_method_5_code, 2, some Jvm.ClassFile.FieldType.int, []),
  (⟨"PaintBank$Row", "<init>", "()V"⟩, prog_7_method_1_code, 1, none, []),
  (⟨"PaintBank$Row", "at", "(I)I"⟩, prog_7_method_2_code, 2, some Jvm.ClassFile.FieldType.int, []),
  (⟨"PaintBank$Row", "copyFrom", "(LPaintBank$Row;)V"⟩, prog_7_method_7_code, 2, none, []),
  (⟨"PaintBank$Row", "last", "()I"⟩, prog_7_method_3_code, 1, some Jvm.ClassFile.FieldType.int, []),
  (⟨"PaintBank$Row", "dropFirst", "()V"⟩, prog_7_method_6_code, 1, none, []),
  (⟨"PaintBank$Row", "add", "(I)V"⟩, prog_7_method_5_code, 2, none, []),
  (⟨"PaintBank$Row", "find", "(I)I"⟩, prog_7_method_4_code, 3, some Jvm.ClassFile.FieldType.int, [])]
def md_MT10 : List mm_Mt := [
  (⟨"PaintBank$Unloading", "<init>", "(LPaintBank$Setup;LPaintBank$Line;)V"⟩, prog_12_method_1_code, 3, none, []),
  (⟨"PaintBank$Unloading", "plan", "()V"⟩, prog_12_method_2_code, 2, none, []),
  (⟨"PaintBank$Unloading", "weighLanes", "()I"⟩, prog_12_method_3_code, 3, some Jvm.ClassFile.FieldType.int, []),
  (⟨"PaintBank$Unloading", "forgetWorths", "(I)V"⟩, prog_12_method_4_code, 4, none, []),
  (⟨"PaintBank$Unloading", "worthOfRest", "(IIII)I"⟩, prog_12_method_6_code, 9, some Jvm.ClassFile.FieldType.int, []),
  (⟨"PaintBank$Unloading", "keyOf", "(III)I"⟩, prog_12_method_5_code, 5, some Jvm.ClassFile.FieldType.int, []),
  (⟨"PaintBank$Unloading", "worthThrough", "(IIIII)I"⟩, prog_12_method_7_code, 11, some Jvm.ClassFile.FieldType.int, []),
  (⟨"PaintBank$Unloading", "fitsOut", "(II)Z"⟩, prog_12_method_8_code, 3, some Jvm.ClassFile.FieldType.boolean, []),
  (⟨"PaintBank$Unloading", "collectLanes", "()V"⟩, prog_12_method_9_code, 8, none, []),
  (⟨"PaintBank$Unloading", "carryOut", "()I"⟩, prog_12_method_10_code, 3, some Jvm.ClassFile.FieldType.int, []),
  (⟨"PaintBank$Exchange", "<init>", "(LPaintBank$Setup;LPaintBank$Line;)V"⟩, prog_3_method_1_code, 3, none, []),
  (⟨"PaintBank$Exchange", "plan", "()V"⟩, prog_3_method_2_code, 3, none, []),
  (⟨"PaintBank$Exchange", "forgetWays", "()V"⟩, prog_3_method_4_code, 3, none, []),
  (⟨"PaintBank$Exchange", "offerJob", "(II)V"⟩, prog_3_method_3_code, 7, none, []),
  (⟨"PaintBank$Exchange", "waysFrom", "(II)I"⟩, prog_3_method_5_code, 8, some Jvm.ClassFile.FieldType.int, []),
  (⟨"PaintBank$Exchange", "firstJob", "(III)I"⟩, prog_3_method_6_code, 6, some Jvm.ClassFile.FieldType.int, [])]
def md_MT11 : List mm_Mt := [
  (⟨"PaintBank$Exchange", "fewestOf", "(II)I"⟩, prog_3_method_7_code, 2, some Jvm.ClassFile.FieldType.int, []),
  (⟨"PaintBank$Exchange", "fewestOfAll", "(I)I"⟩, prog_3_method_8_code, 3, some Jvm.ClassFile.FieldType.int, []),
  (⟨"PaintBank$Exchange", "collectColors", "()V"⟩, prog_3_method_9_code, 7, none, []),
  (⟨"PaintBank$Exchange", "lowestColor", "(III)I"⟩, prog_3_method_10_code, 5, some Jvm.ClassFile.FieldType.int, []),
  (⟨"PaintBank$Exchange", "carryOut", "()I"⟩, prog_3_method_11_code, 3, some Jvm.ClassFile.FieldType.int, []),
  (⟨"PaintBank$Script", "<init>", "(LPaintBank$Text;LPaintBank$Line;LPaintBank$Unloading;LPaintBank$Exchange;)V"⟩, prog_8_method_1_code, 6, none, []),
  (⟨"PaintBank$Script", "readAll", "()Z"⟩, prog_8_method_2_code, 3, some Jvm.ClassFile.FieldType.boolean, []),
  (⟨"PaintBank$Script", "closeRepeat", "()Z"⟩, prog_8_method_3_code, 1, some Jvm.ClassFile.FieldType.boolean, []),
  (⟨"PaintBank$Script", "add", "(LPaintBank$Word;I)V"⟩, prog_8_method_5_code, 3, none, []),
  (⟨"PaintBank$Script", "readCommand", "()Z"⟩, prog_8_method_4_code, 2, some Jvm.ClassFile.FieldType.boolean, []),
  (⟨"PaintBank$Script", "play", "()I"⟩, prog_8_method_6_code, 4, some Jvm.ClassFile.FieldType.int, []),
  (⟨"PaintBank$Script", "behindBracket", "(I)I"⟩, prog_8_method_7_code, 3, some Jvm.ClassFile.FieldType.int, []),
  (⟨"PaintBank$Script", "carryOut", "(LPaintBank$Word;I)Z"⟩, prog_8_method_8_code, 3, some Jvm.ClassFile.FieldType.boolean, []),
  (⟨"PaintBank$Script", "waitTimes", "(I)Z"⟩, prog_8_method_9_code, 3, some Jvm.ClassFile.FieldType.boolean, []),
  (⟨"PaintBank$Script", "stepTimes", "(I)Z"⟩, prog_8_method_10_code, 3, some Jvm.ClassFile.FieldType.boolean, []),
  (⟨"PaintBank$History", "<init>", "(LPaintBank$Setup;)V"⟩, prog_4_method_1_code, 3, none, [])]
def md_MT12 : List mm_Mt := [
  (⟨"PaintBank$History", "draft", "(LPaintBank$Line;)V"⟩, prog_4_method_2_code, 2, none, []),
  (⟨"PaintBank$History", "keep", "()V"⟩, prog_4_method_3_code, 1, none, []),
  (⟨"PaintBank$History", "takeBack", "(LPaintBank$Line;)Z"⟩, prog_4_method_4_code, 2, some Jvm.ClassFile.FieldType.boolean, []),
  (⟨"PaintBank$History", "forget", "()V"⟩, prog_4_method_5_code, 1, none, []),
  (⟨"PaintBank$Report", "<init>", "()V"⟩, prog_6_method_1_code, 1, none, []),
  (⟨"PaintBank$Report", "write", "(LPaintBank$Setup;LPaintBank$Line;)I"⟩, prog_6_method_2_code, 4, some Jvm.ClassFile.FieldType.int, []),
  (⟨"PaintBank$Report", "addText", "(Ljava/lang/String;)V"⟩, prog_6_method_4_code, 3, none, []),
  (⟨"PaintBank$Report", "add", "(I)V"⟩, prog_6_method_6_code, 2, none, []),
  (⟨"PaintBank$Report", "addCars", "(LPaintBank$Setup;LPaintBank$Line;LPaintBank$Row;)V"⟩, prog_6_method_3_code, 6, none, []),
  (⟨"PaintBank$Report", "addLetters", "(J)V"⟩, prog_6_method_5_code, 5, none, []),
  (⟨"PaintBankModel", "<init>", "()V"⟩, prog_15_method_1_code, 1, none, []),
  (⟨"PaintBankModel", "begins", "([I)V"⟩, prog_15_method_30_code, 2, none, []),
  (⟨"PaintBankModel", "thrown", "()I"⟩, prog_15_method_2_code, 1, some Jvm.ClassFile.FieldType.int, []),
  (⟨"PaintBankModel", "feed", "(IIIII)I"⟩, prog_15_method_9_code, 6, some Jvm.ClassFile.FieldType.int, []),
  (⟨"PaintBankModel", "goes", "(Z)Z"⟩, prog_15_method_8_code, 2, some Jvm.ClassFile.FieldType.boolean, []),
  (⟨"PaintBankModel", "truth", "(Z)I"⟩, prog_15_method_4_code, 1, some Jvm.ClassFile.FieldType.int, [])]
def md_MT13 : List mm_Mt := [
  (⟨"PaintBankModel", "four", "(I)V"⟩, prog_15_method_10_code, 3, none, []),
  (⟨"PaintBankModel", "truncate", "(I)I"⟩, prog_15_method_11_code, 2, some Jvm.ClassFile.FieldType.int, []),
  (⟨"PaintBankModel", "isIn", "(JJJ)Z"⟩, prog_15_method_3_code, 6, some Jvm.ClassFile.FieldType.boolean, []),
  (⟨"PaintBankModel", "errorCode", "()I"⟩, prog_15_method_28_code, 1, some Jvm.ClassFile.FieldType.int, []),
  (⟨"PaintBankModel", "errorPosition", "()I"⟩, prog_15_method_29_code, 1, some Jvm.ClassFile.FieldType.int, []),
  (⟨"PaintBankModel", "readSetup", "()I"⟩, prog_15_method_40_code, 2, some Jvm.ClassFile.FieldType.int, []),
  (⟨"PaintBankModel", "beginsText", "()V"⟩, prog_15_method_26_code, 1, none, []),
  (⟨"PaintBankModel", "goOn", "()V"⟩, prog_15_method_15_code, 3, none, []),
  (⟨"PaintBankModel", "here", "(I)I"⟩, prog_15_method_12_code, 2, some Jvm.ClassFile.FieldType.int, []),
  (⟨"PaintBankModel", "isLetter", "(I)Z"⟩, prog_15_method_13_code, 1, some Jvm.ClassFile.FieldType.boolean, []),
  (⟨"PaintBankModel", "isDigit", "(I)Z"⟩, prog_15_method_14_code, 1, some Jvm.ClassFile.FieldType.boolean, []),
  (⟨"PaintBankModel", "isGood", "()Z"⟩, prog_15_method_17_code, 1, some Jvm.ClassFile.FieldType.boolean, []),
  (⟨"PaintBankModel", "statement", "()V"⟩, prog_15_method_39_code, 1, none, []),
  (⟨"PaintBankModel", "isWord", "(J)Z"⟩, prog_15_method_18_code, 3, some Jvm.ClassFile.FieldType.boolean, []),
  (⟨"PaintBankModel", "readsColor", "()V"⟩, prog_15_method_35_code, 2, none, []),
  (⟨"PaintBankModel", "begin", "(II)Z"⟩, prog_15_method_34_code, 3, some Jvm.ClassFile.FieldType.boolean, [])]
def md_MT14 : List mm_Mt := [
  (⟨"PaintBankModel", "wrong", "(I)V"⟩, prog_15_method_16_code, 2, none, []),
  (⟨"PaintBankModel", "nameHere", "()V"⟩, prog_15_method_33_code, 1, none, []),
  (⟨"PaintBankModel", "isName", "()Z"⟩, prog_15_method_25_code, 2, some Jvm.ClassFile.FieldType.boolean, []),
  (⟨"PaintBankModel", "named", "()I"⟩, prog_15_method_32_code, 2, some Jvm.ClassFile.FieldType.int, []),
  (⟨"PaintBankModel", "numberBehind", "(JII)I"⟩, prog_15_method_24_code, 5, some Jvm.ClassFile.FieldType.int, []),
  (⟨"PaintBankModel", "must", "(J)V"⟩, prog_15_method_21_code, 3, none, []),
  (⟨"PaintBankModel", "takes", "(J)Z"⟩, prog_15_method_20_code, 4, some Jvm.ClassFile.FieldType.boolean, []),
  (⟨"PaintBankModel", "number", "(II)I"⟩, prog_15_method_23_code, 4, some Jvm.ClassFile.FieldType.int, []),
  (⟨"PaintBankModel", "readsLane", "()V"⟩, prog_15_method_36_code, 2, none, []),
  (⟨"PaintBankModel", "readsCar", "()V"⟩, prog_15_method_37_code, 3, none, []),
  (⟨"PaintBankModel", "once", "(Z)Z"⟩, prog_15_method_38_code, 2, some Jvm.ClassFile.FieldType.boolean, []),
  (⟨"PaintBankModel", "mustSign", "(I)V"⟩, prog_15_method_22_code, 2, none, []),
  (⟨"PaintBankModel", "isSign", "(I)Z"⟩, prog_15_method_19_code, 2, some Jvm.ClassFile.FieldType.boolean, []),
  (⟨"PaintBankModel", "endsText", "()Z"⟩, prog_15_method_27_code, 1, some Jvm.ClassFile.FieldType.boolean, []),
  (⟨"PaintBankModel", "copies", "([I[I)V"⟩, prog_15_method_31_code, 3, none, []),
  (⟨"PaintBankModel", "setting", "(I)I"⟩, prog_15_method_43_code, 2, some Jvm.ClassFile.FieldType.int, [])]
def md_MT15 : List mm_Mt := [
  (⟨"PaintBankModel", "changeCost", "(I)I"⟩, prog_15_method_44_code, 2, some Jvm.ClassFile.FieldType.int, []),
  (⟨"PaintBankModel", "room", "(I)I"⟩, prog_15_method_45_code, 2, some Jvm.ClassFile.FieldType.int, []),
  (⟨"PaintBankModel", "isLane", "(I)Z"⟩, prog_15_method_42_code, 2, some Jvm.ClassFile.FieldType.boolean, []),
  (⟨"PaintBankModel", "body", "(I)I"⟩, prog_15_method_46_code, 2, some Jvm.ClassFile.FieldType.int, []),
  (⟨"PaintBankModel", "isCar", "(I)Z"⟩, prog_15_method_41_code, 2, some Jvm.ClassFile.FieldType.boolean, []),
  (⟨"PaintBankModel", "colorOf", "(I)I"⟩, prog_15_method_47_code, 2, some Jvm.ClassFile.FieldType.int, []),
  (⟨"PaintBankModel", "bad", "(I)I"⟩, prog_15_method_48_code, 2, some Jvm.ClassFile.FieldType.int, []),
  (⟨"PaintBankModel", "kinds", "()I"⟩, prog_15_method_50_code, 5, some Jvm.ClassFile.FieldType.int, []),
  (⟨"PaintBankModel", "commonest", "()I"⟩, prog_15_method_51_code, 3, some Jvm.ClassFile.FieldType.int, []),
  (⟨"PaintBankModel", "alike", "(I)I"⟩, prog_15_method_49_code, 4, some Jvm.ClassFile.FieldType.int, []),
  (⟨"PaintBankModel", "more", "(II)I"⟩, prog_15_method_6_code, 2, some Jvm.ClassFile.FieldType.int, []),
  (⟨"PaintBankModel", "where", "(I)I"⟩, prog_15_method_55_code, 2, some Jvm.ClassFile.FieldType.int, []),
  (⟨"PaintBankModel", "whereIs", "(I)I"⟩, prog_15_method_54_code, 2, some Jvm.ClassFile.FieldType.int, []),
  (⟨"PaintBankModel", "outAt", "(I)I"⟩, prog_15_method_53_code, 2, some Jvm.ClassFile.FieldType.int, []),
  (⟨"PaintBankModel", "inRow", "(III)I"⟩, prog_15_method_52_code, 5, some Jvm.ClassFile.FieldType.int, []),
  (⟨"PaintBankModel", "waiting", "()I"⟩, prog_15_method_56_code, 1, some Jvm.ClassFile.FieldType.int, [])]
def md_MT16 : List mm_Mt := [
  (⟨"PaintBankModel", "laneLength", "(I)I"⟩, prog_15_method_57_code, 2, some Jvm.ClassFile.FieldType.int, []),
  (⟨"PaintBankModel", "inLane", "(II)I"⟩, prog_15_method_59_code, 3, some Jvm.ClassFile.FieldType.int, []),
  (⟨"PaintBankModel", "carIn", "(II)I"⟩, prog_15_method_58_code, 3, some Jvm.ClassFile.FieldType.int, []),
  (⟨"PaintBankModel", "inRework", "(I)I"⟩, prog_15_method_60_code, 2, some Jvm.ClassFile.FieldType.int, []),
  (⟨"PaintBankModel", "readyIn", "()I"⟩, prog_15_method_61_code, 1, some Jvm.ClassFile.FieldType.int, []),
  (⟨"PaintBankModel", "outCount", "()I"⟩, prog_15_method_62_code, 1, some Jvm.ClassFile.FieldType.int, []),
  (⟨"PaintBankModel", "out", "(I)I"⟩, prog_15_method_63_code, 2, some Jvm.ClassFile.FieldType.int, []),
  (⟨"PaintBankModel", "move", "(I)I"⟩, prog_15_method_64_code, 2, some Jvm.ClassFile.FieldType.int, []),
  (⟨"PaintBankModel", "late", "()I"⟩, prog_15_method_65_code, 3, some Jvm.ClassFile.FieldType.int, []),
  (⟨"PaintBankModel", "longestBatch", "()I"⟩, prog_15_method_66_code, 5, some Jvm.ClassFile.FieldType.int, []),
  (⟨"PaintBankModel", "canLeave", "(I)Z"⟩, prog_15_method_68_code, 2, some Jvm.ClassFile.FieldType.boolean, []),
  (⟨"PaintBankModel", "mayLeave", "(I)Z"⟩, prog_15_method_67_code, 3, some Jvm.ClassFile.FieldType.boolean, []),
  (⟨"PaintBankModel", "hose", "()I"⟩, prog_15_method_70_code, 1, some Jvm.ClassFile.FieldType.int, []),
  (⟨"PaintBankModel", "told", "(I)I"⟩, prog_15_method_69_code, 2, some Jvm.ClassFile.FieldType.int, []),
  (⟨"PaintBankModel", "run", "()I"⟩, prog_15_method_71_code, 1, some Jvm.ClassFile.FieldType.int, []),
  (⟨"PaintBankModel", "time", "()I"⟩, prog_15_method_72_code, 1, some Jvm.ClassFile.FieldType.int, [])]
def md_MT17 : List mm_Mt := [
  (⟨"PaintBankModel", "changes", "()I"⟩, prog_15_method_73_code, 1, some Jvm.ClassFile.FieldType.int, []),
  (⟨"PaintBankModel", "purges", "()I"⟩, prog_15_method_74_code, 1, some Jvm.ClassFile.FieldType.int, []),
  (⟨"PaintBankModel", "cost", "()I"⟩, prog_15_method_75_code, 1, some Jvm.ClassFile.FieldType.int, []),
  (⟨"PaintBankModel", "enter", "(I)I"⟩, prog_15_method_85_code, 2, some Jvm.ClassFile.FieldType.int, []),
  (⟨"PaintBankModel", "mayEnter", "(I)Z"⟩, prog_15_method_79_code, 2, some Jvm.ClassFile.FieldType.boolean, []),
  (⟨"PaintBankModel", "hasRoom", "(I)Z"⟩, prog_15_method_77_code, 2, some Jvm.ClassFile.FieldType.boolean, []),
  (⟨"PaintBankModel", "keeps", "()V"⟩, prog_15_method_76_code, 2, none, []),
  (⟨"PaintBankModel", "enters", "(I)I"⟩, prog_15_method_80_code, 3, some Jvm.ClassFile.FieldType.int, []),
  (⟨"PaintBankModel", "comes", "(II)V"⟩, prog_15_method_78_code, 3, none, []),
  (⟨"PaintBankModel", "leave", "(I)I"⟩, prog_15_method_86_code, 2, some Jvm.ClassFile.FieldType.int, []),
  (⟨"PaintBankModel", "leaves", "(I)I"⟩, prog_15_method_82_code, 4, some Jvm.ClassFile.FieldType.int, []),
  (⟨"PaintBankModel", "paints", "(I)V"⟩, prog_15_method_81_code, 7, none, []),
  (⟨"PaintBankModel", "back", "(I)I"⟩, prog_15_method_87_code, 2, some Jvm.ClassFile.FieldType.int, []),
  (⟨"PaintBankModel", "isReady", "()Z"⟩, prog_15_method_83_code, 1, some Jvm.ClassFile.FieldType.boolean, []),
  (⟨"PaintBankModel", "comesBack", "(I)I"⟩, prog_15_method_84_code, 4, some Jvm.ClassFile.FieldType.int, []),
  (⟨"PaintBankModel", "waits", "()I"⟩, prog_15_method_88_code, 1, some Jvm.ClassFile.FieldType.int, [])]
def md_MT18 : List mm_Mt := [
  (⟨"PaintBankModel", "step", "()I"⟩, prog_15_method_93_code, 1, some Jvm.ClassFile.FieldType.int, []),
  (⟨"PaintBankModel", "nextStep", "()I"⟩, prog_15_method_91_code, 1, some Jvm.ClassFile.FieldType.int, []),
  (⟨"PaintBankModel", "chosenFor", "(I)I"⟩, prog_15_method_89_code, 5, some Jvm.ClassFile.FieldType.int, []),
  (⟨"PaintBankModel", "chosenToLeave", "()I"⟩, prog_15_method_90_code, 3, some Jvm.ClassFile.FieldType.int, []),
  (⟨"PaintBankModel", "steps", "()I"⟩, prog_15_method_92_code, 2, some Jvm.ClassFile.FieldType.int, []),
  (⟨"PaintBankModel", "ruleCost", "(I)I"⟩, prog_15_method_95_code, 2, some Jvm.ClassFile.FieldType.int, []),
  (⟨"PaintBankModel", "foretold", "(II)I"⟩, prog_15_method_94_code, 5, some Jvm.ClassFile.FieldType.int, []),
  (⟨"PaintBankModel", "ruleOut", "(I)I"⟩, prog_15_method_96_code, 2, some Jvm.ClassFile.FieldType.int, []),
  (⟨"PaintBankModel", "stepsToOut", "(I)I"⟩, prog_15_method_97_code, 4, some Jvm.ClassFile.FieldType.int, []),
  (⟨"PaintBankModel", "laneFor", "(I)I"⟩, prog_15_method_98_code, 2, some Jvm.ClassFile.FieldType.int, []),
  (⟨"PaintBankModel", "unloadCost", "()I"⟩, prog_15_method_110_code, 2, some Jvm.ClassFile.FieldType.int, []),
  (⟨"PaintBankModel", "laysUnloading", "()I"⟩, prog_15_method_109_code, 9, some Jvm.ClassFile.FieldType.int, []),
  (⟨"PaintBankModel", "inLanes", "()I"⟩, prog_15_method_107_code, 1, some Jvm.ClassFile.FieldType.int, []),
  (⟨"PaintBankModel", "unpacks", "(I)V"⟩, prog_15_method_100_code, 2, none, []),
  (⟨"PaintBankModel", "isWithin", "()Z"⟩, prog_15_method_102_code, 2, some Jvm.ClassFile.FieldType.boolean, []),
  (⟨"PaintBankModel", "takenAll", "()I"⟩, prog_15_method_101_code, 1, some Jvm.ClassFile.FieldType.int, [])]
def md_MT19 : List mm_Mt := [
  (⟨"PaintBankModel", "leastOf", "(II)I"⟩, prog_15_method_106_code, 5, some Jvm.ClassFile.FieldType.int, []),
  (⟨"PaintBankModel", "by", "(III)I"⟩, prog_15_method_105_code, 10, some Jvm.ClassFile.FieldType.int, []),
  (⟨"PaintBankModel", "places", "()I"⟩, prog_15_method_99_code, 1, some Jvm.ClassFile.FieldType.int, []),
  (⟨"PaintBankModel", "weightOf", "(I)I"⟩, prog_15_method_104_code, 1, some Jvm.ClassFile.FieldType.int, []),
  (⟨"PaintBankModel", "placeOf", "(III)I"⟩, prog_15_method_103_code, 3, some Jvm.ClassFile.FieldType.int, []),
  (⟨"PaintBankModel", "less", "(II)I"⟩, prog_15_method_5_code, 2, some Jvm.ClassFile.FieldType.int, []),
  (⟨"PaintBankModel", "held", "()I"⟩, prog_15_method_108_code, 1, some Jvm.ClassFile.FieldType.int, []),
  (⟨"PaintBankModel", "unloadChanges", "()I"⟩, prog_15_method_111_code, 2, some Jvm.ClassFile.FieldType.int, []),
  (⟨"PaintBankModel", "unloadLane", "(I)I"⟩, prog_15_method_112_code, 3, some Jvm.ClassFile.FieldType.int, []),
  (⟨"PaintBankModel", "unload", "()I"⟩, prog_15_method_114_code, 2, some Jvm.ClassFile.FieldType.int, []),
  (⟨"PaintBankModel", "unloadsNow", "()I"⟩, prog_15_method_113_code, 6, some Jvm.ClassFile.FieldType.int, []),
  (⟨"PaintBankModel", "keepsAside", "()V"⟩, prog_15_method_115_code, 2, none, []),
  (⟨"PaintBankModel", "laneBound", "()I"⟩, prog_15_method_117_code, 1, some Jvm.ClassFile.FieldType.int, []),
  (⟨"PaintBankModel", "boundOf", "(Z)I"⟩, prog_15_method_116_code, 6, some Jvm.ClassFile.FieldType.int, []),
  (⟨"PaintBankModel", "has", "(II)Z"⟩, prog_15_method_7_code, 2, some Jvm.ClassFile.FieldType.boolean, []),
  (⟨"PaintBankModel", "bound", "()I"⟩, prog_15_method_118_code, 1, some Jvm.ClassFile.FieldType.int, [])]
def md_MT20 : List mm_Mt := [
  (⟨"PaintBankModel", "waitingChanges", "()I"⟩, prog_15_method_128_code, 3, some Jvm.ClassFile.FieldType.int, []),
  (⟨"PaintBankModel", "waits0", "()I"⟩, prog_15_method_119_code, 1, some Jvm.ClassFile.FieldType.int, []),
  (⟨"PaintBankModel", "jobColor", "(I)I"⟩, prog_15_method_120_code, 2, some Jvm.ClassFile.FieldType.int, []),
  (⟨"PaintBankModel", "swapChanges", "()I"⟩, prog_15_method_129_code, 1, some Jvm.ClassFile.FieldType.int, []),
  (⟨"PaintBankModel", "laysSwap", "()I"⟩, prog_15_method_127_code, 5, some Jvm.ClassFile.FieldType.int, []),
  (⟨"PaintBankModel", "laysFewest", "()V"⟩, prog_15_method_125_code, 7, none, []),
  (⟨"PaintBankModel", "ones", "(I)I"⟩, prog_15_method_121_code, 3, some Jvm.ClassFile.FieldType.int, []),
  (⟨"PaintBankModel", "isJob", "(III)Z"⟩, prog_15_method_122_code, 5, some Jvm.ClassFile.FieldType.boolean, []),
  (⟨"PaintBankModel", "fewestBy", "(III)I"⟩, prog_15_method_124_code, 5, some Jvm.ClassFile.FieldType.int, []),
  (⟨"PaintBankModel", "differs", "(II)I"⟩, prog_15_method_123_code, 3, some Jvm.ClassFile.FieldType.int, []),
  (⟨"PaintBankModel", "laysNext", "(III)I"⟩, prog_15_method_126_code, 8, some Jvm.ClassFile.FieldType.int, []),
  (⟨"PaintBankModel", "swapColor", "(I)I"⟩, prog_15_method_130_code, 3, some Jvm.ClassFile.FieldType.int, []),
  (⟨"PaintBankModel", "swap", "()I"⟩, prog_15_method_132_code, 2, some Jvm.ClassFile.FieldType.int, []),
  (⟨"PaintBankModel", "swaps", "()I"⟩, prog_15_method_131_code, 4, some Jvm.ClassFile.FieldType.int, []),
  (⟨"PaintBankModel", "runScript", "()I"⟩, prog_15_method_141_code, 2, some Jvm.ClassFile.FieldType.int, []),
  (⟨"PaintBankModel", "command", "()V"⟩, prog_15_method_135_code, 2, none, [])]
def md_MT21 : List mm_Mt := [
  (⟨"PaintBankModel", "commandHere", "()I"⟩, prog_15_method_134_code, 1, some Jvm.ClassFile.FieldType.int, []),
  (⟨"PaintBankModel", "adds", "(II)V"⟩, prog_15_method_133_code, 3, none, []),
  (⟨"PaintBankModel", "closes", "()V"⟩, prog_15_method_136_code, 1, none, []),
  (⟨"PaintBankModel", "runs", "()I"⟩, prog_15_method_142_code, 6, some Jvm.ClassFile.FieldType.int, []),
  (⟨"PaintBankModel", "does", "(II)Z"⟩, prog_15_method_140_code, 6, some Jvm.ClassFile.FieldType.boolean, []),
  (⟨"PaintBankModel", "passes", "(I)Z"⟩, prog_15_method_138_code, 3, some Jvm.ClassFile.FieldType.boolean, []),
  (⟨"PaintBankModel", "walks", "(I)Z"⟩, prog_15_method_139_code, 3, some Jvm.ClassFile.FieldType.boolean, []),
  (⟨"PaintBankModel", "moves", "(II)Z"⟩, prog_15_method_137_code, 4, some Jvm.ClassFile.FieldType.boolean, []),
  (⟨"PaintBankModel", "logCount", "()I"⟩, prog_15_method_143_code, 1, some Jvm.ClassFile.FieldType.int, []),
  (⟨"PaintBankModel", "log", "(II)I"⟩, prog_15_method_144_code, 3, some Jvm.ClassFile.FieldType.int, []),
  (⟨"PaintBankModel", "report", "()I"⟩, prog_15_method_148_code, 3, some Jvm.ClassFile.FieldType.int, []),
  (⟨"PaintBankModel", "tellName", "(J)V"⟩, prog_15_method_146_code, 6, none, []),
  (⟨"PaintBankModel", "tell", "(I)V"⟩, prog_15_method_145_code, 2, none, []),
  (⟨"PaintBankModel", "tellCar", "(I)V"⟩, prog_15_method_147_code, 2, none, []),
  (⟨"PaintBankModel", "reportByte", "(I)I"⟩, prog_15_method_149_code, 2, some Jvm.ClassFile.FieldType.int, []),
  (⟨"PaintBankModel", "undo", "()I"⟩, prog_15_method_150_code, 2, some Jvm.ClassFile.FieldType.int, [])]
def md_MT22 : List mm_Mt := [
  (⟨"PaintBankModel", "save", "()I"⟩, prog_15_method_151_code, 2, some Jvm.ClassFile.FieldType.int, []),
  (⟨"PaintBankModel", "restore", "()I"⟩, prog_15_method_152_code, 2, some Jvm.ClassFile.FieldType.int, []),
  (⟨"java/lang/Math", "max", "(II)I"⟩, prog_22_method_65_code, 2, some Jvm.ClassFile.FieldType.int, []),
  (⟨"java/lang/Math", "min", "(II)I"⟩, prog_22_method_69_code, 2, some Jvm.ClassFile.FieldType.int, []),
  (⟨"java/lang/Math", "abs", "(I)I"⟩, prog_22_method_59_code, 1, some Jvm.ClassFile.FieldType.int, []),
  (⟨"java/util/Arrays", "fill", "([II)V"⟩, prog_29_method_103_code, 4, none, []),
  (⟨"java/lang/Integer", "bitCount", "(I)I"⟩, prog_21_method_49_code, 1, some Jvm.ClassFile.FieldType.int, []),
  (⟨"java/lang/Enum", "ordinal", "()I"⟩, prog_16_method_2_code, 1, some Jvm.ClassFile.FieldType.int, []),
  (⟨"java/lang/String", "length", "()I"⟩, prog_24_method_54_code, 1, some Jvm.ClassFile.FieldType.int, []),
  (⟨"java/lang/String", "coder", "()B"⟩, prog_24_method_152_code, 1, some Jvm.ClassFile.FieldType.byte, []),
  (⟨"java/lang/String", "charAt", "(I)C"⟩, prog_24_method_56_code, 2, some Jvm.ClassFile.FieldType.char, []),
  (⟨"java/lang/String", "isLatin1", "()Z"⟩, prog_24_method_154_code, 1, some Jvm.ClassFile.FieldType.boolean, []),
  (⟨"java/lang/StringLatin1", "charAt", "([BI)C"⟩, prog_25_method_2_code, 2, some Jvm.ClassFile.FieldType.char, []),
  (⟨"java/lang/String", "checkIndex", "(II)V"⟩, prog_24_method_155_code, 2, none, []),
  (⟨"jdk/internal/util/Preconditions", "checkIndex", "(IILjava/util/function/BiFunction;)I"⟩, prog_30_method_11_code, 3, some Jvm.ClassFile.FieldType.int, [])]
def md_MT : List (List mm_Mt) := [md_MT0, md_MT1, md_MT2, md_MT3, md_MT4, md_MT5, md_MT6, md_MT7, md_MT8, md_MT9, md_MT10, md_MT11, md_MT12, md_MT13, md_MT14, md_MT15, md_MT16, md_MT17, md_MT18, md_MT19, md_MT20, md_MT21, md_MT22]
def md_mt (j : Nat) : mm_Mt := (((md_MT[j / 16]?).getD [])[j % 16]?).getD (⟨"A", "", ""⟩, ⟨#[]⟩, 0, none, [])
def md_npL : List Nat := [1, 7, 3, 2, 2, 3, 3, 3, 3, 3, 3, 3, 3, 4, 3, 3, 3, 3, 3, 3, 3, 3, 3, 4, 3, 2, 0, 0, 0, 0, 0, 0, 1, 0, 0, 1, 0, 0, 0, 0, 0, 0, 0, 0, 0, 1, 0, 0, 0, 0, 0, 1, 0, 0, 0, 0, 1, 0, 0, 0, 0, 5, 1, 0, 0, 1, 1, 1, 1, 1, 1, 1, 1, 1, 1, 2, 1, 1, 1, 1, 1, 1, 1, 2, 1, 1, 1, 2, 1, 0, 1, 0, 1, 0, 0, 1, 1, 0, 1, 0, 1, 1, 1, 2, 1, 0, 0, 0, 0, 3, 2, 2, 1, 1, 1, 1, 1, 0, 0, 0, 0, 0, 0, 0, 0, 0, 1, 2, 0, 0, 0, 1, 1, 0, 0, 0, 1, 1, 1, 1, 0, 1, 1, 2, 3, 0, 2, 0, 1, 0, 0, 0, 1, 0, 1, 1, 0, 0, 1, 1, 2, 0, 0, 1, 4, 3, 5, 2, 0, 0, 2, 0, 0, 2, 2, 3, 2, 1, 0, 3, 0, 4, 0, 0, 2, 0, 0, 1, 2, 1, 1, 1, 1, 0, 1, 0, 0, 2, 1, 1, 3, 1, 0, 1, 0, 5, 1, 1, 1, 1, 3, 0, 0, 0, 0, 0, 1, 1, 1, 0, 0, 1, 0, 2, 1, 0, 0, 0, 3, 1, 1, 2, 0, 0, 1, 1, 1, 0, 2, 1, 1, 1, 1, 1, 1, 1, 1, 0, 0, 1, 2, 1, 1, 1, 3, 0, 1, 2, 2, 1, 0, 0, 1, 1, 0, 0, 1, 1, 0, 1, 0, 0, 0, 0, 0, 1, 1, 1, 0, 1, 2, 1, 1, 1, 1, 0, 1, 0, 0, 0, 1, 0, 0, 1, 2, 1, 1, 1, 0, 0, 0, 1, 0, 0, 2, 3, 0, 1, 3, 2, 0, 0, 1, 0, 0, 0, 0, 1, 2, 0, 0, 0, 1, 0, 0, 0, 1, 3, 3, 2, 3, 1, 0, 0, 0, 0, 0, 2, 0, 0, 2, 1, 1, 2, 0, 2, 0, 1, 1, 1, 1, 0, 0, 0, 2, 2, 1, 2, 1, 0, 0, 0, 1, 0, 2, 2, 3]
def md_np (j : Nat) : Nat := (md_npL[j]?).getD 99
