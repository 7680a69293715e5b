/-! Short words for a table's rows. -/
abbrev e0 (i : Jvm.ClassFile.Instr) (n : Nat) : EN := (i, n, 0, 0, 0, [])
abbrev eJ (i : Jvm.ClassFile.Instr) (n t : Nat) : EN := (i, n, t, 0, 0, [])
abbrev eC (i : Jvm.ClassFile.Instr) (n : Nat) (v : Int32) : EN := (i, n, 0, v, 0, [])
abbrev eL (i : Jvm.ClassFile.Instr) (n : Nat) (v : Int64) : EN := (i, n, 0, 0, v, [])
abbrev eS (i : Jvm.ClassFile.Instr) (t : Nat) (l : List (Int32 × Nat)) : EN := (i, 0, t, 0, 0, l)
