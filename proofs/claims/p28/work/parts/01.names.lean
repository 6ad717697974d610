-- ===== PART A: goes FIRST, ahead of the names: the tables' words, and 'selects' of the private methods out of them =====
/-- a private method of a class that the tables say can be made, by its rows of tables_1 -/
def lw_okq (q : MethodName × Nat) : Prop := (q.1.cls ≠ "java/lang/invoke/MethodHandle" ∧ q.1.cls ≠ "java/lang/invoke/VarHandle") ∧ Cond.instantiable q.1.cls q.2 ∈ tables_1 ∧ Cond.privateMethod q.1 ∈ tables_1 ∧ Cond.instanceMethod q.1 ∈ tables_1
theorem lw_p0 : lw_okq (⟨"PeerNotes$History", "dropOldest", "()V"⟩, 2) := ⟨⟨by decide +kernel, by decide +kernel⟩, List.mem_of_getElem? (i := 208) (by decide +kernel), List.mem_of_getElem? (i := 350) (by decide +kernel), List.mem_of_getElem? (i := 351) (by decide +kernel)⟩
theorem lw_p1 : lw_okq (⟨"PeerNotes$Payout", "clear", "()V"⟩, 3) := ⟨⟨by decide +kernel, by decide +kernel⟩, List.mem_of_getElem? (i := 301) (by decide +kernel), List.mem_of_getElem? (i := 570) (by decide +kernel), List.mem_of_getElem? (i := 571) (by decide +kernel)⟩
theorem lw_p2 : lw_okq (⟨"PeerNotes$Payout", "weighPrincipals", "(LPeerNotes$Market;IZZ)V"⟩, 3) := ⟨⟨by decide +kernel, by decide +kernel⟩, List.mem_of_getElem? (i := 301) (by decide +kernel), List.mem_of_getElem? (i := 574) (by decide +kernel), List.mem_of_getElem? (i := 575) (by decide +kernel)⟩
theorem lw_p3 : lw_okq (⟨"PeerNotes$Payout", "shareOut", "(I[I)V"⟩, 3) := ⟨⟨by decide +kernel, by decide +kernel⟩, List.mem_of_getElem? (i := 301) (by decide +kernel), List.mem_of_getElem? (i := 578) (by decide +kernel), List.mem_of_getElem? (i := 579) (by decide +kernel)⟩
theorem lw_p4 : lw_okq (⟨"PeerNotes$Payout", "shareByClass", "(LPeerNotes$Market;III)V"⟩, 3) := ⟨⟨by decide +kernel, by decide +kernel⟩, List.mem_of_getElem? (i := 301) (by decide +kernel), List.mem_of_getElem? (i := 582) (by decide +kernel), List.mem_of_getElem? (i := 583) (by decide +kernel)⟩
def lw_privs_1 : List (MethodName × Nat) := [(⟨"PeerNotes$History", "dropOldest", "()V"⟩, 2), (⟨"PeerNotes$Payout", "clear", "()V"⟩, 3), (⟨"PeerNotes$Payout", "weighPrincipals", "(LPeerNotes$Market;IZZ)V"⟩, 3), (⟨"PeerNotes$Payout", "shareOut", "(I[I)V"⟩, 3), (⟨"PeerNotes$Payout", "shareByClass", "(LPeerNotes$Market;III)V"⟩, 3)]
theorem lw_r1 : ∀ q ∈ lw_privs_1, lw_okq q := List.forall_mem_cons.mpr ⟨lw_p0, List.forall_mem_cons.mpr ⟨lw_p1, List.forall_mem_cons.mpr ⟨lw_p2, List.forall_mem_cons.mpr ⟨lw_p3, List.forall_mem_cons.mpr ⟨lw_p4, fun _ h => absurd h List.not_mem_nil⟩⟩⟩⟩⟩
def lw_privs : List (MethodName × Nat) := lw_privs_1
def lw_tbl : List Cond := k2_sels lw_privs ++ tables_1
theorem lw_privs_ok : ∀ q ∈ lw_privs, lw_okq q := lw_r1
/-! ===== BEGIN words of one list among another's, by their places ===== -/
/-! ===== END ===== -/

/-! ===== BEGIN printed: names, fields, word lists, decode rows ===== -/
def RX0 : String := "PeerNotes$Funding"
def TX0 : u_T := fun k => match k with
  | 0 => ("PeerNotes$Funding", "investor", "I", false)
  | 1 => ("PeerNotes$Funding", "loan", "I", false)
  | 2 => ("PeerNotes$Funding", "kind", "I", false)
  | _ => ("PeerNotes$Funding", "coins", "I", false)
def tyX0 : Nat → FieldType := fun k => match k with
  | 0 => .int
  | 1 => .int
  | 2 => .int
  | _ => .int
abbrev wsX00 : List Cond := u_ws RX0 TX0 4
theorem nmX0 : ∀ a, a < 4 → ∀ b, b < 4 → a ≠ b → (TX0 a).2.1 ≠ (TX0 b).2.1 := by decide +kernel
theorem tyX0_ok : ∀ k, k < 4 → parseFieldDescriptor (TX0 k).2.2.1 = some (tyX0 k) := by decide +kernel
abbrev cX0_init : ByteArray := prog_2_method_1_code
def yX0_init : MethodName := ⟨RX0, "<init>", "()V"⟩
def RX1 : String := "PeerNotes$FundingText"
def TX1 : u_T := fun k => match k with
  | 0 => ("PeerNotes$FundingText", "signs", "[C", true)
  | 1 => ("PeerNotes$FundingText", "length", "I", false)
  | 2 => ("PeerNotes$FundingText", "fundings", "[LPeerNotes$Funding;", true)
  | _ => ("PeerNotes$FundingText", "fundingCount", "I", false)
def tyX1 : Nat → FieldType := fun k => match k with
  | 0 => .array .char
  | 1 => .int
  | 2 => .array (.object "PeerNotes$Funding")
  | _ => .int
abbrev wsX10 : List Cond := u_ws RX1 TX1 4
theorem nmX1 : ∀ a, a < 4 → ∀ b, b < 4 → a ≠ b → (TX1 a).2.1 ≠ (TX1 b).2.1 := by decide +kernel
theorem tyX1_ok : ∀ k, k < 4 → parseFieldDescriptor (TX1 k).2.2.1 = some (tyX1 k) := by decide +kernel
abbrev cX1_init : ByteArray := prog_3_method_1_code
def yX1_init : MethodName := ⟨RX1, "<init>", "()V"⟩
def RX2 : String := "PeerNotes$History"
def TX2 : u_T := fun k => match k with
  | 0 => ("PeerNotes$History", "states", "[LPeerNotes$Market;", true)
  | _ => ("PeerNotes$History", "size", "I", false)
def tyX2 : Nat → FieldType := fun k => match k with
  | 0 => .array (.object "PeerNotes$Market")
  | _ => .int
abbrev wsX20 : List Cond := u_ws RX2 TX2 2
theorem nmX2 : ∀ a, a < 2 → ∀ b, b < 2 → a ≠ b → (TX2 a).2.1 ≠ (TX2 b).2.1 := by decide +kernel
theorem tyX2_ok : ∀ k, k < 2 → parseFieldDescriptor (TX2 k).2.2.1 = some (tyX2 k) := by decide +kernel
abbrev cX2_init : ByteArray := prog_4_method_1_code
def yX2_init : MethodName := ⟨RX2, "<init>", "()V"⟩
abbrev cX2_record : ByteArray := prog_4_method_2_code
def yX2_record : MethodName := ⟨RX2, "record", "(LPeerNotes$Market;)V"⟩
abbrev cX2_dropOldest : ByteArray := prog_4_method_4_code
def yX2_dropOldest : MethodName := ⟨RX2, "dropOldest", "()V"⟩
def RX3 : String := "PeerNotes$Investor"
def TX3 : u_T := fun k => match k with
  | 0 => ("PeerNotes$Investor", "cash", "I", false)
  | 1 => ("PeerNotes$Investor", "interest", "I", false)
  | _ => ("PeerNotes$Investor", "losses", "I", false)
def tyX3 : Nat → FieldType := fun k => match k with
  | 0 => .int
  | 1 => .int
  | _ => .int
abbrev wsX30 : List Cond := u_ws RX3 TX3 3
theorem nmX3 : ∀ a, a < 3 → ∀ b, b < 3 → a ≠ b → (TX3 a).2.1 ≠ (TX3 b).2.1 := by decide +kernel
theorem tyX3_ok : ∀ k, k < 3 → parseFieldDescriptor (TX3 k).2.2.1 = some (tyX3 k) := by decide +kernel
abbrev cX3_init : ByteArray := prog_5_method_1_code
def yX3_init : MethodName := ⟨RX3, "<init>", "()V"⟩
abbrev cX3_open : ByteArray := prog_5_method_2_code
def yX3_open : MethodName := ⟨RX3, "open", "(I)V"⟩
abbrev cX3_copyFrom : ByteArray := prog_5_method_3_code
def yX3_copyFrom : MethodName := ⟨RX3, "copyFrom", "(LPeerNotes$Investor;)V"⟩
def RX4 : String := "PeerNotes$Loan"
def TX4 : u_T := fun k => match k with
  | 0 => ("PeerNotes$Loan", "state", "I", false)
  | 1 => ("PeerNotes$Loan", "amount", "I", false)
  | 2 => ("PeerNotes$Loan", "rate", "I", false)
  | 3 => ("PeerNotes$Loan", "months", "I", false)
  | 4 => ("PeerNotes$Loan", "principal", "I", false)
  | 5 => ("PeerNotes$Loan", "instalment", "I", false)
  | 6 => ("PeerNotes$Loan", "interestDue", "I", false)
  | 7 => ("PeerNotes$Loan", "principalDue", "I", false)
  | 8 => ("PeerNotes$Loan", "arrears", "I", false)
  | 9 => ("PeerNotes$Loan", "servicer", "I", false)
  | _ => ("PeerNotes$Loan", "ordered", "I", false)
def tyX4 : Nat → FieldType := fun k => match k with
  | 0 => .int
  | 1 => .int
  | 2 => .int
  | 3 => .int
  | 4 => .int
  | 5 => .int
  | 6 => .int
  | 7 => .int
  | 8 => .int
  | 9 => .int
  | _ => .int
abbrev wsX40 : List Cond := u_ws RX4 TX4 11
theorem nmX4 : ∀ a, a < 11 → ∀ b, b < 11 → a ≠ b → (TX4 a).2.1 ≠ (TX4 b).2.1 := by decide +kernel
theorem tyX4_ok : ∀ k, k < 11 → parseFieldDescriptor (TX4 k).2.2.1 = some (tyX4 k) := by decide +kernel
abbrev cX4_init : ByteArray := prog_6_method_1_code
def yX4_init : MethodName := ⟨RX4, "<init>", "()V"⟩
abbrev cX4_open : ByteArray := prog_6_method_2_code
def yX4_open : MethodName := ⟨RX4, "open", "(III)V"⟩
abbrev cX4_start : ByteArray := prog_6_method_3_code
def yX4_start : MethodName := ⟨RX4, "start", "()V"⟩
abbrev cX4_end : ByteArray := prog_6_method_4_code
def yX4_end : MethodName := ⟨RX4, "end", "(I)V"⟩
abbrev cX4_passMonth : ByteArray := prog_6_method_5_code
def yX4_passMonth : MethodName := ⟨RX4, "passMonth", "()V"⟩
abbrev cX4_takePayment : ByteArray := prog_6_method_6_code
def yX4_takePayment : MethodName := ⟨RX4, "takePayment", "(II)V"⟩
abbrev cX4_copyFrom : ByteArray := prog_6_method_7_code
def yX4_copyFrom : MethodName := ⟨RX4, "copyFrom", "(LPeerNotes$Loan;)V"⟩
def RX5 : String := "PeerNotes$Market"
def TX5 : u_T := fun k => match k with
  | 0 => ("PeerNotes$Market", "investors", "[LPeerNotes$Investor;", true)
  | 1 => ("PeerNotes$Market", "loans", "[LPeerNotes$Loan;", true)
  | 2 => ("PeerNotes$Market", "notes", "[LPeerNotes$Note;", true)
  | 3 => ("PeerNotes$Market", "earned", "[I", true)
  | 4 => ("PeerNotes$Market", "investorCount", "I", false)
  | 5 => ("PeerNotes$Market", "loanCount", "I", false)
  | 6 => ("PeerNotes$Market", "noteCount", "I", false)
  | 7 => ("PeerNotes$Market", "months", "I", false)
  | 8 => ("PeerNotes$Market", "pool", "I", false)
  | _ => ("PeerNotes$Market", "share", "I", false)
def tyX5 : Nat → FieldType := fun k => match k with
  | 0 => .array (.object "PeerNotes$Investor")
  | 1 => .array (.object "PeerNotes$Loan")
  | 2 => .array (.object "PeerNotes$Note")
  | 3 => .array .int
  | 4 => .int
  | 5 => .int
  | 6 => .int
  | 7 => .int
  | 8 => .int
  | _ => .int
abbrev wsX50 : List Cond := u_ws RX5 TX5 10
theorem nmX5 : ∀ a, a < 10 → ∀ b, b < 10 → a ≠ b → (TX5 a).2.1 ≠ (TX5 b).2.1 := by decide +kernel
theorem tyX5_ok : ∀ k, k < 10 → parseFieldDescriptor (TX5 k).2.2.1 = some (tyX5 k) := by decide +kernel
abbrev cX5_init : ByteArray := prog_7_method_1_code
def yX5_init : MethodName := ⟨RX5, "<init>", "()V"⟩
abbrev cX5_copyFrom : ByteArray := prog_7_method_2_code
def yX5_copyFrom : MethodName := ⟨RX5, "copyFrom", "(LPeerNotes$Market;)V"⟩
abbrev cX5_hasInvestor : ByteArray := prog_7_method_3_code
def yX5_hasInvestor : MethodName := ⟨RX5, "hasInvestor", "(I)Z"⟩
abbrev cX5_hasLoan : ByteArray := prog_7_method_4_code
def yX5_hasLoan : MethodName := ⟨RX5, "hasLoan", "(I)Z"⟩
abbrev cX5_hasNote : ByteArray := prog_7_method_5_code
def yX5_hasNote : MethodName := ⟨RX5, "hasNote", "(I)Z"⟩
abbrev cX5_runs : ByteArray := prog_7_method_6_code
def yX5_runs : MethodName := ⟨RX5, "runs", "(I)Z"⟩
abbrev cX5_cashOf : ByteArray := prog_7_method_7_code
def yX5_cashOf : MethodName := ⟨RX5, "cashOf", "(I)I"⟩
abbrev cX5_give : ByteArray := prog_7_method_8_code
def yX5_give : MethodName := ⟨RX5, "give", "(II)V"⟩
abbrev cX5_fundingError : ByteArray := prog_7_method_9_code
def yX5_fundingError : MethodName := ⟨RX5, "fundingError", "(III)I"⟩
abbrev cX5_addNote : ByteArray := prog_7_method_10_code
def yX5_addNote : MethodName := ⟨RX5, "addNote", "(IIII)V"⟩
abbrev cX5_takePayment : ByteArray := prog_7_method_11_code
def yX5_takePayment : MethodName := ⟨RX5, "takePayment", "(ILPeerNotes$Parts;)V"⟩
abbrev cX5_writeOff : ByteArray := prog_7_method_12_code
def yX5_writeOff : MethodName := ⟨RX5, "writeOff", "(I)I"⟩
abbrev cX5_passMonth : ByteArray := prog_7_method_13_code
def yX5_passMonth : MethodName := ⟨RX5, "passMonth", "()V"⟩
abbrev cX5_missing : ByteArray := prog_7_method_14_code
def yX5_missing : MethodName := ⟨RX5, "missing", "(I)I"⟩
abbrev cX5_principals : ByteArray := prog_7_method_15_code
def yX5_principals : MethodName := ⟨RX5, "principals", "(II)I"⟩
abbrev cX5_notesFor : ByteArray := prog_7_method_16_code
def yX5_notesFor : MethodName := ⟨RX5, "notesFor", "(I)I"⟩
abbrev cX5_principalsOf : ByteArray := prog_7_method_17_code
def yX5_principalsOf : MethodName := ⟨RX5, "principalsOf", "(I)I"⟩
abbrev cX5_liveNotesOf : ByteArray := prog_7_method_18_code
def yX5_liveNotesOf : MethodName := ⟨RX5, "liveNotesOf", "(I)I"⟩
abbrev cX5_loansOf : ByteArray := prog_7_method_19_code
def yX5_loansOf : MethodName := ⟨RX5, "loansOf", "(I)I"⟩
abbrev cX5_loansInState : ByteArray := prog_7_method_20_code
def yX5_loansInState : MethodName := ⟨RX5, "loansInState", "(I)I"⟩
abbrev cX5_loansServedBy : ByteArray := prog_7_method_21_code
def yX5_loansServedBy : MethodName := ⟨RX5, "loansServedBy", "(I)I"⟩
abbrev cX5_loansInArrears : ByteArray := prog_7_method_22_code
def yX5_loansInArrears : MethodName := ⟨RX5, "loansInArrears", "()I"⟩
abbrev cX5_ordersOfSwitches : ByteArray := prog_7_method_23_code
def yX5_ordersOfSwitches : MethodName := ⟨RX5, "ordersOfSwitches", "()I"⟩
abbrev cX5_allPrincipals : ByteArray := prog_7_method_24_code
def yX5_allPrincipals : MethodName := ⟨RX5, "allPrincipals", "()I"⟩
abbrev cX5_allInterestDue : ByteArray := prog_7_method_25_code
def yX5_allInterestDue : MethodName := ⟨RX5, "allInterestDue", "()I"⟩
abbrev cX5_allLosses : ByteArray := prog_7_method_26_code
def yX5_allLosses : MethodName := ⟨RX5, "allLosses", "()I"⟩
def RX6 : String := "PeerNotes$Note"
def TX6 : u_T := fun k => match k with
  | 0 => ("PeerNotes$Note", "investor", "I", false)
  | 1 => ("PeerNotes$Note", "loan", "I", false)
  | 2 => ("PeerNotes$Note", "kind", "I", false)
  | 3 => ("PeerNotes$Note", "principal", "I", false)
  | 4 => ("PeerNotes$Note", "funded", "I", false)
  | 5 => ("PeerNotes$Note", "interest", "I", false)
  | _ => ("PeerNotes$Note", "loss", "I", false)
def tyX6 : Nat → FieldType := fun k => match k with
  | 0 => .int
  | 1 => .int
  | 2 => .int
  | 3 => .int
  | 4 => .int
  | 5 => .int
  | _ => .int
abbrev wsX60 : List Cond := u_ws RX6 TX6 7
theorem nmX6 : ∀ a, a < 7 → ∀ b, b < 7 → a ≠ b → (TX6 a).2.1 ≠ (TX6 b).2.1 := by decide +kernel
theorem tyX6_ok : ∀ k, k < 7 → parseFieldDescriptor (TX6 k).2.2.1 = some (tyX6 k) := by decide +kernel
abbrev cX6_init : ByteArray := prog_8_method_1_code
def yX6_init : MethodName := ⟨RX6, "<init>", "()V"⟩
abbrev cX6_open : ByteArray := prog_8_method_2_code
def yX6_open : MethodName := ⟨RX6, "open", "(IIII)V"⟩
abbrev cX6_copyFrom : ByteArray := prog_8_method_3_code
def yX6_copyFrom : MethodName := ⟨RX6, "copyFrom", "(LPeerNotes$Note;)V"⟩
def RX7 : String := "PeerNotes$Parts"
def TX7 : u_T := fun k => match k with
  | 0 => ("PeerNotes$Parts", "fee", "I", false)
  | 1 => ("PeerNotes$Parts", "interest", "I", false)
  | 2 => ("PeerNotes$Parts", "toPool", "I", false)
  | 3 => ("PeerNotes$Parts", "principal", "I", false)
  | 4 => ("PeerNotes$Parts", "toSeniors", "I", false)
  | _ => ("PeerNotes$Parts", "toJuniors", "I", false)
def tyX7 : Nat → FieldType := fun k => match k with
  | 0 => .int
  | 1 => .int
  | 2 => .int
  | 3 => .int
  | 4 => .int
  | _ => .int
abbrev wsX70 : List Cond := u_ws RX7 TX7 6
theorem nmX7 : ∀ a, a < 6 → ∀ b, b < 6 → a ≠ b → (TX7 a).2.1 ≠ (TX7 b).2.1 := by decide +kernel
theorem tyX7_ok : ∀ k, k < 6 → parseFieldDescriptor (TX7 k).2.2.1 = some (tyX7 k) := by decide +kernel
abbrev cX7_init : ByteArray := prog_9_method_1_code
def yX7_init : MethodName := ⟨RX7, "<init>", "()V"⟩
abbrev cX7_areOf : ByteArray := prog_9_method_2_code
def yX7_areOf : MethodName := ⟨RX7, "areOf", "(LPeerNotes$Market;II)Z"⟩
def RX8 : String := "PeerNotes$Payout"
def TX8 : u_T := fun k => match k with
  | 0 => ("PeerNotes$Payout", "interest", "[I", true)
  | 1 => ("PeerNotes$Payout", "principal", "[I", true)
  | _ => ("PeerNotes$Payout", "weights", "[I", true)
def tyX8 : Nat → FieldType := fun k => match k with
  | 0 => .array .int
  | 1 => .array .int
  | _ => .array .int
abbrev wsX80 : List Cond := u_ws RX8 TX8 3
theorem nmX8 : ∀ a, a < 3 → ∀ b, b < 3 → a ≠ b → (TX8 a).2.1 ≠ (TX8 b).2.1 := by decide +kernel
theorem tyX8_ok : ∀ k, k < 3 → parseFieldDescriptor (TX8 k).2.2.1 = some (tyX8 k) := by decide +kernel
abbrev cX8_init : ByteArray := prog_10_method_1_code
def yX8_init : MethodName := ⟨RX8, "<init>", "()V"⟩
abbrev cX8_ofGivingUp : ByteArray := prog_10_method_2_code
def yX8_ofGivingUp : MethodName := ⟨RX8, "ofGivingUp", "(LPeerNotes$Market;I)V"⟩
abbrev cX8_ofPayment : ByteArray := prog_10_method_3_code
def yX8_ofPayment : MethodName := ⟨RX8, "ofPayment", "(LPeerNotes$Market;ILPeerNotes$Parts;)V"⟩
abbrev cX8_ofSale : ByteArray := prog_10_method_4_code
def yX8_ofSale : MethodName := ⟨RX8, "ofSale", "(LPeerNotes$Market;II)I"⟩
abbrev cX8_fits : ByteArray := prog_10_method_5_code
def yX8_fits : MethodName := ⟨RX8, "fits", "(LPeerNotes$Market;)Z"⟩
abbrev cX8_carryOut : ByteArray := prog_10_method_6_code
def yX8_carryOut : MethodName := ⟨RX8, "carryOut", "(LPeerNotes$Market;)V"⟩
abbrev cX8_clear : ByteArray := prog_10_method_7_code
def yX8_clear : MethodName := ⟨RX8, "clear", "()V"⟩
abbrev cX8_shareByClass : ByteArray := prog_10_method_8_code
def yX8_shareByClass : MethodName := ⟨RX8, "shareByClass", "(LPeerNotes$Market;III)V"⟩
abbrev cX8_weighPrincipals : ByteArray := prog_10_method_9_code
def yX8_weighPrincipals : MethodName := ⟨RX8, "weighPrincipals", "(LPeerNotes$Market;IZZ)V"⟩
abbrev cX8_shareOut : ByteArray := prog_10_method_10_code
def yX8_shareOut : MethodName := ⟨RX8, "shareOut", "(I[I)V"⟩
def RX9 : String := "PeerNotes"
def TX9 : u_T := fun k => match k with
  | 0 => ("PeerNotes", "market", "LPeerNotes$Market;", true)
  | 1 => ("PeerNotes", "before", "LPeerNotes$Market;", true)
  | 2 => ("PeerNotes", "kept", "LPeerNotes$Market;", true)
  | 3 => ("PeerNotes", "hasKept", "Z", false)
  | 4 => ("PeerNotes", "history", "LPeerNotes$History;", true)
  | 5 => ("PeerNotes", "text", "LPeerNotes$FundingText;", true)
  | 6 => ("PeerNotes", "parts", "LPeerNotes$Parts;", true)
  | _ => ("PeerNotes", "payout", "LPeerNotes$Payout;", true)
def tyX9 : Nat → FieldType := fun k => match k with
  | 0 => .object "PeerNotes$Market"
  | 1 => .object "PeerNotes$Market"
  | 2 => .object "PeerNotes$Market"
  | 3 => .boolean
  | 4 => .object "PeerNotes$History"
  | 5 => .object "PeerNotes$FundingText"
  | 6 => .object "PeerNotes$Parts"
  | _ => .object "PeerNotes$Payout"
abbrev wsX90 : List Cond := u_ws RX9 TX9 8
theorem nmX9 : ∀ a, a < 8 → ∀ b, b < 8 → a ≠ b → (TX9 a).2.1 ≠ (TX9 b).2.1 := by decide +kernel
theorem tyX9_ok : ∀ k, k < 8 → parseFieldDescriptor (TX9 k).2.2.1 = some (tyX9 k) := by decide +kernel
abbrev cX9_init : ByteArray := prog_1_method_1_code
def yX9_init : MethodName := ⟨RX9, "<init>", "()V"⟩
abbrev cX9_addInvestor : ByteArray := prog_1_method_2_code
def yX9_addInvestor : MethodName := ⟨RX9, "addInvestor", "(I)I"⟩
abbrev cX9_deposit : ByteArray := prog_1_method_3_code
def yX9_deposit : MethodName := ⟨RX9, "deposit", "(II)I"⟩
abbrev cX9_setPoolShare : ByteArray := prog_1_method_4_code
def yX9_setPoolShare : MethodName := ⟨RX9, "setPoolShare", "(I)I"⟩
abbrev cX9_openLoan : ByteArray := prog_1_method_5_code
def yX9_openLoan : MethodName := ⟨RX9, "openLoan", "(III)I"⟩
abbrev cX9_fund : ByteArray := prog_1_method_6_code
def yX9_fund : MethodName := ⟨RX9, "fund", "(IIZI)I"⟩
abbrev cX9_giveUp : ByteArray := prog_1_method_7_code
def yX9_giveUp : MethodName := ⟨RX9, "giveUp", "(I)I"⟩
abbrev cX9_pay : ByteArray := prog_1_method_8_code
def yX9_pay : MethodName := ⟨RX9, "pay", "(II)I"⟩
abbrev cX9_cure : ByteArray := prog_1_method_9_code
def yX9_cure : MethodName := ⟨RX9, "cure", "(II)I"⟩
abbrev cX9_sell : ByteArray := prog_1_method_10_code
def yX9_sell : MethodName := ⟨RX9, "sell", "(II)I"⟩
abbrev cX9_switchServicer : ByteArray := prog_1_method_11_code
def yX9_switchServicer : MethodName := ⟨RX9, "switchServicer", "(II)I"⟩
abbrev cX9_sellNote : ByteArray := prog_1_method_12_code
def yX9_sellNote : MethodName := ⟨RX9, "sellNote", "(III)I"⟩
abbrev cX9_pass : ByteArray := prog_1_method_13_code
def yX9_pass : MethodName := ⟨RX9, "pass", "(I)I"⟩
abbrev cX9_investor : ByteArray := prog_1_method_20_code
def yX9_investor : MethodName := ⟨RX9, "investor", "(II)I"⟩
abbrev cX9_loan : ByteArray := prog_1_method_21_code
def yX9_loan : MethodName := ⟨RX9, "loan", "(II)I"⟩
abbrev cX9_note : ByteArray := prog_1_method_22_code
def yX9_note : MethodName := ⟨RX9, "note", "(II)I"⟩
abbrev cX9_split : ByteArray := prog_1_method_23_code
def yX9_split : MethodName := ⟨RX9, "split", "(III)I"⟩
abbrev cX9_toRepay : ByteArray := prog_1_method_24_code
def yX9_toRepay : MethodName := ⟨RX9, "toRepay", "(I)I"⟩
abbrev cX9_servicer : ByteArray := prog_1_method_25_code
def yX9_servicer : MethodName := ⟨RX9, "servicer", "(II)I"⟩
abbrev cX9_count : ByteArray := prog_1_method_26_code
def yX9_count : MethodName := ⟨RX9, "count", "(I)I"⟩
abbrev cX9_isServicer : ByteArray := prog_1_method_27_code
def yX9_isServicer : MethodName := ⟨RX9, "isServicer", "(I)Z"⟩
abbrev cX9_isLoanMonths : ByteArray := prog_1_method_28_code
def yX9_isLoanMonths : MethodName := ⟨RX9, "isLoanMonths", "(I)Z"⟩
abbrev cX9_isPayment : ByteArray := prog_1_method_29_code
def yX9_isPayment : MethodName := ⟨RX9, "isPayment", "(I)Z"⟩
abbrev cX9_isPrice : ByteArray := prog_1_method_30_code
def yX9_isPrice : MethodName := ⟨RX9, "isPrice", "(I)Z"⟩
abbrev cX9_feeOf : ByteArray := prog_1_method_31_code
def yX9_feeOf : MethodName := ⟨RX9, "feeOf", "(I)I"⟩
abbrev cX9_dividedUp : ByteArray := prog_1_method_32_code
def yX9_dividedUp : MethodName := ⟨RX9, "dividedUp", "(II)I"⟩
def RX10 : String := "PeerNotesModel"
def TX10 : u_T := fun k => match k with
  | _ => ("", "", "", false)
def tyX10 : Nat → FieldType := fun k => match k with
  | _ => .int
abbrev wsX100 : List Cond := u_ws RX10 TX10 0
theorem nmX10 : ∀ a, a < 0 → ∀ b, b < 0 → a ≠ b → (TX10 a).2.1 ≠ (TX10 b).2.1 := by decide +kernel
theorem tyX10_ok : ∀ k, k < 0 → parseFieldDescriptor (TX10 k).2.2.1 = some (tyX10 k) := by decide +kernel
def RJ9 : String := "java/lang/Math"
def TJ9 : u_T := fun k => match k with
  | _ => ("", "", "", false)
def tyJ9 : Nat → FieldType := fun k => match k with
  | _ => .int
abbrev wsJ90 : List Cond := u_ws RJ9 TJ9 0
theorem nmJ9 : ∀ a, a < 0 → ∀ b, b < 0 → a ≠ b → (TJ9 a).2.1 ≠ (TJ9 b).2.1 := by decide +kernel
theorem tyJ9_ok : ∀ k, k < 0 → parseFieldDescriptor (TJ9 k).2.2.1 = some (tyJ9 k) := by decide +kernel
abbrev cJ9_max_7cf53 : ByteArray := prog_13_method_65_code
def yJ9_max_7cf53 : MethodName := ⟨RJ9, "max", "(II)I"⟩
abbrev cJ9_min_7cf53 : ByteArray := prog_13_method_69_code
def yJ9_min_7cf53 : MethodName := ⟨RJ9, "min", "(II)I"⟩
def RL : String := "PeerNotesLaw"
abbrev cL_cell : ByteArray := method_2_code
def yL_cell : MethodName := ⟨RL, "cell", "([II)I"⟩
abbrev cL_low : ByteArray := method_3_code
def yL_low : MethodName := ⟨RL, "low", "(II)I"⟩
abbrev cL_fee : ByteArray := method_4_code
def yL_fee : MethodName := ⟨RL, "fee", "(I)I"⟩
abbrev cL_principals : ByteArray := method_5_code
def yL_principals : MethodName := ⟨RL, "principals", "([I[III)I"⟩
abbrev cL_share : ByteArray := method_6_code
def yL_share : MethodName := ⟨RL, "share", "([I[IIII[I)V"⟩
abbrev cL_repays : ByteArray := method_7_code
def yL_repays : MethodName := ⟨RL, "repays", "([I[I[IIII[I)I"⟩
abbrev cL_areLoans : ByteArray := method_8_code
def yL_areLoans : MethodName := ⟨RL, "areLoans", "(LPeerNotes;[I[I[I)Z"⟩
abbrev cL_areNotes : ByteArray := method_9_code
def yL_areNotes : MethodName := ⟨RL, "areNotes", "(LPeerNotes;[I[I[I[I)Z"⟩
abbrev cL_isFunded : ByteArray := method_10_code
def yL_isFunded : MethodName := ⟨RL, "isFunded", "(LPeerNotes;[I[I[I[I[II)Z"⟩
abbrev cL_isPaid : ByteArray := method_11_code
def yL_isPaid : MethodName := ⟨RL, "isPaid", "(LPeerNotes;[I[I[I[I[II)Z"⟩
abbrev cL_isSold : ByteArray := method_12_code
def yL_isSold : MethodName := ⟨RL, "isSold", "(LPeerNotes;[I[I[I[I[II)Z"⟩
abbrev cL_isMoved : ByteArray := method_13_code
def yL_isMoved : MethodName := ⟨RL, "isMoved", "(LPeerNotes;[I[I[I[II)Z"⟩
abbrev cL_isGiven : ByteArray := method_14_code
def yL_isGiven : MethodName := ⟨RL, "isGiven", "(LPeerNotes;[I[I[I[II)Z"⟩
abbrev cL_isPassed : ByteArray := method_15_code
def yL_isPassed : MethodName := ⟨RL, "isPassed", "(LPeerNotes;[I[II)Z"⟩
abbrev cL_law : ByteArray := code
def yL_law : MethodName := ⟨RL, "law", "([I)Z"⟩
def wsJ9_max_7cf53 : List Cond := .code yJ9_max_7cf53 cJ9_max_7cf53 2 (some .int) :: ([])
def wsJ9_min_7cf53 : List Cond := .code yJ9_min_7cf53 cJ9_min_7cf53 2 (some .int) :: ([])
theorem dJ9_max_7cf53_0 : decode cJ9_max_7cf53 0 = .ok (.iload_n 0, 1) := by decide +kernel
theorem dJ9_max_7cf53_1 : decode cJ9_max_7cf53 1 = .ok (.iload_n 1, 1) := by decide +kernel
theorem dJ9_max_7cf53_2 : decode cJ9_max_7cf53 2 = .ok (.if_icmp .lt 7, 3) := by decide +kernel
theorem dJ9_max_7cf53_5 : decode cJ9_max_7cf53 5 = .ok (.iload_n 0, 1) := by decide +kernel
theorem dJ9_max_7cf53_6 : decode cJ9_max_7cf53 6 = .ok (.goto 4, 3) := by decide +kernel
theorem dJ9_max_7cf53_9 : decode cJ9_max_7cf53 9 = .ok (.iload_n 1, 1) := by decide +kernel
theorem dJ9_max_7cf53_10 : decode cJ9_max_7cf53 10 = .ok (.ireturn, 1) := by decide +kernel
theorem dJ9_min_7cf53_0 : decode cJ9_min_7cf53 0 = .ok (.iload_n 0, 1) := by decide +kernel
theorem dJ9_min_7cf53_1 : decode cJ9_min_7cf53 1 = .ok (.iload_n 1, 1) := by decide +kernel
theorem dJ9_min_7cf53_2 : decode cJ9_min_7cf53 2 = .ok (.if_icmp .gt 7, 3) := by decide +kernel
theorem dJ9_min_7cf53_5 : decode cJ9_min_7cf53 5 = .ok (.iload_n 0, 1) := by decide +kernel
theorem dJ9_min_7cf53_6 : decode cJ9_min_7cf53 6 = .ok (.goto 4, 3) := by decide +kernel
theorem dJ9_min_7cf53_9 : decode cJ9_min_7cf53 9 = .ok (.iload_n 1, 1) := by decide +kernel
theorem dJ9_min_7cf53_10 : decode cJ9_min_7cf53 10 = .ok (.ireturn, 1) := by decide +kernel
abbrev vwCl : List vw_C := [(RX0, TX0, 4), (RX1, TX1, 4), (RX2, TX2, 2), (RX3, TX3, 3), (RX4, TX4, 11), (RX5, TX5, 10), (RX6, TX6, 7), (RX7, TX7, 6), (RX8, TX8, 3), (RX9, TX9, 8)]
