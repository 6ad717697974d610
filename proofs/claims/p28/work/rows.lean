section
-- ===== PART A: goes FIRST, ahead of the names: the tables' words, and 'selects' of the private methods out of them =====
/-- a private method of a class that the tables say can be made, by its rows of tables_1 -/
def lw_okq (q : MethodName × Nat) : Prop := (q.1.cls ≠ "java/lang/invoke/MethodHandle" ∧ q.1.cls ≠ "java/lang/invoke/VarHandle") ∧ Cond.instantiable q.1.cls q.2 ∈ tables_1 ∧ Cond.privateMethod q.1 ∈ tables_1 ∧ Cond.instanceMethod q.1 ∈ tables_1
theorem lw_p0 : lw_okq (⟨"PeerNotes$History", "dropOldest", "()V"⟩, 2) := ⟨⟨by decide +kernel, by decide +kernel⟩, List.mem_of_getElem? (i := 208) (by decide +kernel), List.mem_of_getElem? (i := 350) (by decide +kernel), List.mem_of_getElem? (i := 351) (by decide +kernel)⟩
theorem lw_p1 : lw_okq (⟨"PeerNotes$Payout", "clear", "()V"⟩, 3) := ⟨⟨by decide +kernel, by decide +kernel⟩, List.mem_of_getElem? (i := 301) (by decide +kernel), List.mem_of_getElem? (i := 570) (by decide +kernel), List.mem_of_getElem? (i := 571) (by decide +kernel)⟩
theorem lw_p2 : lw_okq (⟨"PeerNotes$Payout", "weighPrincipals", "(LPeerNotes$Market;IZZ)V"⟩, 3) := ⟨⟨by decide +kernel, by decide +kernel⟩, List.mem_of_getElem? (i := 301) (by decide +kernel), List.mem_of_getElem? (i := 574) (by decide +kernel), List.mem_of_getElem? (i := 575) (by decide +kernel)⟩
theorem lw_p3 : lw_okq (⟨"PeerNotes$Payout", "shareOut", "(I[I)V"⟩, 3) := ⟨⟨by decide +kernel, by decide +kernel⟩, List.mem_of_getElem? (i := 301) (by decide +kernel), List.mem_of_getElem? (i := 578) (by decide +kernel), List.mem_of_getElem? (i := 579) (by decide +kernel)⟩
theorem lw_p4 : lw_okq (⟨"PeerNotes$Payout", "shareByClass", "(LPeerNotes$Market;III)V"⟩, 3) := ⟨⟨by decide +kernel, by decide +kernel⟩, List.mem_of_getElem? (i := 301) (by decide +kernel), List.mem_of_getElem? (i := 582) (by decide +kernel), List.mem_of_getElem? (i := 583) (by decide +kernel)⟩
def lw_privs_1 : List (MethodName × Nat) := [(⟨"PeerNotes$History", "dropOldest", "()V"⟩, 2), (⟨"PeerNotes$Payout", "clear", "()V"⟩, 3), (⟨"PeerNotes$Payout", "weighPrincipals", "(LPeerNotes$Market;IZZ)V"⟩, 3), (⟨"PeerNotes$Payout", "shareOut", "(I[I)V"⟩, 3), (⟨"PeerNotes$Payout", "shareByClass", "(LPeerNotes$Market;III)V"⟩, 3)]
theorem lw_r1 : ∀ q ∈ lw_privs_1, lw_okq q := List.forall_mem_cons.mpr ⟨lw_p0, List.forall_mem_cons.mpr ⟨lw_p1, List.forall_mem_cons.mpr ⟨lw_p2, List.forall_mem_cons.mpr ⟨lw_p3, List.forall_mem_cons.mpr ⟨lw_p4, fun _ h => absurd h List.not_mem_nil⟩⟩⟩⟩⟩
def lw_privs : List (MethodName × Nat) := lw_privs_1
def lw_tbl : List Cond := k2_sels lw_privs ++ tables_1
theorem lw_privs_ok : ∀ q ∈ lw_privs, lw_okq q := lw_r1
/-! ===== BEGIN words of one list among another's, by their places ===== -/
/-! ===== END ===== -/

/-! ===== BEGIN printed: names, fields, word lists, decode rows ===== -/
def RX0 : String := "PeerNotes$Funding"
def TX0 : u_T := fun k => match k with
  | 0 => ("PeerNotes$Funding", "investor", "I", false)
  | 1 => ("PeerNotes$Funding", "loan", "I", false)
  | 2 => ("PeerNotes$Funding", "kind", "I", false)
  | _ => ("PeerNotes$Funding", "coins", "I", false)
def tyX0 : Nat → FieldType := fun k => match k with
  | 0 => .int
  | 1 => .int
  | 2 => .int
  | _ => .int
abbrev wsX00 : List Cond := u_ws RX0 TX0 4
theorem nmX0 : ∀ a, a < 4 → ∀ b, b < 4 → a ≠ b → (TX0 a).2.1 ≠ (TX0 b).2.1 := by decide +kernel
theorem tyX0_ok : ∀ k, k < 4 → parseFieldDescriptor (TX0 k).2.2.1 = some (tyX0 k) := by decide +kernel
abbrev cX0_init : ByteArray := prog_2_method_1_code
def yX0_init : MethodName := ⟨RX0, "<init>", "()V"⟩
def RX1 : String := "PeerNotes$FundingText"
def TX1 : u_T := fun k => match k with
  | 0 => ("PeerNotes$FundingText", "signs", "[C", true)
  | 1 => ("PeerNotes$FundingText", "length", "I", false)
  | 2 => ("PeerNotes$FundingText", "fundings", "[LPeerNotes$Funding;", true)
  | _ => ("PeerNotes$FundingText", "fundingCount", "I", false)
def tyX1 : Nat → FieldType := fun k => match k with
  | 0 => .array .char
  | 1 => .int
  | 2 => .array (.object "PeerNotes$Funding")
  | _ => .int
abbrev wsX10 : List Cond := u_ws RX1 TX1 4
theorem nmX1 : ∀ a, a < 4 → ∀ b, b < 4 → a ≠ b → (TX1 a).2.1 ≠ (TX1 b).2.1 := by decide +kernel
theorem tyX1_ok : ∀ k, k < 4 → parseFieldDescriptor (TX1 k).2.2.1 = some (tyX1 k) := by decide +kernel
abbrev cX1_init : ByteArray := prog_3_method_1_code
def yX1_init : MethodName := ⟨RX1, "<init>", "()V"⟩
def RX2 : String := "PeerNotes$History"
def TX2 : u_T := fun k => match k with
  | 0 => ("PeerNotes$History", "states", "[LPeerNotes$Market;", true)
  | _ => ("PeerNotes$History", "size", "I", false)
def tyX2 : Nat → FieldType := fun k => match k with
  | 0 => .array (.object "PeerNotes$Market")
  | _ => .int
abbrev wsX20 : List Cond := u_ws RX2 TX2 2
theorem nmX2 : ∀ a, a < 2 → ∀ b, b < 2 → a ≠ b → (TX2 a).2.1 ≠ (TX2 b).2.1 := by decide +kernel
theorem tyX2_ok : ∀ k, k < 2 → parseFieldDescriptor (TX2 k).2.2.1 = some (tyX2 k) := by decide +kernel
abbrev cX2_init : ByteArray := prog_4_method_1_code
def yX2_init : MethodName := ⟨RX2, "<init>", "()V"⟩
abbrev cX2_record : ByteArray := prog_4_method_2_code
def yX2_record : MethodName := ⟨RX2, "record", "(LPeerNotes$Market;)V"⟩
abbrev cX2_dropOldest : ByteArray := prog_4_method_4_code
def yX2_dropOldest : MethodName := ⟨RX2, "dropOldest", "()V"⟩
def RX3 : String := "PeerNotes$Investor"
def TX3 : u_T := fun k => match k with
  | 0 => ("PeerNotes$Investor", "cash", "I", false)
  | 1 => ("PeerNotes$Investor", "interest", "I", false)
  | _ => ("PeerNotes$Investor", "losses", "I", false)
def tyX3 : Nat → FieldType := fun k => match k with
  | 0 => .int
  | 1 => .int
  | _ => .int
abbrev wsX30 : List Cond := u_ws RX3 TX3 3
theorem nmX3 : ∀ a, a < 3 → ∀ b, b < 3 → a ≠ b → (TX3 a).2.1 ≠ (TX3 b).2.1 := by decide +kernel
theorem tyX3_ok : ∀ k, k < 3 → parseFieldDescriptor (TX3 k).2.2.1 = some (tyX3 k) := by decide +kernel
abbrev cX3_init : ByteArray := prog_5_method_1_code
def yX3_init : MethodName := ⟨RX3, "<init>", "()V"⟩
abbrev cX3_open : ByteArray := prog_5_method_2_code
def yX3_open : MethodName := ⟨RX3, "open", "(I)V"⟩
abbrev cX3_copyFrom : ByteArray := prog_5_method_3_code
def yX3_copyFrom : MethodName := ⟨RX3, "copyFrom", "(LPeerNotes$Investor;)V"⟩
def RX4 : String := "PeerNotes$Loan"
def TX4 : u_T := fun k => match k with
  | 0 => ("PeerNotes$Loan", "state", "I", false)
  | 1 => ("PeerNotes$Loan", "amount", "I", false)
  | 2 => ("PeerNotes$Loan", "rate", "I", false)
  | 3 => ("PeerNotes$Loan", "months", "I", false)
  | 4 => ("PeerNotes$Loan", "principal", "I", false)
  | 5 => ("PeerNotes$Loan", "instalment", "I", false)
  | 6 => ("PeerNotes$Loan", "interestDue", "I", false)
  | 7 => ("PeerNotes$Loan", "principalDue", "I", false)
  | 8 => ("PeerNotes$Loan", "arrears", "I", false)
  | 9 => ("PeerNotes$Loan", "servicer", "I", false)
  | _ => ("PeerNotes$Loan", "ordered", "I", false)
def tyX4 : Nat → FieldType := fun k => match k with
  | 0 => .int
  | 1 => .int
  | 2 => .int
  | 3 => .int
  | 4 => .int
  | 5 => .int
  | 6 => .int
  | 7 => .int
  | 8 => .int
  | 9 => .int
  | _ => .int
abbrev wsX40 : List Cond := u_ws RX4 TX4 11
theorem nmX4 : ∀ a, a < 11 → ∀ b, b < 11 → a ≠ b → (TX4 a).2.1 ≠ (TX4 b).2.1 := by decide +kernel
theorem tyX4_ok : ∀ k, k < 11 → parseFieldDescriptor (TX4 k).2.2.1 = some (tyX4 k) := by decide +kernel
abbrev cX4_init : ByteArray := prog_6_method_1_code
def yX4_init : MethodName := ⟨RX4, "<init>", "()V"⟩
abbrev cX4_open : ByteArray := prog_6_method_2_code
def yX4_open : MethodName := ⟨RX4, "open", "(III)V"⟩
abbrev cX4_start : ByteArray := prog_6_method_3_code
def yX4_start : MethodName := ⟨RX4, "start", "()V"⟩
abbrev cX4_end : ByteArray := prog_6_method_4_code
def yX4_end : MethodName := ⟨RX4, "end", "(I)V"⟩
abbrev cX4_passMonth : ByteArray := prog_6_method_5_code
def yX4_passMonth : MethodName := ⟨RX4, "passMonth", "()V"⟩
abbrev cX4_takePayment : ByteArray := prog_6_method_6_code
def yX4_takePayment : MethodName := ⟨RX4, "takePayment", "(II)V"⟩
abbrev cX4_copyFrom : ByteArray := prog_6_method_7_code
def yX4_copyFrom : MethodName := ⟨RX4, "copyFrom", "(LPeerNotes$Loan;)V"⟩
def RX5 : String := "PeerNotes$Market"
def TX5 : u_T := fun k => match k with
  | 0 => ("PeerNotes$Market", "investors", "[LPeerNotes$Investor;", true)
  | 1 => ("PeerNotes$Market", "loans", "[LPeerNotes$Loan;", true)
  | 2 => ("PeerNotes$Market", "notes", "[LPeerNotes$Note;", true)
  | 3 => ("PeerNotes$Market", "earned", "[I", true)
  | 4 => ("PeerNotes$Market", "investorCount", "I", false)
  | 5 => ("PeerNotes$Market", "loanCount", "I", false)
  | 6 => ("PeerNotes$Market", "noteCount", "I", false)
  | 7 => ("PeerNotes$Market", "months", "I", false)
  | 8 => ("PeerNotes$Market", "pool", "I", false)
  | _ => ("PeerNotes$Market", "share", "I", false)
def tyX5 : Nat → FieldType := fun k => match k with
  | 0 => .array (.object "PeerNotes$Investor")
  | 1 => .array (.object "PeerNotes$Loan")
  | 2 => .array (.object "PeerNotes$Note")
  | 3 => .array .int
  | 4 => .int
  | 5 => .int
  | 6 => .int
  | 7 => .int
  | 8 => .int
  | _ => .int
abbrev wsX50 : List Cond := u_ws RX5 TX5 10
theorem nmX5 : ∀ a, a < 10 → ∀ b, b < 10 → a ≠ b → (TX5 a).2.1 ≠ (TX5 b).2.1 := by decide +kernel
theorem tyX5_ok : ∀ k, k < 10 → parseFieldDescriptor (TX5 k).2.2.1 = some (tyX5 k) := by decide +kernel
abbrev cX5_init : ByteArray := prog_7_method_1_code
def yX5_init : MethodName := ⟨RX5, "<init>", "()V"⟩
abbrev cX5_copyFrom : ByteArray := prog_7_method_2_code
def yX5_copyFrom : MethodName := ⟨RX5, "copyFrom", "(LPeerNotes$Market;)V"⟩
abbrev cX5_hasInvestor : ByteArray := prog_7_method_3_code
def yX5_hasInvestor : MethodName := ⟨RX5, "hasInvestor", "(I)Z"⟩
abbrev cX5_hasLoan : ByteArray := prog_7_method_4_code
def yX5_hasLoan : MethodName := ⟨RX5, "hasLoan", "(I)Z"⟩
abbrev cX5_hasNote : ByteArray := prog_7_method_5_code
def yX5_hasNote : MethodName := ⟨RX5, "hasNote", "(I)Z"⟩
abbrev cX5_runs : ByteArray := prog_7_method_6_code
def yX5_runs : MethodName := ⟨RX5, "runs", "(I)Z"⟩
abbrev cX5_cashOf : ByteArray := prog_7_method_7_code
def yX5_cashOf : MethodName := ⟨RX5, "cashOf", "(I)I"⟩
abbrev cX5_give : ByteArray := prog_7_method_8_code
def yX5_give : MethodName := ⟨RX5, "give", "(II)V"⟩
abbrev cX5_fundingError : ByteArray := prog_7_method_9_code
def yX5_fundingError : MethodName := ⟨RX5, "fundingError", "(III)I"⟩
abbrev cX5_addNote : ByteArray := prog_7_method_10_code
def yX5_addNote : MethodName := ⟨RX5, "addNote", "(IIII)V"⟩
abbrev cX5_takePayment : ByteArray := prog_7_method_11_code
def yX5_takePayment : MethodName := ⟨RX5, "takePayment", "(ILPeerNotes$Parts;)V"⟩
abbrev cX5_writeOff : ByteArray := prog_7_method_12_code
def yX5_writeOff : MethodName := ⟨RX5, "writeOff", "(I)I"⟩
abbrev cX5_passMonth : ByteArray := prog_7_method_13_code
def yX5_passMonth : MethodName := ⟨RX5, "passMonth", "()V"⟩
abbrev cX5_missing : ByteArray := prog_7_method_14_code
def yX5_missing : MethodName := ⟨RX5, "missing", "(I)I"⟩
abbrev cX5_principals : ByteArray := prog_7_method_15_code
def yX5_principals : MethodName := ⟨RX5, "principals", "(II)I"⟩
abbrev cX5_notesFor : ByteArray := prog_7_method_16_code
def yX5_notesFor : MethodName := ⟨RX5, "notesFor", "(I)I"⟩
abbrev cX5_principalsOf : ByteArray := prog_7_method_17_code
def yX5_principalsOf : MethodName := ⟨RX5, "principalsOf", "(I)I"⟩
abbrev cX5_liveNotesOf : ByteArray := prog_7_method_18_code
def yX5_liveNotesOf : MethodName := ⟨RX5, "liveNotesOf", "(I)I"⟩
abbrev cX5_loansOf : ByteArray := prog_7_method_19_code
def yX5_loansOf : MethodName := ⟨RX5, "loansOf", "(I)I"⟩
abbrev cX5_loansInState : ByteArray := prog_7_method_20_code
def yX5_loansInState : MethodName := ⟨RX5, "loansInState", "(I)I"⟩
abbrev cX5_loansServedBy : ByteArray := prog_7_method_21_code
def yX5_loansServedBy : MethodName := ⟨RX5, "loansServedBy", "(I)I"⟩
abbrev cX5_loansInArrears : ByteArray := prog_7_method_22_code
def yX5_loansInArrears : MethodName := ⟨RX5, "loansInArrears", "()I"⟩
abbrev cX5_ordersOfSwitches : ByteArray := prog_7_method_23_code
def yX5_ordersOfSwitches : MethodName := ⟨RX5, "ordersOfSwitches", "()I"⟩
abbrev cX5_allPrincipals : ByteArray := prog_7_method_24_code
def yX5_allPrincipals : MethodName := ⟨RX5, "allPrincipals", "()I"⟩
abbrev cX5_allInterestDue : ByteArray := prog_7_method_25_code
def yX5_allInterestDue : MethodName := ⟨RX5, "allInterestDue", "()I"⟩
abbrev cX5_allLosses : ByteArray := prog_7_method_26_code
def yX5_allLosses : MethodName := ⟨RX5, "allLosses", "()I"⟩
def RX6 : String := "PeerNotes$Note"
def TX6 : u_T := fun k => match k with
  | 0 => ("PeerNotes$Note", "investor", "I", false)
  | 1 => ("PeerNotes$Note", "loan", "I", false)
  | 2 => ("PeerNotes$Note", "kind", "I", false)
  | 3 => ("PeerNotes$Note", "principal", "I", false)
  | 4 => ("PeerNotes$Note", "funded", "I", false)
  | 5 => ("PeerNotes$Note", "interest", "I", false)
  | _ => ("PeerNotes$Note", "loss", "I", false)
def tyX6 : Nat → FieldType := fun k => match k with
  | 0 => .int
  | 1 => .int
  | 2 => .int
  | 3 => .int
  | 4 => .int
  | 5 => .int
  | _ => .int
abbrev wsX60 : List Cond := u_ws RX6 TX6 7
theorem nmX6 : ∀ a, a < 7 → ∀ b, b < 7 → a ≠ b → (TX6 a).2.1 ≠ (TX6 b).2.1 := by decide +kernel
theorem tyX6_ok : ∀ k, k < 7 → parseFieldDescriptor (TX6 k).2.2.1 = some (tyX6 k) := by decide +kernel
abbrev cX6_init : ByteArray := prog_8_method_1_code
def yX6_init : MethodName := ⟨RX6, "<init>", "()V"⟩
abbrev cX6_open : ByteArray := prog_8_method_2_code
def yX6_open : MethodName := ⟨RX6, "open", "(IIII)V"⟩
abbrev cX6_copyFrom : ByteArray := prog_8_method_3_code
def yX6_copyFrom : MethodName := ⟨RX6, "copyFrom", "(LPeerNotes$Note;)V"⟩
def RX7 : String := "PeerNotes$Parts"
def TX7 : u_T := fun k => match k with
  | 0 => ("PeerNotes$Parts", "fee", "I", false)
  | 1 => ("PeerNotes$Parts", "interest", "I", false)
  | 2 => ("PeerNotes$Parts", "toPool", "I", false)
  | 3 => ("PeerNotes$Parts", "principal", "I", false)
  | 4 => ("PeerNotes$Parts", "toSeniors", "I", false)
  | _ => ("PeerNotes$Parts", "toJuniors", "I", false)
def tyX7 : Nat → FieldType := fun k => match k with
  | 0 => .int
  | 1 => .int
  | 2 => .int
  | 3 => .int
  | 4 => .int
  | _ => .int
abbrev wsX70 : List Cond := u_ws RX7 TX7 6
theorem nmX7 : ∀ a, a < 6 → ∀ b, b < 6 → a ≠ b → (TX7 a).2.1 ≠ (TX7 b).2.1 := by decide +kernel
theorem tyX7_ok : ∀ k, k < 6 → parseFieldDescriptor (TX7 k).2.2.1 = some (tyX7 k) := by decide +kernel
abbrev cX7_init : ByteArray := prog_9_method_1_code
def yX7_init : MethodName := ⟨RX7, "<init>", "()V"⟩
abbrev cX7_areOf : ByteArray := prog_9_method_2_code
def yX7_areOf : MethodName := ⟨RX7, "areOf", "(LPeerNotes$Market;II)Z"⟩
def RX8 : String := "PeerNotes$Payout"
def TX8 : u_T := fun k => match k with
  | 0 => ("PeerNotes$Payout", "interest", "[I", true)
  | 1 => ("PeerNotes$Payout", "principal", "[I", true)
  | _ => ("PeerNotes$Payout", "weights", "[I", true)
def tyX8 : Nat → FieldType := fun k => match k with
  | 0 => .array .int
  | 1 => .array .int
  | _ => .array .int
abbrev wsX80 : List Cond := u_ws RX8 TX8 3
theorem nmX8 : ∀ a, a < 3 → ∀ b, b < 3 → a ≠ b → (TX8 a).2.1 ≠ (TX8 b).2.1 := by decide +kernel
theorem tyX8_ok : ∀ k, k < 3 → parseFieldDescriptor (TX8 k).2.2.1 = some (tyX8 k) := by decide +kernel
abbrev cX8_init : ByteArray := prog_10_method_1_code
def yX8_init : MethodName := ⟨RX8, "<init>", "()V"⟩
abbrev cX8_ofGivingUp : ByteArray := prog_10_method_2_code
def yX8_ofGivingUp : MethodName := ⟨RX8, "ofGivingUp", "(LPeerNotes$Market;I)V"⟩
abbrev cX8_ofPayment : ByteArray := prog_10_method_3_code
def yX8_ofPayment : MethodName := ⟨RX8, "ofPayment", "(LPeerNotes$Market;ILPeerNotes$Parts;)V"⟩
abbrev cX8_ofSale : ByteArray := prog_10_method_4_code
def yX8_ofSale : MethodName := ⟨RX8, "ofSale", "(LPeerNotes$Market;II)I"⟩
abbrev cX8_fits : ByteArray := prog_10_method_5_code
def yX8_fits : MethodName := ⟨RX8, "fits", "(LPeerNotes$Market;)Z"⟩
abbrev cX8_carryOut : ByteArray := prog_10_method_6_code
def yX8_carryOut : MethodName := ⟨RX8, "carryOut", "(LPeerNotes$Market;)V"⟩
abbrev cX8_clear : ByteArray := prog_10_method_7_code
def yX8_clear : MethodName := ⟨RX8, "clear", "()V"⟩
abbrev cX8_shareByClass : ByteArray := prog_10_method_8_code
def yX8_shareByClass : MethodName := ⟨RX8, "shareByClass", "(LPeerNotes$Market;III)V"⟩
abbrev cX8_weighPrincipals : ByteArray := prog_10_method_9_code
def yX8_weighPrincipals : MethodName := ⟨RX8, "weighPrincipals", "(LPeerNotes$Market;IZZ)V"⟩
abbrev cX8_shareOut : ByteArray := prog_10_method_10_code
def yX8_shareOut : MethodName := ⟨RX8, "shareOut", "(I[I)V"⟩
def RX9 : String := "PeerNotes"
def TX9 : u_T := fun k => match k with
  | 0 => ("PeerNotes", "market", "LPeerNotes$Market;", true)
  | 1 => ("PeerNotes", "before", "LPeerNotes$Market;", true)
  | 2 => ("PeerNotes", "kept", "LPeerNotes$Market;", true)
  | 3 => ("PeerNotes", "hasKept", "Z", false)
  | 4 => ("PeerNotes", "history", "LPeerNotes$History;", true)
  | 5 => ("PeerNotes", "text", "LPeerNotes$FundingText;", true)
  | 6 => ("PeerNotes", "parts", "LPeerNotes$Parts;", true)
  | _ => ("PeerNotes", "payout", "LPeerNotes$Payout;", true)
def tyX9 : Nat → FieldType := fun k => match k with
  | 0 => .object "PeerNotes$Market"
  | 1 => .object "PeerNotes$Market"
  | 2 => .object "PeerNotes$Market"
  | 3 => .boolean
  | 4 => .object "PeerNotes$History"
  | 5 => .object "PeerNotes$FundingText"
  | 6 => .object "PeerNotes$Parts"
  | _ => .object "PeerNotes$Payout"
abbrev wsX90 : List Cond := u_ws RX9 TX9 8
theorem nmX9 : ∀ a, a < 8 → ∀ b, b < 8 → a ≠ b → (TX9 a).2.1 ≠ (TX9 b).2.1 := by decide +kernel
theorem tyX9_ok : ∀ k, k < 8 → parseFieldDescriptor (TX9 k).2.2.1 = some (tyX9 k) := by decide +kernel
abbrev cX9_init : ByteArray := prog_1_method_1_code
def yX9_init : MethodName := ⟨RX9, "<init>", "()V"⟩
abbrev cX9_addInvestor : ByteArray := prog_1_method_2_code
def yX9_addInvestor : MethodName := ⟨RX9, "addInvestor", "(I)I"⟩
abbrev cX9_deposit : ByteArray := prog_1_method_3_code
def yX9_deposit : MethodName := ⟨RX9, "deposit", "(II)I"⟩
abbrev cX9_setPoolShare : ByteArray := prog_1_method_4_code
def yX9_setPoolShare : MethodName := ⟨RX9, "setPoolShare", "(I)I"⟩
abbrev cX9_openLoan : ByteArray := prog_1_method_5_code
def yX9_openLoan : MethodName := ⟨RX9, "openLoan", "(III)I"⟩
abbrev cX9_fund : ByteArray := prog_1_method_6_code
def yX9_fund : MethodName := ⟨RX9, "fund", "(IIZI)I"⟩
abbrev cX9_giveUp : ByteArray := prog_1_method_7_code
def yX9_giveUp : MethodName := ⟨RX9, "giveUp", "(I)I"⟩
abbrev cX9_pay : ByteArray := prog_1_method_8_code
def yX9_pay : MethodName := ⟨RX9, "pay", "(II)I"⟩
abbrev cX9_cure : ByteArray := prog_1_method_9_code
def yX9_cure : MethodName := ⟨RX9, "cure", "(II)I"⟩
abbrev cX9_sell : ByteArray := prog_1_method_10_code
def yX9_sell : MethodName := ⟨RX9, "sell", "(II)I"⟩
abbrev cX9_switchServicer : ByteArray := prog_1_method_11_code
def yX9_switchServicer : MethodName := ⟨RX9, "switchServicer", "(II)I"⟩
abbrev cX9_sellNote : ByteArray := prog_1_method_12_code
def yX9_sellNote : MethodName := ⟨RX9, "sellNote", "(III)I"⟩
abbrev cX9_pass : ByteArray := prog_1_method_13_code
def yX9_pass : MethodName := ⟨RX9, "pass", "(I)I"⟩
abbrev cX9_investor : ByteArray := prog_1_method_20_code
def yX9_investor : MethodName := ⟨RX9, "investor", "(II)I"⟩
abbrev cX9_loan : ByteArray := prog_1_method_21_code
def yX9_loan : MethodName := ⟨RX9, "loan", "(II)I"⟩
abbrev cX9_note : ByteArray := prog_1_method_22_code
def yX9_note : MethodName := ⟨RX9, "note", "(II)I"⟩
abbrev cX9_split : ByteArray := prog_1_method_23_code
def yX9_split : MethodName := ⟨RX9, "split", "(III)I"⟩
abbrev cX9_toRepay : ByteArray := prog_1_method_24_code
def yX9_toRepay : MethodName := ⟨RX9, "toRepay", "(I)I"⟩
abbrev cX9_servicer : ByteArray := prog_1_method_25_code
def yX9_servicer : MethodName := ⟨RX9, "servicer", "(II)I"⟩
abbrev cX9_count : ByteArray := prog_1_method_26_code
def yX9_count : MethodName := ⟨RX9, "count", "(I)I"⟩
abbrev cX9_isServicer : ByteArray := prog_1_method_27_code
def yX9_isServicer : MethodName := ⟨RX9, "isServicer", "(I)Z"⟩
abbrev cX9_isLoanMonths : ByteArray := prog_1_method_28_code
def yX9_isLoanMonths : MethodName := ⟨RX9, "isLoanMonths", "(I)Z"⟩
abbrev cX9_isPayment : ByteArray := prog_1_method_29_code
def yX9_isPayment : MethodName := ⟨RX9, "isPayment", "(I)Z"⟩
abbrev cX9_isPrice : ByteArray := prog_1_method_30_code
def yX9_isPrice : MethodName := ⟨RX9, "isPrice", "(I)Z"⟩
abbrev cX9_feeOf : ByteArray := prog_1_method_31_code
def yX9_feeOf : MethodName := ⟨RX9, "feeOf", "(I)I"⟩
abbrev cX9_dividedUp : ByteArray := prog_1_method_32_code
def yX9_dividedUp : MethodName := ⟨RX9, "dividedUp", "(II)I"⟩
def RX10 : String := "PeerNotesModel"
def TX10 : u_T := fun k => match k with
  | _ => ("", "", "", false)
def tyX10 : Nat → FieldType := fun k => match k with
  | _ => .int
abbrev wsX100 : List Cond := u_ws RX10 TX10 0
theorem nmX10 : ∀ a, a < 0 → ∀ b, b < 0 → a ≠ b → (TX10 a).2.1 ≠ (TX10 b).2.1 := by decide +kernel
theorem tyX10_ok : ∀ k, k < 0 → parseFieldDescriptor (TX10 k).2.2.1 = some (tyX10 k) := by decide +kernel
def RJ9 : String := "java/lang/Math"
def TJ9 : u_T := fun k => match k with
  | _ => ("", "", "", false)
def tyJ9 : Nat → FieldType := fun k => match k with
  | _ => .int
abbrev wsJ90 : List Cond := u_ws RJ9 TJ9 0
theorem nmJ9 : ∀ a, a < 0 → ∀ b, b < 0 → a ≠ b → (TJ9 a).2.1 ≠ (TJ9 b).2.1 := by decide +kernel
theorem tyJ9_ok : ∀ k, k < 0 → parseFieldDescriptor (TJ9 k).2.2.1 = some (tyJ9 k) := by decide +kernel
abbrev cJ9_max_7cf53 : ByteArray := prog_13_method_65_code
def yJ9_max_7cf53 : MethodName := ⟨RJ9, "max", "(II)I"⟩
abbrev cJ9_min_7cf53 : ByteArray := prog_13_method_69_code
def yJ9_min_7cf53 : MethodName := ⟨RJ9, "min", "(II)I"⟩
def RL : String := "PeerNotesLaw"
abbrev cL_cell : ByteArray := method_2_code
def yL_cell : MethodName := ⟨RL, "cell", "([II)I"⟩
abbrev cL_low : ByteArray := method_3_code
def yL_low : MethodName := ⟨RL, "low", "(II)I"⟩
abbrev cL_fee : ByteArray := method_4_code
def yL_fee : MethodName := ⟨RL, "fee", "(I)I"⟩
abbrev cL_principals : ByteArray := method_5_code
def yL_principals : MethodName := ⟨RL, "principals", "([I[III)I"⟩
abbrev cL_share : ByteArray := method_6_code
def yL_share : MethodName := ⟨RL, "share", "([I[IIII[I)V"⟩
abbrev cL_repays : ByteArray := method_7_code
def yL_repays : MethodName := ⟨RL, "repays", "([I[I[IIII[I)I"⟩
abbrev cL_areLoans : ByteArray := method_8_code
def yL_areLoans : MethodName := ⟨RL, "areLoans", "(LPeerNotes;[I[I[I)Z"⟩
abbrev cL_areNotes : ByteArray := method_9_code
def yL_areNotes : MethodName := ⟨RL, "areNotes", "(LPeerNotes;[I[I[I[I)Z"⟩
abbrev cL_isFunded : ByteArray := method_10_code
def yL_isFunded : MethodName := ⟨RL, "isFunded", "(LPeerNotes;[I[I[I[I[II)Z"⟩
abbrev cL_isPaid : ByteArray := method_11_code
def yL_isPaid : MethodName := ⟨RL, "isPaid", "(LPeerNotes;[I[I[I[I[II)Z"⟩
abbrev cL_isSold : ByteArray := method_12_code
def yL_isSold : MethodName := ⟨RL, "isSold", "(LPeerNotes;[I[I[I[I[II)Z"⟩
abbrev cL_isMoved : ByteArray := method_13_code
def yL_isMoved : MethodName := ⟨RL, "isMoved", "(LPeerNotes;[I[I[I[II)Z"⟩
abbrev cL_isGiven : ByteArray := method_14_code
def yL_isGiven : MethodName := ⟨RL, "isGiven", "(LPeerNotes;[I[I[I[II)Z"⟩
abbrev cL_isPassed : ByteArray := method_15_code
def yL_isPassed : MethodName := ⟨RL, "isPassed", "(LPeerNotes;[I[II)Z"⟩
abbrev cL_law : ByteArray := code
def yL_law : MethodName := ⟨RL, "law", "([I)Z"⟩
def wsJ9_max_7cf53 : List Cond := .code yJ9_max_7cf53 cJ9_max_7cf53 2 (some .int) :: ([])
def wsJ9_min_7cf53 : List Cond := .code yJ9_min_7cf53 cJ9_min_7cf53 2 (some .int) :: ([])
theorem dJ9_max_7cf53_0 : decode cJ9_max_7cf53 0 = .ok (.iload_n 0, 1) := by decide +kernel
theorem dJ9_max_7cf53_1 : decode cJ9_max_7cf53 1 = .ok (.iload_n 1, 1) := by decide +kernel
theorem dJ9_max_7cf53_2 : decode cJ9_max_7cf53 2 = .ok (.if_icmp .lt 7, 3) := by decide +kernel
theorem dJ9_max_7cf53_5 : decode cJ9_max_7cf53 5 = .ok (.iload_n 0, 1) := by decide +kernel
theorem dJ9_max_7cf53_6 : decode cJ9_max_7cf53 6 = .ok (.goto 4, 3) := by decide +kernel
theorem dJ9_max_7cf53_9 : decode cJ9_max_7cf53 9 = .ok (.iload_n 1, 1) := by decide +kernel
theorem dJ9_max_7cf53_10 : decode cJ9_max_7cf53 10 = .ok (.ireturn, 1) := by decide +kernel
theorem dJ9_min_7cf53_0 : decode cJ9_min_7cf53 0 = .ok (.iload_n 0, 1) := by decide +kernel
theorem dJ9_min_7cf53_1 : decode cJ9_min_7cf53 1 = .ok (.iload_n 1, 1) := by decide +kernel
theorem dJ9_min_7cf53_2 : decode cJ9_min_7cf53 2 = .ok (.if_icmp .gt 7, 3) := by decide +kernel
theorem dJ9_min_7cf53_5 : decode cJ9_min_7cf53 5 = .ok (.iload_n 0, 1) := by decide +kernel
theorem dJ9_min_7cf53_6 : decode cJ9_min_7cf53 6 = .ok (.goto 4, 3) := by decide +kernel
theorem dJ9_min_7cf53_9 : decode cJ9_min_7cf53 9 = .ok (.iload_n 1, 1) := by decide +kernel
theorem dJ9_min_7cf53_10 : decode cJ9_min_7cf53 10 = .ok (.ireturn, 1) := by decide +kernel
abbrev vwCl : List vw_C := [(RX0, TX0, 4), (RX1, TX1, 4), (RX2, TX2, 2), (RX3, TX3, 3), (RX4, TX4, 11), (RX5, TX5, 10), (RX6, TX6, 7), (RX7, TX7, 6), (RX8, TX8, 3), (RX9, TX9, 8)]
end
section
theorem dX0_init_0 : decode cX0_init 0 = .ok (.aload_n 0, 1) := by decide +kernel
theorem dX0_init_1 : decode cX0_init 1 = .ok (.invokespecial 1, 3) := by decide +kernel
theorem dX0_init_4 : decode cX0_init 4 = .ok (.return_, 1) := by decide +kernel
theorem dX1_init_0 : decode cX1_init 0 = .ok (.aload_n 0, 1) := by decide +kernel
theorem dX1_init_1 : decode cX1_init 1 = .ok (.invokespecial 3, 3) := by decide +kernel
theorem dX1_init_4 : decode cX1_init 4 = .ok (.aload_n 0, 1) := by decide +kernel
theorem dX1_init_5 : decode cX1_init 5 = .ok (.bipush 60, 2) := by decide +kernel
theorem dX1_init_7 : decode cX1_init 7 = .ok (.newarray .char, 2) := by decide +kernel
theorem dX1_init_9 : decode cX1_init 9 = .ok (.putfield 9, 3) := by decide +kernel
theorem dX1_init_12 : decode cX1_init 12 = .ok (.aload_n 0, 1) := by decide +kernel
theorem dX1_init_13 : decode cX1_init 13 = .ok (.iconst 0, 1) := by decide +kernel
theorem dX1_init_14 : decode cX1_init 14 = .ok (.putfield 15, 3) := by decide +kernel
theorem dX1_init_17 : decode cX1_init 17 = .ok (.aload_n 0, 1) := by decide +kernel
theorem dX1_init_18 : decode cX1_init 18 = .ok (.bipush 10, 2) := by decide +kernel
theorem dX1_init_20 : decode cX1_init 20 = .ok (.anewarray 19, 3) := by decide +kernel
theorem dX1_init_23 : decode cX1_init 23 = .ok (.putfield 21, 3) := by decide +kernel
theorem dX1_init_26 : decode cX1_init 26 = .ok (.aload_n 0, 1) := by decide +kernel
theorem dX1_init_27 : decode cX1_init 27 = .ok (.iconst 0, 1) := by decide +kernel
theorem dX1_init_28 : decode cX1_init 28 = .ok (.putfield 25, 3) := by decide +kernel
theorem dX1_init_31 : decode cX1_init 31 = .ok (.iconst 0, 1) := by decide +kernel
theorem dX1_init_32 : decode cX1_init 32 = .ok (.istore_n 1, 1) := by decide +kernel
theorem dX1_init_33 : decode cX1_init 33 = .ok (.iload_n 1, 1) := by decide +kernel
theorem dX1_init_34 : decode cX1_init 34 = .ok (.aload_n 0, 1) := by decide +kernel
theorem dX1_init_35 : decode cX1_init 35 = .ok (.getfield 21, 3) := by decide +kernel
theorem dX1_init_38 : decode cX1_init 38 = .ok (.arraylength, 1) := by decide +kernel
theorem dX1_init_39 : decode cX1_init 39 = .ok (.if_icmp .ge 22, 3) := by decide +kernel
theorem dX1_init_42 : decode cX1_init 42 = .ok (.aload_n 0, 1) := by decide +kernel
theorem dX1_init_43 : decode cX1_init 43 = .ok (.getfield 21, 3) := by decide +kernel
theorem dX1_init_46 : decode cX1_init 46 = .ok (.iload_n 1, 1) := by decide +kernel
theorem dX1_init_47 : decode cX1_init 47 = .ok (.new 19, 3) := by decide +kernel
theorem dX1_init_50 : decode cX1_init 50 = .ok (.dup, 1) := by decide +kernel
theorem dX1_init_51 : decode cX1_init 51 = .ok (.invokespecial 28, 3) := by decide +kernel
theorem dX1_init_54 : decode cX1_init 54 = .ok (.aastore, 1) := by decide +kernel
theorem dX1_init_55 : decode cX1_init 55 = .ok (.iinc 1 1, 3) := by decide +kernel
theorem dX1_init_58 : decode cX1_init 58 = .ok (.goto (-25), 3) := by decide +kernel
theorem dX1_init_61 : decode cX1_init 61 = .ok (.return_, 1) := by decide +kernel
theorem dX2_init_0 : decode cX2_init 0 = .ok (.aload_n 0, 1) := by decide +kernel
theorem dX2_init_1 : decode cX2_init 1 = .ok (.invokespecial 3, 3) := by decide +kernel
theorem dX2_init_4 : decode cX2_init 4 = .ok (.aload_n 0, 1) := by decide +kernel
theorem dX2_init_5 : decode cX2_init 5 = .ok (.iconst 4, 1) := by decide +kernel
theorem dX2_init_6 : decode cX2_init 6 = .ok (.anewarray 9, 3) := by decide +kernel
theorem dX2_init_9 : decode cX2_init 9 = .ok (.putfield 11, 3) := by decide +kernel
theorem dX2_init_12 : decode cX2_init 12 = .ok (.aload_n 0, 1) := by decide +kernel
theorem dX2_init_13 : decode cX2_init 13 = .ok (.iconst 0, 1) := by decide +kernel
theorem dX2_init_14 : decode cX2_init 14 = .ok (.putfield 17, 3) := by decide +kernel
theorem dX2_init_17 : decode cX2_init 17 = .ok (.iconst 0, 1) := by decide +kernel
theorem dX2_init_18 : decode cX2_init 18 = .ok (.istore_n 1, 1) := by decide +kernel
theorem dX2_init_19 : decode cX2_init 19 = .ok (.iload_n 1, 1) := by decide +kernel
theorem dX2_init_20 : decode cX2_init 20 = .ok (.aload_n 0, 1) := by decide +kernel
theorem dX2_init_21 : decode cX2_init 21 = .ok (.getfield 11, 3) := by decide +kernel
theorem dX2_init_24 : decode cX2_init 24 = .ok (.arraylength, 1) := by decide +kernel
theorem dX2_init_25 : decode cX2_init 25 = .ok (.if_icmp .ge 22, 3) := by decide +kernel
theorem dX2_init_28 : decode cX2_init 28 = .ok (.aload_n 0, 1) := by decide +kernel
theorem dX2_init_29 : decode cX2_init 29 = .ok (.getfield 11, 3) := by decide +kernel
theorem dX2_init_32 : decode cX2_init 32 = .ok (.iload_n 1, 1) := by decide +kernel
theorem dX2_init_33 : decode cX2_init 33 = .ok (.new 9, 3) := by decide +kernel
theorem dX2_init_36 : decode cX2_init 36 = .ok (.dup, 1) := by decide +kernel
theorem dX2_init_37 : decode cX2_init 37 = .ok (.invokespecial 21, 3) := by decide +kernel
theorem dX2_init_40 : decode cX2_init 40 = .ok (.aastore, 1) := by decide +kernel
theorem dX2_init_41 : decode cX2_init 41 = .ok (.iinc 1 1, 3) := by decide +kernel
theorem dX2_init_44 : decode cX2_init 44 = .ok (.goto (-25), 3) := by decide +kernel
theorem dX2_init_47 : decode cX2_init 47 = .ok (.return_, 1) := by decide +kernel
theorem dX2_record_0 : decode cX2_record 0 = .ok (.aload_n 0, 1) := by decide +kernel
theorem dX2_record_1 : decode cX2_record 1 = .ok (.getfield 17, 3) := by decide +kernel
theorem dX2_record_4 : decode cX2_record 4 = .ok (.aload_n 0, 1) := by decide +kernel
theorem dX2_record_5 : decode cX2_record 5 = .ok (.getfield 11, 3) := by decide +kernel
theorem dX2_record_8 : decode cX2_record 8 = .ok (.arraylength, 1) := by decide +kernel
theorem dX2_record_9 : decode cX2_record 9 = .ok (.if_icmp .lt 7, 3) := by decide +kernel
theorem dX2_record_12 : decode cX2_record 12 = .ok (.aload_n 0, 1) := by decide +kernel
theorem dX2_record_13 : decode cX2_record 13 = .ok (.invokevirtual 22, 3) := by decide +kernel
theorem dX2_record_16 : decode cX2_record 16 = .ok (.aload_n 0, 1) := by decide +kernel
theorem dX2_record_17 : decode cX2_record 17 = .ok (.getfield 11, 3) := by decide +kernel
theorem dX2_record_20 : decode cX2_record 20 = .ok (.aload_n 0, 1) := by decide +kernel
theorem dX2_record_21 : decode cX2_record 21 = .ok (.getfield 17, 3) := by decide +kernel
theorem dX2_record_24 : decode cX2_record 24 = .ok (.aaload, 1) := by decide +kernel
theorem dX2_record_25 : decode cX2_record 25 = .ok (.aload_n 1, 1) := by decide +kernel
theorem dX2_record_26 : decode cX2_record 26 = .ok (.invokevirtual 25, 3) := by decide +kernel
theorem dX2_record_29 : decode cX2_record 29 = .ok (.aload_n 0, 1) := by decide +kernel
theorem dX2_record_30 : decode cX2_record 30 = .ok (.dup, 1) := by decide +kernel
theorem dX2_record_31 : decode cX2_record 31 = .ok (.getfield 17, 3) := by decide +kernel
theorem dX2_record_34 : decode cX2_record 34 = .ok (.iconst 1, 1) := by decide +kernel
theorem dX2_record_35 : decode cX2_record 35 = .ok (.iadd, 1) := by decide +kernel
theorem dX2_record_36 : decode cX2_record 36 = .ok (.putfield 17, 3) := by decide +kernel
theorem dX2_record_39 : decode cX2_record 39 = .ok (.return_, 1) := by decide +kernel
theorem dX2_dropOldest_0 : decode cX2_dropOldest 0 = .ok (.aload_n 0, 1) := by decide +kernel
theorem dX2_dropOldest_1 : decode cX2_dropOldest 1 = .ok (.getfield 11, 3) := by decide +kernel
theorem dX2_dropOldest_4 : decode cX2_dropOldest 4 = .ok (.iconst 0, 1) := by decide +kernel
theorem dX2_dropOldest_5 : decode cX2_dropOldest 5 = .ok (.aaload, 1) := by decide +kernel
theorem dX2_dropOldest_6 : decode cX2_dropOldest 6 = .ok (.astore_n 1, 1) := by decide +kernel
theorem dX2_dropOldest_7 : decode cX2_dropOldest 7 = .ok (.iconst 1, 1) := by decide +kernel
theorem dX2_dropOldest_8 : decode cX2_dropOldest 8 = .ok (.istore_n 2, 1) := by decide +kernel
theorem dX2_dropOldest_9 : decode cX2_dropOldest 9 = .ok (.iload_n 2, 1) := by decide +kernel
theorem dX2_dropOldest_10 : decode cX2_dropOldest 10 = .ok (.aload_n 0, 1) := by decide +kernel
theorem dX2_dropOldest_11 : decode cX2_dropOldest 11 = .ok (.getfield 11, 3) := by decide +kernel
theorem dX2_dropOldest_14 : decode cX2_dropOldest 14 = .ok (.arraylength, 1) := by decide +kernel
theorem dX2_dropOldest_15 : decode cX2_dropOldest 15 = .ok (.if_icmp .ge 23, 3) := by decide +kernel
theorem dX2_dropOldest_18 : decode cX2_dropOldest 18 = .ok (.aload_n 0, 1) := by decide +kernel
theorem dX2_dropOldest_19 : decode cX2_dropOldest 19 = .ok (.getfield 11, 3) := by decide +kernel
theorem dX2_dropOldest_22 : decode cX2_dropOldest 22 = .ok (.iload_n 2, 1) := by decide +kernel
theorem dX2_dropOldest_23 : decode cX2_dropOldest 23 = .ok (.iconst 1, 1) := by decide +kernel
theorem dX2_dropOldest_24 : decode cX2_dropOldest 24 = .ok (.isub, 1) := by decide +kernel
theorem dX2_dropOldest_25 : decode cX2_dropOldest 25 = .ok (.aload_n 0, 1) := by decide +kernel
theorem dX2_dropOldest_26 : decode cX2_dropOldest 26 = .ok (.getfield 11, 3) := by decide +kernel
theorem dX2_dropOldest_29 : decode cX2_dropOldest 29 = .ok (.iload_n 2, 1) := by decide +kernel
theorem dX2_dropOldest_30 : decode cX2_dropOldest 30 = .ok (.aaload, 1) := by decide +kernel
theorem dX2_dropOldest_31 : decode cX2_dropOldest 31 = .ok (.aastore, 1) := by decide +kernel
theorem dX2_dropOldest_32 : decode cX2_dropOldest 32 = .ok (.iinc 2 1, 3) := by decide +kernel
theorem dX2_dropOldest_35 : decode cX2_dropOldest 35 = .ok (.goto (-26), 3) := by decide +kernel
theorem dX2_dropOldest_38 : decode cX2_dropOldest 38 = .ok (.aload_n 0, 1) := by decide +kernel
theorem dX2_dropOldest_39 : decode cX2_dropOldest 39 = .ok (.getfield 11, 3) := by decide +kernel
theorem dX2_dropOldest_42 : decode cX2_dropOldest 42 = .ok (.aload_n 0, 1) := by decide +kernel
theorem dX2_dropOldest_43 : decode cX2_dropOldest 43 = .ok (.getfield 11, 3) := by decide +kernel
theorem dX2_dropOldest_46 : decode cX2_dropOldest 46 = .ok (.arraylength, 1) := by decide +kernel
theorem dX2_dropOldest_47 : decode cX2_dropOldest 47 = .ok (.iconst 1, 1) := by decide +kernel
theorem dX2_dropOldest_48 : decode cX2_dropOldest 48 = .ok (.isub, 1) := by decide +kernel
theorem dX2_dropOldest_49 : decode cX2_dropOldest 49 = .ok (.aload_n 1, 1) := by decide +kernel
theorem dX2_dropOldest_50 : decode cX2_dropOldest 50 = .ok (.aastore, 1) := by decide +kernel
theorem dX2_dropOldest_51 : decode cX2_dropOldest 51 = .ok (.aload_n 0, 1) := by decide +kernel
theorem dX2_dropOldest_52 : decode cX2_dropOldest 52 = .ok (.aload_n 0, 1) := by decide +kernel
theorem dX2_dropOldest_53 : decode cX2_dropOldest 53 = .ok (.getfield 11, 3) := by decide +kernel
theorem dX2_dropOldest_56 : decode cX2_dropOldest 56 = .ok (.arraylength, 1) := by decide +kernel
theorem dX2_dropOldest_57 : decode cX2_dropOldest 57 = .ok (.iconst 1, 1) := by decide +kernel
theorem dX2_dropOldest_58 : decode cX2_dropOldest 58 = .ok (.isub, 1) := by decide +kernel
theorem dX2_dropOldest_59 : decode cX2_dropOldest 59 = .ok (.putfield 17, 3) := by decide +kernel
theorem dX2_dropOldest_62 : decode cX2_dropOldest 62 = .ok (.return_, 1) := by decide +kernel
theorem dX3_init_0 : decode cX3_init 0 = .ok (.aload_n 0, 1) := by decide +kernel
theorem dX3_init_1 : decode cX3_init 1 = .ok (.invokespecial 1, 3) := by decide +kernel
theorem dX3_init_4 : decode cX3_init 4 = .ok (.return_, 1) := by decide +kernel
theorem dX3_open_0 : decode cX3_open 0 = .ok (.aload_n 0, 1) := by decide +kernel
theorem dX3_open_1 : decode cX3_open 1 = .ok (.iload_n 1, 1) := by decide +kernel
theorem dX3_open_2 : decode cX3_open 2 = .ok (.putfield 7, 3) := by decide +kernel
theorem dX3_open_5 : decode cX3_open 5 = .ok (.aload_n 0, 1) := by decide +kernel
theorem dX3_open_6 : decode cX3_open 6 = .ok (.iconst 0, 1) := by decide +kernel
theorem dX3_open_7 : decode cX3_open 7 = .ok (.putfield 13, 3) := by decide +kernel
theorem dX3_open_10 : decode cX3_open 10 = .ok (.aload_n 0, 1) := by decide +kernel
theorem dX3_open_11 : decode cX3_open 11 = .ok (.iconst 0, 1) := by decide +kernel
theorem dX3_open_12 : decode cX3_open 12 = .ok (.putfield 16, 3) := by decide +kernel
theorem dX3_open_15 : decode cX3_open 15 = .ok (.return_, 1) := by decide +kernel
theorem dX3_copyFrom_0 : decode cX3_copyFrom 0 = .ok (.aload_n 0, 1) := by decide +kernel
theorem dX3_copyFrom_1 : decode cX3_copyFrom 1 = .ok (.aload_n 1, 1) := by decide +kernel
theorem dX3_copyFrom_2 : decode cX3_copyFrom 2 = .ok (.getfield 7, 3) := by decide +kernel
theorem dX3_copyFrom_5 : decode cX3_copyFrom 5 = .ok (.putfield 7, 3) := by decide +kernel
theorem dX3_copyFrom_8 : decode cX3_copyFrom 8 = .ok (.aload_n 0, 1) := by decide +kernel
theorem dX3_copyFrom_9 : decode cX3_copyFrom 9 = .ok (.aload_n 1, 1) := by decide +kernel
theorem dX3_copyFrom_10 : decode cX3_copyFrom 10 = .ok (.getfield 13, 3) := by decide +kernel
theorem dX3_copyFrom_13 : decode cX3_copyFrom 13 = .ok (.putfield 13, 3) := by decide +kernel
theorem dX3_copyFrom_16 : decode cX3_copyFrom 16 = .ok (.aload_n 0, 1) := by decide +kernel
theorem dX3_copyFrom_17 : decode cX3_copyFrom 17 = .ok (.aload_n 1, 1) := by decide +kernel
theorem dX3_copyFrom_18 : decode cX3_copyFrom 18 = .ok (.getfield 16, 3) := by decide +kernel
theorem dX3_copyFrom_21 : decode cX3_copyFrom 21 = .ok (.putfield 16, 3) := by decide +kernel
theorem dX3_copyFrom_24 : decode cX3_copyFrom 24 = .ok (.return_, 1) := by decide +kernel
theorem dX4_init_0 : decode cX4_init 0 = .ok (.aload_n 0, 1) := by decide +kernel
theorem dX4_init_1 : decode cX4_init 1 = .ok (.invokespecial 3, 3) := by decide +kernel
theorem dX4_init_4 : decode cX4_init 4 = .ok (.return_, 1) := by decide +kernel
theorem dX4_open_0 : decode cX4_open 0 = .ok (.aload_n 0, 1) := by decide +kernel
theorem dX4_open_1 : decode cX4_open 1 = .ok (.iconst 0, 1) := by decide +kernel
theorem dX4_open_2 : decode cX4_open 2 = .ok (.putfield 9, 3) := by decide +kernel
theorem dX4_open_5 : decode cX4_open 5 = .ok (.aload_n 0, 1) := by decide +kernel
theorem dX4_open_6 : decode cX4_open 6 = .ok (.iload_n 1, 1) := by decide +kernel
theorem dX4_open_7 : decode cX4_open 7 = .ok (.putfield 15, 3) := by decide +kernel
theorem dX4_open_10 : decode cX4_open 10 = .ok (.aload_n 0, 1) := by decide +kernel
theorem dX4_open_11 : decode cX4_open 11 = .ok (.iload_n 2, 1) := by decide +kernel
theorem dX4_open_12 : decode cX4_open 12 = .ok (.putfield 18, 3) := by decide +kernel
theorem dX4_open_15 : decode cX4_open 15 = .ok (.aload_n 0, 1) := by decide +kernel
theorem dX4_open_16 : decode cX4_open 16 = .ok (.iload_n 3, 1) := by decide +kernel
theorem dX4_open_17 : decode cX4_open 17 = .ok (.putfield 21, 3) := by decide +kernel
theorem dX4_open_20 : decode cX4_open 20 = .ok (.aload_n 0, 1) := by decide +kernel
theorem dX4_open_21 : decode cX4_open 21 = .ok (.iconst 0, 1) := by decide +kernel
theorem dX4_open_22 : decode cX4_open 22 = .ok (.putfield 24, 3) := by decide +kernel
theorem dX4_open_25 : decode cX4_open 25 = .ok (.aload_n 0, 1) := by decide +kernel
theorem dX4_open_26 : decode cX4_open 26 = .ok (.bipush (-5), 2) := by decide +kernel
theorem dX4_open_28 : decode cX4_open 28 = .ok (.putfield 27, 3) := by decide +kernel
theorem dX4_open_31 : decode cX4_open 31 = .ok (.aload_n 0, 1) := by decide +kernel
theorem dX4_open_32 : decode cX4_open 32 = .ok (.iconst 0, 1) := by decide +kernel
theorem dX4_open_33 : decode cX4_open 33 = .ok (.putfield 30, 3) := by decide +kernel
theorem dX4_open_36 : decode cX4_open 36 = .ok (.aload_n 0, 1) := by decide +kernel
theorem dX4_open_37 : decode cX4_open 37 = .ok (.iconst 0, 1) := by decide +kernel
theorem dX4_open_38 : decode cX4_open 38 = .ok (.putfield 33, 3) := by decide +kernel
theorem dX4_open_41 : decode cX4_open 41 = .ok (.aload_n 0, 1) := by decide +kernel
theorem dX4_open_42 : decode cX4_open 42 = .ok (.iconst 0, 1) := by decide +kernel
theorem dX4_open_43 : decode cX4_open 43 = .ok (.putfield 36, 3) := by decide +kernel
theorem dX4_open_46 : decode cX4_open 46 = .ok (.aload_n 0, 1) := by decide +kernel
theorem dX4_open_47 : decode cX4_open 47 = .ok (.iconst 0, 1) := by decide +kernel
theorem dX4_open_48 : decode cX4_open 48 = .ok (.putfield 39, 3) := by decide +kernel
theorem dX4_open_51 : decode cX4_open 51 = .ok (.aload_n 0, 1) := by decide +kernel
theorem dX4_open_52 : decode cX4_open 52 = .ok (.bipush (-5), 2) := by decide +kernel
theorem dX4_open_54 : decode cX4_open 54 = .ok (.putfield 42, 3) := by decide +kernel
theorem dX4_open_57 : decode cX4_open 57 = .ok (.return_, 1) := by decide +kernel
theorem dX4_start_0 : decode cX4_start 0 = .ok (.aload_n 0, 1) := by decide +kernel
theorem dX4_start_1 : decode cX4_start 1 = .ok (.iconst 1, 1) := by decide +kernel
theorem dX4_start_2 : decode cX4_start 2 = .ok (.putfield 9, 3) := by decide +kernel
theorem dX4_start_5 : decode cX4_start 5 = .ok (.aload_n 0, 1) := by decide +kernel
theorem dX4_start_6 : decode cX4_start 6 = .ok (.aload_n 0, 1) := by decide +kernel
theorem dX4_start_7 : decode cX4_start 7 = .ok (.getfield 15, 3) := by decide +kernel
theorem dX4_start_10 : decode cX4_start 10 = .ok (.putfield 24, 3) := by decide +kernel
theorem dX4_start_13 : decode cX4_start 13 = .ok (.aload_n 0, 1) := by decide +kernel
theorem dX4_start_14 : decode cX4_start 14 = .ok (.aload_n 0, 1) := by decide +kernel
theorem dX4_start_15 : decode cX4_start 15 = .ok (.getfield 15, 3) := by decide +kernel
theorem dX4_start_18 : decode cX4_start 18 = .ok (.aload_n 0, 1) := by decide +kernel
theorem dX4_start_19 : decode cX4_start 19 = .ok (.getfield 21, 3) := by decide +kernel
theorem dX4_start_22 : decode cX4_start 22 = .ok (.invokestatic 45, 3) := by decide +kernel
theorem dX4_start_25 : decode cX4_start 25 = .ok (.putfield 27, 3) := by decide +kernel
theorem dX4_start_28 : decode cX4_start 28 = .ok (.return_, 1) := by decide +kernel
theorem dX4_end_0 : decode cX4_end 0 = .ok (.aload_n 0, 1) := by decide +kernel
theorem dX4_end_1 : decode cX4_end 1 = .ok (.iload_n 1, 1) := by decide +kernel
theorem dX4_end_2 : decode cX4_end 2 = .ok (.putfield 9, 3) := by decide +kernel
theorem dX4_end_5 : decode cX4_end 5 = .ok (.aload_n 0, 1) := by decide +kernel
theorem dX4_end_6 : decode cX4_end 6 = .ok (.iconst 0, 1) := by decide +kernel
theorem dX4_end_7 : decode cX4_end 7 = .ok (.putfield 24, 3) := by decide +kernel
theorem dX4_end_10 : decode cX4_end 10 = .ok (.aload_n 0, 1) := by decide +kernel
theorem dX4_end_11 : decode cX4_end 11 = .ok (.iconst 0, 1) := by decide +kernel
theorem dX4_end_12 : decode cX4_end 12 = .ok (.putfield 30, 3) := by decide +kernel
theorem dX4_end_15 : decode cX4_end 15 = .ok (.aload_n 0, 1) := by decide +kernel
theorem dX4_end_16 : decode cX4_end 16 = .ok (.iconst 0, 1) := by decide +kernel
theorem dX4_end_17 : decode cX4_end 17 = .ok (.putfield 33, 3) := by decide +kernel
theorem dX4_end_20 : decode cX4_end 20 = .ok (.aload_n 0, 1) := by decide +kernel
theorem dX4_end_21 : decode cX4_end 21 = .ok (.iconst 0, 1) := by decide +kernel
theorem dX4_end_22 : decode cX4_end 22 = .ok (.putfield 36, 3) := by decide +kernel
theorem dX4_end_25 : decode cX4_end 25 = .ok (.aload_n 0, 1) := by decide +kernel
theorem dX4_end_26 : decode cX4_end 26 = .ok (.bipush (-5), 2) := by decide +kernel
theorem dX4_end_28 : decode cX4_end 28 = .ok (.putfield 42, 3) := by decide +kernel
theorem dX4_end_31 : decode cX4_end 31 = .ok (.return_, 1) := by decide +kernel
theorem dX4_passMonth_0 : decode cX4_passMonth 0 = .ok (.aload_n 0, 1) := by decide +kernel
theorem dX4_passMonth_1 : decode cX4_passMonth 1 = .ok (.getfield 42, 3) := by decide +kernel
theorem dX4_passMonth_4 : decode cX4_passMonth 4 = .ok (.bipush (-5), 2) := by decide +kernel
theorem dX4_passMonth_6 : decode cX4_passMonth 6 = .ok (.if_icmp .eq 17, 3) := by decide +kernel
theorem dX4_passMonth_9 : decode cX4_passMonth 9 = .ok (.aload_n 0, 1) := by decide +kernel
theorem dX4_passMonth_10 : decode cX4_passMonth 10 = .ok (.aload_n 0, 1) := by decide +kernel
theorem dX4_passMonth_11 : decode cX4_passMonth 11 = .ok (.getfield 42, 3) := by decide +kernel
theorem dX4_passMonth_14 : decode cX4_passMonth 14 = .ok (.putfield 39, 3) := by decide +kernel
theorem dX4_passMonth_17 : decode cX4_passMonth 17 = .ok (.aload_n 0, 1) := by decide +kernel
theorem dX4_passMonth_18 : decode cX4_passMonth 18 = .ok (.bipush (-5), 2) := by decide +kernel
theorem dX4_passMonth_20 : decode cX4_passMonth 20 = .ok (.putfield 42, 3) := by decide +kernel
theorem dX4_passMonth_23 : decode cX4_passMonth 23 = .ok (.aload_n 0, 1) := by decide +kernel
theorem dX4_passMonth_24 : decode cX4_passMonth 24 = .ok (.aload_n 0, 1) := by decide +kernel
theorem dX4_passMonth_25 : decode cX4_passMonth 25 = .ok (.getfield 30, 3) := by decide +kernel
theorem dX4_passMonth_28 : decode cX4_passMonth 28 = .ok (.ifCond .gt 10, 3) := by decide +kernel
theorem dX4_passMonth_31 : decode cX4_passMonth 31 = .ok (.aload_n 0, 1) := by decide +kernel
theorem dX4_passMonth_32 : decode cX4_passMonth 32 = .ok (.getfield 33, 3) := by decide +kernel
theorem dX4_passMonth_35 : decode cX4_passMonth 35 = .ok (.ifCond .le 12, 3) := by decide +kernel
theorem dX4_passMonth_38 : decode cX4_passMonth 38 = .ok (.aload_n 0, 1) := by decide +kernel
theorem dX4_passMonth_39 : decode cX4_passMonth 39 = .ok (.getfield 36, 3) := by decide +kernel
theorem dX4_passMonth_42 : decode cX4_passMonth 42 = .ok (.iconst 1, 1) := by decide +kernel
theorem dX4_passMonth_43 : decode cX4_passMonth 43 = .ok (.iadd, 1) := by decide +kernel
theorem dX4_passMonth_44 : decode cX4_passMonth 44 = .ok (.goto 4, 3) := by decide +kernel
theorem dX4_passMonth_47 : decode cX4_passMonth 47 = .ok (.iconst 0, 1) := by decide +kernel
theorem dX4_passMonth_48 : decode cX4_passMonth 48 = .ok (.putfield 36, 3) := by decide +kernel
theorem dX4_passMonth_51 : decode cX4_passMonth 51 = .ok (.aload_n 0, 1) := by decide +kernel
theorem dX4_passMonth_52 : decode cX4_passMonth 52 = .ok (.dup, 1) := by decide +kernel
theorem dX4_passMonth_53 : decode cX4_passMonth 53 = .ok (.getfield 30, 3) := by decide +kernel
theorem dX4_passMonth_56 : decode cX4_passMonth 56 = .ok (.aload_n 0, 1) := by decide +kernel
theorem dX4_passMonth_57 : decode cX4_passMonth 57 = .ok (.getfield 24, 3) := by decide +kernel
theorem dX4_passMonth_60 : decode cX4_passMonth 60 = .ok (.aload_n 0, 1) := by decide +kernel
theorem dX4_passMonth_61 : decode cX4_passMonth 61 = .ok (.getfield 18, 3) := by decide +kernel
theorem dX4_passMonth_64 : decode cX4_passMonth 64 = .ok (.imul, 1) := by decide +kernel
theorem dX4_passMonth_65 : decode cX4_passMonth 65 = .ok (.sipush 1000, 3) := by decide +kernel
theorem dX4_passMonth_68 : decode cX4_passMonth 68 = .ok (.idiv, 1) := by decide +kernel
theorem dX4_passMonth_69 : decode cX4_passMonth 69 = .ok (.iadd, 1) := by decide +kernel
theorem dX4_passMonth_70 : decode cX4_passMonth 70 = .ok (.putfield 30, 3) := by decide +kernel
theorem dX4_passMonth_73 : decode cX4_passMonth 73 = .ok (.aload_n 0, 1) := by decide +kernel
theorem dX4_passMonth_74 : decode cX4_passMonth 74 = .ok (.aload_n 0, 1) := by decide +kernel
theorem dX4_passMonth_75 : decode cX4_passMonth 75 = .ok (.getfield 24, 3) := by decide +kernel
theorem dX4_passMonth_78 : decode cX4_passMonth 78 = .ok (.aload_n 0, 1) := by decide +kernel
theorem dX4_passMonth_79 : decode cX4_passMonth 79 = .ok (.getfield 33, 3) := by decide +kernel
theorem dX4_passMonth_82 : decode cX4_passMonth 82 = .ok (.aload_n 0, 1) := by decide +kernel
theorem dX4_passMonth_83 : decode cX4_passMonth 83 = .ok (.getfield 27, 3) := by decide +kernel
theorem dX4_passMonth_86 : decode cX4_passMonth 86 = .ok (.iadd, 1) := by decide +kernel
theorem dX4_passMonth_87 : decode cX4_passMonth 87 = .ok (.invokestatic 49, 3) := by decide +kernel
theorem dX4_passMonth_90 : decode cX4_passMonth 90 = .ok (.putfield 33, 3) := by decide +kernel
theorem dX4_passMonth_93 : decode cX4_passMonth 93 = .ok (.return_, 1) := by decide +kernel
theorem dX4_takePayment_0 : decode cX4_takePayment 0 = .ok (.aload_n 0, 1) := by decide +kernel
theorem dX4_takePayment_1 : decode cX4_takePayment 1 = .ok (.dup, 1) := by decide +kernel
theorem dX4_takePayment_2 : decode cX4_takePayment 2 = .ok (.getfield 30, 3) := by decide +kernel
theorem dX4_takePayment_5 : decode cX4_takePayment 5 = .ok (.iload_n 1, 1) := by decide +kernel
theorem dX4_takePayment_6 : decode cX4_takePayment 6 = .ok (.isub, 1) := by decide +kernel
theorem dX4_takePayment_7 : decode cX4_takePayment 7 = .ok (.putfield 30, 3) := by decide +kernel
theorem dX4_takePayment_10 : decode cX4_takePayment 10 = .ok (.aload_n 0, 1) := by decide +kernel
theorem dX4_takePayment_11 : decode cX4_takePayment 11 = .ok (.dup, 1) := by decide +kernel
theorem dX4_takePayment_12 : decode cX4_takePayment 12 = .ok (.getfield 24, 3) := by decide +kernel
theorem dX4_takePayment_15 : decode cX4_takePayment 15 = .ok (.iload_n 2, 1) := by decide +kernel
theorem dX4_takePayment_16 : decode cX4_takePayment 16 = .ok (.isub, 1) := by decide +kernel
theorem dX4_takePayment_17 : decode cX4_takePayment 17 = .ok (.putfield 24, 3) := by decide +kernel
theorem dX4_takePayment_20 : decode cX4_takePayment 20 = .ok (.aload_n 0, 1) := by decide +kernel
theorem dX4_takePayment_21 : decode cX4_takePayment 21 = .ok (.iconst 0, 1) := by decide +kernel
theorem dX4_takePayment_22 : decode cX4_takePayment 22 = .ok (.aload_n 0, 1) := by decide +kernel
theorem dX4_takePayment_23 : decode cX4_takePayment 23 = .ok (.getfield 33, 3) := by decide +kernel
theorem dX4_takePayment_26 : decode cX4_takePayment 26 = .ok (.iload_n 2, 1) := by decide +kernel
theorem dX4_takePayment_27 : decode cX4_takePayment 27 = .ok (.isub, 1) := by decide +kernel
theorem dX4_takePayment_28 : decode cX4_takePayment 28 = .ok (.invokestatic 54, 3) := by decide +kernel
theorem dX4_takePayment_31 : decode cX4_takePayment 31 = .ok (.putfield 33, 3) := by decide +kernel
theorem dX4_takePayment_34 : decode cX4_takePayment 34 = .ok (.aload_n 0, 1) := by decide +kernel
theorem dX4_takePayment_35 : decode cX4_takePayment 35 = .ok (.getfield 30, 3) := by decide +kernel
theorem dX4_takePayment_38 : decode cX4_takePayment 38 = .ok (.ifCond .ne 15, 3) := by decide +kernel
theorem dX4_takePayment_41 : decode cX4_takePayment 41 = .ok (.aload_n 0, 1) := by decide +kernel
theorem dX4_takePayment_42 : decode cX4_takePayment 42 = .ok (.getfield 33, 3) := by decide +kernel
theorem dX4_takePayment_45 : decode cX4_takePayment 45 = .ok (.ifCond .ne 8, 3) := by decide +kernel
theorem dX4_takePayment_48 : decode cX4_takePayment 48 = .ok (.aload_n 0, 1) := by decide +kernel
theorem dX4_takePayment_49 : decode cX4_takePayment 49 = .ok (.iconst 0, 1) := by decide +kernel
theorem dX4_takePayment_50 : decode cX4_takePayment 50 = .ok (.putfield 36, 3) := by decide +kernel
theorem dX4_takePayment_53 : decode cX4_takePayment 53 = .ok (.aload_n 0, 1) := by decide +kernel
theorem dX4_takePayment_54 : decode cX4_takePayment 54 = .ok (.getfield 30, 3) := by decide +kernel
theorem dX4_takePayment_57 : decode cX4_takePayment 57 = .ok (.ifCond .ne 15, 3) := by decide +kernel
theorem dX4_takePayment_60 : decode cX4_takePayment 60 = .ok (.aload_n 0, 1) := by decide +kernel
theorem dX4_takePayment_61 : decode cX4_takePayment 61 = .ok (.getfield 24, 3) := by decide +kernel
theorem dX4_takePayment_64 : decode cX4_takePayment 64 = .ok (.ifCond .ne 8, 3) := by decide +kernel
theorem dX4_takePayment_67 : decode cX4_takePayment 67 = .ok (.aload_n 0, 1) := by decide +kernel
theorem dX4_takePayment_68 : decode cX4_takePayment 68 = .ok (.iconst 2, 1) := by decide +kernel
theorem dX4_takePayment_69 : decode cX4_takePayment 69 = .ok (.invokevirtual 57, 3) := by decide +kernel
theorem dX4_takePayment_72 : decode cX4_takePayment 72 = .ok (.return_, 1) := by decide +kernel
theorem dX4_copyFrom_0 : decode cX4_copyFrom 0 = .ok (.aload_n 0, 1) := by decide +kernel
theorem dX4_copyFrom_1 : decode cX4_copyFrom 1 = .ok (.aload_n 1, 1) := by decide +kernel
theorem dX4_copyFrom_2 : decode cX4_copyFrom 2 = .ok (.getfield 9, 3) := by decide +kernel
theorem dX4_copyFrom_5 : decode cX4_copyFrom 5 = .ok (.putfield 9, 3) := by decide +kernel
theorem dX4_copyFrom_8 : decode cX4_copyFrom 8 = .ok (.aload_n 0, 1) := by decide +kernel
theorem dX4_copyFrom_9 : decode cX4_copyFrom 9 = .ok (.aload_n 1, 1) := by decide +kernel
theorem dX4_copyFrom_10 : decode cX4_copyFrom 10 = .ok (.getfield 15, 3) := by decide +kernel
theorem dX4_copyFrom_13 : decode cX4_copyFrom 13 = .ok (.putfield 15, 3) := by decide +kernel
theorem dX4_copyFrom_16 : decode cX4_copyFrom 16 = .ok (.aload_n 0, 1) := by decide +kernel
theorem dX4_copyFrom_17 : decode cX4_copyFrom 17 = .ok (.aload_n 1, 1) := by decide +kernel
theorem dX4_copyFrom_18 : decode cX4_copyFrom 18 = .ok (.getfield 18, 3) := by decide +kernel
theorem dX4_copyFrom_21 : decode cX4_copyFrom 21 = .ok (.putfield 18, 3) := by decide +kernel
theorem dX4_copyFrom_24 : decode cX4_copyFrom 24 = .ok (.aload_n 0, 1) := by decide +kernel
theorem dX4_copyFrom_25 : decode cX4_copyFrom 25 = .ok (.aload_n 1, 1) := by decide +kernel
theorem dX4_copyFrom_26 : decode cX4_copyFrom 26 = .ok (.getfield 21, 3) := by decide +kernel
theorem dX4_copyFrom_29 : decode cX4_copyFrom 29 = .ok (.putfield 21, 3) := by decide +kernel
theorem dX4_copyFrom_32 : decode cX4_copyFrom 32 = .ok (.aload_n 0, 1) := by decide +kernel
theorem dX4_copyFrom_33 : decode cX4_copyFrom 33 = .ok (.aload_n 1, 1) := by decide +kernel
theorem dX4_copyFrom_34 : decode cX4_copyFrom 34 = .ok (.getfield 24, 3) := by decide +kernel
theorem dX4_copyFrom_37 : decode cX4_copyFrom 37 = .ok (.putfield 24, 3) := by decide +kernel
theorem dX4_copyFrom_40 : decode cX4_copyFrom 40 = .ok (.aload_n 0, 1) := by decide +kernel
theorem dX4_copyFrom_41 : decode cX4_copyFrom 41 = .ok (.aload_n 1, 1) := by decide +kernel
theorem dX4_copyFrom_42 : decode cX4_copyFrom 42 = .ok (.getfield 27, 3) := by decide +kernel
theorem dX4_copyFrom_45 : decode cX4_copyFrom 45 = .ok (.putfield 27, 3) := by decide +kernel
theorem dX4_copyFrom_48 : decode cX4_copyFrom 48 = .ok (.aload_n 0, 1) := by decide +kernel
theorem dX4_copyFrom_49 : decode cX4_copyFrom 49 = .ok (.aload_n 1, 1) := by decide +kernel
theorem dX4_copyFrom_50 : decode cX4_copyFrom 50 = .ok (.getfield 30, 3) := by decide +kernel
theorem dX4_copyFrom_53 : decode cX4_copyFrom 53 = .ok (.putfield 30, 3) := by decide +kernel
theorem dX4_copyFrom_56 : decode cX4_copyFrom 56 = .ok (.aload_n 0, 1) := by decide +kernel
theorem dX4_copyFrom_57 : decode cX4_copyFrom 57 = .ok (.aload_n 1, 1) := by decide +kernel
theorem dX4_copyFrom_58 : decode cX4_copyFrom 58 = .ok (.getfield 33, 3) := by decide +kernel
theorem dX4_copyFrom_61 : decode cX4_copyFrom 61 = .ok (.putfield 33, 3) := by decide +kernel
theorem dX4_copyFrom_64 : decode cX4_copyFrom 64 = .ok (.aload_n 0, 1) := by decide +kernel
theorem dX4_copyFrom_65 : decode cX4_copyFrom 65 = .ok (.aload_n 1, 1) := by decide +kernel
theorem dX4_copyFrom_66 : decode cX4_copyFrom 66 = .ok (.getfield 36, 3) := by decide +kernel
theorem dX4_copyFrom_69 : decode cX4_copyFrom 69 = .ok (.putfield 36, 3) := by decide +kernel
theorem dX4_copyFrom_72 : decode cX4_copyFrom 72 = .ok (.aload_n 0, 1) := by decide +kernel
theorem dX4_copyFrom_73 : decode cX4_copyFrom 73 = .ok (.aload_n 1, 1) := by decide +kernel
theorem dX4_copyFrom_74 : decode cX4_copyFrom 74 = .ok (.getfield 39, 3) := by decide +kernel
theorem dX4_copyFrom_77 : decode cX4_copyFrom 77 = .ok (.putfield 39, 3) := by decide +kernel
theorem dX4_copyFrom_80 : decode cX4_copyFrom 80 = .ok (.aload_n 0, 1) := by decide +kernel
theorem dX4_copyFrom_81 : decode cX4_copyFrom 81 = .ok (.aload_n 1, 1) := by decide +kernel
theorem dX4_copyFrom_82 : decode cX4_copyFrom 82 = .ok (.getfield 42, 3) := by decide +kernel
theorem dX4_copyFrom_85 : decode cX4_copyFrom 85 = .ok (.putfield 42, 3) := by decide +kernel
theorem dX4_copyFrom_88 : decode cX4_copyFrom 88 = .ok (.return_, 1) := by decide +kernel
theorem dX5_init_0 : decode cX5_init 0 = .ok (.aload_n 0, 1) := by decide +kernel
theorem dX5_init_1 : decode cX5_init 1 = .ok (.invokespecial 3, 3) := by decide +kernel
theorem dX5_init_4 : decode cX5_init 4 = .ok (.aload_n 0, 1) := by decide +kernel
theorem dX5_init_5 : decode cX5_init 5 = .ok (.bipush 8, 2) := by decide +kernel
theorem dX5_init_7 : decode cX5_init 7 = .ok (.anewarray 9, 3) := by decide +kernel
theorem dX5_init_10 : decode cX5_init 10 = .ok (.putfield 11, 3) := by decide +kernel
theorem dX5_init_13 : decode cX5_init 13 = .ok (.aload_n 0, 1) := by decide +kernel
theorem dX5_init_14 : decode cX5_init 14 = .ok (.bipush 10, 2) := by decide +kernel
theorem dX5_init_16 : decode cX5_init 16 = .ok (.anewarray 17, 3) := by decide +kernel
theorem dX5_init_19 : decode cX5_init 19 = .ok (.putfield 19, 3) := by decide +kernel
theorem dX5_init_22 : decode cX5_init 22 = .ok (.aload_n 0, 1) := by decide +kernel
theorem dX5_init_23 : decode cX5_init 23 = .ok (.bipush 60, 2) := by decide +kernel
theorem dX5_init_25 : decode cX5_init 25 = .ok (.anewarray 23, 3) := by decide +kernel
theorem dX5_init_28 : decode cX5_init 28 = .ok (.putfield 25, 3) := by decide +kernel
theorem dX5_init_31 : decode cX5_init 31 = .ok (.aload_n 0, 1) := by decide +kernel
theorem dX5_init_32 : decode cX5_init 32 = .ok (.getstatic 29, 3) := by decide +kernel
theorem dX5_init_35 : decode cX5_init 35 = .ok (.arraylength, 1) := by decide +kernel
theorem dX5_init_36 : decode cX5_init 36 = .ok (.newarray .int, 2) := by decide +kernel
theorem dX5_init_38 : decode cX5_init 38 = .ok (.putfield 33, 3) := by decide +kernel
theorem dX5_init_41 : decode cX5_init 41 = .ok (.aload_n 0, 1) := by decide +kernel
theorem dX5_init_42 : decode cX5_init 42 = .ok (.iconst 0, 1) := by decide +kernel
theorem dX5_init_43 : decode cX5_init 43 = .ok (.putfield 36, 3) := by decide +kernel
theorem dX5_init_46 : decode cX5_init 46 = .ok (.aload_n 0, 1) := by decide +kernel
theorem dX5_init_47 : decode cX5_init 47 = .ok (.iconst 0, 1) := by decide +kernel
theorem dX5_init_48 : decode cX5_init 48 = .ok (.putfield 40, 3) := by decide +kernel
theorem dX5_init_51 : decode cX5_init 51 = .ok (.aload_n 0, 1) := by decide +kernel
theorem dX5_init_52 : decode cX5_init 52 = .ok (.iconst 0, 1) := by decide +kernel
theorem dX5_init_53 : decode cX5_init 53 = .ok (.putfield 43, 3) := by decide +kernel
theorem dX5_init_56 : decode cX5_init 56 = .ok (.aload_n 0, 1) := by decide +kernel
theorem dX5_init_57 : decode cX5_init 57 = .ok (.iconst 0, 1) := by decide +kernel
theorem dX5_init_58 : decode cX5_init 58 = .ok (.putfield 46, 3) := by decide +kernel
theorem dX5_init_61 : decode cX5_init 61 = .ok (.aload_n 0, 1) := by decide +kernel
theorem dX5_init_62 : decode cX5_init 62 = .ok (.iconst 0, 1) := by decide +kernel
theorem dX5_init_63 : decode cX5_init 63 = .ok (.putfield 49, 3) := by decide +kernel
theorem dX5_init_66 : decode cX5_init 66 = .ok (.aload_n 0, 1) := by decide +kernel
theorem dX5_init_67 : decode cX5_init 67 = .ok (.iconst 5, 1) := by decide +kernel
theorem dX5_init_68 : decode cX5_init 68 = .ok (.putfield 52, 3) := by decide +kernel
theorem dX5_init_71 : decode cX5_init 71 = .ok (.iconst 0, 1) := by decide +kernel
theorem dX5_init_72 : decode cX5_init 72 = .ok (.istore_n 1, 1) := by decide +kernel
theorem dX5_init_73 : decode cX5_init 73 = .ok (.iload_n 1, 1) := by decide +kernel
theorem dX5_init_74 : decode cX5_init 74 = .ok (.aload_n 0, 1) := by decide +kernel
theorem dX5_init_75 : decode cX5_init 75 = .ok (.getfield 11, 3) := by decide +kernel
theorem dX5_init_78 : decode cX5_init 78 = .ok (.arraylength, 1) := by decide +kernel
theorem dX5_init_79 : decode cX5_init 79 = .ok (.if_icmp .ge 22, 3) := by decide +kernel
theorem dX5_init_82 : decode cX5_init 82 = .ok (.aload_n 0, 1) := by decide +kernel
theorem dX5_init_83 : decode cX5_init 83 = .ok (.getfield 11, 3) := by decide +kernel
theorem dX5_init_86 : decode cX5_init 86 = .ok (.iload_n 1, 1) := by decide +kernel
theorem dX5_init_87 : decode cX5_init 87 = .ok (.new 9, 3) := by decide +kernel
theorem dX5_init_90 : decode cX5_init 90 = .ok (.dup, 1) := by decide +kernel
theorem dX5_init_91 : decode cX5_init 91 = .ok (.invokespecial 55, 3) := by decide +kernel
theorem dX5_init_94 : decode cX5_init 94 = .ok (.aastore, 1) := by decide +kernel
theorem dX5_init_95 : decode cX5_init 95 = .ok (.iinc 1 1, 3) := by decide +kernel
theorem dX5_init_98 : decode cX5_init 98 = .ok (.goto (-25), 3) := by decide +kernel
theorem dX5_init_101 : decode cX5_init 101 = .ok (.iconst 0, 1) := by decide +kernel
theorem dX5_init_102 : decode cX5_init 102 = .ok (.istore_n 1, 1) := by decide +kernel
theorem dX5_init_103 : decode cX5_init 103 = .ok (.iload_n 1, 1) := by decide +kernel
theorem dX5_init_104 : decode cX5_init 104 = .ok (.aload_n 0, 1) := by decide +kernel
theorem dX5_init_105 : decode cX5_init 105 = .ok (.getfield 19, 3) := by decide +kernel
theorem dX5_init_108 : decode cX5_init 108 = .ok (.arraylength, 1) := by decide +kernel
theorem dX5_init_109 : decode cX5_init 109 = .ok (.if_icmp .ge 22, 3) := by decide +kernel
theorem dX5_init_112 : decode cX5_init 112 = .ok (.aload_n 0, 1) := by decide +kernel
theorem dX5_init_113 : decode cX5_init 113 = .ok (.getfield 19, 3) := by decide +kernel
theorem dX5_init_116 : decode cX5_init 116 = .ok (.iload_n 1, 1) := by decide +kernel
theorem dX5_init_117 : decode cX5_init 117 = .ok (.new 17, 3) := by decide +kernel
theorem dX5_init_120 : decode cX5_init 120 = .ok (.dup, 1) := by decide +kernel
theorem dX5_init_121 : decode cX5_init 121 = .ok (.invokespecial 56, 3) := by decide +kernel
theorem dX5_init_124 : decode cX5_init 124 = .ok (.aastore, 1) := by decide +kernel
theorem dX5_init_125 : decode cX5_init 125 = .ok (.iinc 1 1, 3) := by decide +kernel
theorem dX5_init_128 : decode cX5_init 128 = .ok (.goto (-25), 3) := by decide +kernel
theorem dX5_init_131 : decode cX5_init 131 = .ok (.iconst 0, 1) := by decide +kernel
theorem dX5_init_132 : decode cX5_init 132 = .ok (.istore_n 1, 1) := by decide +kernel
theorem dX5_init_133 : decode cX5_init 133 = .ok (.iload_n 1, 1) := by decide +kernel
theorem dX5_init_134 : decode cX5_init 134 = .ok (.aload_n 0, 1) := by decide +kernel
theorem dX5_init_135 : decode cX5_init 135 = .ok (.getfield 25, 3) := by decide +kernel
theorem dX5_init_138 : decode cX5_init 138 = .ok (.arraylength, 1) := by decide +kernel
theorem dX5_init_139 : decode cX5_init 139 = .ok (.if_icmp .ge 22, 3) := by decide +kernel
theorem dX5_init_142 : decode cX5_init 142 = .ok (.aload_n 0, 1) := by decide +kernel
theorem dX5_init_143 : decode cX5_init 143 = .ok (.getfield 25, 3) := by decide +kernel
theorem dX5_init_146 : decode cX5_init 146 = .ok (.iload_n 1, 1) := by decide +kernel
theorem dX5_init_147 : decode cX5_init 147 = .ok (.new 23, 3) := by decide +kernel
theorem dX5_init_150 : decode cX5_init 150 = .ok (.dup, 1) := by decide +kernel
theorem dX5_init_151 : decode cX5_init 151 = .ok (.invokespecial 57, 3) := by decide +kernel
theorem dX5_init_154 : decode cX5_init 154 = .ok (.aastore, 1) := by decide +kernel
theorem dX5_init_155 : decode cX5_init 155 = .ok (.iinc 1 1, 3) := by decide +kernel
theorem dX5_init_158 : decode cX5_init 158 = .ok (.goto (-25), 3) := by decide +kernel
theorem dX5_init_161 : decode cX5_init 161 = .ok (.return_, 1) := by decide +kernel
theorem dX5_copyFrom_0 : decode cX5_copyFrom 0 = .ok (.iconst 0, 1) := by decide +kernel
theorem dX5_copyFrom_1 : decode cX5_copyFrom 1 = .ok (.istore_n 2, 1) := by decide +kernel
theorem dX5_copyFrom_2 : decode cX5_copyFrom 2 = .ok (.iload_n 2, 1) := by decide +kernel
theorem dX5_copyFrom_3 : decode cX5_copyFrom 3 = .ok (.aload_n 0, 1) := by decide +kernel
theorem dX5_copyFrom_4 : decode cX5_copyFrom 4 = .ok (.getfield 11, 3) := by decide +kernel
theorem dX5_copyFrom_7 : decode cX5_copyFrom 7 = .ok (.arraylength, 1) := by decide +kernel
theorem dX5_copyFrom_8 : decode cX5_copyFrom 8 = .ok (.if_icmp .ge 24, 3) := by decide +kernel
theorem dX5_copyFrom_11 : decode cX5_copyFrom 11 = .ok (.aload_n 0, 1) := by decide +kernel
theorem dX5_copyFrom_12 : decode cX5_copyFrom 12 = .ok (.getfield 11, 3) := by decide +kernel
theorem dX5_copyFrom_15 : decode cX5_copyFrom 15 = .ok (.iload_n 2, 1) := by decide +kernel
theorem dX5_copyFrom_16 : decode cX5_copyFrom 16 = .ok (.aaload, 1) := by decide +kernel
theorem dX5_copyFrom_17 : decode cX5_copyFrom 17 = .ok (.aload_n 1, 1) := by decide +kernel
theorem dX5_copyFrom_18 : decode cX5_copyFrom 18 = .ok (.getfield 11, 3) := by decide +kernel
theorem dX5_copyFrom_21 : decode cX5_copyFrom 21 = .ok (.iload_n 2, 1) := by decide +kernel
theorem dX5_copyFrom_22 : decode cX5_copyFrom 22 = .ok (.aaload, 1) := by decide +kernel
theorem dX5_copyFrom_23 : decode cX5_copyFrom 23 = .ok (.invokevirtual 58, 3) := by decide +kernel
theorem dX5_copyFrom_26 : decode cX5_copyFrom 26 = .ok (.iinc 2 1, 3) := by decide +kernel
theorem dX5_copyFrom_29 : decode cX5_copyFrom 29 = .ok (.goto (-27), 3) := by decide +kernel
theorem dX5_copyFrom_32 : decode cX5_copyFrom 32 = .ok (.iconst 0, 1) := by decide +kernel
theorem dX5_copyFrom_33 : decode cX5_copyFrom 33 = .ok (.istore_n 2, 1) := by decide +kernel
theorem dX5_copyFrom_34 : decode cX5_copyFrom 34 = .ok (.iload_n 2, 1) := by decide +kernel
theorem dX5_copyFrom_35 : decode cX5_copyFrom 35 = .ok (.aload_n 0, 1) := by decide +kernel
theorem dX5_copyFrom_36 : decode cX5_copyFrom 36 = .ok (.getfield 19, 3) := by decide +kernel
theorem dX5_copyFrom_39 : decode cX5_copyFrom 39 = .ok (.arraylength, 1) := by decide +kernel
theorem dX5_copyFrom_40 : decode cX5_copyFrom 40 = .ok (.if_icmp .ge 24, 3) := by decide +kernel
theorem dX5_copyFrom_43 : decode cX5_copyFrom 43 = .ok (.aload_n 0, 1) := by decide +kernel
theorem dX5_copyFrom_44 : decode cX5_copyFrom 44 = .ok (.getfield 19, 3) := by decide +kernel
theorem dX5_copyFrom_47 : decode cX5_copyFrom 47 = .ok (.iload_n 2, 1) := by decide +kernel
theorem dX5_copyFrom_48 : decode cX5_copyFrom 48 = .ok (.aaload, 1) := by decide +kernel
theorem dX5_copyFrom_49 : decode cX5_copyFrom 49 = .ok (.aload_n 1, 1) := by decide +kernel
theorem dX5_copyFrom_50 : decode cX5_copyFrom 50 = .ok (.getfield 19, 3) := by decide +kernel
theorem dX5_copyFrom_53 : decode cX5_copyFrom 53 = .ok (.iload_n 2, 1) := by decide +kernel
theorem dX5_copyFrom_54 : decode cX5_copyFrom 54 = .ok (.aaload, 1) := by decide +kernel
theorem dX5_copyFrom_55 : decode cX5_copyFrom 55 = .ok (.invokevirtual 62, 3) := by decide +kernel
theorem dX5_copyFrom_58 : decode cX5_copyFrom 58 = .ok (.iinc 2 1, 3) := by decide +kernel
theorem dX5_copyFrom_61 : decode cX5_copyFrom 61 = .ok (.goto (-27), 3) := by decide +kernel
theorem dX5_copyFrom_64 : decode cX5_copyFrom 64 = .ok (.iconst 0, 1) := by decide +kernel
theorem dX5_copyFrom_65 : decode cX5_copyFrom 65 = .ok (.istore_n 2, 1) := by decide +kernel
theorem dX5_copyFrom_66 : decode cX5_copyFrom 66 = .ok (.iload_n 2, 1) := by decide +kernel
theorem dX5_copyFrom_67 : decode cX5_copyFrom 67 = .ok (.aload_n 0, 1) := by decide +kernel
theorem dX5_copyFrom_68 : decode cX5_copyFrom 68 = .ok (.getfield 25, 3) := by decide +kernel
theorem dX5_copyFrom_71 : decode cX5_copyFrom 71 = .ok (.arraylength, 1) := by decide +kernel
theorem dX5_copyFrom_72 : decode cX5_copyFrom 72 = .ok (.if_icmp .ge 24, 3) := by decide +kernel
theorem dX5_copyFrom_75 : decode cX5_copyFrom 75 = .ok (.aload_n 0, 1) := by decide +kernel
theorem dX5_copyFrom_76 : decode cX5_copyFrom 76 = .ok (.getfield 25, 3) := by decide +kernel
theorem dX5_copyFrom_79 : decode cX5_copyFrom 79 = .ok (.iload_n 2, 1) := by decide +kernel
theorem dX5_copyFrom_80 : decode cX5_copyFrom 80 = .ok (.aaload, 1) := by decide +kernel
theorem dX5_copyFrom_81 : decode cX5_copyFrom 81 = .ok (.aload_n 1, 1) := by decide +kernel
theorem dX5_copyFrom_82 : decode cX5_copyFrom 82 = .ok (.getfield 25, 3) := by decide +kernel
theorem dX5_copyFrom_85 : decode cX5_copyFrom 85 = .ok (.iload_n 2, 1) := by decide +kernel
theorem dX5_copyFrom_86 : decode cX5_copyFrom 86 = .ok (.aaload, 1) := by decide +kernel
theorem dX5_copyFrom_87 : decode cX5_copyFrom 87 = .ok (.invokevirtual 65, 3) := by decide +kernel
theorem dX5_copyFrom_90 : decode cX5_copyFrom 90 = .ok (.iinc 2 1, 3) := by decide +kernel
theorem dX5_copyFrom_93 : decode cX5_copyFrom 93 = .ok (.goto (-27), 3) := by decide +kernel
theorem dX5_copyFrom_96 : decode cX5_copyFrom 96 = .ok (.iconst 0, 1) := by decide +kernel
theorem dX5_copyFrom_97 : decode cX5_copyFrom 97 = .ok (.istore_n 2, 1) := by decide +kernel
theorem dX5_copyFrom_98 : decode cX5_copyFrom 98 = .ok (.iload_n 2, 1) := by decide +kernel
theorem dX5_copyFrom_99 : decode cX5_copyFrom 99 = .ok (.aload_n 0, 1) := by decide +kernel
theorem dX5_copyFrom_100 : decode cX5_copyFrom 100 = .ok (.getfield 33, 3) := by decide +kernel
theorem dX5_copyFrom_103 : decode cX5_copyFrom 103 = .ok (.arraylength, 1) := by decide +kernel
theorem dX5_copyFrom_104 : decode cX5_copyFrom 104 = .ok (.if_icmp .ge 21, 3) := by decide +kernel
theorem dX5_copyFrom_107 : decode cX5_copyFrom 107 = .ok (.aload_n 0, 1) := by decide +kernel
theorem dX5_copyFrom_108 : decode cX5_copyFrom 108 = .ok (.getfield 33, 3) := by decide +kernel
theorem dX5_copyFrom_111 : decode cX5_copyFrom 111 = .ok (.iload_n 2, 1) := by decide +kernel
theorem dX5_copyFrom_112 : decode cX5_copyFrom 112 = .ok (.aload_n 1, 1) := by decide +kernel
theorem dX5_copyFrom_113 : decode cX5_copyFrom 113 = .ok (.getfield 33, 3) := by decide +kernel
theorem dX5_copyFrom_116 : decode cX5_copyFrom 116 = .ok (.iload_n 2, 1) := by decide +kernel
theorem dX5_copyFrom_117 : decode cX5_copyFrom 117 = .ok (.iaload, 1) := by decide +kernel
theorem dX5_copyFrom_118 : decode cX5_copyFrom 118 = .ok (.iastore, 1) := by decide +kernel
theorem dX5_copyFrom_119 : decode cX5_copyFrom 119 = .ok (.iinc 2 1, 3) := by decide +kernel
theorem dX5_copyFrom_122 : decode cX5_copyFrom 122 = .ok (.goto (-24), 3) := by decide +kernel
theorem dX5_copyFrom_125 : decode cX5_copyFrom 125 = .ok (.aload_n 0, 1) := by decide +kernel
theorem dX5_copyFrom_126 : decode cX5_copyFrom 126 = .ok (.aload_n 1, 1) := by decide +kernel
theorem dX5_copyFrom_127 : decode cX5_copyFrom 127 = .ok (.getfield 36, 3) := by decide +kernel
theorem dX5_copyFrom_130 : decode cX5_copyFrom 130 = .ok (.putfield 36, 3) := by decide +kernel
theorem dX5_copyFrom_133 : decode cX5_copyFrom 133 = .ok (.aload_n 0, 1) := by decide +kernel
theorem dX5_copyFrom_134 : decode cX5_copyFrom 134 = .ok (.aload_n 1, 1) := by decide +kernel
theorem dX5_copyFrom_135 : decode cX5_copyFrom 135 = .ok (.getfield 40, 3) := by decide +kernel
theorem dX5_copyFrom_138 : decode cX5_copyFrom 138 = .ok (.putfield 40, 3) := by decide +kernel
theorem dX5_copyFrom_141 : decode cX5_copyFrom 141 = .ok (.aload_n 0, 1) := by decide +kernel
theorem dX5_copyFrom_142 : decode cX5_copyFrom 142 = .ok (.aload_n 1, 1) := by decide +kernel
theorem dX5_copyFrom_143 : decode cX5_copyFrom 143 = .ok (.getfield 43, 3) := by decide +kernel
theorem dX5_copyFrom_146 : decode cX5_copyFrom 146 = .ok (.putfield 43, 3) := by decide +kernel
theorem dX5_copyFrom_149 : decode cX5_copyFrom 149 = .ok (.aload_n 0, 1) := by decide +kernel
theorem dX5_copyFrom_150 : decode cX5_copyFrom 150 = .ok (.aload_n 1, 1) := by decide +kernel
theorem dX5_copyFrom_151 : decode cX5_copyFrom 151 = .ok (.getfield 46, 3) := by decide +kernel
theorem dX5_copyFrom_154 : decode cX5_copyFrom 154 = .ok (.putfield 46, 3) := by decide +kernel
theorem dX5_copyFrom_157 : decode cX5_copyFrom 157 = .ok (.aload_n 0, 1) := by decide +kernel
theorem dX5_copyFrom_158 : decode cX5_copyFrom 158 = .ok (.aload_n 1, 1) := by decide +kernel
theorem dX5_copyFrom_159 : decode cX5_copyFrom 159 = .ok (.getfield 49, 3) := by decide +kernel
theorem dX5_copyFrom_162 : decode cX5_copyFrom 162 = .ok (.putfield 49, 3) := by decide +kernel
theorem dX5_copyFrom_165 : decode cX5_copyFrom 165 = .ok (.aload_n 0, 1) := by decide +kernel
theorem dX5_copyFrom_166 : decode cX5_copyFrom 166 = .ok (.aload_n 1, 1) := by decide +kernel
theorem dX5_copyFrom_167 : decode cX5_copyFrom 167 = .ok (.getfield 52, 3) := by decide +kernel
theorem dX5_copyFrom_170 : decode cX5_copyFrom 170 = .ok (.putfield 52, 3) := by decide +kernel
theorem dX5_copyFrom_173 : decode cX5_copyFrom 173 = .ok (.return_, 1) := by decide +kernel
theorem dX5_hasInvestor_0 : decode cX5_hasInvestor 0 = .ok (.iload_n 1, 1) := by decide +kernel
theorem dX5_hasInvestor_1 : decode cX5_hasInvestor 1 = .ok (.ifCond .lt 15, 3) := by decide +kernel
theorem dX5_hasInvestor_4 : decode cX5_hasInvestor 4 = .ok (.iload_n 1, 1) := by decide +kernel
theorem dX5_hasInvestor_5 : decode cX5_hasInvestor 5 = .ok (.aload_n 0, 1) := by decide +kernel
theorem dX5_hasInvestor_6 : decode cX5_hasInvestor 6 = .ok (.getfield 36, 3) := by decide +kernel
theorem dX5_hasInvestor_9 : decode cX5_hasInvestor 9 = .ok (.if_icmp .ge 7, 3) := by decide +kernel
theorem dX5_hasInvestor_12 : decode cX5_hasInvestor 12 = .ok (.iconst 1, 1) := by decide +kernel
theorem dX5_hasInvestor_13 : decode cX5_hasInvestor 13 = .ok (.goto 4, 3) := by decide +kernel
theorem dX5_hasInvestor_16 : decode cX5_hasInvestor 16 = .ok (.iconst 0, 1) := by decide +kernel
theorem dX5_hasInvestor_17 : decode cX5_hasInvestor 17 = .ok (.ireturn, 1) := by decide +kernel
theorem dX5_hasLoan_0 : decode cX5_hasLoan 0 = .ok (.iload_n 1, 1) := by decide +kernel
theorem dX5_hasLoan_1 : decode cX5_hasLoan 1 = .ok (.ifCond .lt 15, 3) := by decide +kernel
theorem dX5_hasLoan_4 : decode cX5_hasLoan 4 = .ok (.iload_n 1, 1) := by decide +kernel
theorem dX5_hasLoan_5 : decode cX5_hasLoan 5 = .ok (.aload_n 0, 1) := by decide +kernel
theorem dX5_hasLoan_6 : decode cX5_hasLoan 6 = .ok (.getfield 40, 3) := by decide +kernel
theorem dX5_hasLoan_9 : decode cX5_hasLoan 9 = .ok (.if_icmp .ge 7, 3) := by decide +kernel
theorem dX5_hasLoan_12 : decode cX5_hasLoan 12 = .ok (.iconst 1, 1) := by decide +kernel
theorem dX5_hasLoan_13 : decode cX5_hasLoan 13 = .ok (.goto 4, 3) := by decide +kernel
theorem dX5_hasLoan_16 : decode cX5_hasLoan 16 = .ok (.iconst 0, 1) := by decide +kernel
theorem dX5_hasLoan_17 : decode cX5_hasLoan 17 = .ok (.ireturn, 1) := by decide +kernel
theorem dX5_hasNote_0 : decode cX5_hasNote 0 = .ok (.iload_n 1, 1) := by decide +kernel
theorem dX5_hasNote_1 : decode cX5_hasNote 1 = .ok (.ifCond .lt 15, 3) := by decide +kernel
theorem dX5_hasNote_4 : decode cX5_hasNote 4 = .ok (.iload_n 1, 1) := by decide +kernel
theorem dX5_hasNote_5 : decode cX5_hasNote 5 = .ok (.aload_n 0, 1) := by decide +kernel
theorem dX5_hasNote_6 : decode cX5_hasNote 6 = .ok (.getfield 43, 3) := by decide +kernel
theorem dX5_hasNote_9 : decode cX5_hasNote 9 = .ok (.if_icmp .ge 7, 3) := by decide +kernel
theorem dX5_hasNote_12 : decode cX5_hasNote 12 = .ok (.iconst 1, 1) := by decide +kernel
theorem dX5_hasNote_13 : decode cX5_hasNote 13 = .ok (.goto 4, 3) := by decide +kernel
theorem dX5_hasNote_16 : decode cX5_hasNote 16 = .ok (.iconst 0, 1) := by decide +kernel
theorem dX5_hasNote_17 : decode cX5_hasNote 17 = .ok (.ireturn, 1) := by decide +kernel
theorem dX5_runs_0 : decode cX5_runs 0 = .ok (.aload_n 0, 1) := by decide +kernel
theorem dX5_runs_1 : decode cX5_runs 1 = .ok (.iload_n 1, 1) := by decide +kernel
theorem dX5_runs_2 : decode cX5_runs 2 = .ok (.invokevirtual 68, 3) := by decide +kernel
theorem dX5_runs_5 : decode cX5_runs 5 = .ok (.ifCond .eq 20, 3) := by decide +kernel
theorem dX5_runs_8 : decode cX5_runs 8 = .ok (.aload_n 0, 1) := by decide +kernel
theorem dX5_runs_9 : decode cX5_runs 9 = .ok (.getfield 19, 3) := by decide +kernel
theorem dX5_runs_12 : decode cX5_runs 12 = .ok (.iload_n 1, 1) := by decide +kernel
theorem dX5_runs_13 : decode cX5_runs 13 = .ok (.aaload, 1) := by decide +kernel
theorem dX5_runs_14 : decode cX5_runs 14 = .ok (.getfield 72, 3) := by decide +kernel
theorem dX5_runs_17 : decode cX5_runs 17 = .ok (.iconst 1, 1) := by decide +kernel
theorem dX5_runs_18 : decode cX5_runs 18 = .ok (.if_icmp .ne 7, 3) := by decide +kernel
theorem dX5_runs_21 : decode cX5_runs 21 = .ok (.iconst 1, 1) := by decide +kernel
theorem dX5_runs_22 : decode cX5_runs 22 = .ok (.goto 4, 3) := by decide +kernel
theorem dX5_runs_25 : decode cX5_runs 25 = .ok (.iconst 0, 1) := by decide +kernel
theorem dX5_runs_26 : decode cX5_runs 26 = .ok (.ireturn, 1) := by decide +kernel
theorem dX5_cashOf_0 : decode cX5_cashOf 0 = .ok (.aload_n 0, 1) := by decide +kernel
theorem dX5_cashOf_1 : decode cX5_cashOf 1 = .ok (.iload_n 1, 1) := by decide +kernel
theorem dX5_cashOf_2 : decode cX5_cashOf 2 = .ok (.invokevirtual 75, 3) := by decide +kernel
theorem dX5_cashOf_5 : decode cX5_cashOf 5 = .ok (.ifCond .eq 15, 3) := by decide +kernel
theorem dX5_cashOf_8 : decode cX5_cashOf 8 = .ok (.aload_n 0, 1) := by decide +kernel
theorem dX5_cashOf_9 : decode cX5_cashOf 9 = .ok (.getfield 11, 3) := by decide +kernel
theorem dX5_cashOf_12 : decode cX5_cashOf 12 = .ok (.iload_n 1, 1) := by decide +kernel
theorem dX5_cashOf_13 : decode cX5_cashOf 13 = .ok (.aaload, 1) := by decide +kernel
theorem dX5_cashOf_14 : decode cX5_cashOf 14 = .ok (.getfield 78, 3) := by decide +kernel
theorem dX5_cashOf_17 : decode cX5_cashOf 17 = .ok (.goto 4, 3) := by decide +kernel
theorem dX5_cashOf_20 : decode cX5_cashOf 20 = .ok (.iconst 0, 1) := by decide +kernel
theorem dX5_cashOf_21 : decode cX5_cashOf 21 = .ok (.ireturn, 1) := by decide +kernel
theorem dX5_give_0 : decode cX5_give 0 = .ok (.aload_n 0, 1) := by decide +kernel
theorem dX5_give_1 : decode cX5_give 1 = .ok (.iload_n 1, 1) := by decide +kernel
theorem dX5_give_2 : decode cX5_give 2 = .ok (.invokevirtual 75, 3) := by decide +kernel
theorem dX5_give_5 : decode cX5_give 5 = .ok (.ifCond .eq 18, 3) := by decide +kernel
theorem dX5_give_8 : decode cX5_give 8 = .ok (.aload_n 0, 1) := by decide +kernel
theorem dX5_give_9 : decode cX5_give 9 = .ok (.getfield 11, 3) := by decide +kernel
theorem dX5_give_12 : decode cX5_give 12 = .ok (.iload_n 1, 1) := by decide +kernel
theorem dX5_give_13 : decode cX5_give 13 = .ok (.aaload, 1) := by decide +kernel
theorem dX5_give_14 : decode cX5_give 14 = .ok (.dup, 1) := by decide +kernel
theorem dX5_give_15 : decode cX5_give 15 = .ok (.getfield 78, 3) := by decide +kernel
theorem dX5_give_18 : decode cX5_give 18 = .ok (.iload_n 2, 1) := by decide +kernel
theorem dX5_give_19 : decode cX5_give 19 = .ok (.iadd, 1) := by decide +kernel
theorem dX5_give_20 : decode cX5_give 20 = .ok (.putfield 78, 3) := by decide +kernel
theorem dX5_give_23 : decode cX5_give 23 = .ok (.return_, 1) := by decide +kernel
theorem dX5_fundingError_0 : decode cX5_fundingError 0 = .ok (.aload_n 0, 1) := by decide +kernel
theorem dX5_fundingError_1 : decode cX5_fundingError 1 = .ok (.iload_n 1, 1) := by decide +kernel
theorem dX5_fundingError_2 : decode cX5_fundingError 2 = .ok (.invokevirtual 75, 3) := by decide +kernel
theorem dX5_fundingError_5 : decode cX5_fundingError 5 = .ok (.ifCond .eq 11, 3) := by decide +kernel
theorem dX5_fundingError_8 : decode cX5_fundingError 8 = .ok (.aload_n 0, 1) := by decide +kernel
theorem dX5_fundingError_9 : decode cX5_fundingError 9 = .ok (.iload_n 2, 1) := by decide +kernel
theorem dX5_fundingError_10 : decode cX5_fundingError 10 = .ok (.invokevirtual 68, 3) := by decide +kernel
theorem dX5_fundingError_13 : decode cX5_fundingError 13 = .ok (.ifCond .ne 5, 3) := by decide +kernel
theorem dX5_fundingError_16 : decode cX5_fundingError 16 = .ok (.iconst (-1), 1) := by decide +kernel
theorem dX5_fundingError_17 : decode cX5_fundingError 17 = .ok (.ireturn, 1) := by decide +kernel
theorem dX5_fundingError_18 : decode cX5_fundingError 18 = .ok (.iload_n 3, 1) := by decide +kernel
theorem dX5_fundingError_19 : decode cX5_fundingError 19 = .ok (.iconst 1, 1) := by decide +kernel
theorem dX5_fundingError_20 : decode cX5_fundingError 20 = .ok (.if_icmp .lt 9, 3) := by decide +kernel
theorem dX5_fundingError_23 : decode cX5_fundingError 23 = .ok (.iload_n 3, 1) := by decide +kernel
theorem dX5_fundingError_24 : decode cX5_fundingError 24 = .ok (.ldc 81, 2) := by decide +kernel
theorem dX5_fundingError_26 : decode cX5_fundingError 26 = .ok (.if_icmp .le 6, 3) := by decide +kernel
theorem dX5_fundingError_29 : decode cX5_fundingError 29 = .ok (.bipush (-2), 2) := by decide +kernel
theorem dX5_fundingError_31 : decode cX5_fundingError 31 = .ok (.ireturn, 1) := by decide +kernel
theorem dX5_fundingError_32 : decode cX5_fundingError 32 = .ok (.aload_n 0, 1) := by decide +kernel
theorem dX5_fundingError_33 : decode cX5_fundingError 33 = .ok (.getfield 19, 3) := by decide +kernel
theorem dX5_fundingError_36 : decode cX5_fundingError 36 = .ok (.iload_n 2, 1) := by decide +kernel
theorem dX5_fundingError_37 : decode cX5_fundingError 37 = .ok (.aaload, 1) := by decide +kernel
theorem dX5_fundingError_38 : decode cX5_fundingError 38 = .ok (.getfield 72, 3) := by decide +kernel
theorem dX5_fundingError_41 : decode cX5_fundingError 41 = .ok (.ifCond .ne 25, 3) := by decide +kernel
theorem dX5_fundingError_44 : decode cX5_fundingError 44 = .ok (.iload_n 3, 1) := by decide +kernel
theorem dX5_fundingError_45 : decode cX5_fundingError 45 = .ok (.aload_n 0, 1) := by decide +kernel
theorem dX5_fundingError_46 : decode cX5_fundingError 46 = .ok (.iload_n 2, 1) := by decide +kernel
theorem dX5_fundingError_47 : decode cX5_fundingError 47 = .ok (.invokevirtual 82, 3) := by decide +kernel
theorem dX5_fundingError_50 : decode cX5_fundingError 50 = .ok (.if_icmp .gt 16, 3) := by decide +kernel
theorem dX5_fundingError_53 : decode cX5_fundingError 53 = .ok (.iload_n 3, 1) := by decide +kernel
theorem dX5_fundingError_54 : decode cX5_fundingError 54 = .ok (.aload_n 0, 1) := by decide +kernel
theorem dX5_fundingError_55 : decode cX5_fundingError 55 = .ok (.getfield 11, 3) := by decide +kernel
theorem dX5_fundingError_58 : decode cX5_fundingError 58 = .ok (.iload_n 1, 1) := by decide +kernel
theorem dX5_fundingError_59 : decode cX5_fundingError 59 = .ok (.aaload, 1) := by decide +kernel
theorem dX5_fundingError_60 : decode cX5_fundingError 60 = .ok (.getfield 78, 3) := by decide +kernel
theorem dX5_fundingError_63 : decode cX5_fundingError 63 = .ok (.if_icmp .le 6, 3) := by decide +kernel
theorem dX5_fundingError_66 : decode cX5_fundingError 66 = .ok (.bipush (-4), 2) := by decide +kernel
theorem dX5_fundingError_68 : decode cX5_fundingError 68 = .ok (.ireturn, 1) := by decide +kernel
theorem dX5_fundingError_69 : decode cX5_fundingError 69 = .ok (.aload_n 0, 1) := by decide +kernel
theorem dX5_fundingError_70 : decode cX5_fundingError 70 = .ok (.getfield 43, 3) := by decide +kernel
theorem dX5_fundingError_73 : decode cX5_fundingError 73 = .ok (.bipush 60, 2) := by decide +kernel
theorem dX5_fundingError_75 : decode cX5_fundingError 75 = .ok (.if_icmp .lt 8, 3) := by decide +kernel
theorem dX5_fundingError_78 : decode cX5_fundingError 78 = .ok (.bipush (-3), 2) := by decide +kernel
theorem dX5_fundingError_80 : decode cX5_fundingError 80 = .ok (.goto 4, 3) := by decide +kernel
theorem dX5_fundingError_83 : decode cX5_fundingError 83 = .ok (.iconst 0, 1) := by decide +kernel
theorem dX5_fundingError_84 : decode cX5_fundingError 84 = .ok (.ireturn, 1) := by decide +kernel
theorem dX5_addNote_0 : decode cX5_addNote 0 = .ok (.aload_n 0, 1) := by decide +kernel
theorem dX5_addNote_1 : decode cX5_addNote 1 = .ok (.iload_n 1, 1) := by decide +kernel
theorem dX5_addNote_2 : decode cX5_addNote 2 = .ok (.iload_n 2, 1) := by decide +kernel
theorem dX5_addNote_3 : decode cX5_addNote 3 = .ok (.iload 4, 2) := by decide +kernel
theorem dX5_addNote_5 : decode cX5_addNote 5 = .ok (.invokevirtual 86, 3) := by decide +kernel
theorem dX5_addNote_8 : decode cX5_addNote 8 = .ok (.ifCond .eq 4, 3) := by decide +kernel
theorem dX5_addNote_11 : decode cX5_addNote 11 = .ok (.return_, 1) := by decide +kernel
theorem dX5_addNote_12 : decode cX5_addNote 12 = .ok (.aload_n 0, 1) := by decide +kernel
theorem dX5_addNote_13 : decode cX5_addNote 13 = .ok (.getfield 25, 3) := by decide +kernel
theorem dX5_addNote_16 : decode cX5_addNote 16 = .ok (.aload_n 0, 1) := by decide +kernel
theorem dX5_addNote_17 : decode cX5_addNote 17 = .ok (.getfield 43, 3) := by decide +kernel
theorem dX5_addNote_20 : decode cX5_addNote 20 = .ok (.aaload, 1) := by decide +kernel
theorem dX5_addNote_21 : decode cX5_addNote 21 = .ok (.iload_n 1, 1) := by decide +kernel
theorem dX5_addNote_22 : decode cX5_addNote 22 = .ok (.iload_n 2, 1) := by decide +kernel
theorem dX5_addNote_23 : decode cX5_addNote 23 = .ok (.iload_n 3, 1) := by decide +kernel
theorem dX5_addNote_24 : decode cX5_addNote 24 = .ok (.iload 4, 2) := by decide +kernel
theorem dX5_addNote_26 : decode cX5_addNote 26 = .ok (.invokevirtual 90, 3) := by decide +kernel
theorem dX5_addNote_29 : decode cX5_addNote 29 = .ok (.aload_n 0, 1) := by decide +kernel
theorem dX5_addNote_30 : decode cX5_addNote 30 = .ok (.dup, 1) := by decide +kernel
theorem dX5_addNote_31 : decode cX5_addNote 31 = .ok (.getfield 43, 3) := by decide +kernel
theorem dX5_addNote_34 : decode cX5_addNote 34 = .ok (.iconst 1, 1) := by decide +kernel
theorem dX5_addNote_35 : decode cX5_addNote 35 = .ok (.iadd, 1) := by decide +kernel
theorem dX5_addNote_36 : decode cX5_addNote 36 = .ok (.putfield 43, 3) := by decide +kernel
theorem dX5_addNote_39 : decode cX5_addNote 39 = .ok (.aload_n 0, 1) := by decide +kernel
theorem dX5_addNote_40 : decode cX5_addNote 40 = .ok (.iload_n 1, 1) := by decide +kernel
theorem dX5_addNote_41 : decode cX5_addNote 41 = .ok (.iload 4, 2) := by decide +kernel
theorem dX5_addNote_43 : decode cX5_addNote 43 = .ok (.ineg, 1) := by decide +kernel
theorem dX5_addNote_44 : decode cX5_addNote 44 = .ok (.invokevirtual 94, 3) := by decide +kernel
theorem dX5_addNote_47 : decode cX5_addNote 47 = .ok (.aload_n 0, 1) := by decide +kernel
theorem dX5_addNote_48 : decode cX5_addNote 48 = .ok (.iload_n 2, 1) := by decide +kernel
theorem dX5_addNote_49 : decode cX5_addNote 49 = .ok (.invokevirtual 82, 3) := by decide +kernel
theorem dX5_addNote_52 : decode cX5_addNote 52 = .ok (.ifCond .ne 12, 3) := by decide +kernel
theorem dX5_addNote_55 : decode cX5_addNote 55 = .ok (.aload_n 0, 1) := by decide +kernel
theorem dX5_addNote_56 : decode cX5_addNote 56 = .ok (.getfield 19, 3) := by decide +kernel
theorem dX5_addNote_59 : decode cX5_addNote 59 = .ok (.iload_n 2, 1) := by decide +kernel
theorem dX5_addNote_60 : decode cX5_addNote 60 = .ok (.aaload, 1) := by decide +kernel
theorem dX5_addNote_61 : decode cX5_addNote 61 = .ok (.invokevirtual 98, 3) := by decide +kernel
theorem dX5_addNote_64 : decode cX5_addNote 64 = .ok (.return_, 1) := by decide +kernel
theorem dX5_takePayment_0 : decode cX5_takePayment 0 = .ok (.aload_n 0, 1) := by decide +kernel
theorem dX5_takePayment_1 : decode cX5_takePayment 1 = .ok (.iload_n 1, 1) := by decide +kernel
theorem dX5_takePayment_2 : decode cX5_takePayment 2 = .ok (.invokevirtual 68, 3) := by decide +kernel
theorem dX5_takePayment_5 : decode cX5_takePayment 5 = .ok (.ifCond .ne 4, 3) := by decide +kernel
theorem dX5_takePayment_8 : decode cX5_takePayment 8 = .ok (.return_, 1) := by decide +kernel
theorem dX5_takePayment_9 : decode cX5_takePayment 9 = .ok (.aload_n 0, 1) := by decide +kernel
theorem dX5_takePayment_10 : decode cX5_takePayment 10 = .ok (.getfield 19, 3) := by decide +kernel
theorem dX5_takePayment_13 : decode cX5_takePayment 13 = .ok (.iload_n 1, 1) := by decide +kernel
theorem dX5_takePayment_14 : decode cX5_takePayment 14 = .ok (.aaload, 1) := by decide +kernel
theorem dX5_takePayment_15 : decode cX5_takePayment 15 = .ok (.getfield 101, 3) := by decide +kernel
theorem dX5_takePayment_18 : decode cX5_takePayment 18 = .ok (.istore_n 3, 1) := by decide +kernel
theorem dX5_takePayment_19 : decode cX5_takePayment 19 = .ok (.iload_n 3, 1) := by decide +kernel
theorem dX5_takePayment_20 : decode cX5_takePayment 20 = .ok (.invokestatic 104, 3) := by decide +kernel
theorem dX5_takePayment_23 : decode cX5_takePayment 23 = .ok (.ifCond .eq 16, 3) := by decide +kernel
theorem dX5_takePayment_26 : decode cX5_takePayment 26 = .ok (.aload_n 0, 1) := by decide +kernel
theorem dX5_takePayment_27 : decode cX5_takePayment 27 = .ok (.getfield 33, 3) := by decide +kernel
theorem dX5_takePayment_30 : decode cX5_takePayment 30 = .ok (.iload_n 3, 1) := by decide +kernel
theorem dX5_takePayment_31 : decode cX5_takePayment 31 = .ok (.dup2, 1) := by decide +kernel
theorem dX5_takePayment_32 : decode cX5_takePayment 32 = .ok (.iaload, 1) := by decide +kernel
theorem dX5_takePayment_33 : decode cX5_takePayment 33 = .ok (.aload_n 2, 1) := by decide +kernel
theorem dX5_takePayment_34 : decode cX5_takePayment 34 = .ok (.getfield 107, 3) := by decide +kernel
theorem dX5_takePayment_37 : decode cX5_takePayment 37 = .ok (.iadd, 1) := by decide +kernel
theorem dX5_takePayment_38 : decode cX5_takePayment 38 = .ok (.iastore, 1) := by decide +kernel
theorem dX5_takePayment_39 : decode cX5_takePayment 39 = .ok (.aload_n 0, 1) := by decide +kernel
theorem dX5_takePayment_40 : decode cX5_takePayment 40 = .ok (.dup, 1) := by decide +kernel
theorem dX5_takePayment_41 : decode cX5_takePayment 41 = .ok (.getfield 49, 3) := by decide +kernel
theorem dX5_takePayment_44 : decode cX5_takePayment 44 = .ok (.aload_n 2, 1) := by decide +kernel
theorem dX5_takePayment_45 : decode cX5_takePayment 45 = .ok (.getfield 112, 3) := by decide +kernel
theorem dX5_takePayment_48 : decode cX5_takePayment 48 = .ok (.iadd, 1) := by decide +kernel
theorem dX5_takePayment_49 : decode cX5_takePayment 49 = .ok (.putfield 49, 3) := by decide +kernel
theorem dX5_takePayment_52 : decode cX5_takePayment 52 = .ok (.aload_n 0, 1) := by decide +kernel
theorem dX5_takePayment_53 : decode cX5_takePayment 53 = .ok (.getfield 19, 3) := by decide +kernel
theorem dX5_takePayment_56 : decode cX5_takePayment 56 = .ok (.iload_n 1, 1) := by decide +kernel
theorem dX5_takePayment_57 : decode cX5_takePayment 57 = .ok (.aaload, 1) := by decide +kernel
theorem dX5_takePayment_58 : decode cX5_takePayment 58 = .ok (.aload_n 2, 1) := by decide +kernel
theorem dX5_takePayment_59 : decode cX5_takePayment 59 = .ok (.getfield 115, 3) := by decide +kernel
theorem dX5_takePayment_62 : decode cX5_takePayment 62 = .ok (.aload_n 2, 1) := by decide +kernel
theorem dX5_takePayment_63 : decode cX5_takePayment 63 = .ok (.getfield 118, 3) := by decide +kernel
theorem dX5_takePayment_66 : decode cX5_takePayment 66 = .ok (.invokevirtual 121, 3) := by decide +kernel
theorem dX5_takePayment_69 : decode cX5_takePayment 69 = .ok (.return_, 1) := by decide +kernel
theorem dX5_writeOff_0 : decode cX5_writeOff 0 = .ok (.iconst 0, 1) := by decide +kernel
theorem dX5_writeOff_1 : decode cX5_writeOff 1 = .ok (.istore_n 2, 1) := by decide +kernel
theorem dX5_writeOff_2 : decode cX5_writeOff 2 = .ok (.iconst 0, 1) := by decide +kernel
theorem dX5_writeOff_3 : decode cX5_writeOff 3 = .ok (.istore_n 3, 1) := by decide +kernel
theorem dX5_writeOff_4 : decode cX5_writeOff 4 = .ok (.iload_n 3, 1) := by decide +kernel
theorem dX5_writeOff_5 : decode cX5_writeOff 5 = .ok (.aload_n 0, 1) := by decide +kernel
theorem dX5_writeOff_6 : decode cX5_writeOff 6 = .ok (.getfield 43, 3) := by decide +kernel
theorem dX5_writeOff_9 : decode cX5_writeOff 9 = .ok (.if_icmp .ge 85, 3) := by decide +kernel
theorem dX5_writeOff_12 : decode cX5_writeOff 12 = .ok (.aload_n 0, 1) := by decide +kernel
theorem dX5_writeOff_13 : decode cX5_writeOff 13 = .ok (.getfield 25, 3) := by decide +kernel
theorem dX5_writeOff_16 : decode cX5_writeOff 16 = .ok (.iload_n 3, 1) := by decide +kernel
theorem dX5_writeOff_17 : decode cX5_writeOff 17 = .ok (.aaload, 1) := by decide +kernel
theorem dX5_writeOff_18 : decode cX5_writeOff 18 = .ok (.astore 4, 2) := by decide +kernel
theorem dX5_writeOff_20 : decode cX5_writeOff 20 = .ok (.aload 4, 2) := by decide +kernel
theorem dX5_writeOff_22 : decode cX5_writeOff 22 = .ok (.getfield 124, 3) := by decide +kernel
theorem dX5_writeOff_25 : decode cX5_writeOff 25 = .ok (.iload_n 1, 1) := by decide +kernel
theorem dX5_writeOff_26 : decode cX5_writeOff 26 = .ok (.if_icmp .ne 62, 3) := by decide +kernel
theorem dX5_writeOff_29 : decode cX5_writeOff 29 = .ok (.aload 4, 2) := by decide +kernel
theorem dX5_writeOff_31 : decode cX5_writeOff 31 = .ok (.aload 4, 2) := by decide +kernel
theorem dX5_writeOff_33 : decode cX5_writeOff 33 = .ok (.getfield 127, 3) := by decide +kernel
theorem dX5_writeOff_36 : decode cX5_writeOff 36 = .ok (.putfield 128, 3) := by decide +kernel
theorem dX5_writeOff_39 : decode cX5_writeOff 39 = .ok (.aload 4, 2) := by decide +kernel
theorem dX5_writeOff_41 : decode cX5_writeOff 41 = .ok (.iconst 0, 1) := by decide +kernel
theorem dX5_writeOff_42 : decode cX5_writeOff 42 = .ok (.putfield 127, 3) := by decide +kernel
theorem dX5_writeOff_45 : decode cX5_writeOff 45 = .ok (.iload_n 2, 1) := by decide +kernel
theorem dX5_writeOff_46 : decode cX5_writeOff 46 = .ok (.aload 4, 2) := by decide +kernel
theorem dX5_writeOff_48 : decode cX5_writeOff 48 = .ok (.getfield 128, 3) := by decide +kernel
theorem dX5_writeOff_51 : decode cX5_writeOff 51 = .ok (.iadd, 1) := by decide +kernel
theorem dX5_writeOff_52 : decode cX5_writeOff 52 = .ok (.istore_n 2, 1) := by decide +kernel
theorem dX5_writeOff_53 : decode cX5_writeOff 53 = .ok (.aload_n 0, 1) := by decide +kernel
theorem dX5_writeOff_54 : decode cX5_writeOff 54 = .ok (.aload 4, 2) := by decide +kernel
theorem dX5_writeOff_56 : decode cX5_writeOff 56 = .ok (.getfield 131, 3) := by decide +kernel
theorem dX5_writeOff_59 : decode cX5_writeOff 59 = .ok (.invokevirtual 75, 3) := by decide +kernel
theorem dX5_writeOff_62 : decode cX5_writeOff 62 = .ok (.ifCond .eq 26, 3) := by decide +kernel
theorem dX5_writeOff_65 : decode cX5_writeOff 65 = .ok (.aload_n 0, 1) := by decide +kernel
theorem dX5_writeOff_66 : decode cX5_writeOff 66 = .ok (.getfield 11, 3) := by decide +kernel
theorem dX5_writeOff_69 : decode cX5_writeOff 69 = .ok (.aload 4, 2) := by decide +kernel
theorem dX5_writeOff_71 : decode cX5_writeOff 71 = .ok (.getfield 131, 3) := by decide +kernel
theorem dX5_writeOff_74 : decode cX5_writeOff 74 = .ok (.aaload, 1) := by decide +kernel
theorem dX5_writeOff_75 : decode cX5_writeOff 75 = .ok (.dup, 1) := by decide +kernel
theorem dX5_writeOff_76 : decode cX5_writeOff 76 = .ok (.getfield 134, 3) := by decide +kernel
theorem dX5_writeOff_79 : decode cX5_writeOff 79 = .ok (.aload 4, 2) := by decide +kernel
theorem dX5_writeOff_81 : decode cX5_writeOff 81 = .ok (.getfield 128, 3) := by decide +kernel
theorem dX5_writeOff_84 : decode cX5_writeOff 84 = .ok (.iadd, 1) := by decide +kernel
theorem dX5_writeOff_85 : decode cX5_writeOff 85 = .ok (.putfield 134, 3) := by decide +kernel
theorem dX5_writeOff_88 : decode cX5_writeOff 88 = .ok (.iinc 3 1, 3) := by decide +kernel
theorem dX5_writeOff_91 : decode cX5_writeOff 91 = .ok (.goto (-87), 3) := by decide +kernel
theorem dX5_writeOff_94 : decode cX5_writeOff 94 = .ok (.iload_n 2, 1) := by decide +kernel
theorem dX5_writeOff_95 : decode cX5_writeOff 95 = .ok (.ireturn, 1) := by decide +kernel
theorem dX5_passMonth_0 : decode cX5_passMonth 0 = .ok (.aload_n 0, 1) := by decide +kernel
theorem dX5_passMonth_1 : decode cX5_passMonth 1 = .ok (.dup, 1) := by decide +kernel
theorem dX5_passMonth_2 : decode cX5_passMonth 2 = .ok (.getfield 46, 3) := by decide +kernel
theorem dX5_passMonth_5 : decode cX5_passMonth 5 = .ok (.iconst 1, 1) := by decide +kernel
theorem dX5_passMonth_6 : decode cX5_passMonth 6 = .ok (.iadd, 1) := by decide +kernel
theorem dX5_passMonth_7 : decode cX5_passMonth 7 = .ok (.putfield 46, 3) := by decide +kernel
theorem dX5_passMonth_10 : decode cX5_passMonth 10 = .ok (.iconst 0, 1) := by decide +kernel
theorem dX5_passMonth_11 : decode cX5_passMonth 11 = .ok (.istore_n 1, 1) := by decide +kernel
theorem dX5_passMonth_12 : decode cX5_passMonth 12 = .ok (.iload_n 1, 1) := by decide +kernel
theorem dX5_passMonth_13 : decode cX5_passMonth 13 = .ok (.aload_n 0, 1) := by decide +kernel
theorem dX5_passMonth_14 : decode cX5_passMonth 14 = .ok (.getfield 40, 3) := by decide +kernel
theorem dX5_passMonth_17 : decode cX5_passMonth 17 = .ok (.if_icmp .ge 26, 3) := by decide +kernel
theorem dX5_passMonth_20 : decode cX5_passMonth 20 = .ok (.aload_n 0, 1) := by decide +kernel
theorem dX5_passMonth_21 : decode cX5_passMonth 21 = .ok (.iload_n 1, 1) := by decide +kernel
theorem dX5_passMonth_22 : decode cX5_passMonth 22 = .ok (.invokevirtual 137, 3) := by decide +kernel
theorem dX5_passMonth_25 : decode cX5_passMonth 25 = .ok (.ifCond .eq 12, 3) := by decide +kernel
theorem dX5_passMonth_28 : decode cX5_passMonth 28 = .ok (.aload_n 0, 1) := by decide +kernel
theorem dX5_passMonth_29 : decode cX5_passMonth 29 = .ok (.getfield 19, 3) := by decide +kernel
theorem dX5_passMonth_32 : decode cX5_passMonth 32 = .ok (.iload_n 1, 1) := by decide +kernel
theorem dX5_passMonth_33 : decode cX5_passMonth 33 = .ok (.aaload, 1) := by decide +kernel
theorem dX5_passMonth_34 : decode cX5_passMonth 34 = .ok (.invokevirtual 140, 3) := by decide +kernel
theorem dX5_passMonth_37 : decode cX5_passMonth 37 = .ok (.iinc 1 1, 3) := by decide +kernel
theorem dX5_passMonth_40 : decode cX5_passMonth 40 = .ok (.goto (-28), 3) := by decide +kernel
theorem dX5_passMonth_43 : decode cX5_passMonth 43 = .ok (.return_, 1) := by decide +kernel
theorem dX5_missing_0 : decode cX5_missing 0 = .ok (.aload_n 0, 1) := by decide +kernel
theorem dX5_missing_1 : decode cX5_missing 1 = .ok (.iload_n 1, 1) := by decide +kernel
theorem dX5_missing_2 : decode cX5_missing 2 = .ok (.invokevirtual 68, 3) := by decide +kernel
theorem dX5_missing_5 : decode cX5_missing 5 = .ok (.ifCond .eq 15, 3) := by decide +kernel
theorem dX5_missing_8 : decode cX5_missing 8 = .ok (.aload_n 0, 1) := by decide +kernel
theorem dX5_missing_9 : decode cX5_missing 9 = .ok (.getfield 19, 3) := by decide +kernel
theorem dX5_missing_12 : decode cX5_missing 12 = .ok (.iload_n 1, 1) := by decide +kernel
theorem dX5_missing_13 : decode cX5_missing 13 = .ok (.aaload, 1) := by decide +kernel
theorem dX5_missing_14 : decode cX5_missing 14 = .ok (.getfield 72, 3) := by decide +kernel
theorem dX5_missing_17 : decode cX5_missing 17 = .ok (.ifCond .eq 5, 3) := by decide +kernel
theorem dX5_missing_20 : decode cX5_missing 20 = .ok (.iconst 0, 1) := by decide +kernel
theorem dX5_missing_21 : decode cX5_missing 21 = .ok (.ireturn, 1) := by decide +kernel
theorem dX5_missing_22 : decode cX5_missing 22 = .ok (.aload_n 0, 1) := by decide +kernel
theorem dX5_missing_23 : decode cX5_missing 23 = .ok (.getfield 19, 3) := by decide +kernel
theorem dX5_missing_26 : decode cX5_missing 26 = .ok (.iload_n 1, 1) := by decide +kernel
theorem dX5_missing_27 : decode cX5_missing 27 = .ok (.aaload, 1) := by decide +kernel
theorem dX5_missing_28 : decode cX5_missing 28 = .ok (.getfield 143, 3) := by decide +kernel
theorem dX5_missing_31 : decode cX5_missing 31 = .ok (.aload_n 0, 1) := by decide +kernel
theorem dX5_missing_32 : decode cX5_missing 32 = .ok (.iload_n 1, 1) := by decide +kernel
theorem dX5_missing_33 : decode cX5_missing 33 = .ok (.iconst 0, 1) := by decide +kernel
theorem dX5_missing_34 : decode cX5_missing 34 = .ok (.invokevirtual 146, 3) := by decide +kernel
theorem dX5_missing_37 : decode cX5_missing 37 = .ok (.isub, 1) := by decide +kernel
theorem dX5_missing_38 : decode cX5_missing 38 = .ok (.aload_n 0, 1) := by decide +kernel
theorem dX5_missing_39 : decode cX5_missing 39 = .ok (.iload_n 1, 1) := by decide +kernel
theorem dX5_missing_40 : decode cX5_missing 40 = .ok (.iconst 1, 1) := by decide +kernel
theorem dX5_missing_41 : decode cX5_missing 41 = .ok (.invokevirtual 146, 3) := by decide +kernel
theorem dX5_missing_44 : decode cX5_missing 44 = .ok (.isub, 1) := by decide +kernel
theorem dX5_missing_45 : decode cX5_missing 45 = .ok (.ireturn, 1) := by decide +kernel
theorem dX5_principals_0 : decode cX5_principals 0 = .ok (.iconst 0, 1) := by decide +kernel
theorem dX5_principals_1 : decode cX5_principals 1 = .ok (.istore_n 3, 1) := by decide +kernel
theorem dX5_principals_2 : decode cX5_principals 2 = .ok (.iconst 0, 1) := by decide +kernel
theorem dX5_principals_3 : decode cX5_principals 3 = .ok (.istore 4, 2) := by decide +kernel
theorem dX5_principals_5 : decode cX5_principals 5 = .ok (.iload 4, 2) := by decide +kernel
theorem dX5_principals_7 : decode cX5_principals 7 = .ok (.aload_n 0, 1) := by decide +kernel
theorem dX5_principals_8 : decode cX5_principals 8 = .ok (.getfield 43, 3) := by decide +kernel
theorem dX5_principals_11 : decode cX5_principals 11 = .ok (.if_icmp .ge 50, 3) := by decide +kernel
theorem dX5_principals_14 : decode cX5_principals 14 = .ok (.aload_n 0, 1) := by decide +kernel
theorem dX5_principals_15 : decode cX5_principals 15 = .ok (.getfield 25, 3) := by decide +kernel
theorem dX5_principals_18 : decode cX5_principals 18 = .ok (.iload 4, 2) := by decide +kernel
theorem dX5_principals_20 : decode cX5_principals 20 = .ok (.aaload, 1) := by decide +kernel
theorem dX5_principals_21 : decode cX5_principals 21 = .ok (.getfield 124, 3) := by decide +kernel
theorem dX5_principals_24 : decode cX5_principals 24 = .ok (.iload_n 1, 1) := by decide +kernel
theorem dX5_principals_25 : decode cX5_principals 25 = .ok (.if_icmp .ne 30, 3) := by decide +kernel
theorem dX5_principals_28 : decode cX5_principals 28 = .ok (.aload_n 0, 1) := by decide +kernel
theorem dX5_principals_29 : decode cX5_principals 29 = .ok (.getfield 25, 3) := by decide +kernel
theorem dX5_principals_32 : decode cX5_principals 32 = .ok (.iload 4, 2) := by decide +kernel
theorem dX5_principals_34 : decode cX5_principals 34 = .ok (.aaload, 1) := by decide +kernel
theorem dX5_principals_35 : decode cX5_principals 35 = .ok (.getfield 150, 3) := by decide +kernel
theorem dX5_principals_38 : decode cX5_principals 38 = .ok (.iload_n 2, 1) := by decide +kernel
theorem dX5_principals_39 : decode cX5_principals 39 = .ok (.if_icmp .ne 16, 3) := by decide +kernel
theorem dX5_principals_42 : decode cX5_principals 42 = .ok (.iload_n 3, 1) := by decide +kernel
theorem dX5_principals_43 : decode cX5_principals 43 = .ok (.aload_n 0, 1) := by decide +kernel
theorem dX5_principals_44 : decode cX5_principals 44 = .ok (.getfield 25, 3) := by decide +kernel
theorem dX5_principals_47 : decode cX5_principals 47 = .ok (.iload 4, 2) := by decide +kernel
theorem dX5_principals_49 : decode cX5_principals 49 = .ok (.aaload, 1) := by decide +kernel
theorem dX5_principals_50 : decode cX5_principals 50 = .ok (.getfield 127, 3) := by decide +kernel
theorem dX5_principals_53 : decode cX5_principals 53 = .ok (.iadd, 1) := by decide +kernel
theorem dX5_principals_54 : decode cX5_principals 54 = .ok (.istore_n 3, 1) := by decide +kernel
theorem dX5_principals_55 : decode cX5_principals 55 = .ok (.iinc 4 1, 3) := by decide +kernel
theorem dX5_principals_58 : decode cX5_principals 58 = .ok (.goto (-53), 3) := by decide +kernel
theorem dX5_principals_61 : decode cX5_principals 61 = .ok (.iload_n 3, 1) := by decide +kernel
theorem dX5_principals_62 : decode cX5_principals 62 = .ok (.ireturn, 1) := by decide +kernel
theorem dX5_notesFor_0 : decode cX5_notesFor 0 = .ok (.iconst 0, 1) := by decide +kernel
theorem dX5_notesFor_1 : decode cX5_notesFor 1 = .ok (.istore_n 2, 1) := by decide +kernel
theorem dX5_notesFor_2 : decode cX5_notesFor 2 = .ok (.iconst 0, 1) := by decide +kernel
theorem dX5_notesFor_3 : decode cX5_notesFor 3 = .ok (.istore_n 3, 1) := by decide +kernel
theorem dX5_notesFor_4 : decode cX5_notesFor 4 = .ok (.iload_n 3, 1) := by decide +kernel
theorem dX5_notesFor_5 : decode cX5_notesFor 5 = .ok (.aload_n 0, 1) := by decide +kernel
theorem dX5_notesFor_6 : decode cX5_notesFor 6 = .ok (.getfield 43, 3) := by decide +kernel
theorem dX5_notesFor_9 : decode cX5_notesFor 9 = .ok (.if_icmp .ge 25, 3) := by decide +kernel
theorem dX5_notesFor_12 : decode cX5_notesFor 12 = .ok (.aload_n 0, 1) := by decide +kernel
theorem dX5_notesFor_13 : decode cX5_notesFor 13 = .ok (.getfield 25, 3) := by decide +kernel
theorem dX5_notesFor_16 : decode cX5_notesFor 16 = .ok (.iload_n 3, 1) := by decide +kernel
theorem dX5_notesFor_17 : decode cX5_notesFor 17 = .ok (.aaload, 1) := by decide +kernel
theorem dX5_notesFor_18 : decode cX5_notesFor 18 = .ok (.getfield 124, 3) := by decide +kernel
theorem dX5_notesFor_21 : decode cX5_notesFor 21 = .ok (.iload_n 1, 1) := by decide +kernel
theorem dX5_notesFor_22 : decode cX5_notesFor 22 = .ok (.if_icmp .ne 6, 3) := by decide +kernel
theorem dX5_notesFor_25 : decode cX5_notesFor 25 = .ok (.iinc 2 1, 3) := by decide +kernel
theorem dX5_notesFor_28 : decode cX5_notesFor 28 = .ok (.iinc 3 1, 3) := by decide +kernel
theorem dX5_notesFor_31 : decode cX5_notesFor 31 = .ok (.goto (-27), 3) := by decide +kernel
theorem dX5_notesFor_34 : decode cX5_notesFor 34 = .ok (.iload_n 2, 1) := by decide +kernel
theorem dX5_notesFor_35 : decode cX5_notesFor 35 = .ok (.ireturn, 1) := by decide +kernel
theorem dX5_principalsOf_0 : decode cX5_principalsOf 0 = .ok (.iconst 0, 1) := by decide +kernel
theorem dX5_principalsOf_1 : decode cX5_principalsOf 1 = .ok (.istore_n 2, 1) := by decide +kernel
theorem dX5_principalsOf_2 : decode cX5_principalsOf 2 = .ok (.iconst 0, 1) := by decide +kernel
theorem dX5_principalsOf_3 : decode cX5_principalsOf 3 = .ok (.istore_n 3, 1) := by decide +kernel
theorem dX5_principalsOf_4 : decode cX5_principalsOf 4 = .ok (.iload_n 3, 1) := by decide +kernel
theorem dX5_principalsOf_5 : decode cX5_principalsOf 5 = .ok (.aload_n 0, 1) := by decide +kernel
theorem dX5_principalsOf_6 : decode cX5_principalsOf 6 = .ok (.getfield 43, 3) := by decide +kernel
theorem dX5_principalsOf_9 : decode cX5_principalsOf 9 = .ok (.if_icmp .ge 34, 3) := by decide +kernel
theorem dX5_principalsOf_12 : decode cX5_principalsOf 12 = .ok (.aload_n 0, 1) := by decide +kernel
theorem dX5_principalsOf_13 : decode cX5_principalsOf 13 = .ok (.getfield 25, 3) := by decide +kernel
theorem dX5_principalsOf_16 : decode cX5_principalsOf 16 = .ok (.iload_n 3, 1) := by decide +kernel
theorem dX5_principalsOf_17 : decode cX5_principalsOf 17 = .ok (.aaload, 1) := by decide +kernel
theorem dX5_principalsOf_18 : decode cX5_principalsOf 18 = .ok (.getfield 131, 3) := by decide +kernel
theorem dX5_principalsOf_21 : decode cX5_principalsOf 21 = .ok (.iload_n 1, 1) := by decide +kernel
theorem dX5_principalsOf_22 : decode cX5_principalsOf 22 = .ok (.if_icmp .ne 15, 3) := by decide +kernel
theorem dX5_principalsOf_25 : decode cX5_principalsOf 25 = .ok (.iload_n 2, 1) := by decide +kernel
theorem dX5_principalsOf_26 : decode cX5_principalsOf 26 = .ok (.aload_n 0, 1) := by decide +kernel
theorem dX5_principalsOf_27 : decode cX5_principalsOf 27 = .ok (.getfield 25, 3) := by decide +kernel
theorem dX5_principalsOf_30 : decode cX5_principalsOf 30 = .ok (.iload_n 3, 1) := by decide +kernel
theorem dX5_principalsOf_31 : decode cX5_principalsOf 31 = .ok (.aaload, 1) := by decide +kernel
theorem dX5_principalsOf_32 : decode cX5_principalsOf 32 = .ok (.getfield 127, 3) := by decide +kernel
theorem dX5_principalsOf_35 : decode cX5_principalsOf 35 = .ok (.iadd, 1) := by decide +kernel
theorem dX5_principalsOf_36 : decode cX5_principalsOf 36 = .ok (.istore_n 2, 1) := by decide +kernel
theorem dX5_principalsOf_37 : decode cX5_principalsOf 37 = .ok (.iinc 3 1, 3) := by decide +kernel
theorem dX5_principalsOf_40 : decode cX5_principalsOf 40 = .ok (.goto (-36), 3) := by decide +kernel
theorem dX5_principalsOf_43 : decode cX5_principalsOf 43 = .ok (.iload_n 2, 1) := by decide +kernel
theorem dX5_principalsOf_44 : decode cX5_principalsOf 44 = .ok (.ireturn, 1) := by decide +kernel
theorem dX5_liveNotesOf_0 : decode cX5_liveNotesOf 0 = .ok (.iconst 0, 1) := by decide +kernel
theorem dX5_liveNotesOf_1 : decode cX5_liveNotesOf 1 = .ok (.istore_n 2, 1) := by decide +kernel
theorem dX5_liveNotesOf_2 : decode cX5_liveNotesOf 2 = .ok (.iconst 0, 1) := by decide +kernel
theorem dX5_liveNotesOf_3 : decode cX5_liveNotesOf 3 = .ok (.istore_n 3, 1) := by decide +kernel
theorem dX5_liveNotesOf_4 : decode cX5_liveNotesOf 4 = .ok (.iload_n 3, 1) := by decide +kernel
theorem dX5_liveNotesOf_5 : decode cX5_liveNotesOf 5 = .ok (.aload_n 0, 1) := by decide +kernel
theorem dX5_liveNotesOf_6 : decode cX5_liveNotesOf 6 = .ok (.getfield 43, 3) := by decide +kernel
theorem dX5_liveNotesOf_9 : decode cX5_liveNotesOf 9 = .ok (.if_icmp .ge 37, 3) := by decide +kernel
theorem dX5_liveNotesOf_12 : decode cX5_liveNotesOf 12 = .ok (.aload_n 0, 1) := by decide +kernel
theorem dX5_liveNotesOf_13 : decode cX5_liveNotesOf 13 = .ok (.getfield 25, 3) := by decide +kernel
theorem dX5_liveNotesOf_16 : decode cX5_liveNotesOf 16 = .ok (.iload_n 3, 1) := by decide +kernel
theorem dX5_liveNotesOf_17 : decode cX5_liveNotesOf 17 = .ok (.aaload, 1) := by decide +kernel
theorem dX5_liveNotesOf_18 : decode cX5_liveNotesOf 18 = .ok (.getfield 131, 3) := by decide +kernel
theorem dX5_liveNotesOf_21 : decode cX5_liveNotesOf 21 = .ok (.iload_n 1, 1) := by decide +kernel
theorem dX5_liveNotesOf_22 : decode cX5_liveNotesOf 22 = .ok (.if_icmp .ne 18, 3) := by decide +kernel
theorem dX5_liveNotesOf_25 : decode cX5_liveNotesOf 25 = .ok (.aload_n 0, 1) := by decide +kernel
theorem dX5_liveNotesOf_26 : decode cX5_liveNotesOf 26 = .ok (.getfield 25, 3) := by decide +kernel
theorem dX5_liveNotesOf_29 : decode cX5_liveNotesOf 29 = .ok (.iload_n 3, 1) := by decide +kernel
theorem dX5_liveNotesOf_30 : decode cX5_liveNotesOf 30 = .ok (.aaload, 1) := by decide +kernel
theorem dX5_liveNotesOf_31 : decode cX5_liveNotesOf 31 = .ok (.getfield 127, 3) := by decide +kernel
theorem dX5_liveNotesOf_34 : decode cX5_liveNotesOf 34 = .ok (.ifCond .eq 6, 3) := by decide +kernel
theorem dX5_liveNotesOf_37 : decode cX5_liveNotesOf 37 = .ok (.iinc 2 1, 3) := by decide +kernel
theorem dX5_liveNotesOf_40 : decode cX5_liveNotesOf 40 = .ok (.iinc 3 1, 3) := by decide +kernel
theorem dX5_liveNotesOf_43 : decode cX5_liveNotesOf 43 = .ok (.goto (-39), 3) := by decide +kernel
theorem dX5_liveNotesOf_46 : decode cX5_liveNotesOf 46 = .ok (.iload_n 2, 1) := by decide +kernel
theorem dX5_liveNotesOf_47 : decode cX5_liveNotesOf 47 = .ok (.ireturn, 1) := by decide +kernel
theorem dX5_loansOf_0 : decode cX5_loansOf 0 = .ok (.iconst 0, 1) := by decide +kernel
theorem dX5_loansOf_1 : decode cX5_loansOf 1 = .ok (.istore_n 2, 1) := by decide +kernel
theorem dX5_loansOf_2 : decode cX5_loansOf 2 = .ok (.iconst 0, 1) := by decide +kernel
theorem dX5_loansOf_3 : decode cX5_loansOf 3 = .ok (.istore_n 3, 1) := by decide +kernel
theorem dX5_loansOf_4 : decode cX5_loansOf 4 = .ok (.iload_n 3, 1) := by decide +kernel
theorem dX5_loansOf_5 : decode cX5_loansOf 5 = .ok (.aload_n 0, 1) := by decide +kernel
theorem dX5_loansOf_6 : decode cX5_loansOf 6 = .ok (.getfield 43, 3) := by decide +kernel
theorem dX5_loansOf_9 : decode cX5_loansOf 9 = .ok (.if_icmp .ge 48, 3) := by decide +kernel
theorem dX5_loansOf_12 : decode cX5_loansOf 12 = .ok (.aload_n 0, 1) := by decide +kernel
theorem dX5_loansOf_13 : decode cX5_loansOf 13 = .ok (.getfield 25, 3) := by decide +kernel
theorem dX5_loansOf_16 : decode cX5_loansOf 16 = .ok (.iload_n 3, 1) := by decide +kernel
theorem dX5_loansOf_17 : decode cX5_loansOf 17 = .ok (.aaload, 1) := by decide +kernel
theorem dX5_loansOf_18 : decode cX5_loansOf 18 = .ok (.getfield 131, 3) := by decide +kernel
theorem dX5_loansOf_21 : decode cX5_loansOf 21 = .ok (.iload_n 1, 1) := by decide +kernel
theorem dX5_loansOf_22 : decode cX5_loansOf 22 = .ok (.if_icmp .ne 29, 3) := by decide +kernel
theorem dX5_loansOf_25 : decode cX5_loansOf 25 = .ok (.aload_n 0, 1) := by decide +kernel
theorem dX5_loansOf_26 : decode cX5_loansOf 26 = .ok (.getfield 25, 3) := by decide +kernel
theorem dX5_loansOf_29 : decode cX5_loansOf 29 = .ok (.iload_n 3, 1) := by decide +kernel
theorem dX5_loansOf_30 : decode cX5_loansOf 30 = .ok (.aaload, 1) := by decide +kernel
theorem dX5_loansOf_31 : decode cX5_loansOf 31 = .ok (.getfield 127, 3) := by decide +kernel
theorem dX5_loansOf_34 : decode cX5_loansOf 34 = .ok (.ifCond .eq 17, 3) := by decide +kernel
theorem dX5_loansOf_37 : decode cX5_loansOf 37 = .ok (.iload_n 2, 1) := by decide +kernel
theorem dX5_loansOf_38 : decode cX5_loansOf 38 = .ok (.iconst 1, 1) := by decide +kernel
theorem dX5_loansOf_39 : decode cX5_loansOf 39 = .ok (.aload_n 0, 1) := by decide +kernel
theorem dX5_loansOf_40 : decode cX5_loansOf 40 = .ok (.getfield 25, 3) := by decide +kernel
theorem dX5_loansOf_43 : decode cX5_loansOf 43 = .ok (.iload_n 3, 1) := by decide +kernel
theorem dX5_loansOf_44 : decode cX5_loansOf 44 = .ok (.aaload, 1) := by decide +kernel
theorem dX5_loansOf_45 : decode cX5_loansOf 45 = .ok (.getfield 124, 3) := by decide +kernel
theorem dX5_loansOf_48 : decode cX5_loansOf 48 = .ok (.ishl, 1) := by decide +kernel
theorem dX5_loansOf_49 : decode cX5_loansOf 49 = .ok (.ior, 1) := by decide +kernel
theorem dX5_loansOf_50 : decode cX5_loansOf 50 = .ok (.istore_n 2, 1) := by decide +kernel
theorem dX5_loansOf_51 : decode cX5_loansOf 51 = .ok (.iinc 3 1, 3) := by decide +kernel
theorem dX5_loansOf_54 : decode cX5_loansOf 54 = .ok (.goto (-50), 3) := by decide +kernel
theorem dX5_loansOf_57 : decode cX5_loansOf 57 = .ok (.iload_n 2, 1) := by decide +kernel
theorem dX5_loansOf_58 : decode cX5_loansOf 58 = .ok (.ireturn, 1) := by decide +kernel
theorem dX5_loansInState_0 : decode cX5_loansInState 0 = .ok (.iconst 0, 1) := by decide +kernel
theorem dX5_loansInState_1 : decode cX5_loansInState 1 = .ok (.istore_n 2, 1) := by decide +kernel
theorem dX5_loansInState_2 : decode cX5_loansInState 2 = .ok (.iconst 0, 1) := by decide +kernel
theorem dX5_loansInState_3 : decode cX5_loansInState 3 = .ok (.istore_n 3, 1) := by decide +kernel
theorem dX5_loansInState_4 : decode cX5_loansInState 4 = .ok (.iload_n 3, 1) := by decide +kernel
theorem dX5_loansInState_5 : decode cX5_loansInState 5 = .ok (.aload_n 0, 1) := by decide +kernel
theorem dX5_loansInState_6 : decode cX5_loansInState 6 = .ok (.getfield 40, 3) := by decide +kernel
theorem dX5_loansInState_9 : decode cX5_loansInState 9 = .ok (.if_icmp .ge 25, 3) := by decide +kernel
theorem dX5_loansInState_12 : decode cX5_loansInState 12 = .ok (.aload_n 0, 1) := by decide +kernel
theorem dX5_loansInState_13 : decode cX5_loansInState 13 = .ok (.getfield 19, 3) := by decide +kernel
theorem dX5_loansInState_16 : decode cX5_loansInState 16 = .ok (.iload_n 3, 1) := by decide +kernel
theorem dX5_loansInState_17 : decode cX5_loansInState 17 = .ok (.aaload, 1) := by decide +kernel
theorem dX5_loansInState_18 : decode cX5_loansInState 18 = .ok (.getfield 72, 3) := by decide +kernel
theorem dX5_loansInState_21 : decode cX5_loansInState 21 = .ok (.iload_n 1, 1) := by decide +kernel
theorem dX5_loansInState_22 : decode cX5_loansInState 22 = .ok (.if_icmp .ne 6, 3) := by decide +kernel
theorem dX5_loansInState_25 : decode cX5_loansInState 25 = .ok (.iinc 2 1, 3) := by decide +kernel
theorem dX5_loansInState_28 : decode cX5_loansInState 28 = .ok (.iinc 3 1, 3) := by decide +kernel
theorem dX5_loansInState_31 : decode cX5_loansInState 31 = .ok (.goto (-27), 3) := by decide +kernel
theorem dX5_loansInState_34 : decode cX5_loansInState 34 = .ok (.iload_n 2, 1) := by decide +kernel
theorem dX5_loansInState_35 : decode cX5_loansInState 35 = .ok (.ireturn, 1) := by decide +kernel
theorem dX5_loansServedBy_0 : decode cX5_loansServedBy 0 = .ok (.iconst 0, 1) := by decide +kernel
theorem dX5_loansServedBy_1 : decode cX5_loansServedBy 1 = .ok (.istore_n 2, 1) := by decide +kernel
theorem dX5_loansServedBy_2 : decode cX5_loansServedBy 2 = .ok (.iconst 0, 1) := by decide +kernel
theorem dX5_loansServedBy_3 : decode cX5_loansServedBy 3 = .ok (.istore_n 3, 1) := by decide +kernel
theorem dX5_loansServedBy_4 : decode cX5_loansServedBy 4 = .ok (.iload_n 3, 1) := by decide +kernel
theorem dX5_loansServedBy_5 : decode cX5_loansServedBy 5 = .ok (.aload_n 0, 1) := by decide +kernel
theorem dX5_loansServedBy_6 : decode cX5_loansServedBy 6 = .ok (.getfield 40, 3) := by decide +kernel
theorem dX5_loansServedBy_9 : decode cX5_loansServedBy 9 = .ok (.if_icmp .ge 33, 3) := by decide +kernel
theorem dX5_loansServedBy_12 : decode cX5_loansServedBy 12 = .ok (.aload_n 0, 1) := by decide +kernel
theorem dX5_loansServedBy_13 : decode cX5_loansServedBy 13 = .ok (.iload_n 3, 1) := by decide +kernel
theorem dX5_loansServedBy_14 : decode cX5_loansServedBy 14 = .ok (.invokevirtual 137, 3) := by decide +kernel
theorem dX5_loansServedBy_17 : decode cX5_loansServedBy 17 = .ok (.ifCond .eq 19, 3) := by decide +kernel
theorem dX5_loansServedBy_20 : decode cX5_loansServedBy 20 = .ok (.aload_n 0, 1) := by decide +kernel
theorem dX5_loansServedBy_21 : decode cX5_loansServedBy 21 = .ok (.getfield 19, 3) := by decide +kernel
theorem dX5_loansServedBy_24 : decode cX5_loansServedBy 24 = .ok (.iload_n 3, 1) := by decide +kernel
theorem dX5_loansServedBy_25 : decode cX5_loansServedBy 25 = .ok (.aaload, 1) := by decide +kernel
theorem dX5_loansServedBy_26 : decode cX5_loansServedBy 26 = .ok (.getfield 101, 3) := by decide +kernel
theorem dX5_loansServedBy_29 : decode cX5_loansServedBy 29 = .ok (.iload_n 1, 1) := by decide +kernel
theorem dX5_loansServedBy_30 : decode cX5_loansServedBy 30 = .ok (.if_icmp .ne 6, 3) := by decide +kernel
theorem dX5_loansServedBy_33 : decode cX5_loansServedBy 33 = .ok (.iinc 2 1, 3) := by decide +kernel
theorem dX5_loansServedBy_36 : decode cX5_loansServedBy 36 = .ok (.iinc 3 1, 3) := by decide +kernel
theorem dX5_loansServedBy_39 : decode cX5_loansServedBy 39 = .ok (.goto (-35), 3) := by decide +kernel
theorem dX5_loansServedBy_42 : decode cX5_loansServedBy 42 = .ok (.iload_n 2, 1) := by decide +kernel
theorem dX5_loansServedBy_43 : decode cX5_loansServedBy 43 = .ok (.ireturn, 1) := by decide +kernel
theorem dX5_loansInArrears_0 : decode cX5_loansInArrears 0 = .ok (.iconst 0, 1) := by decide +kernel
theorem dX5_loansInArrears_1 : decode cX5_loansInArrears 1 = .ok (.istore_n 1, 1) := by decide +kernel
theorem dX5_loansInArrears_2 : decode cX5_loansInArrears 2 = .ok (.iconst 0, 1) := by decide +kernel
theorem dX5_loansInArrears_3 : decode cX5_loansInArrears 3 = .ok (.istore_n 2, 1) := by decide +kernel
theorem dX5_loansInArrears_4 : decode cX5_loansInArrears 4 = .ok (.iload_n 2, 1) := by decide +kernel
theorem dX5_loansInArrears_5 : decode cX5_loansInArrears 5 = .ok (.aload_n 0, 1) := by decide +kernel
theorem dX5_loansInArrears_6 : decode cX5_loansInArrears 6 = .ok (.getfield 40, 3) := by decide +kernel
theorem dX5_loansInArrears_9 : decode cX5_loansInArrears 9 = .ok (.if_icmp .ge 24, 3) := by decide +kernel
theorem dX5_loansInArrears_12 : decode cX5_loansInArrears 12 = .ok (.aload_n 0, 1) := by decide +kernel
theorem dX5_loansInArrears_13 : decode cX5_loansInArrears 13 = .ok (.getfield 19, 3) := by decide +kernel
theorem dX5_loansInArrears_16 : decode cX5_loansInArrears 16 = .ok (.iload_n 2, 1) := by decide +kernel
theorem dX5_loansInArrears_17 : decode cX5_loansInArrears 17 = .ok (.aaload, 1) := by decide +kernel
theorem dX5_loansInArrears_18 : decode cX5_loansInArrears 18 = .ok (.getfield 153, 3) := by decide +kernel
theorem dX5_loansInArrears_21 : decode cX5_loansInArrears 21 = .ok (.ifCond .le 6, 3) := by decide +kernel
theorem dX5_loansInArrears_24 : decode cX5_loansInArrears 24 = .ok (.iinc 1 1, 3) := by decide +kernel
theorem dX5_loansInArrears_27 : decode cX5_loansInArrears 27 = .ok (.iinc 2 1, 3) := by decide +kernel
theorem dX5_loansInArrears_30 : decode cX5_loansInArrears 30 = .ok (.goto (-26), 3) := by decide +kernel
theorem dX5_loansInArrears_33 : decode cX5_loansInArrears 33 = .ok (.iload_n 1, 1) := by decide +kernel
theorem dX5_loansInArrears_34 : decode cX5_loansInArrears 34 = .ok (.ireturn, 1) := by decide +kernel
theorem dX5_ordersOfSwitches_0 : decode cX5_ordersOfSwitches 0 = .ok (.iconst 0, 1) := by decide +kernel
theorem dX5_ordersOfSwitches_1 : decode cX5_ordersOfSwitches 1 = .ok (.istore_n 1, 1) := by decide +kernel
theorem dX5_ordersOfSwitches_2 : decode cX5_ordersOfSwitches 2 = .ok (.iconst 0, 1) := by decide +kernel
theorem dX5_ordersOfSwitches_3 : decode cX5_ordersOfSwitches 3 = .ok (.istore_n 2, 1) := by decide +kernel
theorem dX5_ordersOfSwitches_4 : decode cX5_ordersOfSwitches 4 = .ok (.iload_n 2, 1) := by decide +kernel
theorem dX5_ordersOfSwitches_5 : decode cX5_ordersOfSwitches 5 = .ok (.aload_n 0, 1) := by decide +kernel
theorem dX5_ordersOfSwitches_6 : decode cX5_ordersOfSwitches 6 = .ok (.getfield 40, 3) := by decide +kernel
theorem dX5_ordersOfSwitches_9 : decode cX5_ordersOfSwitches 9 = .ok (.if_icmp .ge 26, 3) := by decide +kernel
theorem dX5_ordersOfSwitches_12 : decode cX5_ordersOfSwitches 12 = .ok (.aload_n 0, 1) := by decide +kernel
theorem dX5_ordersOfSwitches_13 : decode cX5_ordersOfSwitches 13 = .ok (.getfield 19, 3) := by decide +kernel
theorem dX5_ordersOfSwitches_16 : decode cX5_ordersOfSwitches 16 = .ok (.iload_n 2, 1) := by decide +kernel
theorem dX5_ordersOfSwitches_17 : decode cX5_ordersOfSwitches 17 = .ok (.aaload, 1) := by decide +kernel
theorem dX5_ordersOfSwitches_18 : decode cX5_ordersOfSwitches 18 = .ok (.getfield 156, 3) := by decide +kernel
theorem dX5_ordersOfSwitches_21 : decode cX5_ordersOfSwitches 21 = .ok (.bipush (-5), 2) := by decide +kernel
theorem dX5_ordersOfSwitches_23 : decode cX5_ordersOfSwitches 23 = .ok (.if_icmp .eq 6, 3) := by decide +kernel
theorem dX5_ordersOfSwitches_26 : decode cX5_ordersOfSwitches 26 = .ok (.iinc 1 1, 3) := by decide +kernel
theorem dX5_ordersOfSwitches_29 : decode cX5_ordersOfSwitches 29 = .ok (.iinc 2 1, 3) := by decide +kernel
theorem dX5_ordersOfSwitches_32 : decode cX5_ordersOfSwitches 32 = .ok (.goto (-28), 3) := by decide +kernel
theorem dX5_ordersOfSwitches_35 : decode cX5_ordersOfSwitches 35 = .ok (.iload_n 1, 1) := by decide +kernel
theorem dX5_ordersOfSwitches_36 : decode cX5_ordersOfSwitches 36 = .ok (.ireturn, 1) := by decide +kernel
theorem dX5_allPrincipals_0 : decode cX5_allPrincipals 0 = .ok (.iconst 0, 1) := by decide +kernel
theorem dX5_allPrincipals_1 : decode cX5_allPrincipals 1 = .ok (.istore_n 1, 1) := by decide +kernel
theorem dX5_allPrincipals_2 : decode cX5_allPrincipals 2 = .ok (.iconst 0, 1) := by decide +kernel
theorem dX5_allPrincipals_3 : decode cX5_allPrincipals 3 = .ok (.istore_n 2, 1) := by decide +kernel
theorem dX5_allPrincipals_4 : decode cX5_allPrincipals 4 = .ok (.iload_n 2, 1) := by decide +kernel
theorem dX5_allPrincipals_5 : decode cX5_allPrincipals 5 = .ok (.aload_n 0, 1) := by decide +kernel
theorem dX5_allPrincipals_6 : decode cX5_allPrincipals 6 = .ok (.getfield 40, 3) := by decide +kernel
theorem dX5_allPrincipals_9 : decode cX5_allPrincipals 9 = .ok (.if_icmp .ge 21, 3) := by decide +kernel
theorem dX5_allPrincipals_12 : decode cX5_allPrincipals 12 = .ok (.iload_n 1, 1) := by decide +kernel
theorem dX5_allPrincipals_13 : decode cX5_allPrincipals 13 = .ok (.aload_n 0, 1) := by decide +kernel
theorem dX5_allPrincipals_14 : decode cX5_allPrincipals 14 = .ok (.getfield 19, 3) := by decide +kernel
theorem dX5_allPrincipals_17 : decode cX5_allPrincipals 17 = .ok (.iload_n 2, 1) := by decide +kernel
theorem dX5_allPrincipals_18 : decode cX5_allPrincipals 18 = .ok (.aaload, 1) := by decide +kernel
theorem dX5_allPrincipals_19 : decode cX5_allPrincipals 19 = .ok (.getfield 159, 3) := by decide +kernel
theorem dX5_allPrincipals_22 : decode cX5_allPrincipals 22 = .ok (.iadd, 1) := by decide +kernel
theorem dX5_allPrincipals_23 : decode cX5_allPrincipals 23 = .ok (.istore_n 1, 1) := by decide +kernel
theorem dX5_allPrincipals_24 : decode cX5_allPrincipals 24 = .ok (.iinc 2 1, 3) := by decide +kernel
theorem dX5_allPrincipals_27 : decode cX5_allPrincipals 27 = .ok (.goto (-23), 3) := by decide +kernel
theorem dX5_allPrincipals_30 : decode cX5_allPrincipals 30 = .ok (.iload_n 1, 1) := by decide +kernel
theorem dX5_allPrincipals_31 : decode cX5_allPrincipals 31 = .ok (.ireturn, 1) := by decide +kernel
theorem dX5_allInterestDue_0 : decode cX5_allInterestDue 0 = .ok (.iconst 0, 1) := by decide +kernel
theorem dX5_allInterestDue_1 : decode cX5_allInterestDue 1 = .ok (.istore_n 1, 1) := by decide +kernel
theorem dX5_allInterestDue_2 : decode cX5_allInterestDue 2 = .ok (.iconst 0, 1) := by decide +kernel
theorem dX5_allInterestDue_3 : decode cX5_allInterestDue 3 = .ok (.istore_n 2, 1) := by decide +kernel
theorem dX5_allInterestDue_4 : decode cX5_allInterestDue 4 = .ok (.iload_n 2, 1) := by decide +kernel
theorem dX5_allInterestDue_5 : decode cX5_allInterestDue 5 = .ok (.aload_n 0, 1) := by decide +kernel
theorem dX5_allInterestDue_6 : decode cX5_allInterestDue 6 = .ok (.getfield 40, 3) := by decide +kernel
theorem dX5_allInterestDue_9 : decode cX5_allInterestDue 9 = .ok (.if_icmp .ge 21, 3) := by decide +kernel
theorem dX5_allInterestDue_12 : decode cX5_allInterestDue 12 = .ok (.iload_n 1, 1) := by decide +kernel
theorem dX5_allInterestDue_13 : decode cX5_allInterestDue 13 = .ok (.aload_n 0, 1) := by decide +kernel
theorem dX5_allInterestDue_14 : decode cX5_allInterestDue 14 = .ok (.getfield 19, 3) := by decide +kernel
theorem dX5_allInterestDue_17 : decode cX5_allInterestDue 17 = .ok (.iload_n 2, 1) := by decide +kernel
theorem dX5_allInterestDue_18 : decode cX5_allInterestDue 18 = .ok (.aaload, 1) := by decide +kernel
theorem dX5_allInterestDue_19 : decode cX5_allInterestDue 19 = .ok (.getfield 160, 3) := by decide +kernel
theorem dX5_allInterestDue_22 : decode cX5_allInterestDue 22 = .ok (.iadd, 1) := by decide +kernel
theorem dX5_allInterestDue_23 : decode cX5_allInterestDue 23 = .ok (.istore_n 1, 1) := by decide +kernel
theorem dX5_allInterestDue_24 : decode cX5_allInterestDue 24 = .ok (.iinc 2 1, 3) := by decide +kernel
theorem dX5_allInterestDue_27 : decode cX5_allInterestDue 27 = .ok (.goto (-23), 3) := by decide +kernel
theorem dX5_allInterestDue_30 : decode cX5_allInterestDue 30 = .ok (.iload_n 1, 1) := by decide +kernel
theorem dX5_allInterestDue_31 : decode cX5_allInterestDue 31 = .ok (.ireturn, 1) := by decide +kernel
theorem dX5_allLosses_0 : decode cX5_allLosses 0 = .ok (.iconst 0, 1) := by decide +kernel
theorem dX5_allLosses_1 : decode cX5_allLosses 1 = .ok (.istore_n 1, 1) := by decide +kernel
theorem dX5_allLosses_2 : decode cX5_allLosses 2 = .ok (.iconst 0, 1) := by decide +kernel
theorem dX5_allLosses_3 : decode cX5_allLosses 3 = .ok (.istore_n 2, 1) := by decide +kernel
theorem dX5_allLosses_4 : decode cX5_allLosses 4 = .ok (.iload_n 2, 1) := by decide +kernel
theorem dX5_allLosses_5 : decode cX5_allLosses 5 = .ok (.aload_n 0, 1) := by decide +kernel
theorem dX5_allLosses_6 : decode cX5_allLosses 6 = .ok (.getfield 43, 3) := by decide +kernel
theorem dX5_allLosses_9 : decode cX5_allLosses 9 = .ok (.if_icmp .ge 21, 3) := by decide +kernel
theorem dX5_allLosses_12 : decode cX5_allLosses 12 = .ok (.iload_n 1, 1) := by decide +kernel
theorem dX5_allLosses_13 : decode cX5_allLosses 13 = .ok (.aload_n 0, 1) := by decide +kernel
theorem dX5_allLosses_14 : decode cX5_allLosses 14 = .ok (.getfield 25, 3) := by decide +kernel
theorem dX5_allLosses_17 : decode cX5_allLosses 17 = .ok (.iload_n 2, 1) := by decide +kernel
theorem dX5_allLosses_18 : decode cX5_allLosses 18 = .ok (.aaload, 1) := by decide +kernel
theorem dX5_allLosses_19 : decode cX5_allLosses 19 = .ok (.getfield 128, 3) := by decide +kernel
theorem dX5_allLosses_22 : decode cX5_allLosses 22 = .ok (.iadd, 1) := by decide +kernel
theorem dX5_allLosses_23 : decode cX5_allLosses 23 = .ok (.istore_n 1, 1) := by decide +kernel
theorem dX5_allLosses_24 : decode cX5_allLosses 24 = .ok (.iinc 2 1, 3) := by decide +kernel
theorem dX5_allLosses_27 : decode cX5_allLosses 27 = .ok (.goto (-23), 3) := by decide +kernel
theorem dX5_allLosses_30 : decode cX5_allLosses 30 = .ok (.iload_n 1, 1) := by decide +kernel
theorem dX5_allLosses_31 : decode cX5_allLosses 31 = .ok (.ireturn, 1) := by decide +kernel
theorem dX6_init_0 : decode cX6_init 0 = .ok (.aload_n 0, 1) := by decide +kernel
theorem dX6_init_1 : decode cX6_init 1 = .ok (.invokespecial 1, 3) := by decide +kernel
theorem dX6_init_4 : decode cX6_init 4 = .ok (.return_, 1) := by decide +kernel
theorem dX6_open_0 : decode cX6_open 0 = .ok (.aload_n 0, 1) := by decide +kernel
theorem dX6_open_1 : decode cX6_open 1 = .ok (.iload_n 1, 1) := by decide +kernel
theorem dX6_open_2 : decode cX6_open 2 = .ok (.putfield 7, 3) := by decide +kernel
theorem dX6_open_5 : decode cX6_open 5 = .ok (.aload_n 0, 1) := by decide +kernel
theorem dX6_open_6 : decode cX6_open 6 = .ok (.iload_n 2, 1) := by decide +kernel
theorem dX6_open_7 : decode cX6_open 7 = .ok (.putfield 13, 3) := by decide +kernel
theorem dX6_open_10 : decode cX6_open 10 = .ok (.aload_n 0, 1) := by decide +kernel
theorem dX6_open_11 : decode cX6_open 11 = .ok (.iload_n 3, 1) := by decide +kernel
theorem dX6_open_12 : decode cX6_open 12 = .ok (.putfield 16, 3) := by decide +kernel
theorem dX6_open_15 : decode cX6_open 15 = .ok (.aload_n 0, 1) := by decide +kernel
theorem dX6_open_16 : decode cX6_open 16 = .ok (.iload 4, 2) := by decide +kernel
theorem dX6_open_18 : decode cX6_open 18 = .ok (.putfield 19, 3) := by decide +kernel
theorem dX6_open_21 : decode cX6_open 21 = .ok (.aload_n 0, 1) := by decide +kernel
theorem dX6_open_22 : decode cX6_open 22 = .ok (.iload 4, 2) := by decide +kernel
theorem dX6_open_24 : decode cX6_open 24 = .ok (.putfield 22, 3) := by decide +kernel
theorem dX6_open_27 : decode cX6_open 27 = .ok (.aload_n 0, 1) := by decide +kernel
theorem dX6_open_28 : decode cX6_open 28 = .ok (.iconst 0, 1) := by decide +kernel
theorem dX6_open_29 : decode cX6_open 29 = .ok (.putfield 25, 3) := by decide +kernel
theorem dX6_open_32 : decode cX6_open 32 = .ok (.aload_n 0, 1) := by decide +kernel
theorem dX6_open_33 : decode cX6_open 33 = .ok (.iconst 0, 1) := by decide +kernel
theorem dX6_open_34 : decode cX6_open 34 = .ok (.putfield 28, 3) := by decide +kernel
theorem dX6_open_37 : decode cX6_open 37 = .ok (.return_, 1) := by decide +kernel
theorem dX6_copyFrom_0 : decode cX6_copyFrom 0 = .ok (.aload_n 0, 1) := by decide +kernel
theorem dX6_copyFrom_1 : decode cX6_copyFrom 1 = .ok (.aload_n 1, 1) := by decide +kernel
theorem dX6_copyFrom_2 : decode cX6_copyFrom 2 = .ok (.getfield 7, 3) := by decide +kernel
theorem dX6_copyFrom_5 : decode cX6_copyFrom 5 = .ok (.putfield 7, 3) := by decide +kernel
theorem dX6_copyFrom_8 : decode cX6_copyFrom 8 = .ok (.aload_n 0, 1) := by decide +kernel
theorem dX6_copyFrom_9 : decode cX6_copyFrom 9 = .ok (.aload_n 1, 1) := by decide +kernel
theorem dX6_copyFrom_10 : decode cX6_copyFrom 10 = .ok (.getfield 13, 3) := by decide +kernel
theorem dX6_copyFrom_13 : decode cX6_copyFrom 13 = .ok (.putfield 13, 3) := by decide +kernel
theorem dX6_copyFrom_16 : decode cX6_copyFrom 16 = .ok (.aload_n 0, 1) := by decide +kernel
theorem dX6_copyFrom_17 : decode cX6_copyFrom 17 = .ok (.aload_n 1, 1) := by decide +kernel
theorem dX6_copyFrom_18 : decode cX6_copyFrom 18 = .ok (.getfield 16, 3) := by decide +kernel
theorem dX6_copyFrom_21 : decode cX6_copyFrom 21 = .ok (.putfield 16, 3) := by decide +kernel
theorem dX6_copyFrom_24 : decode cX6_copyFrom 24 = .ok (.aload_n 0, 1) := by decide +kernel
theorem dX6_copyFrom_25 : decode cX6_copyFrom 25 = .ok (.aload_n 1, 1) := by decide +kernel
theorem dX6_copyFrom_26 : decode cX6_copyFrom 26 = .ok (.getfield 19, 3) := by decide +kernel
theorem dX6_copyFrom_29 : decode cX6_copyFrom 29 = .ok (.putfield 19, 3) := by decide +kernel
theorem dX6_copyFrom_32 : decode cX6_copyFrom 32 = .ok (.aload_n 0, 1) := by decide +kernel
theorem dX6_copyFrom_33 : decode cX6_copyFrom 33 = .ok (.aload_n 1, 1) := by decide +kernel
theorem dX6_copyFrom_34 : decode cX6_copyFrom 34 = .ok (.getfield 22, 3) := by decide +kernel
theorem dX6_copyFrom_37 : decode cX6_copyFrom 37 = .ok (.putfield 22, 3) := by decide +kernel
theorem dX6_copyFrom_40 : decode cX6_copyFrom 40 = .ok (.aload_n 0, 1) := by decide +kernel
theorem dX6_copyFrom_41 : decode cX6_copyFrom 41 = .ok (.aload_n 1, 1) := by decide +kernel
theorem dX6_copyFrom_42 : decode cX6_copyFrom 42 = .ok (.getfield 25, 3) := by decide +kernel
theorem dX6_copyFrom_45 : decode cX6_copyFrom 45 = .ok (.putfield 25, 3) := by decide +kernel
theorem dX6_copyFrom_48 : decode cX6_copyFrom 48 = .ok (.aload_n 0, 1) := by decide +kernel
theorem dX6_copyFrom_49 : decode cX6_copyFrom 49 = .ok (.aload_n 1, 1) := by decide +kernel
theorem dX6_copyFrom_50 : decode cX6_copyFrom 50 = .ok (.getfield 28, 3) := by decide +kernel
theorem dX6_copyFrom_53 : decode cX6_copyFrom 53 = .ok (.putfield 28, 3) := by decide +kernel
theorem dX6_copyFrom_56 : decode cX6_copyFrom 56 = .ok (.return_, 1) := by decide +kernel
theorem dX7_init_0 : decode cX7_init 0 = .ok (.aload_n 0, 1) := by decide +kernel
theorem dX7_init_1 : decode cX7_init 1 = .ok (.invokespecial 3, 3) := by decide +kernel
theorem dX7_init_4 : decode cX7_init 4 = .ok (.return_, 1) := by decide +kernel
theorem dX7_areOf_0 : decode cX7_areOf 0 = .ok (.aload_n 1, 1) := by decide +kernel
theorem dX7_areOf_1 : decode cX7_areOf 1 = .ok (.iload_n 2, 1) := by decide +kernel
theorem dX7_areOf_2 : decode cX7_areOf 2 = .ok (.invokevirtual 9, 3) := by decide +kernel
theorem dX7_areOf_5 : decode cX7_areOf 5 = .ok (.ifCond .ne 5, 3) := by decide +kernel
theorem dX7_areOf_8 : decode cX7_areOf 8 = .ok (.iconst 0, 1) := by decide +kernel
theorem dX7_areOf_9 : decode cX7_areOf 9 = .ok (.ireturn, 1) := by decide +kernel
theorem dX7_areOf_10 : decode cX7_areOf 10 = .ok (.aload_n 1, 1) := by decide +kernel
theorem dX7_areOf_11 : decode cX7_areOf 11 = .ok (.getfield 15, 3) := by decide +kernel
theorem dX7_areOf_14 : decode cX7_areOf 14 = .ok (.iload_n 2, 1) := by decide +kernel
theorem dX7_areOf_15 : decode cX7_areOf 15 = .ok (.aaload, 1) := by decide +kernel
theorem dX7_areOf_16 : decode cX7_areOf 16 = .ok (.astore 4, 2) := by decide +kernel
theorem dX7_areOf_18 : decode cX7_areOf 18 = .ok (.aload_n 0, 1) := by decide +kernel
theorem dX7_areOf_19 : decode cX7_areOf 19 = .ok (.iload_n 3, 1) := by decide +kernel
theorem dX7_areOf_20 : decode cX7_areOf 20 = .ok (.aload 4, 2) := by decide +kernel
theorem dX7_areOf_22 : decode cX7_areOf 22 = .ok (.getfield 19, 3) := by decide +kernel
theorem dX7_areOf_25 : decode cX7_areOf 25 = .ok (.invokestatic 25, 3) := by decide +kernel
theorem dX7_areOf_28 : decode cX7_areOf 28 = .ok (.imul, 1) := by decide +kernel
theorem dX7_areOf_29 : decode cX7_areOf 29 = .ok (.sipush 1000, 3) := by decide +kernel
theorem dX7_areOf_32 : decode cX7_areOf 32 = .ok (.idiv, 1) := by decide +kernel
theorem dX7_areOf_33 : decode cX7_areOf 33 = .ok (.putfield 29, 3) := by decide +kernel
theorem dX7_areOf_36 : decode cX7_areOf 36 = .ok (.iload_n 3, 1) := by decide +kernel
theorem dX7_areOf_37 : decode cX7_areOf 37 = .ok (.aload_n 0, 1) := by decide +kernel
theorem dX7_areOf_38 : decode cX7_areOf 38 = .ok (.getfield 29, 3) := by decide +kernel
theorem dX7_areOf_41 : decode cX7_areOf 41 = .ok (.isub, 1) := by decide +kernel
theorem dX7_areOf_42 : decode cX7_areOf 42 = .ok (.istore 5, 2) := by decide +kernel
theorem dX7_areOf_44 : decode cX7_areOf 44 = .ok (.iload 5, 2) := by decide +kernel
theorem dX7_areOf_46 : decode cX7_areOf 46 = .ok (.aload 4, 2) := by decide +kernel
theorem dX7_areOf_48 : decode cX7_areOf 48 = .ok (.getfield 34, 3) := by decide +kernel
theorem dX7_areOf_51 : decode cX7_areOf 51 = .ok (.aload 4, 2) := by decide +kernel
theorem dX7_areOf_53 : decode cX7_areOf 53 = .ok (.getfield 37, 3) := by decide +kernel
theorem dX7_areOf_56 : decode cX7_areOf 56 = .ok (.iadd, 1) := by decide +kernel
theorem dX7_areOf_57 : decode cX7_areOf 57 = .ok (.if_icmp .le 5, 3) := by decide +kernel
theorem dX7_areOf_60 : decode cX7_areOf 60 = .ok (.iconst 0, 1) := by decide +kernel
theorem dX7_areOf_61 : decode cX7_areOf 61 = .ok (.ireturn, 1) := by decide +kernel
theorem dX7_areOf_62 : decode cX7_areOf 62 = .ok (.aload_n 0, 1) := by decide +kernel
theorem dX7_areOf_63 : decode cX7_areOf 63 = .ok (.iload 5, 2) := by decide +kernel
theorem dX7_areOf_65 : decode cX7_areOf 65 = .ok (.aload 4, 2) := by decide +kernel
theorem dX7_areOf_67 : decode cX7_areOf 67 = .ok (.getfield 34, 3) := by decide +kernel
theorem dX7_areOf_70 : decode cX7_areOf 70 = .ok (.invokestatic 40, 3) := by decide +kernel
theorem dX7_areOf_73 : decode cX7_areOf 73 = .ok (.putfield 46, 3) := by decide +kernel
theorem dX7_areOf_76 : decode cX7_areOf 76 = .ok (.aload_n 0, 1) := by decide +kernel
theorem dX7_areOf_77 : decode cX7_areOf 77 = .ok (.aload_n 0, 1) := by decide +kernel
theorem dX7_areOf_78 : decode cX7_areOf 78 = .ok (.getfield 46, 3) := by decide +kernel
theorem dX7_areOf_81 : decode cX7_areOf 81 = .ok (.aload_n 1, 1) := by decide +kernel
theorem dX7_areOf_82 : decode cX7_areOf 82 = .ok (.getfield 49, 3) := by decide +kernel
theorem dX7_areOf_85 : decode cX7_areOf 85 = .ok (.imul, 1) := by decide +kernel
theorem dX7_areOf_86 : decode cX7_areOf 86 = .ok (.bipush 100, 2) := by decide +kernel
theorem dX7_areOf_88 : decode cX7_areOf 88 = .ok (.idiv, 1) := by decide +kernel
theorem dX7_areOf_89 : decode cX7_areOf 89 = .ok (.putfield 52, 3) := by decide +kernel
theorem dX7_areOf_92 : decode cX7_areOf 92 = .ok (.aload_n 0, 1) := by decide +kernel
theorem dX7_areOf_93 : decode cX7_areOf 93 = .ok (.iload 5, 2) := by decide +kernel
theorem dX7_areOf_95 : decode cX7_areOf 95 = .ok (.aload_n 0, 1) := by decide +kernel
theorem dX7_areOf_96 : decode cX7_areOf 96 = .ok (.getfield 46, 3) := by decide +kernel
theorem dX7_areOf_99 : decode cX7_areOf 99 = .ok (.isub, 1) := by decide +kernel
theorem dX7_areOf_100 : decode cX7_areOf 100 = .ok (.putfield 55, 3) := by decide +kernel
theorem dX7_areOf_103 : decode cX7_areOf 103 = .ok (.aload_n 0, 1) := by decide +kernel
theorem dX7_areOf_104 : decode cX7_areOf 104 = .ok (.aload_n 0, 1) := by decide +kernel
theorem dX7_areOf_105 : decode cX7_areOf 105 = .ok (.getfield 55, 3) := by decide +kernel
theorem dX7_areOf_108 : decode cX7_areOf 108 = .ok (.aload_n 1, 1) := by decide +kernel
theorem dX7_areOf_109 : decode cX7_areOf 109 = .ok (.iload_n 2, 1) := by decide +kernel
theorem dX7_areOf_110 : decode cX7_areOf 110 = .ok (.iconst 0, 1) := by decide +kernel
theorem dX7_areOf_111 : decode cX7_areOf 111 = .ok (.invokevirtual 56, 3) := by decide +kernel
theorem dX7_areOf_114 : decode cX7_areOf 114 = .ok (.invokestatic 40, 3) := by decide +kernel
theorem dX7_areOf_117 : decode cX7_areOf 117 = .ok (.putfield 59, 3) := by decide +kernel
theorem dX7_areOf_120 : decode cX7_areOf 120 = .ok (.aload_n 0, 1) := by decide +kernel
theorem dX7_areOf_121 : decode cX7_areOf 121 = .ok (.aload_n 0, 1) := by decide +kernel
theorem dX7_areOf_122 : decode cX7_areOf 122 = .ok (.getfield 55, 3) := by decide +kernel
theorem dX7_areOf_125 : decode cX7_areOf 125 = .ok (.aload_n 0, 1) := by decide +kernel
theorem dX7_areOf_126 : decode cX7_areOf 126 = .ok (.getfield 59, 3) := by decide +kernel
theorem dX7_areOf_129 : decode cX7_areOf 129 = .ok (.isub, 1) := by decide +kernel
theorem dX7_areOf_130 : decode cX7_areOf 130 = .ok (.putfield 62, 3) := by decide +kernel
theorem dX7_areOf_133 : decode cX7_areOf 133 = .ok (.iconst 1, 1) := by decide +kernel
theorem dX7_areOf_134 : decode cX7_areOf 134 = .ok (.ireturn, 1) := by decide +kernel
theorem dX8_init_0 : decode cX8_init 0 = .ok (.aload_n 0, 1) := by decide +kernel
theorem dX8_init_1 : decode cX8_init 1 = .ok (.invokespecial 3, 3) := by decide +kernel
theorem dX8_init_4 : decode cX8_init 4 = .ok (.aload_n 0, 1) := by decide +kernel
theorem dX8_init_5 : decode cX8_init 5 = .ok (.bipush 60, 2) := by decide +kernel
theorem dX8_init_7 : decode cX8_init 7 = .ok (.newarray .int, 2) := by decide +kernel
theorem dX8_init_9 : decode cX8_init 9 = .ok (.putfield 9, 3) := by decide +kernel
theorem dX8_init_12 : decode cX8_init 12 = .ok (.aload_n 0, 1) := by decide +kernel
theorem dX8_init_13 : decode cX8_init 13 = .ok (.bipush 60, 2) := by decide +kernel
theorem dX8_init_15 : decode cX8_init 15 = .ok (.newarray .int, 2) := by decide +kernel
theorem dX8_init_17 : decode cX8_init 17 = .ok (.putfield 15, 3) := by decide +kernel
theorem dX8_init_20 : decode cX8_init 20 = .ok (.aload_n 0, 1) := by decide +kernel
theorem dX8_init_21 : decode cX8_init 21 = .ok (.bipush 60, 2) := by decide +kernel
theorem dX8_init_23 : decode cX8_init 23 = .ok (.newarray .int, 2) := by decide +kernel
theorem dX8_init_25 : decode cX8_init 25 = .ok (.putfield 18, 3) := by decide +kernel
theorem dX8_init_28 : decode cX8_init 28 = .ok (.return_, 1) := by decide +kernel
theorem dX8_ofGivingUp_0 : decode cX8_ofGivingUp 0 = .ok (.aload_n 0, 1) := by decide +kernel
theorem dX8_ofGivingUp_1 : decode cX8_ofGivingUp 1 = .ok (.invokevirtual 21, 3) := by decide +kernel
theorem dX8_ofGivingUp_4 : decode cX8_ofGivingUp 4 = .ok (.aload_n 0, 1) := by decide +kernel
theorem dX8_ofGivingUp_5 : decode cX8_ofGivingUp 5 = .ok (.aload_n 1, 1) := by decide +kernel
theorem dX8_ofGivingUp_6 : decode cX8_ofGivingUp 6 = .ok (.iload_n 2, 1) := by decide +kernel
theorem dX8_ofGivingUp_7 : decode cX8_ofGivingUp 7 = .ok (.iconst 1, 1) := by decide +kernel
theorem dX8_ofGivingUp_8 : decode cX8_ofGivingUp 8 = .ok (.iconst 1, 1) := by decide +kernel
theorem dX8_ofGivingUp_9 : decode cX8_ofGivingUp 9 = .ok (.invokevirtual 24, 3) := by decide +kernel
theorem dX8_ofGivingUp_12 : decode cX8_ofGivingUp 12 = .ok (.iconst 0, 1) := by decide +kernel
theorem dX8_ofGivingUp_13 : decode cX8_ofGivingUp 13 = .ok (.istore_n 3, 1) := by decide +kernel
theorem dX8_ofGivingUp_14 : decode cX8_ofGivingUp 14 = .ok (.iload_n 3, 1) := by decide +kernel
theorem dX8_ofGivingUp_15 : decode cX8_ofGivingUp 15 = .ok (.aload_n 0, 1) := by decide +kernel
theorem dX8_ofGivingUp_16 : decode cX8_ofGivingUp 16 = .ok (.getfield 15, 3) := by decide +kernel
theorem dX8_ofGivingUp_19 : decode cX8_ofGivingUp 19 = .ok (.arraylength, 1) := by decide +kernel
theorem dX8_ofGivingUp_20 : decode cX8_ofGivingUp 20 = .ok (.if_icmp .ge 21, 3) := by decide +kernel
theorem dX8_ofGivingUp_23 : decode cX8_ofGivingUp 23 = .ok (.aload_n 0, 1) := by decide +kernel
theorem dX8_ofGivingUp_24 : decode cX8_ofGivingUp 24 = .ok (.getfield 15, 3) := by decide +kernel
theorem dX8_ofGivingUp_27 : decode cX8_ofGivingUp 27 = .ok (.iload_n 3, 1) := by decide +kernel
theorem dX8_ofGivingUp_28 : decode cX8_ofGivingUp 28 = .ok (.aload_n 0, 1) := by decide +kernel
theorem dX8_ofGivingUp_29 : decode cX8_ofGivingUp 29 = .ok (.getfield 18, 3) := by decide +kernel
theorem dX8_ofGivingUp_32 : decode cX8_ofGivingUp 32 = .ok (.iload_n 3, 1) := by decide +kernel
theorem dX8_ofGivingUp_33 : decode cX8_ofGivingUp 33 = .ok (.iaload, 1) := by decide +kernel
theorem dX8_ofGivingUp_34 : decode cX8_ofGivingUp 34 = .ok (.iastore, 1) := by decide +kernel
theorem dX8_ofGivingUp_35 : decode cX8_ofGivingUp 35 = .ok (.iinc 3 1, 3) := by decide +kernel
theorem dX8_ofGivingUp_38 : decode cX8_ofGivingUp 38 = .ok (.goto (-24), 3) := by decide +kernel
theorem dX8_ofGivingUp_41 : decode cX8_ofGivingUp 41 = .ok (.return_, 1) := by decide +kernel
theorem dX8_ofPayment_0 : decode cX8_ofPayment 0 = .ok (.aload_n 0, 1) := by decide +kernel
theorem dX8_ofPayment_1 : decode cX8_ofPayment 1 = .ok (.invokevirtual 21, 3) := by decide +kernel
theorem dX8_ofPayment_4 : decode cX8_ofPayment 4 = .ok (.aload_n 0, 1) := by decide +kernel
theorem dX8_ofPayment_5 : decode cX8_ofPayment 5 = .ok (.aload_n 1, 1) := by decide +kernel
theorem dX8_ofPayment_6 : decode cX8_ofPayment 6 = .ok (.iload_n 2, 1) := by decide +kernel
theorem dX8_ofPayment_7 : decode cX8_ofPayment 7 = .ok (.iconst 1, 1) := by decide +kernel
theorem dX8_ofPayment_8 : decode cX8_ofPayment 8 = .ok (.iconst 1, 1) := by decide +kernel
theorem dX8_ofPayment_9 : decode cX8_ofPayment 9 = .ok (.invokevirtual 24, 3) := by decide +kernel
theorem dX8_ofPayment_12 : decode cX8_ofPayment 12 = .ok (.aload_n 0, 1) := by decide +kernel
theorem dX8_ofPayment_13 : decode cX8_ofPayment 13 = .ok (.aload_n 3, 1) := by decide +kernel
theorem dX8_ofPayment_14 : decode cX8_ofPayment 14 = .ok (.getfield 28, 3) := by decide +kernel
theorem dX8_ofPayment_17 : decode cX8_ofPayment 17 = .ok (.aload_n 3, 1) := by decide +kernel
theorem dX8_ofPayment_18 : decode cX8_ofPayment 18 = .ok (.getfield 33, 3) := by decide +kernel
theorem dX8_ofPayment_21 : decode cX8_ofPayment 21 = .ok (.isub, 1) := by decide +kernel
theorem dX8_ofPayment_22 : decode cX8_ofPayment 22 = .ok (.aload_n 0, 1) := by decide +kernel
theorem dX8_ofPayment_23 : decode cX8_ofPayment 23 = .ok (.getfield 9, 3) := by decide +kernel
theorem dX8_ofPayment_26 : decode cX8_ofPayment 26 = .ok (.invokevirtual 36, 3) := by decide +kernel
theorem dX8_ofPayment_29 : decode cX8_ofPayment 29 = .ok (.aload_n 0, 1) := by decide +kernel
theorem dX8_ofPayment_30 : decode cX8_ofPayment 30 = .ok (.aload_n 1, 1) := by decide +kernel
theorem dX8_ofPayment_31 : decode cX8_ofPayment 31 = .ok (.iload_n 2, 1) := by decide +kernel
theorem dX8_ofPayment_32 : decode cX8_ofPayment 32 = .ok (.aload_n 3, 1) := by decide +kernel
theorem dX8_ofPayment_33 : decode cX8_ofPayment 33 = .ok (.getfield 40, 3) := by decide +kernel
theorem dX8_ofPayment_36 : decode cX8_ofPayment 36 = .ok (.aload_n 3, 1) := by decide +kernel
theorem dX8_ofPayment_37 : decode cX8_ofPayment 37 = .ok (.getfield 43, 3) := by decide +kernel
theorem dX8_ofPayment_40 : decode cX8_ofPayment 40 = .ok (.invokevirtual 46, 3) := by decide +kernel
theorem dX8_ofPayment_43 : decode cX8_ofPayment 43 = .ok (.return_, 1) := by decide +kernel
theorem dX8_ofSale_0 : decode cX8_ofSale 0 = .ok (.aload_n 0, 1) := by decide +kernel
theorem dX8_ofSale_1 : decode cX8_ofSale 1 = .ok (.invokevirtual 21, 3) := by decide +kernel
theorem dX8_ofSale_4 : decode cX8_ofSale 4 = .ok (.aload_n 1, 1) := by decide +kernel
theorem dX8_ofSale_5 : decode cX8_ofSale 5 = .ok (.iload_n 2, 1) := by decide +kernel
theorem dX8_ofSale_6 : decode cX8_ofSale 6 = .ok (.iconst 0, 1) := by decide +kernel
theorem dX8_ofSale_7 : decode cX8_ofSale 7 = .ok (.invokevirtual 50, 3) := by decide +kernel
theorem dX8_ofSale_10 : decode cX8_ofSale 10 = .ok (.istore 4, 2) := by decide +kernel
theorem dX8_ofSale_12 : decode cX8_ofSale 12 = .ok (.iload_n 3, 1) := by decide +kernel
theorem dX8_ofSale_13 : decode cX8_ofSale 13 = .ok (.iload 4, 2) := by decide +kernel
theorem dX8_ofSale_15 : decode cX8_ofSale 15 = .ok (.invokestatic 56, 3) := by decide +kernel
theorem dX8_ofSale_18 : decode cX8_ofSale 18 = .ok (.istore 5, 2) := by decide +kernel
theorem dX8_ofSale_20 : decode cX8_ofSale 20 = .ok (.iload_n 3, 1) := by decide +kernel
theorem dX8_ofSale_21 : decode cX8_ofSale 21 = .ok (.iload 5, 2) := by decide +kernel
theorem dX8_ofSale_23 : decode cX8_ofSale 23 = .ok (.isub, 1) := by decide +kernel
theorem dX8_ofSale_24 : decode cX8_ofSale 24 = .ok (.aload_n 1, 1) := by decide +kernel
theorem dX8_ofSale_25 : decode cX8_ofSale 25 = .ok (.iload_n 2, 1) := by decide +kernel
theorem dX8_ofSale_26 : decode cX8_ofSale 26 = .ok (.iconst 1, 1) := by decide +kernel
theorem dX8_ofSale_27 : decode cX8_ofSale 27 = .ok (.invokevirtual 50, 3) := by decide +kernel
theorem dX8_ofSale_30 : decode cX8_ofSale 30 = .ok (.invokestatic 56, 3) := by decide +kernel
theorem dX8_ofSale_33 : decode cX8_ofSale 33 = .ok (.istore 6, 2) := by decide +kernel
theorem dX8_ofSale_35 : decode cX8_ofSale 35 = .ok (.aload_n 0, 1) := by decide +kernel
theorem dX8_ofSale_36 : decode cX8_ofSale 36 = .ok (.aload_n 1, 1) := by decide +kernel
theorem dX8_ofSale_37 : decode cX8_ofSale 37 = .ok (.iload_n 2, 1) := by decide +kernel
theorem dX8_ofSale_38 : decode cX8_ofSale 38 = .ok (.iload 5, 2) := by decide +kernel
theorem dX8_ofSale_40 : decode cX8_ofSale 40 = .ok (.iload 6, 2) := by decide +kernel
theorem dX8_ofSale_42 : decode cX8_ofSale 42 = .ok (.invokevirtual 46, 3) := by decide +kernel
theorem dX8_ofSale_45 : decode cX8_ofSale 45 = .ok (.aload_n 1, 1) := by decide +kernel
theorem dX8_ofSale_46 : decode cX8_ofSale 46 = .ok (.getfield 61, 3) := by decide +kernel
theorem dX8_ofSale_49 : decode cX8_ofSale 49 = .ok (.iload_n 3, 1) := by decide +kernel
theorem dX8_ofSale_50 : decode cX8_ofSale 50 = .ok (.iload 5, 2) := by decide +kernel
theorem dX8_ofSale_52 : decode cX8_ofSale 52 = .ok (.isub, 1) := by decide +kernel
theorem dX8_ofSale_53 : decode cX8_ofSale 53 = .ok (.iload 6, 2) := by decide +kernel
theorem dX8_ofSale_55 : decode cX8_ofSale 55 = .ok (.isub, 1) := by decide +kernel
theorem dX8_ofSale_56 : decode cX8_ofSale 56 = .ok (.iadd, 1) := by decide +kernel
theorem dX8_ofSale_57 : decode cX8_ofSale 57 = .ok (.istore 7, 2) := by decide +kernel
theorem dX8_ofSale_59 : decode cX8_ofSale 59 = .ok (.iload 7, 2) := by decide +kernel
theorem dX8_ofSale_61 : decode cX8_ofSale 61 = .ok (.iload 4, 2) := by decide +kernel
theorem dX8_ofSale_63 : decode cX8_ofSale 63 = .ok (.iload 5, 2) := by decide +kernel
theorem dX8_ofSale_65 : decode cX8_ofSale 65 = .ok (.isub, 1) := by decide +kernel
theorem dX8_ofSale_66 : decode cX8_ofSale 66 = .ok (.invokestatic 56, 3) := by decide +kernel
theorem dX8_ofSale_69 : decode cX8_ofSale 69 = .ok (.istore 8, 2) := by decide +kernel
theorem dX8_ofSale_71 : decode cX8_ofSale 71 = .ok (.aload_n 0, 1) := by decide +kernel
theorem dX8_ofSale_72 : decode cX8_ofSale 72 = .ok (.aload_n 1, 1) := by decide +kernel
theorem dX8_ofSale_73 : decode cX8_ofSale 73 = .ok (.iload_n 2, 1) := by decide +kernel
theorem dX8_ofSale_74 : decode cX8_ofSale 74 = .ok (.iconst 1, 1) := by decide +kernel
theorem dX8_ofSale_75 : decode cX8_ofSale 75 = .ok (.iconst 0, 1) := by decide +kernel
theorem dX8_ofSale_76 : decode cX8_ofSale 76 = .ok (.invokevirtual 24, 3) := by decide +kernel
theorem dX8_ofSale_79 : decode cX8_ofSale 79 = .ok (.iconst 0, 1) := by decide +kernel
theorem dX8_ofSale_80 : decode cX8_ofSale 80 = .ok (.istore 9, 2) := by decide +kernel
theorem dX8_ofSale_82 : decode cX8_ofSale 82 = .ok (.iload 9, 2) := by decide +kernel
theorem dX8_ofSale_84 : decode cX8_ofSale 84 = .ok (.aload_n 0, 1) := by decide +kernel
theorem dX8_ofSale_85 : decode cX8_ofSale 85 = .ok (.getfield 18, 3) := by decide +kernel
theorem dX8_ofSale_88 : decode cX8_ofSale 88 = .ok (.arraylength, 1) := by decide +kernel
theorem dX8_ofSale_89 : decode cX8_ofSale 89 = .ok (.if_icmp .ge 35, 3) := by decide +kernel
theorem dX8_ofSale_92 : decode cX8_ofSale 92 = .ok (.aload_n 0, 1) := by decide +kernel
theorem dX8_ofSale_93 : decode cX8_ofSale 93 = .ok (.getfield 18, 3) := by decide +kernel
theorem dX8_ofSale_96 : decode cX8_ofSale 96 = .ok (.iload 9, 2) := by decide +kernel
theorem dX8_ofSale_98 : decode cX8_ofSale 98 = .ok (.iconst 0, 1) := by decide +kernel
theorem dX8_ofSale_99 : decode cX8_ofSale 99 = .ok (.aload_n 0, 1) := by decide +kernel
theorem dX8_ofSale_100 : decode cX8_ofSale 100 = .ok (.getfield 18, 3) := by decide +kernel
theorem dX8_ofSale_103 : decode cX8_ofSale 103 = .ok (.iload 9, 2) := by decide +kernel
theorem dX8_ofSale_105 : decode cX8_ofSale 105 = .ok (.iaload, 1) := by decide +kernel
theorem dX8_ofSale_106 : decode cX8_ofSale 106 = .ok (.aload_n 0, 1) := by decide +kernel
theorem dX8_ofSale_107 : decode cX8_ofSale 107 = .ok (.getfield 15, 3) := by decide +kernel
theorem dX8_ofSale_110 : decode cX8_ofSale 110 = .ok (.iload 9, 2) := by decide +kernel
theorem dX8_ofSale_112 : decode cX8_ofSale 112 = .ok (.iaload, 1) := by decide +kernel
theorem dX8_ofSale_113 : decode cX8_ofSale 113 = .ok (.isub, 1) := by decide +kernel
theorem dX8_ofSale_114 : decode cX8_ofSale 114 = .ok (.invokestatic 64, 3) := by decide +kernel
theorem dX8_ofSale_117 : decode cX8_ofSale 117 = .ok (.iastore, 1) := by decide +kernel
theorem dX8_ofSale_118 : decode cX8_ofSale 118 = .ok (.iinc 9 1, 3) := by decide +kernel
theorem dX8_ofSale_121 : decode cX8_ofSale 121 = .ok (.goto (-39), 3) := by decide +kernel
theorem dX8_ofSale_124 : decode cX8_ofSale 124 = .ok (.aload_n 0, 1) := by decide +kernel
theorem dX8_ofSale_125 : decode cX8_ofSale 125 = .ok (.iload 8, 2) := by decide +kernel
theorem dX8_ofSale_127 : decode cX8_ofSale 127 = .ok (.aload_n 0, 1) := by decide +kernel
theorem dX8_ofSale_128 : decode cX8_ofSale 128 = .ok (.getfield 15, 3) := by decide +kernel
theorem dX8_ofSale_131 : decode cX8_ofSale 131 = .ok (.invokevirtual 36, 3) := by decide +kernel
theorem dX8_ofSale_134 : decode cX8_ofSale 134 = .ok (.iload 7, 2) := by decide +kernel
theorem dX8_ofSale_136 : decode cX8_ofSale 136 = .ok (.iload 8, 2) := by decide +kernel
theorem dX8_ofSale_138 : decode cX8_ofSale 138 = .ok (.isub, 1) := by decide +kernel
theorem dX8_ofSale_139 : decode cX8_ofSale 139 = .ok (.ireturn, 1) := by decide +kernel
theorem dX8_fits_0 : decode cX8_fits 0 = .ok (.iconst 0, 1) := by decide +kernel
theorem dX8_fits_1 : decode cX8_fits 1 = .ok (.istore_n 2, 1) := by decide +kernel
theorem dX8_fits_2 : decode cX8_fits 2 = .ok (.iload_n 2, 1) := by decide +kernel
theorem dX8_fits_3 : decode cX8_fits 3 = .ok (.aload_n 1, 1) := by decide +kernel
theorem dX8_fits_4 : decode cX8_fits 4 = .ok (.getfield 67, 3) := by decide +kernel
theorem dX8_fits_7 : decode cX8_fits 7 = .ok (.if_icmp .ge 81, 3) := by decide +kernel
theorem dX8_fits_10 : decode cX8_fits 10 = .ok (.aload_n 1, 1) := by decide +kernel
theorem dX8_fits_11 : decode cX8_fits 11 = .ok (.getfield 70, 3) := by decide +kernel
theorem dX8_fits_14 : decode cX8_fits 14 = .ok (.iload_n 2, 1) := by decide +kernel
theorem dX8_fits_15 : decode cX8_fits 15 = .ok (.aaload, 1) := by decide +kernel
theorem dX8_fits_16 : decode cX8_fits 16 = .ok (.getfield 74, 3) := by decide +kernel
theorem dX8_fits_19 : decode cX8_fits 19 = .ok (.i2l, 1) := by decide +kernel
theorem dX8_fits_20 : decode cX8_fits 20 = .ok (.lstore_n 3, 1) := by decide +kernel
theorem dX8_fits_21 : decode cX8_fits 21 = .ok (.iconst 0, 1) := by decide +kernel
theorem dX8_fits_22 : decode cX8_fits 22 = .ok (.istore 5, 2) := by decide +kernel
theorem dX8_fits_24 : decode cX8_fits 24 = .ok (.iload 5, 2) := by decide +kernel
theorem dX8_fits_26 : decode cX8_fits 26 = .ok (.aload_n 1, 1) := by decide +kernel
theorem dX8_fits_27 : decode cX8_fits 27 = .ok (.getfield 79, 3) := by decide +kernel
theorem dX8_fits_30 : decode cX8_fits 30 = .ok (.if_icmp .ge 42, 3) := by decide +kernel
theorem dX8_fits_33 : decode cX8_fits 33 = .ok (.aload_n 1, 1) := by decide +kernel
theorem dX8_fits_34 : decode cX8_fits 34 = .ok (.getfield 82, 3) := by decide +kernel
theorem dX8_fits_37 : decode cX8_fits 37 = .ok (.iload 5, 2) := by decide +kernel
theorem dX8_fits_39 : decode cX8_fits 39 = .ok (.aaload, 1) := by decide +kernel
theorem dX8_fits_40 : decode cX8_fits 40 = .ok (.getfield 86, 3) := by decide +kernel
theorem dX8_fits_43 : decode cX8_fits 43 = .ok (.iload_n 2, 1) := by decide +kernel
theorem dX8_fits_44 : decode cX8_fits 44 = .ok (.if_icmp .ne 22, 3) := by decide +kernel
theorem dX8_fits_47 : decode cX8_fits 47 = .ok (.lload_n 3, 1) := by decide +kernel
theorem dX8_fits_48 : decode cX8_fits 48 = .ok (.aload_n 0, 1) := by decide +kernel
theorem dX8_fits_49 : decode cX8_fits 49 = .ok (.getfield 9, 3) := by decide +kernel
theorem dX8_fits_52 : decode cX8_fits 52 = .ok (.iload 5, 2) := by decide +kernel
theorem dX8_fits_54 : decode cX8_fits 54 = .ok (.iaload, 1) := by decide +kernel
theorem dX8_fits_55 : decode cX8_fits 55 = .ok (.aload_n 0, 1) := by decide +kernel
theorem dX8_fits_56 : decode cX8_fits 56 = .ok (.getfield 15, 3) := by decide +kernel
theorem dX8_fits_59 : decode cX8_fits 59 = .ok (.iload 5, 2) := by decide +kernel
theorem dX8_fits_61 : decode cX8_fits 61 = .ok (.iaload, 1) := by decide +kernel
theorem dX8_fits_62 : decode cX8_fits 62 = .ok (.iadd, 1) := by decide +kernel
theorem dX8_fits_63 : decode cX8_fits 63 = .ok (.i2l, 1) := by decide +kernel
theorem dX8_fits_64 : decode cX8_fits 64 = .ok (.ladd, 1) := by decide +kernel
theorem dX8_fits_65 : decode cX8_fits 65 = .ok (.lstore_n 3, 1) := by decide +kernel
theorem dX8_fits_66 : decode cX8_fits 66 = .ok (.iinc 5 1, 3) := by decide +kernel
theorem dX8_fits_69 : decode cX8_fits 69 = .ok (.goto (-45), 3) := by decide +kernel
theorem dX8_fits_72 : decode cX8_fits 72 = .ok (.lload_n 3, 1) := by decide +kernel
theorem dX8_fits_73 : decode cX8_fits 73 = .ok (.ldc2_w 91, 3) := by decide +kernel
theorem dX8_fits_76 : decode cX8_fits 76 = .ok (.lcmp, 1) := by decide +kernel
theorem dX8_fits_77 : decode cX8_fits 77 = .ok (.ifCond .le 5, 3) := by decide +kernel
theorem dX8_fits_80 : decode cX8_fits 80 = .ok (.iconst 0, 1) := by decide +kernel
theorem dX8_fits_81 : decode cX8_fits 81 = .ok (.ireturn, 1) := by decide +kernel
theorem dX8_fits_82 : decode cX8_fits 82 = .ok (.iinc 2 1, 3) := by decide +kernel
theorem dX8_fits_85 : decode cX8_fits 85 = .ok (.goto (-83), 3) := by decide +kernel
theorem dX8_fits_88 : decode cX8_fits 88 = .ok (.iconst 1, 1) := by decide +kernel
theorem dX8_fits_89 : decode cX8_fits 89 = .ok (.ireturn, 1) := by decide +kernel
theorem dX8_carryOut_0 : decode cX8_carryOut 0 = .ok (.iconst 0, 1) := by decide +kernel
theorem dX8_carryOut_1 : decode cX8_carryOut 1 = .ok (.istore_n 2, 1) := by decide +kernel
theorem dX8_carryOut_2 : decode cX8_carryOut 2 = .ok (.iload_n 2, 1) := by decide +kernel
theorem dX8_carryOut_3 : decode cX8_carryOut 3 = .ok (.aload_n 1, 1) := by decide +kernel
theorem dX8_carryOut_4 : decode cX8_carryOut 4 = .ok (.getfield 79, 3) := by decide +kernel
theorem dX8_carryOut_7 : decode cX8_carryOut 7 = .ok (.if_icmp .ge 101, 3) := by decide +kernel
theorem dX8_carryOut_10 : decode cX8_carryOut 10 = .ok (.aload_n 1, 1) := by decide +kernel
theorem dX8_carryOut_11 : decode cX8_carryOut 11 = .ok (.getfield 82, 3) := by decide +kernel
theorem dX8_carryOut_14 : decode cX8_carryOut 14 = .ok (.iload_n 2, 1) := by decide +kernel
theorem dX8_carryOut_15 : decode cX8_carryOut 15 = .ok (.aaload, 1) := by decide +kernel
theorem dX8_carryOut_16 : decode cX8_carryOut 16 = .ok (.astore_n 3, 1) := by decide +kernel
theorem dX8_carryOut_17 : decode cX8_carryOut 17 = .ok (.aload_n 3, 1) := by decide +kernel
theorem dX8_carryOut_18 : decode cX8_carryOut 18 = .ok (.dup, 1) := by decide +kernel
theorem dX8_carryOut_19 : decode cX8_carryOut 19 = .ok (.getfield 93, 3) := by decide +kernel
theorem dX8_carryOut_22 : decode cX8_carryOut 22 = .ok (.aload_n 0, 1) := by decide +kernel
theorem dX8_carryOut_23 : decode cX8_carryOut 23 = .ok (.getfield 9, 3) := by decide +kernel
theorem dX8_carryOut_26 : decode cX8_carryOut 26 = .ok (.iload_n 2, 1) := by decide +kernel
theorem dX8_carryOut_27 : decode cX8_carryOut 27 = .ok (.iaload, 1) := by decide +kernel
theorem dX8_carryOut_28 : decode cX8_carryOut 28 = .ok (.iadd, 1) := by decide +kernel
theorem dX8_carryOut_29 : decode cX8_carryOut 29 = .ok (.putfield 93, 3) := by decide +kernel
theorem dX8_carryOut_32 : decode cX8_carryOut 32 = .ok (.aload_n 3, 1) := by decide +kernel
theorem dX8_carryOut_33 : decode cX8_carryOut 33 = .ok (.dup, 1) := by decide +kernel
theorem dX8_carryOut_34 : decode cX8_carryOut 34 = .ok (.getfield 94, 3) := by decide +kernel
theorem dX8_carryOut_37 : decode cX8_carryOut 37 = .ok (.aload_n 0, 1) := by decide +kernel
theorem dX8_carryOut_38 : decode cX8_carryOut 38 = .ok (.getfield 15, 3) := by decide +kernel
theorem dX8_carryOut_41 : decode cX8_carryOut 41 = .ok (.iload_n 2, 1) := by decide +kernel
theorem dX8_carryOut_42 : decode cX8_carryOut 42 = .ok (.iaload, 1) := by decide +kernel
theorem dX8_carryOut_43 : decode cX8_carryOut 43 = .ok (.isub, 1) := by decide +kernel
theorem dX8_carryOut_44 : decode cX8_carryOut 44 = .ok (.putfield 94, 3) := by decide +kernel
theorem dX8_carryOut_47 : decode cX8_carryOut 47 = .ok (.aload_n 1, 1) := by decide +kernel
theorem dX8_carryOut_48 : decode cX8_carryOut 48 = .ok (.aload_n 3, 1) := by decide +kernel
theorem dX8_carryOut_49 : decode cX8_carryOut 49 = .ok (.getfield 86, 3) := by decide +kernel
theorem dX8_carryOut_52 : decode cX8_carryOut 52 = .ok (.invokevirtual 96, 3) := by decide +kernel
theorem dX8_carryOut_55 : decode cX8_carryOut 55 = .ok (.ifCond .eq 47, 3) := by decide +kernel
theorem dX8_carryOut_58 : decode cX8_carryOut 58 = .ok (.aload_n 1, 1) := by decide +kernel
theorem dX8_carryOut_59 : decode cX8_carryOut 59 = .ok (.getfield 70, 3) := by decide +kernel
theorem dX8_carryOut_62 : decode cX8_carryOut 62 = .ok (.aload_n 3, 1) := by decide +kernel
theorem dX8_carryOut_63 : decode cX8_carryOut 63 = .ok (.getfield 86, 3) := by decide +kernel
theorem dX8_carryOut_66 : decode cX8_carryOut 66 = .ok (.aaload, 1) := by decide +kernel
theorem dX8_carryOut_67 : decode cX8_carryOut 67 = .ok (.dup, 1) := by decide +kernel
theorem dX8_carryOut_68 : decode cX8_carryOut 68 = .ok (.getfield 100, 3) := by decide +kernel
theorem dX8_carryOut_71 : decode cX8_carryOut 71 = .ok (.aload_n 0, 1) := by decide +kernel
theorem dX8_carryOut_72 : decode cX8_carryOut 72 = .ok (.getfield 9, 3) := by decide +kernel
theorem dX8_carryOut_75 : decode cX8_carryOut 75 = .ok (.iload_n 2, 1) := by decide +kernel
theorem dX8_carryOut_76 : decode cX8_carryOut 76 = .ok (.iaload, 1) := by decide +kernel
theorem dX8_carryOut_77 : decode cX8_carryOut 77 = .ok (.iadd, 1) := by decide +kernel
theorem dX8_carryOut_78 : decode cX8_carryOut 78 = .ok (.putfield 100, 3) := by decide +kernel
theorem dX8_carryOut_81 : decode cX8_carryOut 81 = .ok (.aload_n 1, 1) := by decide +kernel
theorem dX8_carryOut_82 : decode cX8_carryOut 82 = .ok (.aload_n 3, 1) := by decide +kernel
theorem dX8_carryOut_83 : decode cX8_carryOut 83 = .ok (.getfield 86, 3) := by decide +kernel
theorem dX8_carryOut_86 : decode cX8_carryOut 86 = .ok (.aload_n 0, 1) := by decide +kernel
theorem dX8_carryOut_87 : decode cX8_carryOut 87 = .ok (.getfield 9, 3) := by decide +kernel
theorem dX8_carryOut_90 : decode cX8_carryOut 90 = .ok (.iload_n 2, 1) := by decide +kernel
theorem dX8_carryOut_91 : decode cX8_carryOut 91 = .ok (.iaload, 1) := by decide +kernel
theorem dX8_carryOut_92 : decode cX8_carryOut 92 = .ok (.aload_n 0, 1) := by decide +kernel
theorem dX8_carryOut_93 : decode cX8_carryOut 93 = .ok (.getfield 15, 3) := by decide +kernel
theorem dX8_carryOut_96 : decode cX8_carryOut 96 = .ok (.iload_n 2, 1) := by decide +kernel
theorem dX8_carryOut_97 : decode cX8_carryOut 97 = .ok (.iaload, 1) := by decide +kernel
theorem dX8_carryOut_98 : decode cX8_carryOut 98 = .ok (.iadd, 1) := by decide +kernel
theorem dX8_carryOut_99 : decode cX8_carryOut 99 = .ok (.invokevirtual 101, 3) := by decide +kernel
theorem dX8_carryOut_102 : decode cX8_carryOut 102 = .ok (.iinc 2 1, 3) := by decide +kernel
theorem dX8_carryOut_105 : decode cX8_carryOut 105 = .ok (.goto (-103), 3) := by decide +kernel
theorem dX8_carryOut_108 : decode cX8_carryOut 108 = .ok (.return_, 1) := by decide +kernel
theorem dX8_clear_0 : decode cX8_clear 0 = .ok (.iconst 0, 1) := by decide +kernel
theorem dX8_clear_1 : decode cX8_clear 1 = .ok (.istore_n 1, 1) := by decide +kernel
theorem dX8_clear_2 : decode cX8_clear 2 = .ok (.iload_n 1, 1) := by decide +kernel
theorem dX8_clear_3 : decode cX8_clear 3 = .ok (.aload_n 0, 1) := by decide +kernel
theorem dX8_clear_4 : decode cX8_clear 4 = .ok (.getfield 18, 3) := by decide +kernel
theorem dX8_clear_7 : decode cX8_clear 7 = .ok (.arraylength, 1) := by decide +kernel
theorem dX8_clear_8 : decode cX8_clear 8 = .ok (.if_icmp .ge 30, 3) := by decide +kernel
theorem dX8_clear_11 : decode cX8_clear 11 = .ok (.aload_n 0, 1) := by decide +kernel
theorem dX8_clear_12 : decode cX8_clear 12 = .ok (.getfield 9, 3) := by decide +kernel
theorem dX8_clear_15 : decode cX8_clear 15 = .ok (.iload_n 1, 1) := by decide +kernel
theorem dX8_clear_16 : decode cX8_clear 16 = .ok (.iconst 0, 1) := by decide +kernel
theorem dX8_clear_17 : decode cX8_clear 17 = .ok (.iastore, 1) := by decide +kernel
theorem dX8_clear_18 : decode cX8_clear 18 = .ok (.aload_n 0, 1) := by decide +kernel
theorem dX8_clear_19 : decode cX8_clear 19 = .ok (.getfield 15, 3) := by decide +kernel
theorem dX8_clear_22 : decode cX8_clear 22 = .ok (.iload_n 1, 1) := by decide +kernel
theorem dX8_clear_23 : decode cX8_clear 23 = .ok (.iconst 0, 1) := by decide +kernel
theorem dX8_clear_24 : decode cX8_clear 24 = .ok (.iastore, 1) := by decide +kernel
theorem dX8_clear_25 : decode cX8_clear 25 = .ok (.aload_n 0, 1) := by decide +kernel
theorem dX8_clear_26 : decode cX8_clear 26 = .ok (.getfield 18, 3) := by decide +kernel
theorem dX8_clear_29 : decode cX8_clear 29 = .ok (.iload_n 1, 1) := by decide +kernel
theorem dX8_clear_30 : decode cX8_clear 30 = .ok (.iconst 0, 1) := by decide +kernel
theorem dX8_clear_31 : decode cX8_clear 31 = .ok (.iastore, 1) := by decide +kernel
theorem dX8_clear_32 : decode cX8_clear 32 = .ok (.iinc 1 1, 3) := by decide +kernel
theorem dX8_clear_35 : decode cX8_clear 35 = .ok (.goto (-33), 3) := by decide +kernel
theorem dX8_clear_38 : decode cX8_clear 38 = .ok (.return_, 1) := by decide +kernel
theorem dX8_shareByClass_0 : decode cX8_shareByClass 0 = .ok (.aload_n 0, 1) := by decide +kernel
theorem dX8_shareByClass_1 : decode cX8_shareByClass 1 = .ok (.aload_n 1, 1) := by decide +kernel
theorem dX8_shareByClass_2 : decode cX8_shareByClass 2 = .ok (.iload_n 2, 1) := by decide +kernel
theorem dX8_shareByClass_3 : decode cX8_shareByClass 3 = .ok (.iconst 1, 1) := by decide +kernel
theorem dX8_shareByClass_4 : decode cX8_shareByClass 4 = .ok (.iconst 0, 1) := by decide +kernel
theorem dX8_shareByClass_5 : decode cX8_shareByClass 5 = .ok (.invokevirtual 24, 3) := by decide +kernel
theorem dX8_shareByClass_8 : decode cX8_shareByClass 8 = .ok (.aload_n 0, 1) := by decide +kernel
theorem dX8_shareByClass_9 : decode cX8_shareByClass 9 = .ok (.iload_n 3, 1) := by decide +kernel
theorem dX8_shareByClass_10 : decode cX8_shareByClass 10 = .ok (.aload_n 0, 1) := by decide +kernel
theorem dX8_shareByClass_11 : decode cX8_shareByClass 11 = .ok (.getfield 15, 3) := by decide +kernel
theorem dX8_shareByClass_14 : decode cX8_shareByClass 14 = .ok (.invokevirtual 36, 3) := by decide +kernel
theorem dX8_shareByClass_17 : decode cX8_shareByClass 17 = .ok (.aload_n 0, 1) := by decide +kernel
theorem dX8_shareByClass_18 : decode cX8_shareByClass 18 = .ok (.aload_n 1, 1) := by decide +kernel
theorem dX8_shareByClass_19 : decode cX8_shareByClass 19 = .ok (.iload_n 2, 1) := by decide +kernel
theorem dX8_shareByClass_20 : decode cX8_shareByClass 20 = .ok (.iconst 0, 1) := by decide +kernel
theorem dX8_shareByClass_21 : decode cX8_shareByClass 21 = .ok (.iconst 1, 1) := by decide +kernel
theorem dX8_shareByClass_22 : decode cX8_shareByClass 22 = .ok (.invokevirtual 24, 3) := by decide +kernel
theorem dX8_shareByClass_25 : decode cX8_shareByClass 25 = .ok (.aload_n 0, 1) := by decide +kernel
theorem dX8_shareByClass_26 : decode cX8_shareByClass 26 = .ok (.iload 4, 2) := by decide +kernel
theorem dX8_shareByClass_28 : decode cX8_shareByClass 28 = .ok (.aload_n 0, 1) := by decide +kernel
theorem dX8_shareByClass_29 : decode cX8_shareByClass 29 = .ok (.getfield 15, 3) := by decide +kernel
theorem dX8_shareByClass_32 : decode cX8_shareByClass 32 = .ok (.invokevirtual 36, 3) := by decide +kernel
theorem dX8_shareByClass_35 : decode cX8_shareByClass 35 = .ok (.return_, 1) := by decide +kernel
theorem dX8_weighPrincipals_0 : decode cX8_weighPrincipals 0 = .ok (.iconst 0, 1) := by decide +kernel
theorem dX8_weighPrincipals_1 : decode cX8_weighPrincipals 1 = .ok (.istore 5, 2) := by decide +kernel
theorem dX8_weighPrincipals_3 : decode cX8_weighPrincipals 3 = .ok (.iload 5, 2) := by decide +kernel
theorem dX8_weighPrincipals_5 : decode cX8_weighPrincipals 5 = .ok (.aload_n 1, 1) := by decide +kernel
theorem dX8_weighPrincipals_6 : decode cX8_weighPrincipals 6 = .ok (.getfield 79, 3) := by decide +kernel
theorem dX8_weighPrincipals_9 : decode cX8_weighPrincipals 9 = .ok (.if_icmp .ge 75, 3) := by decide +kernel
theorem dX8_weighPrincipals_12 : decode cX8_weighPrincipals 12 = .ok (.aload_n 1, 1) := by decide +kernel
theorem dX8_weighPrincipals_13 : decode cX8_weighPrincipals 13 = .ok (.getfield 82, 3) := by decide +kernel
theorem dX8_weighPrincipals_16 : decode cX8_weighPrincipals 16 = .ok (.iload 5, 2) := by decide +kernel
theorem dX8_weighPrincipals_18 : decode cX8_weighPrincipals 18 = .ok (.aaload, 1) := by decide +kernel
theorem dX8_weighPrincipals_19 : decode cX8_weighPrincipals 19 = .ok (.astore 6, 2) := by decide +kernel
theorem dX8_weighPrincipals_21 : decode cX8_weighPrincipals 21 = .ok (.aload 6, 2) := by decide +kernel
theorem dX8_weighPrincipals_23 : decode cX8_weighPrincipals 23 = .ok (.getfield 105, 3) := by decide +kernel
theorem dX8_weighPrincipals_26 : decode cX8_weighPrincipals 26 = .ok (.iload_n 2, 1) := by decide +kernel
theorem dX8_weighPrincipals_27 : decode cX8_weighPrincipals 27 = .ok (.if_icmp .ne 27, 3) := by decide +kernel
theorem dX8_weighPrincipals_30 : decode cX8_weighPrincipals 30 = .ok (.aload 6, 2) := by decide +kernel
theorem dX8_weighPrincipals_32 : decode cX8_weighPrincipals 32 = .ok (.getfield 108, 3) := by decide +kernel
theorem dX8_weighPrincipals_35 : decode cX8_weighPrincipals 35 = .ok (.ifCond .ne 10, 3) := by decide +kernel
theorem dX8_weighPrincipals_38 : decode cX8_weighPrincipals 38 = .ok (.iload_n 3, 1) := by decide +kernel
theorem dX8_weighPrincipals_39 : decode cX8_weighPrincipals 39 = .ok (.ifCond .eq 15, 3) := by decide +kernel
theorem dX8_weighPrincipals_42 : decode cX8_weighPrincipals 42 = .ok (.goto 8, 3) := by decide +kernel
theorem dX8_weighPrincipals_45 : decode cX8_weighPrincipals 45 = .ok (.iload 4, 2) := by decide +kernel
theorem dX8_weighPrincipals_47 : decode cX8_weighPrincipals 47 = .ok (.ifCond .eq 7, 3) := by decide +kernel
theorem dX8_weighPrincipals_50 : decode cX8_weighPrincipals 50 = .ok (.iconst 1, 1) := by decide +kernel
theorem dX8_weighPrincipals_51 : decode cX8_weighPrincipals 51 = .ok (.goto 4, 3) := by decide +kernel
theorem dX8_weighPrincipals_54 : decode cX8_weighPrincipals 54 = .ok (.iconst 0, 1) := by decide +kernel
theorem dX8_weighPrincipals_55 : decode cX8_weighPrincipals 55 = .ok (.istore 7, 2) := by decide +kernel
theorem dX8_weighPrincipals_57 : decode cX8_weighPrincipals 57 = .ok (.aload_n 0, 1) := by decide +kernel
theorem dX8_weighPrincipals_58 : decode cX8_weighPrincipals 58 = .ok (.getfield 18, 3) := by decide +kernel
theorem dX8_weighPrincipals_61 : decode cX8_weighPrincipals 61 = .ok (.iload 5, 2) := by decide +kernel
theorem dX8_weighPrincipals_63 : decode cX8_weighPrincipals 63 = .ok (.iload 7, 2) := by decide +kernel
theorem dX8_weighPrincipals_65 : decode cX8_weighPrincipals 65 = .ok (.ifCond .eq 11, 3) := by decide +kernel
theorem dX8_weighPrincipals_68 : decode cX8_weighPrincipals 68 = .ok (.aload 6, 2) := by decide +kernel
theorem dX8_weighPrincipals_70 : decode cX8_weighPrincipals 70 = .ok (.getfield 94, 3) := by decide +kernel
theorem dX8_weighPrincipals_73 : decode cX8_weighPrincipals 73 = .ok (.goto 4, 3) := by decide +kernel
theorem dX8_weighPrincipals_76 : decode cX8_weighPrincipals 76 = .ok (.iconst 0, 1) := by decide +kernel
theorem dX8_weighPrincipals_77 : decode cX8_weighPrincipals 77 = .ok (.iastore, 1) := by decide +kernel
theorem dX8_weighPrincipals_78 : decode cX8_weighPrincipals 78 = .ok (.iinc 5 1, 3) := by decide +kernel
theorem dX8_weighPrincipals_81 : decode cX8_weighPrincipals 81 = .ok (.goto (-78), 3) := by decide +kernel
theorem dX8_weighPrincipals_84 : decode cX8_weighPrincipals 84 = .ok (.return_, 1) := by decide +kernel
theorem dX8_shareOut_0 : decode cX8_shareOut 0 = .ok (.lconst 0, 1) := by decide +kernel
theorem dX8_shareOut_1 : decode cX8_shareOut 1 = .ok (.lstore_n 3, 1) := by decide +kernel
theorem dX8_shareOut_2 : decode cX8_shareOut 2 = .ok (.iconst 0, 1) := by decide +kernel
theorem dX8_shareOut_3 : decode cX8_shareOut 3 = .ok (.istore 5, 2) := by decide +kernel
theorem dX8_shareOut_5 : decode cX8_shareOut 5 = .ok (.iload 5, 2) := by decide +kernel
theorem dX8_shareOut_7 : decode cX8_shareOut 7 = .ok (.aload_n 0, 1) := by decide +kernel
theorem dX8_shareOut_8 : decode cX8_shareOut 8 = .ok (.getfield 18, 3) := by decide +kernel
theorem dX8_shareOut_11 : decode cX8_shareOut 11 = .ok (.arraylength, 1) := by decide +kernel
theorem dX8_shareOut_12 : decode cX8_shareOut 12 = .ok (.if_icmp .ge 20, 3) := by decide +kernel
theorem dX8_shareOut_15 : decode cX8_shareOut 15 = .ok (.lload_n 3, 1) := by decide +kernel
theorem dX8_shareOut_16 : decode cX8_shareOut 16 = .ok (.aload_n 0, 1) := by decide +kernel
theorem dX8_shareOut_17 : decode cX8_shareOut 17 = .ok (.getfield 18, 3) := by decide +kernel
theorem dX8_shareOut_20 : decode cX8_shareOut 20 = .ok (.iload 5, 2) := by decide +kernel
theorem dX8_shareOut_22 : decode cX8_shareOut 22 = .ok (.iaload, 1) := by decide +kernel
theorem dX8_shareOut_23 : decode cX8_shareOut 23 = .ok (.i2l, 1) := by decide +kernel
theorem dX8_shareOut_24 : decode cX8_shareOut 24 = .ok (.ladd, 1) := by decide +kernel
theorem dX8_shareOut_25 : decode cX8_shareOut 25 = .ok (.lstore_n 3, 1) := by decide +kernel
theorem dX8_shareOut_26 : decode cX8_shareOut 26 = .ok (.iinc 5 1, 3) := by decide +kernel
theorem dX8_shareOut_29 : decode cX8_shareOut 29 = .ok (.goto (-24), 3) := by decide +kernel
theorem dX8_shareOut_32 : decode cX8_shareOut 32 = .ok (.lload_n 3, 1) := by decide +kernel
theorem dX8_shareOut_33 : decode cX8_shareOut 33 = .ok (.lconst 0, 1) := by decide +kernel
theorem dX8_shareOut_34 : decode cX8_shareOut 34 = .ok (.lcmp, 1) := by decide +kernel
theorem dX8_shareOut_35 : decode cX8_shareOut 35 = .ok (.ifCond .gt 4, 3) := by decide +kernel
theorem dX8_shareOut_38 : decode cX8_shareOut 38 = .ok (.return_, 1) := by decide +kernel
theorem dX8_shareOut_39 : decode cX8_shareOut 39 = .ok (.iload_n 1, 1) := by decide +kernel
theorem dX8_shareOut_40 : decode cX8_shareOut 40 = .ok (.istore 5, 2) := by decide +kernel
theorem dX8_shareOut_42 : decode cX8_shareOut 42 = .ok (.iconst 0, 1) := by decide +kernel
theorem dX8_shareOut_43 : decode cX8_shareOut 43 = .ok (.istore 6, 2) := by decide +kernel
theorem dX8_shareOut_45 : decode cX8_shareOut 45 = .ok (.iload 6, 2) := by decide +kernel
theorem dX8_shareOut_47 : decode cX8_shareOut 47 = .ok (.aload_n 0, 1) := by decide +kernel
theorem dX8_shareOut_48 : decode cX8_shareOut 48 = .ok (.getfield 18, 3) := by decide +kernel
theorem dX8_shareOut_51 : decode cX8_shareOut 51 = .ok (.arraylength, 1) := by decide +kernel
theorem dX8_shareOut_52 : decode cX8_shareOut 52 = .ok (.if_icmp .ge 41, 3) := by decide +kernel
theorem dX8_shareOut_55 : decode cX8_shareOut 55 = .ok (.iload_n 1, 1) := by decide +kernel
theorem dX8_shareOut_56 : decode cX8_shareOut 56 = .ok (.i2l, 1) := by decide +kernel
theorem dX8_shareOut_57 : decode cX8_shareOut 57 = .ok (.aload_n 0, 1) := by decide +kernel
theorem dX8_shareOut_58 : decode cX8_shareOut 58 = .ok (.getfield 18, 3) := by decide +kernel
theorem dX8_shareOut_61 : decode cX8_shareOut 61 = .ok (.iload 6, 2) := by decide +kernel
theorem dX8_shareOut_63 : decode cX8_shareOut 63 = .ok (.iaload, 1) := by decide +kernel
theorem dX8_shareOut_64 : decode cX8_shareOut 64 = .ok (.i2l, 1) := by decide +kernel
theorem dX8_shareOut_65 : decode cX8_shareOut 65 = .ok (.lmul, 1) := by decide +kernel
theorem dX8_shareOut_66 : decode cX8_shareOut 66 = .ok (.lload_n 3, 1) := by decide +kernel
theorem dX8_shareOut_67 : decode cX8_shareOut 67 = .ok (.ldiv, 1) := by decide +kernel
theorem dX8_shareOut_68 : decode cX8_shareOut 68 = .ok (.l2i, 1) := by decide +kernel
theorem dX8_shareOut_69 : decode cX8_shareOut 69 = .ok (.istore 7, 2) := by decide +kernel
theorem dX8_shareOut_71 : decode cX8_shareOut 71 = .ok (.aload_n 2, 1) := by decide +kernel
theorem dX8_shareOut_72 : decode cX8_shareOut 72 = .ok (.iload 6, 2) := by decide +kernel
theorem dX8_shareOut_74 : decode cX8_shareOut 74 = .ok (.dup2, 1) := by decide +kernel
theorem dX8_shareOut_75 : decode cX8_shareOut 75 = .ok (.iaload, 1) := by decide +kernel
theorem dX8_shareOut_76 : decode cX8_shareOut 76 = .ok (.iload 7, 2) := by decide +kernel
theorem dX8_shareOut_78 : decode cX8_shareOut 78 = .ok (.iadd, 1) := by decide +kernel
theorem dX8_shareOut_79 : decode cX8_shareOut 79 = .ok (.iastore, 1) := by decide +kernel
theorem dX8_shareOut_80 : decode cX8_shareOut 80 = .ok (.iload 5, 2) := by decide +kernel
theorem dX8_shareOut_82 : decode cX8_shareOut 82 = .ok (.iload 7, 2) := by decide +kernel
theorem dX8_shareOut_84 : decode cX8_shareOut 84 = .ok (.isub, 1) := by decide +kernel
theorem dX8_shareOut_85 : decode cX8_shareOut 85 = .ok (.istore 5, 2) := by decide +kernel
theorem dX8_shareOut_87 : decode cX8_shareOut 87 = .ok (.iinc 6 1, 3) := by decide +kernel
theorem dX8_shareOut_90 : decode cX8_shareOut 90 = .ok (.goto (-45), 3) := by decide +kernel
theorem dX8_shareOut_93 : decode cX8_shareOut 93 = .ok (.iconst 0, 1) := by decide +kernel
theorem dX8_shareOut_94 : decode cX8_shareOut 94 = .ok (.istore 6, 2) := by decide +kernel
theorem dX8_shareOut_96 : decode cX8_shareOut 96 = .ok (.iload 6, 2) := by decide +kernel
theorem dX8_shareOut_98 : decode cX8_shareOut 98 = .ok (.aload_n 0, 1) := by decide +kernel
theorem dX8_shareOut_99 : decode cX8_shareOut 99 = .ok (.getfield 18, 3) := by decide +kernel
theorem dX8_shareOut_102 : decode cX8_shareOut 102 = .ok (.arraylength, 1) := by decide +kernel
theorem dX8_shareOut_103 : decode cX8_shareOut 103 = .ok (.if_icmp .ge 35, 3) := by decide +kernel
theorem dX8_shareOut_106 : decode cX8_shareOut 106 = .ok (.iload 5, 2) := by decide +kernel
theorem dX8_shareOut_108 : decode cX8_shareOut 108 = .ok (.ifCond .le 30, 3) := by decide +kernel
theorem dX8_shareOut_111 : decode cX8_shareOut 111 = .ok (.aload_n 0, 1) := by decide +kernel
theorem dX8_shareOut_112 : decode cX8_shareOut 112 = .ok (.getfield 18, 3) := by decide +kernel
theorem dX8_shareOut_115 : decode cX8_shareOut 115 = .ok (.iload 6, 2) := by decide +kernel
theorem dX8_shareOut_117 : decode cX8_shareOut 117 = .ok (.iaload, 1) := by decide +kernel
theorem dX8_shareOut_118 : decode cX8_shareOut 118 = .ok (.ifCond .eq 14, 3) := by decide +kernel
theorem dX8_shareOut_121 : decode cX8_shareOut 121 = .ok (.aload_n 2, 1) := by decide +kernel
theorem dX8_shareOut_122 : decode cX8_shareOut 122 = .ok (.iload 6, 2) := by decide +kernel
theorem dX8_shareOut_124 : decode cX8_shareOut 124 = .ok (.dup2, 1) := by decide +kernel
theorem dX8_shareOut_125 : decode cX8_shareOut 125 = .ok (.iaload, 1) := by decide +kernel
theorem dX8_shareOut_126 : decode cX8_shareOut 126 = .ok (.iconst 1, 1) := by decide +kernel
theorem dX8_shareOut_127 : decode cX8_shareOut 127 = .ok (.iadd, 1) := by decide +kernel
theorem dX8_shareOut_128 : decode cX8_shareOut 128 = .ok (.iastore, 1) := by decide +kernel
theorem dX8_shareOut_129 : decode cX8_shareOut 129 = .ok (.iinc 5 (-1), 3) := by decide +kernel
theorem dX8_shareOut_132 : decode cX8_shareOut 132 = .ok (.iinc 6 1, 3) := by decide +kernel
theorem dX8_shareOut_135 : decode cX8_shareOut 135 = .ok (.goto (-39), 3) := by decide +kernel
theorem dX8_shareOut_138 : decode cX8_shareOut 138 = .ok (.return_, 1) := by decide +kernel
end
section
theorem dX9_init_0 : decode cX9_init 0 = .ok (.aload_n 0, 1) := by decide +kernel
theorem dX9_init_1 : decode cX9_init 1 = .ok (.invokespecial 1, 3) := by decide +kernel
theorem dX9_init_4 : decode cX9_init 4 = .ok (.aload_n 0, 1) := by decide +kernel
theorem dX9_init_5 : decode cX9_init 5 = .ok (.new 7, 3) := by decide +kernel
theorem dX9_init_8 : decode cX9_init 8 = .ok (.dup, 1) := by decide +kernel
theorem dX9_init_9 : decode cX9_init 9 = .ok (.invokespecial 9, 3) := by decide +kernel
theorem dX9_init_12 : decode cX9_init 12 = .ok (.putfield 10, 3) := by decide +kernel
theorem dX9_init_15 : decode cX9_init 15 = .ok (.aload_n 0, 1) := by decide +kernel
theorem dX9_init_16 : decode cX9_init 16 = .ok (.new 7, 3) := by decide +kernel
theorem dX9_init_19 : decode cX9_init 19 = .ok (.dup, 1) := by decide +kernel
theorem dX9_init_20 : decode cX9_init 20 = .ok (.invokespecial 9, 3) := by decide +kernel
theorem dX9_init_23 : decode cX9_init 23 = .ok (.putfield 16, 3) := by decide +kernel
theorem dX9_init_26 : decode cX9_init 26 = .ok (.aload_n 0, 1) := by decide +kernel
theorem dX9_init_27 : decode cX9_init 27 = .ok (.new 7, 3) := by decide +kernel
theorem dX9_init_30 : decode cX9_init 30 = .ok (.dup, 1) := by decide +kernel
theorem dX9_init_31 : decode cX9_init 31 = .ok (.invokespecial 9, 3) := by decide +kernel
theorem dX9_init_34 : decode cX9_init 34 = .ok (.putfield 19, 3) := by decide +kernel
theorem dX9_init_37 : decode cX9_init 37 = .ok (.aload_n 0, 1) := by decide +kernel
theorem dX9_init_38 : decode cX9_init 38 = .ok (.iconst 0, 1) := by decide +kernel
theorem dX9_init_39 : decode cX9_init 39 = .ok (.putfield 22, 3) := by decide +kernel
theorem dX9_init_42 : decode cX9_init 42 = .ok (.aload_n 0, 1) := by decide +kernel
theorem dX9_init_43 : decode cX9_init 43 = .ok (.new 26, 3) := by decide +kernel
theorem dX9_init_46 : decode cX9_init 46 = .ok (.dup, 1) := by decide +kernel
theorem dX9_init_47 : decode cX9_init 47 = .ok (.invokespecial 28, 3) := by decide +kernel
theorem dX9_init_50 : decode cX9_init 50 = .ok (.putfield 29, 3) := by decide +kernel
theorem dX9_init_53 : decode cX9_init 53 = .ok (.aload_n 0, 1) := by decide +kernel
theorem dX9_init_54 : decode cX9_init 54 = .ok (.new 33, 3) := by decide +kernel
theorem dX9_init_57 : decode cX9_init 57 = .ok (.dup, 1) := by decide +kernel
theorem dX9_init_58 : decode cX9_init 58 = .ok (.invokespecial 35, 3) := by decide +kernel
theorem dX9_init_61 : decode cX9_init 61 = .ok (.putfield 36, 3) := by decide +kernel
theorem dX9_init_64 : decode cX9_init 64 = .ok (.aload_n 0, 1) := by decide +kernel
theorem dX9_init_65 : decode cX9_init 65 = .ok (.new 40, 3) := by decide +kernel
theorem dX9_init_68 : decode cX9_init 68 = .ok (.dup, 1) := by decide +kernel
theorem dX9_init_69 : decode cX9_init 69 = .ok (.invokespecial 42, 3) := by decide +kernel
theorem dX9_init_72 : decode cX9_init 72 = .ok (.putfield 43, 3) := by decide +kernel
theorem dX9_init_75 : decode cX9_init 75 = .ok (.aload_n 0, 1) := by decide +kernel
theorem dX9_init_76 : decode cX9_init 76 = .ok (.new 47, 3) := by decide +kernel
theorem dX9_init_79 : decode cX9_init 79 = .ok (.dup, 1) := by decide +kernel
theorem dX9_init_80 : decode cX9_init 80 = .ok (.invokespecial 49, 3) := by decide +kernel
theorem dX9_init_83 : decode cX9_init 83 = .ok (.putfield 50, 3) := by decide +kernel
theorem dX9_init_86 : decode cX9_init 86 = .ok (.return_, 1) := by decide +kernel
theorem dX9_addInvestor_0 : decode cX9_addInvestor 0 = .ok (.iload_n 1, 1) := by decide +kernel
theorem dX9_addInvestor_1 : decode cX9_addInvestor 1 = .ok (.ifCond .ge 6, 3) := by decide +kernel
theorem dX9_addInvestor_4 : decode cX9_addInvestor 4 = .ok (.bipush (-2), 2) := by decide +kernel
theorem dX9_addInvestor_6 : decode cX9_addInvestor 6 = .ok (.ireturn, 1) := by decide +kernel
theorem dX9_addInvestor_7 : decode cX9_addInvestor 7 = .ok (.aload_n 0, 1) := by decide +kernel
theorem dX9_addInvestor_8 : decode cX9_addInvestor 8 = .ok (.getfield 10, 3) := by decide +kernel
theorem dX9_addInvestor_11 : decode cX9_addInvestor 11 = .ok (.getfield 54, 3) := by decide +kernel
theorem dX9_addInvestor_14 : decode cX9_addInvestor 14 = .ok (.bipush 8, 2) := by decide +kernel
theorem dX9_addInvestor_16 : decode cX9_addInvestor 16 = .ok (.if_icmp .lt 6, 3) := by decide +kernel
theorem dX9_addInvestor_19 : decode cX9_addInvestor 19 = .ok (.bipush (-3), 2) := by decide +kernel
theorem dX9_addInvestor_21 : decode cX9_addInvestor 21 = .ok (.ireturn, 1) := by decide +kernel
theorem dX9_addInvestor_22 : decode cX9_addInvestor 22 = .ok (.aload_n 0, 1) := by decide +kernel
theorem dX9_addInvestor_23 : decode cX9_addInvestor 23 = .ok (.getfield 29, 3) := by decide +kernel
theorem dX9_addInvestor_26 : decode cX9_addInvestor 26 = .ok (.aload_n 0, 1) := by decide +kernel
theorem dX9_addInvestor_27 : decode cX9_addInvestor 27 = .ok (.getfield 10, 3) := by decide +kernel
theorem dX9_addInvestor_30 : decode cX9_addInvestor 30 = .ok (.invokevirtual 58, 3) := by decide +kernel
theorem dX9_addInvestor_33 : decode cX9_addInvestor 33 = .ok (.aload_n 0, 1) := by decide +kernel
theorem dX9_addInvestor_34 : decode cX9_addInvestor 34 = .ok (.getfield 10, 3) := by decide +kernel
theorem dX9_addInvestor_37 : decode cX9_addInvestor 37 = .ok (.getfield 54, 3) := by decide +kernel
theorem dX9_addInvestor_40 : decode cX9_addInvestor 40 = .ok (.istore_n 2, 1) := by decide +kernel
theorem dX9_addInvestor_41 : decode cX9_addInvestor 41 = .ok (.aload_n 0, 1) := by decide +kernel
theorem dX9_addInvestor_42 : decode cX9_addInvestor 42 = .ok (.getfield 10, 3) := by decide +kernel
theorem dX9_addInvestor_45 : decode cX9_addInvestor 45 = .ok (.getfield 62, 3) := by decide +kernel
theorem dX9_addInvestor_48 : decode cX9_addInvestor 48 = .ok (.iload_n 2, 1) := by decide +kernel
theorem dX9_addInvestor_49 : decode cX9_addInvestor 49 = .ok (.aaload, 1) := by decide +kernel
theorem dX9_addInvestor_50 : decode cX9_addInvestor 50 = .ok (.iload_n 1, 1) := by decide +kernel
theorem dX9_addInvestor_51 : decode cX9_addInvestor 51 = .ok (.invokevirtual 66, 3) := by decide +kernel
theorem dX9_addInvestor_54 : decode cX9_addInvestor 54 = .ok (.aload_n 0, 1) := by decide +kernel
theorem dX9_addInvestor_55 : decode cX9_addInvestor 55 = .ok (.getfield 10, 3) := by decide +kernel
theorem dX9_addInvestor_58 : decode cX9_addInvestor 58 = .ok (.dup, 1) := by decide +kernel
theorem dX9_addInvestor_59 : decode cX9_addInvestor 59 = .ok (.getfield 54, 3) := by decide +kernel
theorem dX9_addInvestor_62 : decode cX9_addInvestor 62 = .ok (.iconst 1, 1) := by decide +kernel
theorem dX9_addInvestor_63 : decode cX9_addInvestor 63 = .ok (.iadd, 1) := by decide +kernel
theorem dX9_addInvestor_64 : decode cX9_addInvestor 64 = .ok (.putfield 54, 3) := by decide +kernel
theorem dX9_addInvestor_67 : decode cX9_addInvestor 67 = .ok (.iload_n 2, 1) := by decide +kernel
theorem dX9_addInvestor_68 : decode cX9_addInvestor 68 = .ok (.ireturn, 1) := by decide +kernel
theorem dX9_deposit_0 : decode cX9_deposit 0 = .ok (.aload_n 0, 1) := by decide +kernel
theorem dX9_deposit_1 : decode cX9_deposit 1 = .ok (.getfield 10, 3) := by decide +kernel
theorem dX9_deposit_4 : decode cX9_deposit 4 = .ok (.iload_n 1, 1) := by decide +kernel
theorem dX9_deposit_5 : decode cX9_deposit 5 = .ok (.invokevirtual 72, 3) := by decide +kernel
theorem dX9_deposit_8 : decode cX9_deposit 8 = .ok (.ifCond .ne 5, 3) := by decide +kernel
theorem dX9_deposit_11 : decode cX9_deposit 11 = .ok (.iconst (-1), 1) := by decide +kernel
theorem dX9_deposit_12 : decode cX9_deposit 12 = .ok (.ireturn, 1) := by decide +kernel
theorem dX9_deposit_13 : decode cX9_deposit 13 = .ok (.iload_n 2, 1) := by decide +kernel
theorem dX9_deposit_14 : decode cX9_deposit 14 = .ok (.iconst 1, 1) := by decide +kernel
theorem dX9_deposit_15 : decode cX9_deposit 15 = .ok (.if_icmp .ge 6, 3) := by decide +kernel
theorem dX9_deposit_18 : decode cX9_deposit 18 = .ok (.bipush (-2), 2) := by decide +kernel
theorem dX9_deposit_20 : decode cX9_deposit 20 = .ok (.ireturn, 1) := by decide +kernel
theorem dX9_deposit_21 : decode cX9_deposit 21 = .ok (.iload_n 2, 1) := by decide +kernel
theorem dX9_deposit_22 : decode cX9_deposit 22 = .ok (.ldc 76, 2) := by decide +kernel
theorem dX9_deposit_24 : decode cX9_deposit 24 = .ok (.aload_n 0, 1) := by decide +kernel
theorem dX9_deposit_25 : decode cX9_deposit 25 = .ok (.getfield 10, 3) := by decide +kernel
theorem dX9_deposit_28 : decode cX9_deposit 28 = .ok (.getfield 62, 3) := by decide +kernel
theorem dX9_deposit_31 : decode cX9_deposit 31 = .ok (.iload_n 1, 1) := by decide +kernel
theorem dX9_deposit_32 : decode cX9_deposit 32 = .ok (.aaload, 1) := by decide +kernel
theorem dX9_deposit_33 : decode cX9_deposit 33 = .ok (.getfield 77, 3) := by decide +kernel
theorem dX9_deposit_36 : decode cX9_deposit 36 = .ok (.isub, 1) := by decide +kernel
theorem dX9_deposit_37 : decode cX9_deposit 37 = .ok (.if_icmp .le 6, 3) := by decide +kernel
theorem dX9_deposit_40 : decode cX9_deposit 40 = .ok (.bipush (-3), 2) := by decide +kernel
theorem dX9_deposit_42 : decode cX9_deposit 42 = .ok (.ireturn, 1) := by decide +kernel
theorem dX9_deposit_43 : decode cX9_deposit 43 = .ok (.aload_n 0, 1) := by decide +kernel
theorem dX9_deposit_44 : decode cX9_deposit 44 = .ok (.getfield 29, 3) := by decide +kernel
theorem dX9_deposit_47 : decode cX9_deposit 47 = .ok (.aload_n 0, 1) := by decide +kernel
theorem dX9_deposit_48 : decode cX9_deposit 48 = .ok (.getfield 10, 3) := by decide +kernel
theorem dX9_deposit_51 : decode cX9_deposit 51 = .ok (.invokevirtual 58, 3) := by decide +kernel
theorem dX9_deposit_54 : decode cX9_deposit 54 = .ok (.aload_n 0, 1) := by decide +kernel
theorem dX9_deposit_55 : decode cX9_deposit 55 = .ok (.getfield 10, 3) := by decide +kernel
theorem dX9_deposit_58 : decode cX9_deposit 58 = .ok (.getfield 62, 3) := by decide +kernel
theorem dX9_deposit_61 : decode cX9_deposit 61 = .ok (.iload_n 1, 1) := by decide +kernel
theorem dX9_deposit_62 : decode cX9_deposit 62 = .ok (.aaload, 1) := by decide +kernel
theorem dX9_deposit_63 : decode cX9_deposit 63 = .ok (.dup, 1) := by decide +kernel
theorem dX9_deposit_64 : decode cX9_deposit 64 = .ok (.getfield 77, 3) := by decide +kernel
theorem dX9_deposit_67 : decode cX9_deposit 67 = .ok (.iload_n 2, 1) := by decide +kernel
theorem dX9_deposit_68 : decode cX9_deposit 68 = .ok (.iadd, 1) := by decide +kernel
theorem dX9_deposit_69 : decode cX9_deposit 69 = .ok (.putfield 77, 3) := by decide +kernel
theorem dX9_deposit_72 : decode cX9_deposit 72 = .ok (.aload_n 0, 1) := by decide +kernel
theorem dX9_deposit_73 : decode cX9_deposit 73 = .ok (.getfield 10, 3) := by decide +kernel
theorem dX9_deposit_76 : decode cX9_deposit 76 = .ok (.getfield 62, 3) := by decide +kernel
theorem dX9_deposit_79 : decode cX9_deposit 79 = .ok (.iload_n 1, 1) := by decide +kernel
theorem dX9_deposit_80 : decode cX9_deposit 80 = .ok (.aaload, 1) := by decide +kernel
theorem dX9_deposit_81 : decode cX9_deposit 81 = .ok (.getfield 77, 3) := by decide +kernel
theorem dX9_deposit_84 : decode cX9_deposit 84 = .ok (.ireturn, 1) := by decide +kernel
theorem dX9_setPoolShare_0 : decode cX9_setPoolShare 0 = .ok (.iload_n 1, 1) := by decide +kernel
theorem dX9_setPoolShare_1 : decode cX9_setPoolShare 1 = .ok (.ifCond .lt 9, 3) := by decide +kernel
theorem dX9_setPoolShare_4 : decode cX9_setPoolShare 4 = .ok (.iload_n 1, 1) := by decide +kernel
theorem dX9_setPoolShare_5 : decode cX9_setPoolShare 5 = .ok (.bipush 50, 2) := by decide +kernel
theorem dX9_setPoolShare_7 : decode cX9_setPoolShare 7 = .ok (.if_icmp .le 6, 3) := by decide +kernel
theorem dX9_setPoolShare_10 : decode cX9_setPoolShare 10 = .ok (.bipush (-2), 2) := by decide +kernel
theorem dX9_setPoolShare_12 : decode cX9_setPoolShare 12 = .ok (.ireturn, 1) := by decide +kernel
theorem dX9_setPoolShare_13 : decode cX9_setPoolShare 13 = .ok (.iload_n 1, 1) := by decide +kernel
theorem dX9_setPoolShare_14 : decode cX9_setPoolShare 14 = .ok (.aload_n 0, 1) := by decide +kernel
theorem dX9_setPoolShare_15 : decode cX9_setPoolShare 15 = .ok (.getfield 10, 3) := by decide +kernel
theorem dX9_setPoolShare_18 : decode cX9_setPoolShare 18 = .ok (.getfield 80, 3) := by decide +kernel
theorem dX9_setPoolShare_21 : decode cX9_setPoolShare 21 = .ok (.if_icmp .ne 6, 3) := by decide +kernel
theorem dX9_setPoolShare_24 : decode cX9_setPoolShare 24 = .ok (.bipush (-5), 2) := by decide +kernel
theorem dX9_setPoolShare_26 : decode cX9_setPoolShare 26 = .ok (.ireturn, 1) := by decide +kernel
theorem dX9_setPoolShare_27 : decode cX9_setPoolShare 27 = .ok (.aload_n 0, 1) := by decide +kernel
theorem dX9_setPoolShare_28 : decode cX9_setPoolShare 28 = .ok (.getfield 29, 3) := by decide +kernel
theorem dX9_setPoolShare_31 : decode cX9_setPoolShare 31 = .ok (.aload_n 0, 1) := by decide +kernel
theorem dX9_setPoolShare_32 : decode cX9_setPoolShare 32 = .ok (.getfield 10, 3) := by decide +kernel
theorem dX9_setPoolShare_35 : decode cX9_setPoolShare 35 = .ok (.invokevirtual 58, 3) := by decide +kernel
theorem dX9_setPoolShare_38 : decode cX9_setPoolShare 38 = .ok (.aload_n 0, 1) := by decide +kernel
theorem dX9_setPoolShare_39 : decode cX9_setPoolShare 39 = .ok (.getfield 10, 3) := by decide +kernel
theorem dX9_setPoolShare_42 : decode cX9_setPoolShare 42 = .ok (.getfield 80, 3) := by decide +kernel
theorem dX9_setPoolShare_45 : decode cX9_setPoolShare 45 = .ok (.istore_n 2, 1) := by decide +kernel
theorem dX9_setPoolShare_46 : decode cX9_setPoolShare 46 = .ok (.aload_n 0, 1) := by decide +kernel
theorem dX9_setPoolShare_47 : decode cX9_setPoolShare 47 = .ok (.getfield 10, 3) := by decide +kernel
theorem dX9_setPoolShare_50 : decode cX9_setPoolShare 50 = .ok (.iload_n 1, 1) := by decide +kernel
theorem dX9_setPoolShare_51 : decode cX9_setPoolShare 51 = .ok (.putfield 80, 3) := by decide +kernel
theorem dX9_setPoolShare_54 : decode cX9_setPoolShare 54 = .ok (.iload_n 2, 1) := by decide +kernel
theorem dX9_setPoolShare_55 : decode cX9_setPoolShare 55 = .ok (.ireturn, 1) := by decide +kernel
theorem dX9_openLoan_0 : decode cX9_openLoan 0 = .ok (.iload_n 1, 1) := by decide +kernel
theorem dX9_openLoan_1 : decode cX9_openLoan 1 = .ok (.bipush 100, 2) := by decide +kernel
theorem dX9_openLoan_3 : decode cX9_openLoan 3 = .ok (.if_icmp .lt 26, 3) := by decide +kernel
theorem dX9_openLoan_6 : decode cX9_openLoan 6 = .ok (.iload_n 1, 1) := by decide +kernel
theorem dX9_openLoan_7 : decode cX9_openLoan 7 = .ok (.ldc 83, 2) := by decide +kernel
theorem dX9_openLoan_9 : decode cX9_openLoan 9 = .ok (.if_icmp .gt 20, 3) := by decide +kernel
theorem dX9_openLoan_12 : decode cX9_openLoan 12 = .ok (.iload_n 2, 1) := by decide +kernel
theorem dX9_openLoan_13 : decode cX9_openLoan 13 = .ok (.ifCond .lt 16, 3) := by decide +kernel
theorem dX9_openLoan_16 : decode cX9_openLoan 16 = .ok (.iload_n 2, 1) := by decide +kernel
theorem dX9_openLoan_17 : decode cX9_openLoan 17 = .ok (.bipush 50, 2) := by decide +kernel
theorem dX9_openLoan_19 : decode cX9_openLoan 19 = .ok (.if_icmp .gt 10, 3) := by decide +kernel
theorem dX9_openLoan_22 : decode cX9_openLoan 22 = .ok (.iload_n 3, 1) := by decide +kernel
theorem dX9_openLoan_23 : decode cX9_openLoan 23 = .ok (.invokestatic 84, 3) := by decide +kernel
theorem dX9_openLoan_26 : decode cX9_openLoan 26 = .ok (.ifCond .ne 6, 3) := by decide +kernel
theorem dX9_openLoan_29 : decode cX9_openLoan 29 = .ok (.bipush (-2), 2) := by decide +kernel
theorem dX9_openLoan_31 : decode cX9_openLoan 31 = .ok (.ireturn, 1) := by decide +kernel
theorem dX9_openLoan_32 : decode cX9_openLoan 32 = .ok (.aload_n 0, 1) := by decide +kernel
theorem dX9_openLoan_33 : decode cX9_openLoan 33 = .ok (.getfield 10, 3) := by decide +kernel
theorem dX9_openLoan_36 : decode cX9_openLoan 36 = .ok (.getfield 87, 3) := by decide +kernel
theorem dX9_openLoan_39 : decode cX9_openLoan 39 = .ok (.bipush 10, 2) := by decide +kernel
theorem dX9_openLoan_41 : decode cX9_openLoan 41 = .ok (.if_icmp .lt 6, 3) := by decide +kernel
theorem dX9_openLoan_44 : decode cX9_openLoan 44 = .ok (.bipush (-3), 2) := by decide +kernel
theorem dX9_openLoan_46 : decode cX9_openLoan 46 = .ok (.ireturn, 1) := by decide +kernel
theorem dX9_openLoan_47 : decode cX9_openLoan 47 = .ok (.aload_n 0, 1) := by decide +kernel
theorem dX9_openLoan_48 : decode cX9_openLoan 48 = .ok (.getfield 29, 3) := by decide +kernel
theorem dX9_openLoan_51 : decode cX9_openLoan 51 = .ok (.aload_n 0, 1) := by decide +kernel
theorem dX9_openLoan_52 : decode cX9_openLoan 52 = .ok (.getfield 10, 3) := by decide +kernel
theorem dX9_openLoan_55 : decode cX9_openLoan 55 = .ok (.invokevirtual 58, 3) := by decide +kernel
theorem dX9_openLoan_58 : decode cX9_openLoan 58 = .ok (.aload_n 0, 1) := by decide +kernel
theorem dX9_openLoan_59 : decode cX9_openLoan 59 = .ok (.getfield 10, 3) := by decide +kernel
theorem dX9_openLoan_62 : decode cX9_openLoan 62 = .ok (.getfield 87, 3) := by decide +kernel
theorem dX9_openLoan_65 : decode cX9_openLoan 65 = .ok (.istore 4, 2) := by decide +kernel
theorem dX9_openLoan_67 : decode cX9_openLoan 67 = .ok (.aload_n 0, 1) := by decide +kernel
theorem dX9_openLoan_68 : decode cX9_openLoan 68 = .ok (.getfield 10, 3) := by decide +kernel
theorem dX9_openLoan_71 : decode cX9_openLoan 71 = .ok (.getfield 90, 3) := by decide +kernel
theorem dX9_openLoan_74 : decode cX9_openLoan 74 = .ok (.iload 4, 2) := by decide +kernel
theorem dX9_openLoan_76 : decode cX9_openLoan 76 = .ok (.aaload, 1) := by decide +kernel
theorem dX9_openLoan_77 : decode cX9_openLoan 77 = .ok (.iload_n 1, 1) := by decide +kernel
theorem dX9_openLoan_78 : decode cX9_openLoan 78 = .ok (.iload_n 2, 1) := by decide +kernel
theorem dX9_openLoan_79 : decode cX9_openLoan 79 = .ok (.iload_n 3, 1) := by decide +kernel
theorem dX9_openLoan_80 : decode cX9_openLoan 80 = .ok (.invokevirtual 94, 3) := by decide +kernel
theorem dX9_openLoan_83 : decode cX9_openLoan 83 = .ok (.aload_n 0, 1) := by decide +kernel
theorem dX9_openLoan_84 : decode cX9_openLoan 84 = .ok (.getfield 10, 3) := by decide +kernel
theorem dX9_openLoan_87 : decode cX9_openLoan 87 = .ok (.dup, 1) := by decide +kernel
theorem dX9_openLoan_88 : decode cX9_openLoan 88 = .ok (.getfield 87, 3) := by decide +kernel
theorem dX9_openLoan_91 : decode cX9_openLoan 91 = .ok (.iconst 1, 1) := by decide +kernel
theorem dX9_openLoan_92 : decode cX9_openLoan 92 = .ok (.iadd, 1) := by decide +kernel
theorem dX9_openLoan_93 : decode cX9_openLoan 93 = .ok (.putfield 87, 3) := by decide +kernel
theorem dX9_openLoan_96 : decode cX9_openLoan 96 = .ok (.iload 4, 2) := by decide +kernel
theorem dX9_openLoan_98 : decode cX9_openLoan 98 = .ok (.ireturn, 1) := by decide +kernel
theorem dX9_fund_0 : decode cX9_fund 0 = .ok (.aload_n 0, 1) := by decide +kernel
theorem dX9_fund_1 : decode cX9_fund 1 = .ok (.getfield 10, 3) := by decide +kernel
theorem dX9_fund_4 : decode cX9_fund 4 = .ok (.iload_n 1, 1) := by decide +kernel
theorem dX9_fund_5 : decode cX9_fund 5 = .ok (.iload_n 2, 1) := by decide +kernel
theorem dX9_fund_6 : decode cX9_fund 6 = .ok (.iload 4, 2) := by decide +kernel
theorem dX9_fund_8 : decode cX9_fund 8 = .ok (.invokevirtual 99, 3) := by decide +kernel
theorem dX9_fund_11 : decode cX9_fund 11 = .ok (.istore 5, 2) := by decide +kernel
theorem dX9_fund_13 : decode cX9_fund 13 = .ok (.iload 5, 2) := by decide +kernel
theorem dX9_fund_15 : decode cX9_fund 15 = .ok (.ifCond .eq 6, 3) := by decide +kernel
theorem dX9_fund_18 : decode cX9_fund 18 = .ok (.iload 5, 2) := by decide +kernel
theorem dX9_fund_20 : decode cX9_fund 20 = .ok (.ireturn, 1) := by decide +kernel
theorem dX9_fund_21 : decode cX9_fund 21 = .ok (.aload_n 0, 1) := by decide +kernel
theorem dX9_fund_22 : decode cX9_fund 22 = .ok (.getfield 29, 3) := by decide +kernel
theorem dX9_fund_25 : decode cX9_fund 25 = .ok (.aload_n 0, 1) := by decide +kernel
theorem dX9_fund_26 : decode cX9_fund 26 = .ok (.getfield 10, 3) := by decide +kernel
theorem dX9_fund_29 : decode cX9_fund 29 = .ok (.invokevirtual 58, 3) := by decide +kernel
theorem dX9_fund_32 : decode cX9_fund 32 = .ok (.aload_n 0, 1) := by decide +kernel
theorem dX9_fund_33 : decode cX9_fund 33 = .ok (.getfield 10, 3) := by decide +kernel
theorem dX9_fund_36 : decode cX9_fund 36 = .ok (.iload_n 1, 1) := by decide +kernel
theorem dX9_fund_37 : decode cX9_fund 37 = .ok (.iload_n 2, 1) := by decide +kernel
theorem dX9_fund_38 : decode cX9_fund 38 = .ok (.iload_n 3, 1) := by decide +kernel
theorem dX9_fund_39 : decode cX9_fund 39 = .ok (.ifCond .eq 7, 3) := by decide +kernel
theorem dX9_fund_42 : decode cX9_fund 42 = .ok (.iconst 1, 1) := by decide +kernel
theorem dX9_fund_43 : decode cX9_fund 43 = .ok (.goto 4, 3) := by decide +kernel
theorem dX9_fund_46 : decode cX9_fund 46 = .ok (.iconst 0, 1) := by decide +kernel
theorem dX9_fund_47 : decode cX9_fund 47 = .ok (.iload 4, 2) := by decide +kernel
theorem dX9_fund_49 : decode cX9_fund 49 = .ok (.invokevirtual 103, 3) := by decide +kernel
theorem dX9_fund_52 : decode cX9_fund 52 = .ok (.aload_n 0, 1) := by decide +kernel
theorem dX9_fund_53 : decode cX9_fund 53 = .ok (.getfield 10, 3) := by decide +kernel
theorem dX9_fund_56 : decode cX9_fund 56 = .ok (.iload_n 2, 1) := by decide +kernel
theorem dX9_fund_57 : decode cX9_fund 57 = .ok (.invokevirtual 107, 3) := by decide +kernel
theorem dX9_fund_60 : decode cX9_fund 60 = .ok (.ireturn, 1) := by decide +kernel
theorem dX9_giveUp_0 : decode cX9_giveUp 0 = .ok (.aload_n 0, 1) := by decide +kernel
theorem dX9_giveUp_1 : decode cX9_giveUp 1 = .ok (.getfield 10, 3) := by decide +kernel
theorem dX9_giveUp_4 : decode cX9_giveUp 4 = .ok (.iload_n 1, 1) := by decide +kernel
theorem dX9_giveUp_5 : decode cX9_giveUp 5 = .ok (.invokevirtual 111, 3) := by decide +kernel
theorem dX9_giveUp_8 : decode cX9_giveUp 8 = .ok (.ifCond .ne 5, 3) := by decide +kernel
theorem dX9_giveUp_11 : decode cX9_giveUp 11 = .ok (.iconst (-1), 1) := by decide +kernel
theorem dX9_giveUp_12 : decode cX9_giveUp 12 = .ok (.ireturn, 1) := by decide +kernel
theorem dX9_giveUp_13 : decode cX9_giveUp 13 = .ok (.aload_n 0, 1) := by decide +kernel
theorem dX9_giveUp_14 : decode cX9_giveUp 14 = .ok (.getfield 10, 3) := by decide +kernel
theorem dX9_giveUp_17 : decode cX9_giveUp 17 = .ok (.getfield 90, 3) := by decide +kernel
theorem dX9_giveUp_20 : decode cX9_giveUp 20 = .ok (.iload_n 1, 1) := by decide +kernel
theorem dX9_giveUp_21 : decode cX9_giveUp 21 = .ok (.aaload, 1) := by decide +kernel
theorem dX9_giveUp_22 : decode cX9_giveUp 22 = .ok (.getfield 114, 3) := by decide +kernel
theorem dX9_giveUp_25 : decode cX9_giveUp 25 = .ok (.ifCond .eq 6, 3) := by decide +kernel
theorem dX9_giveUp_28 : decode cX9_giveUp 28 = .ok (.bipush (-4), 2) := by decide +kernel
theorem dX9_giveUp_30 : decode cX9_giveUp 30 = .ok (.ireturn, 1) := by decide +kernel
theorem dX9_giveUp_31 : decode cX9_giveUp 31 = .ok (.aload_n 0, 1) := by decide +kernel
theorem dX9_giveUp_32 : decode cX9_giveUp 32 = .ok (.getfield 10, 3) := by decide +kernel
theorem dX9_giveUp_35 : decode cX9_giveUp 35 = .ok (.iload_n 1, 1) := by decide +kernel
theorem dX9_giveUp_36 : decode cX9_giveUp 36 = .ok (.iconst 0, 1) := by decide +kernel
theorem dX9_giveUp_37 : decode cX9_giveUp 37 = .ok (.invokevirtual 117, 3) := by decide +kernel
theorem dX9_giveUp_40 : decode cX9_giveUp 40 = .ok (.aload_n 0, 1) := by decide +kernel
theorem dX9_giveUp_41 : decode cX9_giveUp 41 = .ok (.getfield 10, 3) := by decide +kernel
theorem dX9_giveUp_44 : decode cX9_giveUp 44 = .ok (.iload_n 1, 1) := by decide +kernel
theorem dX9_giveUp_45 : decode cX9_giveUp 45 = .ok (.iconst 1, 1) := by decide +kernel
theorem dX9_giveUp_46 : decode cX9_giveUp 46 = .ok (.invokevirtual 117, 3) := by decide +kernel
theorem dX9_giveUp_49 : decode cX9_giveUp 49 = .ok (.iadd, 1) := by decide +kernel
theorem dX9_giveUp_50 : decode cX9_giveUp 50 = .ok (.istore_n 2, 1) := by decide +kernel
theorem dX9_giveUp_51 : decode cX9_giveUp 51 = .ok (.aload_n 0, 1) := by decide +kernel
theorem dX9_giveUp_52 : decode cX9_giveUp 52 = .ok (.getfield 50, 3) := by decide +kernel
theorem dX9_giveUp_55 : decode cX9_giveUp 55 = .ok (.aload_n 0, 1) := by decide +kernel
theorem dX9_giveUp_56 : decode cX9_giveUp 56 = .ok (.getfield 10, 3) := by decide +kernel
theorem dX9_giveUp_59 : decode cX9_giveUp 59 = .ok (.iload_n 1, 1) := by decide +kernel
theorem dX9_giveUp_60 : decode cX9_giveUp 60 = .ok (.invokevirtual 121, 3) := by decide +kernel
theorem dX9_giveUp_63 : decode cX9_giveUp 63 = .ok (.aload_n 0, 1) := by decide +kernel
theorem dX9_giveUp_64 : decode cX9_giveUp 64 = .ok (.getfield 50, 3) := by decide +kernel
theorem dX9_giveUp_67 : decode cX9_giveUp 67 = .ok (.aload_n 0, 1) := by decide +kernel
theorem dX9_giveUp_68 : decode cX9_giveUp 68 = .ok (.getfield 10, 3) := by decide +kernel
theorem dX9_giveUp_71 : decode cX9_giveUp 71 = .ok (.invokevirtual 125, 3) := by decide +kernel
theorem dX9_giveUp_74 : decode cX9_giveUp 74 = .ok (.ifCond .ne 6, 3) := by decide +kernel
theorem dX9_giveUp_77 : decode cX9_giveUp 77 = .ok (.bipush (-3), 2) := by decide +kernel
theorem dX9_giveUp_79 : decode cX9_giveUp 79 = .ok (.ireturn, 1) := by decide +kernel
theorem dX9_giveUp_80 : decode cX9_giveUp 80 = .ok (.aload_n 0, 1) := by decide +kernel
theorem dX9_giveUp_81 : decode cX9_giveUp 81 = .ok (.getfield 29, 3) := by decide +kernel
theorem dX9_giveUp_84 : decode cX9_giveUp 84 = .ok (.aload_n 0, 1) := by decide +kernel
theorem dX9_giveUp_85 : decode cX9_giveUp 85 = .ok (.getfield 10, 3) := by decide +kernel
theorem dX9_giveUp_88 : decode cX9_giveUp 88 = .ok (.invokevirtual 58, 3) := by decide +kernel
theorem dX9_giveUp_91 : decode cX9_giveUp 91 = .ok (.aload_n 0, 1) := by decide +kernel
theorem dX9_giveUp_92 : decode cX9_giveUp 92 = .ok (.getfield 50, 3) := by decide +kernel
theorem dX9_giveUp_95 : decode cX9_giveUp 95 = .ok (.aload_n 0, 1) := by decide +kernel
theorem dX9_giveUp_96 : decode cX9_giveUp 96 = .ok (.getfield 10, 3) := by decide +kernel
theorem dX9_giveUp_99 : decode cX9_giveUp 99 = .ok (.invokevirtual 129, 3) := by decide +kernel
theorem dX9_giveUp_102 : decode cX9_giveUp 102 = .ok (.aload_n 0, 1) := by decide +kernel
theorem dX9_giveUp_103 : decode cX9_giveUp 103 = .ok (.getfield 10, 3) := by decide +kernel
theorem dX9_giveUp_106 : decode cX9_giveUp 106 = .ok (.getfield 90, 3) := by decide +kernel
theorem dX9_giveUp_109 : decode cX9_giveUp 109 = .ok (.iload_n 1, 1) := by decide +kernel
theorem dX9_giveUp_110 : decode cX9_giveUp 110 = .ok (.aaload, 1) := by decide +kernel
theorem dX9_giveUp_111 : decode cX9_giveUp 111 = .ok (.iconst 4, 1) := by decide +kernel
theorem dX9_giveUp_112 : decode cX9_giveUp 112 = .ok (.invokevirtual 132, 3) := by decide +kernel
theorem dX9_giveUp_115 : decode cX9_giveUp 115 = .ok (.iload_n 2, 1) := by decide +kernel
theorem dX9_giveUp_116 : decode cX9_giveUp 116 = .ok (.ireturn, 1) := by decide +kernel
theorem dX9_pay_0 : decode cX9_pay 0 = .ok (.aload_n 0, 1) := by decide +kernel
theorem dX9_pay_1 : decode cX9_pay 1 = .ok (.getfield 10, 3) := by decide +kernel
theorem dX9_pay_4 : decode cX9_pay 4 = .ok (.iload_n 1, 1) := by decide +kernel
theorem dX9_pay_5 : decode cX9_pay 5 = .ok (.invokevirtual 111, 3) := by decide +kernel
theorem dX9_pay_8 : decode cX9_pay 8 = .ok (.ifCond .ne 5, 3) := by decide +kernel
theorem dX9_pay_11 : decode cX9_pay 11 = .ok (.iconst (-1), 1) := by decide +kernel
theorem dX9_pay_12 : decode cX9_pay 12 = .ok (.ireturn, 1) := by decide +kernel
theorem dX9_pay_13 : decode cX9_pay 13 = .ok (.iload_n 2, 1) := by decide +kernel
theorem dX9_pay_14 : decode cX9_pay 14 = .ok (.invokestatic 135, 3) := by decide +kernel
theorem dX9_pay_17 : decode cX9_pay 17 = .ok (.ifCond .ne 6, 3) := by decide +kernel
theorem dX9_pay_20 : decode cX9_pay 20 = .ok (.bipush (-2), 2) := by decide +kernel
theorem dX9_pay_22 : decode cX9_pay 22 = .ok (.ireturn, 1) := by decide +kernel
theorem dX9_pay_23 : decode cX9_pay 23 = .ok (.aload_n 0, 1) := by decide +kernel
theorem dX9_pay_24 : decode cX9_pay 24 = .ok (.getfield 43, 3) := by decide +kernel
theorem dX9_pay_27 : decode cX9_pay 27 = .ok (.aload_n 0, 1) := by decide +kernel
theorem dX9_pay_28 : decode cX9_pay 28 = .ok (.getfield 10, 3) := by decide +kernel
theorem dX9_pay_31 : decode cX9_pay 31 = .ok (.iload_n 1, 1) := by decide +kernel
theorem dX9_pay_32 : decode cX9_pay 32 = .ok (.iload_n 2, 1) := by decide +kernel
theorem dX9_pay_33 : decode cX9_pay 33 = .ok (.invokevirtual 138, 3) := by decide +kernel
theorem dX9_pay_36 : decode cX9_pay 36 = .ok (.ifCond .ne 6, 3) := by decide +kernel
theorem dX9_pay_39 : decode cX9_pay 39 = .ok (.bipush (-4), 2) := by decide +kernel
theorem dX9_pay_41 : decode cX9_pay 41 = .ok (.ireturn, 1) := by decide +kernel
theorem dX9_pay_42 : decode cX9_pay 42 = .ok (.aload_n 0, 1) := by decide +kernel
theorem dX9_pay_43 : decode cX9_pay 43 = .ok (.getfield 50, 3) := by decide +kernel
theorem dX9_pay_46 : decode cX9_pay 46 = .ok (.aload_n 0, 1) := by decide +kernel
theorem dX9_pay_47 : decode cX9_pay 47 = .ok (.getfield 10, 3) := by decide +kernel
theorem dX9_pay_50 : decode cX9_pay 50 = .ok (.iload_n 1, 1) := by decide +kernel
theorem dX9_pay_51 : decode cX9_pay 51 = .ok (.aload_n 0, 1) := by decide +kernel
theorem dX9_pay_52 : decode cX9_pay 52 = .ok (.getfield 43, 3) := by decide +kernel
theorem dX9_pay_55 : decode cX9_pay 55 = .ok (.invokevirtual 142, 3) := by decide +kernel
theorem dX9_pay_58 : decode cX9_pay 58 = .ok (.aload_n 0, 1) := by decide +kernel
theorem dX9_pay_59 : decode cX9_pay 59 = .ok (.getfield 50, 3) := by decide +kernel
theorem dX9_pay_62 : decode cX9_pay 62 = .ok (.aload_n 0, 1) := by decide +kernel
theorem dX9_pay_63 : decode cX9_pay 63 = .ok (.getfield 10, 3) := by decide +kernel
theorem dX9_pay_66 : decode cX9_pay 66 = .ok (.invokevirtual 125, 3) := by decide +kernel
theorem dX9_pay_69 : decode cX9_pay 69 = .ok (.ifCond .ne 6, 3) := by decide +kernel
theorem dX9_pay_72 : decode cX9_pay 72 = .ok (.bipush (-3), 2) := by decide +kernel
theorem dX9_pay_74 : decode cX9_pay 74 = .ok (.ireturn, 1) := by decide +kernel
theorem dX9_pay_75 : decode cX9_pay 75 = .ok (.aload_n 0, 1) := by decide +kernel
theorem dX9_pay_76 : decode cX9_pay 76 = .ok (.getfield 29, 3) := by decide +kernel
theorem dX9_pay_79 : decode cX9_pay 79 = .ok (.aload_n 0, 1) := by decide +kernel
theorem dX9_pay_80 : decode cX9_pay 80 = .ok (.getfield 10, 3) := by decide +kernel
theorem dX9_pay_83 : decode cX9_pay 83 = .ok (.invokevirtual 58, 3) := by decide +kernel
theorem dX9_pay_86 : decode cX9_pay 86 = .ok (.aload_n 0, 1) := by decide +kernel
theorem dX9_pay_87 : decode cX9_pay 87 = .ok (.getfield 50, 3) := by decide +kernel
theorem dX9_pay_90 : decode cX9_pay 90 = .ok (.aload_n 0, 1) := by decide +kernel
theorem dX9_pay_91 : decode cX9_pay 91 = .ok (.getfield 10, 3) := by decide +kernel
theorem dX9_pay_94 : decode cX9_pay 94 = .ok (.invokevirtual 129, 3) := by decide +kernel
theorem dX9_pay_97 : decode cX9_pay 97 = .ok (.aload_n 0, 1) := by decide +kernel
theorem dX9_pay_98 : decode cX9_pay 98 = .ok (.getfield 10, 3) := by decide +kernel
theorem dX9_pay_101 : decode cX9_pay 101 = .ok (.iload_n 1, 1) := by decide +kernel
theorem dX9_pay_102 : decode cX9_pay 102 = .ok (.aload_n 0, 1) := by decide +kernel
theorem dX9_pay_103 : decode cX9_pay 103 = .ok (.getfield 43, 3) := by decide +kernel
theorem dX9_pay_106 : decode cX9_pay 106 = .ok (.invokevirtual 146, 3) := by decide +kernel
theorem dX9_pay_109 : decode cX9_pay 109 = .ok (.aload_n 0, 1) := by decide +kernel
theorem dX9_pay_110 : decode cX9_pay 110 = .ok (.getfield 10, 3) := by decide +kernel
theorem dX9_pay_113 : decode cX9_pay 113 = .ok (.getfield 90, 3) := by decide +kernel
theorem dX9_pay_116 : decode cX9_pay 116 = .ok (.iload_n 1, 1) := by decide +kernel
theorem dX9_pay_117 : decode cX9_pay 117 = .ok (.aaload, 1) := by decide +kernel
theorem dX9_pay_118 : decode cX9_pay 118 = .ok (.getfield 150, 3) := by decide +kernel
theorem dX9_pay_121 : decode cX9_pay 121 = .ok (.ireturn, 1) := by decide +kernel
theorem dX9_cure_0 : decode cX9_cure 0 = .ok (.aload_n 0, 1) := by decide +kernel
theorem dX9_cure_1 : decode cX9_cure 1 = .ok (.getfield 10, 3) := by decide +kernel
theorem dX9_cure_4 : decode cX9_cure 4 = .ok (.iload_n 1, 1) := by decide +kernel
theorem dX9_cure_5 : decode cX9_cure 5 = .ok (.invokevirtual 111, 3) := by decide +kernel
theorem dX9_cure_8 : decode cX9_cure 8 = .ok (.ifCond .ne 5, 3) := by decide +kernel
theorem dX9_cure_11 : decode cX9_cure 11 = .ok (.iconst (-1), 1) := by decide +kernel
theorem dX9_cure_12 : decode cX9_cure 12 = .ok (.ireturn, 1) := by decide +kernel
theorem dX9_cure_13 : decode cX9_cure 13 = .ok (.iload_n 2, 1) := by decide +kernel
theorem dX9_cure_14 : decode cX9_cure 14 = .ok (.invokestatic 84, 3) := by decide +kernel
theorem dX9_cure_17 : decode cX9_cure 17 = .ok (.ifCond .ne 6, 3) := by decide +kernel
theorem dX9_cure_20 : decode cX9_cure 20 = .ok (.bipush (-2), 2) := by decide +kernel
theorem dX9_cure_22 : decode cX9_cure 22 = .ok (.ireturn, 1) := by decide +kernel
theorem dX9_cure_23 : decode cX9_cure 23 = .ok (.aload_n 0, 1) := by decide +kernel
theorem dX9_cure_24 : decode cX9_cure 24 = .ok (.getfield 10, 3) := by decide +kernel
theorem dX9_cure_27 : decode cX9_cure 27 = .ok (.getfield 90, 3) := by decide +kernel
theorem dX9_cure_30 : decode cX9_cure 30 = .ok (.iload_n 1, 1) := by decide +kernel
theorem dX9_cure_31 : decode cX9_cure 31 = .ok (.aaload, 1) := by decide +kernel
theorem dX9_cure_32 : decode cX9_cure 32 = .ok (.astore_n 3, 1) := by decide +kernel
theorem dX9_cure_33 : decode cX9_cure 33 = .ok (.aload_n 3, 1) := by decide +kernel
theorem dX9_cure_34 : decode cX9_cure 34 = .ok (.getfield 114, 3) := by decide +kernel
theorem dX9_cure_37 : decode cX9_cure 37 = .ok (.iconst 1, 1) := by decide +kernel
theorem dX9_cure_38 : decode cX9_cure 38 = .ok (.if_icmp .ne 17, 3) := by decide +kernel
theorem dX9_cure_41 : decode cX9_cure 41 = .ok (.aload_n 3, 1) := by decide +kernel
theorem dX9_cure_42 : decode cX9_cure 42 = .ok (.getfield 153, 3) := by decide +kernel
theorem dX9_cure_45 : decode cX9_cure 45 = .ok (.ifCond .eq 10, 3) := by decide +kernel
theorem dX9_cure_48 : decode cX9_cure 48 = .ok (.aload_n 3, 1) := by decide +kernel
theorem dX9_cure_49 : decode cX9_cure 49 = .ok (.getfield 156, 3) := by decide +kernel
theorem dX9_cure_52 : decode cX9_cure 52 = .ok (.ifCond .le 6, 3) := by decide +kernel
theorem dX9_cure_55 : decode cX9_cure 55 = .ok (.bipush (-4), 2) := by decide +kernel
theorem dX9_cure_57 : decode cX9_cure 57 = .ok (.ireturn, 1) := by decide +kernel
theorem dX9_cure_58 : decode cX9_cure 58 = .ok (.aload_n 0, 1) := by decide +kernel
theorem dX9_cure_59 : decode cX9_cure 59 = .ok (.getfield 29, 3) := by decide +kernel
theorem dX9_cure_62 : decode cX9_cure 62 = .ok (.aload_n 0, 1) := by decide +kernel
theorem dX9_cure_63 : decode cX9_cure 63 = .ok (.getfield 10, 3) := by decide +kernel
theorem dX9_cure_66 : decode cX9_cure 66 = .ok (.invokevirtual 58, 3) := by decide +kernel
theorem dX9_cure_69 : decode cX9_cure 69 = .ok (.aload_n 3, 1) := by decide +kernel
theorem dX9_cure_70 : decode cX9_cure 70 = .ok (.iconst 0, 1) := by decide +kernel
theorem dX9_cure_71 : decode cX9_cure 71 = .ok (.putfield 159, 3) := by decide +kernel
theorem dX9_cure_74 : decode cX9_cure 74 = .ok (.aload_n 3, 1) := by decide +kernel
theorem dX9_cure_75 : decode cX9_cure 75 = .ok (.iconst 0, 1) := by decide +kernel
theorem dX9_cure_76 : decode cX9_cure 76 = .ok (.putfield 153, 3) := by decide +kernel
theorem dX9_cure_79 : decode cX9_cure 79 = .ok (.aload_n 3, 1) := by decide +kernel
theorem dX9_cure_80 : decode cX9_cure 80 = .ok (.aload_n 3, 1) := by decide +kernel
theorem dX9_cure_81 : decode cX9_cure 81 = .ok (.getfield 150, 3) := by decide +kernel
theorem dX9_cure_84 : decode cX9_cure 84 = .ok (.iload_n 2, 1) := by decide +kernel
theorem dX9_cure_85 : decode cX9_cure 85 = .ok (.invokestatic 162, 3) := by decide +kernel
theorem dX9_cure_88 : decode cX9_cure 88 = .ok (.putfield 165, 3) := by decide +kernel
theorem dX9_cure_91 : decode cX9_cure 91 = .ok (.aload_n 3, 1) := by decide +kernel
theorem dX9_cure_92 : decode cX9_cure 92 = .ok (.getfield 165, 3) := by decide +kernel
theorem dX9_cure_95 : decode cX9_cure 95 = .ok (.ireturn, 1) := by decide +kernel
theorem dX9_sell_0 : decode cX9_sell 0 = .ok (.aload_n 0, 1) := by decide +kernel
theorem dX9_sell_1 : decode cX9_sell 1 = .ok (.getfield 10, 3) := by decide +kernel
theorem dX9_sell_4 : decode cX9_sell 4 = .ok (.iload_n 1, 1) := by decide +kernel
theorem dX9_sell_5 : decode cX9_sell 5 = .ok (.invokevirtual 111, 3) := by decide +kernel
theorem dX9_sell_8 : decode cX9_sell 8 = .ok (.ifCond .ne 5, 3) := by decide +kernel
theorem dX9_sell_11 : decode cX9_sell 11 = .ok (.iconst (-1), 1) := by decide +kernel
theorem dX9_sell_12 : decode cX9_sell 12 = .ok (.ireturn, 1) := by decide +kernel
theorem dX9_sell_13 : decode cX9_sell 13 = .ok (.iload_n 2, 1) := by decide +kernel
theorem dX9_sell_14 : decode cX9_sell 14 = .ok (.invokestatic 168, 3) := by decide +kernel
theorem dX9_sell_17 : decode cX9_sell 17 = .ok (.ifCond .ne 6, 3) := by decide +kernel
theorem dX9_sell_20 : decode cX9_sell 20 = .ok (.bipush (-2), 2) := by decide +kernel
theorem dX9_sell_22 : decode cX9_sell 22 = .ok (.ireturn, 1) := by decide +kernel
theorem dX9_sell_23 : decode cX9_sell 23 = .ok (.aload_n 0, 1) := by decide +kernel
theorem dX9_sell_24 : decode cX9_sell 24 = .ok (.getfield 10, 3) := by decide +kernel
theorem dX9_sell_27 : decode cX9_sell 27 = .ok (.iload_n 1, 1) := by decide +kernel
theorem dX9_sell_28 : decode cX9_sell 28 = .ok (.invokevirtual 171, 3) := by decide +kernel
theorem dX9_sell_31 : decode cX9_sell 31 = .ok (.ifCond .eq 19, 3) := by decide +kernel
theorem dX9_sell_34 : decode cX9_sell 34 = .ok (.aload_n 0, 1) := by decide +kernel
theorem dX9_sell_35 : decode cX9_sell 35 = .ok (.getfield 10, 3) := by decide +kernel
theorem dX9_sell_38 : decode cX9_sell 38 = .ok (.getfield 90, 3) := by decide +kernel
theorem dX9_sell_41 : decode cX9_sell 41 = .ok (.iload_n 1, 1) := by decide +kernel
theorem dX9_sell_42 : decode cX9_sell 42 = .ok (.aaload, 1) := by decide +kernel
theorem dX9_sell_43 : decode cX9_sell 43 = .ok (.getfield 153, 3) := by decide +kernel
theorem dX9_sell_46 : decode cX9_sell 46 = .ok (.iconst 3, 1) := by decide +kernel
theorem dX9_sell_47 : decode cX9_sell 47 = .ok (.if_icmp .ge 6, 3) := by decide +kernel
theorem dX9_sell_50 : decode cX9_sell 50 = .ok (.bipush (-4), 2) := by decide +kernel
theorem dX9_sell_52 : decode cX9_sell 52 = .ok (.ireturn, 1) := by decide +kernel
theorem dX9_sell_53 : decode cX9_sell 53 = .ok (.aload_n 0, 1) := by decide +kernel
theorem dX9_sell_54 : decode cX9_sell 54 = .ok (.getfield 50, 3) := by decide +kernel
theorem dX9_sell_57 : decode cX9_sell 57 = .ok (.aload_n 0, 1) := by decide +kernel
theorem dX9_sell_58 : decode cX9_sell 58 = .ok (.getfield 10, 3) := by decide +kernel
theorem dX9_sell_61 : decode cX9_sell 61 = .ok (.iload_n 1, 1) := by decide +kernel
theorem dX9_sell_62 : decode cX9_sell 62 = .ok (.iload_n 2, 1) := by decide +kernel
theorem dX9_sell_63 : decode cX9_sell 63 = .ok (.invokevirtual 174, 3) := by decide +kernel
theorem dX9_sell_66 : decode cX9_sell 66 = .ok (.istore_n 3, 1) := by decide +kernel
theorem dX9_sell_67 : decode cX9_sell 67 = .ok (.aload_n 0, 1) := by decide +kernel
theorem dX9_sell_68 : decode cX9_sell 68 = .ok (.getfield 50, 3) := by decide +kernel
theorem dX9_sell_71 : decode cX9_sell 71 = .ok (.aload_n 0, 1) := by decide +kernel
theorem dX9_sell_72 : decode cX9_sell 72 = .ok (.getfield 10, 3) := by decide +kernel
theorem dX9_sell_75 : decode cX9_sell 75 = .ok (.invokevirtual 125, 3) := by decide +kernel
theorem dX9_sell_78 : decode cX9_sell 78 = .ok (.ifCond .ne 6, 3) := by decide +kernel
theorem dX9_sell_81 : decode cX9_sell 81 = .ok (.bipush (-3), 2) := by decide +kernel
theorem dX9_sell_83 : decode cX9_sell 83 = .ok (.ireturn, 1) := by decide +kernel
theorem dX9_sell_84 : decode cX9_sell 84 = .ok (.aload_n 0, 1) := by decide +kernel
theorem dX9_sell_85 : decode cX9_sell 85 = .ok (.getfield 29, 3) := by decide +kernel
theorem dX9_sell_88 : decode cX9_sell 88 = .ok (.aload_n 0, 1) := by decide +kernel
theorem dX9_sell_89 : decode cX9_sell 89 = .ok (.getfield 10, 3) := by decide +kernel
theorem dX9_sell_92 : decode cX9_sell 92 = .ok (.invokevirtual 58, 3) := by decide +kernel
theorem dX9_sell_95 : decode cX9_sell 95 = .ok (.aload_n 0, 1) := by decide +kernel
theorem dX9_sell_96 : decode cX9_sell 96 = .ok (.getfield 50, 3) := by decide +kernel
theorem dX9_sell_99 : decode cX9_sell 99 = .ok (.aload_n 0, 1) := by decide +kernel
theorem dX9_sell_100 : decode cX9_sell 100 = .ok (.getfield 10, 3) := by decide +kernel
theorem dX9_sell_103 : decode cX9_sell 103 = .ok (.invokevirtual 129, 3) := by decide +kernel
theorem dX9_sell_106 : decode cX9_sell 106 = .ok (.aload_n 0, 1) := by decide +kernel
theorem dX9_sell_107 : decode cX9_sell 107 = .ok (.getfield 10, 3) := by decide +kernel
theorem dX9_sell_110 : decode cX9_sell 110 = .ok (.iload_n 3, 1) := by decide +kernel
theorem dX9_sell_111 : decode cX9_sell 111 = .ok (.putfield 178, 3) := by decide +kernel
theorem dX9_sell_114 : decode cX9_sell 114 = .ok (.aload_n 0, 1) := by decide +kernel
theorem dX9_sell_115 : decode cX9_sell 115 = .ok (.getfield 10, 3) := by decide +kernel
theorem dX9_sell_118 : decode cX9_sell 118 = .ok (.getfield 90, 3) := by decide +kernel
theorem dX9_sell_121 : decode cX9_sell 121 = .ok (.iload_n 1, 1) := by decide +kernel
theorem dX9_sell_122 : decode cX9_sell 122 = .ok (.aaload, 1) := by decide +kernel
theorem dX9_sell_123 : decode cX9_sell 123 = .ok (.iconst 3, 1) := by decide +kernel
theorem dX9_sell_124 : decode cX9_sell 124 = .ok (.invokevirtual 132, 3) := by decide +kernel
theorem dX9_sell_127 : decode cX9_sell 127 = .ok (.aload_n 0, 1) := by decide +kernel
theorem dX9_sell_128 : decode cX9_sell 128 = .ok (.getfield 10, 3) := by decide +kernel
theorem dX9_sell_131 : decode cX9_sell 131 = .ok (.iload_n 1, 1) := by decide +kernel
theorem dX9_sell_132 : decode cX9_sell 132 = .ok (.invokevirtual 181, 3) := by decide +kernel
theorem dX9_sell_135 : decode cX9_sell 135 = .ok (.ireturn, 1) := by decide +kernel
theorem dX9_switchServicer_0 : decode cX9_switchServicer 0 = .ok (.aload_n 0, 1) := by decide +kernel
theorem dX9_switchServicer_1 : decode cX9_switchServicer 1 = .ok (.getfield 10, 3) := by decide +kernel
theorem dX9_switchServicer_4 : decode cX9_switchServicer 4 = .ok (.iload_n 1, 1) := by decide +kernel
theorem dX9_switchServicer_5 : decode cX9_switchServicer 5 = .ok (.invokevirtual 111, 3) := by decide +kernel
theorem dX9_switchServicer_8 : decode cX9_switchServicer 8 = .ok (.ifCond .eq 10, 3) := by decide +kernel
theorem dX9_switchServicer_11 : decode cX9_switchServicer 11 = .ok (.iload_n 2, 1) := by decide +kernel
theorem dX9_switchServicer_12 : decode cX9_switchServicer 12 = .ok (.invokestatic 184, 3) := by decide +kernel
theorem dX9_switchServicer_15 : decode cX9_switchServicer 15 = .ok (.ifCond .ne 5, 3) := by decide +kernel
theorem dX9_switchServicer_18 : decode cX9_switchServicer 18 = .ok (.iconst (-1), 1) := by decide +kernel
theorem dX9_switchServicer_19 : decode cX9_switchServicer 19 = .ok (.ireturn, 1) := by decide +kernel
theorem dX9_switchServicer_20 : decode cX9_switchServicer 20 = .ok (.aload_n 0, 1) := by decide +kernel
theorem dX9_switchServicer_21 : decode cX9_switchServicer 21 = .ok (.getfield 10, 3) := by decide +kernel
theorem dX9_switchServicer_24 : decode cX9_switchServicer 24 = .ok (.iload_n 1, 1) := by decide +kernel
theorem dX9_switchServicer_25 : decode cX9_switchServicer 25 = .ok (.invokevirtual 171, 3) := by decide +kernel
theorem dX9_switchServicer_28 : decode cX9_switchServicer 28 = .ok (.ifCond .ne 6, 3) := by decide +kernel
theorem dX9_switchServicer_31 : decode cX9_switchServicer 31 = .ok (.bipush (-4), 2) := by decide +kernel
theorem dX9_switchServicer_33 : decode cX9_switchServicer 33 = .ok (.ireturn, 1) := by decide +kernel
theorem dX9_switchServicer_34 : decode cX9_switchServicer 34 = .ok (.aload_n 0, 1) := by decide +kernel
theorem dX9_switchServicer_35 : decode cX9_switchServicer 35 = .ok (.getfield 10, 3) := by decide +kernel
theorem dX9_switchServicer_38 : decode cX9_switchServicer 38 = .ok (.getfield 90, 3) := by decide +kernel
theorem dX9_switchServicer_41 : decode cX9_switchServicer 41 = .ok (.iload_n 1, 1) := by decide +kernel
theorem dX9_switchServicer_42 : decode cX9_switchServicer 42 = .ok (.aaload, 1) := by decide +kernel
theorem dX9_switchServicer_43 : decode cX9_switchServicer 43 = .ok (.astore_n 3, 1) := by decide +kernel
theorem dX9_switchServicer_44 : decode cX9_switchServicer 44 = .ok (.aload_n 3, 1) := by decide +kernel
theorem dX9_switchServicer_45 : decode cX9_switchServicer 45 = .ok (.getfield 187, 3) := by decide +kernel
theorem dX9_switchServicer_48 : decode cX9_switchServicer 48 = .ok (.bipush (-5), 2) := by decide +kernel
theorem dX9_switchServicer_50 : decode cX9_switchServicer 50 = .ok (.if_icmp .ne 10, 3) := by decide +kernel
theorem dX9_switchServicer_53 : decode cX9_switchServicer 53 = .ok (.aload_n 3, 1) := by decide +kernel
theorem dX9_switchServicer_54 : decode cX9_switchServicer 54 = .ok (.getfield 190, 3) := by decide +kernel
theorem dX9_switchServicer_57 : decode cX9_switchServicer 57 = .ok (.goto 7, 3) := by decide +kernel
theorem dX9_switchServicer_60 : decode cX9_switchServicer 60 = .ok (.aload_n 3, 1) := by decide +kernel
theorem dX9_switchServicer_61 : decode cX9_switchServicer 61 = .ok (.getfield 187, 3) := by decide +kernel
theorem dX9_switchServicer_64 : decode cX9_switchServicer 64 = .ok (.istore 4, 2) := by decide +kernel
theorem dX9_switchServicer_66 : decode cX9_switchServicer 66 = .ok (.iload_n 2, 1) := by decide +kernel
theorem dX9_switchServicer_67 : decode cX9_switchServicer 67 = .ok (.iload 4, 2) := by decide +kernel
theorem dX9_switchServicer_69 : decode cX9_switchServicer 69 = .ok (.if_icmp .ne 6, 3) := by decide +kernel
theorem dX9_switchServicer_72 : decode cX9_switchServicer 72 = .ok (.bipush (-5), 2) := by decide +kernel
theorem dX9_switchServicer_74 : decode cX9_switchServicer 74 = .ok (.ireturn, 1) := by decide +kernel
theorem dX9_switchServicer_75 : decode cX9_switchServicer 75 = .ok (.aload_n 0, 1) := by decide +kernel
theorem dX9_switchServicer_76 : decode cX9_switchServicer 76 = .ok (.getfield 29, 3) := by decide +kernel
theorem dX9_switchServicer_79 : decode cX9_switchServicer 79 = .ok (.aload_n 0, 1) := by decide +kernel
theorem dX9_switchServicer_80 : decode cX9_switchServicer 80 = .ok (.getfield 10, 3) := by decide +kernel
theorem dX9_switchServicer_83 : decode cX9_switchServicer 83 = .ok (.invokevirtual 58, 3) := by decide +kernel
theorem dX9_switchServicer_86 : decode cX9_switchServicer 86 = .ok (.aload_n 3, 1) := by decide +kernel
theorem dX9_switchServicer_87 : decode cX9_switchServicer 87 = .ok (.iload_n 2, 1) := by decide +kernel
theorem dX9_switchServicer_88 : decode cX9_switchServicer 88 = .ok (.putfield 187, 3) := by decide +kernel
theorem dX9_switchServicer_91 : decode cX9_switchServicer 91 = .ok (.aload_n 3, 1) := by decide +kernel
theorem dX9_switchServicer_92 : decode cX9_switchServicer 92 = .ok (.getfield 190, 3) := by decide +kernel
theorem dX9_switchServicer_95 : decode cX9_switchServicer 95 = .ok (.ireturn, 1) := by decide +kernel
theorem dX9_sellNote_0 : decode cX9_sellNote 0 = .ok (.aload_n 0, 1) := by decide +kernel
theorem dX9_sellNote_1 : decode cX9_sellNote 1 = .ok (.getfield 10, 3) := by decide +kernel
theorem dX9_sellNote_4 : decode cX9_sellNote 4 = .ok (.iload_n 1, 1) := by decide +kernel
theorem dX9_sellNote_5 : decode cX9_sellNote 5 = .ok (.invokevirtual 193, 3) := by decide +kernel
theorem dX9_sellNote_8 : decode cX9_sellNote 8 = .ok (.ifCond .eq 14, 3) := by decide +kernel
theorem dX9_sellNote_11 : decode cX9_sellNote 11 = .ok (.aload_n 0, 1) := by decide +kernel
theorem dX9_sellNote_12 : decode cX9_sellNote 12 = .ok (.getfield 10, 3) := by decide +kernel
theorem dX9_sellNote_15 : decode cX9_sellNote 15 = .ok (.iload_n 2, 1) := by decide +kernel
theorem dX9_sellNote_16 : decode cX9_sellNote 16 = .ok (.invokevirtual 72, 3) := by decide +kernel
theorem dX9_sellNote_19 : decode cX9_sellNote 19 = .ok (.ifCond .ne 5, 3) := by decide +kernel
theorem dX9_sellNote_22 : decode cX9_sellNote 22 = .ok (.iconst (-1), 1) := by decide +kernel
theorem dX9_sellNote_23 : decode cX9_sellNote 23 = .ok (.ireturn, 1) := by decide +kernel
theorem dX9_sellNote_24 : decode cX9_sellNote 24 = .ok (.aload_n 0, 1) := by decide +kernel
theorem dX9_sellNote_25 : decode cX9_sellNote 25 = .ok (.getfield 10, 3) := by decide +kernel
theorem dX9_sellNote_28 : decode cX9_sellNote 28 = .ok (.getfield 196, 3) := by decide +kernel
theorem dX9_sellNote_31 : decode cX9_sellNote 31 = .ok (.iload_n 1, 1) := by decide +kernel
theorem dX9_sellNote_32 : decode cX9_sellNote 32 = .ok (.aaload, 1) := by decide +kernel
theorem dX9_sellNote_33 : decode cX9_sellNote 33 = .ok (.astore 4, 2) := by decide +kernel
theorem dX9_sellNote_35 : decode cX9_sellNote 35 = .ok (.aload 4, 2) := by decide +kernel
theorem dX9_sellNote_37 : decode cX9_sellNote 37 = .ok (.getfield 200, 3) := by decide +kernel
theorem dX9_sellNote_40 : decode cX9_sellNote 40 = .ok (.istore 5, 2) := by decide +kernel
theorem dX9_sellNote_42 : decode cX9_sellNote 42 = .ok (.iload_n 3, 1) := by decide +kernel
theorem dX9_sellNote_43 : decode cX9_sellNote 43 = .ok (.invokestatic 168, 3) := by decide +kernel
theorem dX9_sellNote_46 : decode cX9_sellNote 46 = .ok (.ifCond .eq 9, 3) := by decide +kernel
theorem dX9_sellNote_49 : decode cX9_sellNote 49 = .ok (.iload 5, 2) := by decide +kernel
theorem dX9_sellNote_51 : decode cX9_sellNote 51 = .ok (.iload_n 2, 1) := by decide +kernel
theorem dX9_sellNote_52 : decode cX9_sellNote 52 = .ok (.if_icmp .ne 6, 3) := by decide +kernel
theorem dX9_sellNote_55 : decode cX9_sellNote 55 = .ok (.bipush (-2), 2) := by decide +kernel
theorem dX9_sellNote_57 : decode cX9_sellNote 57 = .ok (.ireturn, 1) := by decide +kernel
theorem dX9_sellNote_58 : decode cX9_sellNote 58 = .ok (.aload_n 0, 1) := by decide +kernel
theorem dX9_sellNote_59 : decode cX9_sellNote 59 = .ok (.getfield 10, 3) := by decide +kernel
theorem dX9_sellNote_62 : decode cX9_sellNote 62 = .ok (.aload 4, 2) := by decide +kernel
theorem dX9_sellNote_64 : decode cX9_sellNote 64 = .ok (.getfield 205, 3) := by decide +kernel
theorem dX9_sellNote_67 : decode cX9_sellNote 67 = .ok (.invokevirtual 171, 3) := by decide +kernel
theorem dX9_sellNote_70 : decode cX9_sellNote 70 = .ok (.ifCond .eq 15, 3) := by decide +kernel
theorem dX9_sellNote_73 : decode cX9_sellNote 73 = .ok (.aload_n 0, 1) := by decide +kernel
theorem dX9_sellNote_74 : decode cX9_sellNote 74 = .ok (.getfield 10, 3) := by decide +kernel
theorem dX9_sellNote_77 : decode cX9_sellNote 77 = .ok (.iload_n 2, 1) := by decide +kernel
theorem dX9_sellNote_78 : decode cX9_sellNote 78 = .ok (.invokevirtual 208, 3) := by decide +kernel
theorem dX9_sellNote_81 : decode cX9_sellNote 81 = .ok (.iload_n 3, 1) := by decide +kernel
theorem dX9_sellNote_82 : decode cX9_sellNote 82 = .ok (.if_icmp .ge 6, 3) := by decide +kernel
theorem dX9_sellNote_85 : decode cX9_sellNote 85 = .ok (.bipush (-4), 2) := by decide +kernel
theorem dX9_sellNote_87 : decode cX9_sellNote 87 = .ok (.ireturn, 1) := by decide +kernel
theorem dX9_sellNote_88 : decode cX9_sellNote 88 = .ok (.iload_n 3, 1) := by decide +kernel
theorem dX9_sellNote_89 : decode cX9_sellNote 89 = .ok (.ldc 76, 2) := by decide +kernel
theorem dX9_sellNote_91 : decode cX9_sellNote 91 = .ok (.aload_n 0, 1) := by decide +kernel
theorem dX9_sellNote_92 : decode cX9_sellNote 92 = .ok (.getfield 10, 3) := by decide +kernel
theorem dX9_sellNote_95 : decode cX9_sellNote 95 = .ok (.iload 5, 2) := by decide +kernel
theorem dX9_sellNote_97 : decode cX9_sellNote 97 = .ok (.invokevirtual 208, 3) := by decide +kernel
theorem dX9_sellNote_100 : decode cX9_sellNote 100 = .ok (.isub, 1) := by decide +kernel
theorem dX9_sellNote_101 : decode cX9_sellNote 101 = .ok (.if_icmp .le 6, 3) := by decide +kernel
theorem dX9_sellNote_104 : decode cX9_sellNote 104 = .ok (.bipush (-3), 2) := by decide +kernel
theorem dX9_sellNote_106 : decode cX9_sellNote 106 = .ok (.ireturn, 1) := by decide +kernel
theorem dX9_sellNote_107 : decode cX9_sellNote 107 = .ok (.aload_n 0, 1) := by decide +kernel
theorem dX9_sellNote_108 : decode cX9_sellNote 108 = .ok (.getfield 29, 3) := by decide +kernel
theorem dX9_sellNote_111 : decode cX9_sellNote 111 = .ok (.aload_n 0, 1) := by decide +kernel
theorem dX9_sellNote_112 : decode cX9_sellNote 112 = .ok (.getfield 10, 3) := by decide +kernel
theorem dX9_sellNote_115 : decode cX9_sellNote 115 = .ok (.invokevirtual 58, 3) := by decide +kernel
theorem dX9_sellNote_118 : decode cX9_sellNote 118 = .ok (.aload_n 0, 1) := by decide +kernel
theorem dX9_sellNote_119 : decode cX9_sellNote 119 = .ok (.getfield 10, 3) := by decide +kernel
theorem dX9_sellNote_122 : decode cX9_sellNote 122 = .ok (.iload_n 2, 1) := by decide +kernel
theorem dX9_sellNote_123 : decode cX9_sellNote 123 = .ok (.iload_n 3, 1) := by decide +kernel
theorem dX9_sellNote_124 : decode cX9_sellNote 124 = .ok (.ineg, 1) := by decide +kernel
theorem dX9_sellNote_125 : decode cX9_sellNote 125 = .ok (.invokevirtual 211, 3) := by decide +kernel
theorem dX9_sellNote_128 : decode cX9_sellNote 128 = .ok (.aload_n 0, 1) := by decide +kernel
theorem dX9_sellNote_129 : decode cX9_sellNote 129 = .ok (.getfield 10, 3) := by decide +kernel
theorem dX9_sellNote_132 : decode cX9_sellNote 132 = .ok (.iload 5, 2) := by decide +kernel
theorem dX9_sellNote_134 : decode cX9_sellNote 134 = .ok (.iload_n 3, 1) := by decide +kernel
theorem dX9_sellNote_135 : decode cX9_sellNote 135 = .ok (.invokevirtual 211, 3) := by decide +kernel
theorem dX9_sellNote_138 : decode cX9_sellNote 138 = .ok (.aload 4, 2) := by decide +kernel
theorem dX9_sellNote_140 : decode cX9_sellNote 140 = .ok (.iload_n 2, 1) := by decide +kernel
theorem dX9_sellNote_141 : decode cX9_sellNote 141 = .ok (.putfield 200, 3) := by decide +kernel
theorem dX9_sellNote_144 : decode cX9_sellNote 144 = .ok (.aload 4, 2) := by decide +kernel
theorem dX9_sellNote_146 : decode cX9_sellNote 146 = .ok (.getfield 215, 3) := by decide +kernel
theorem dX9_sellNote_149 : decode cX9_sellNote 149 = .ok (.ireturn, 1) := by decide +kernel
theorem dX9_pass_0 : decode cX9_pass 0 = .ok (.iload_n 1, 1) := by decide +kernel
theorem dX9_pass_1 : decode cX9_pass 1 = .ok (.iconst 1, 1) := by decide +kernel
theorem dX9_pass_2 : decode cX9_pass 2 = .ok (.if_icmp .lt 9, 3) := by decide +kernel
theorem dX9_pass_5 : decode cX9_pass 5 = .ok (.iload_n 1, 1) := by decide +kernel
theorem dX9_pass_6 : decode cX9_pass 6 = .ok (.bipush 24, 2) := by decide +kernel
theorem dX9_pass_8 : decode cX9_pass 8 = .ok (.if_icmp .le 6, 3) := by decide +kernel
theorem dX9_pass_11 : decode cX9_pass 11 = .ok (.bipush (-2), 2) := by decide +kernel
theorem dX9_pass_13 : decode cX9_pass 13 = .ok (.ireturn, 1) := by decide +kernel
theorem dX9_pass_14 : decode cX9_pass 14 = .ok (.iload_n 1, 1) := by decide +kernel
theorem dX9_pass_15 : decode cX9_pass 15 = .ok (.sipush 240, 3) := by decide +kernel
theorem dX9_pass_18 : decode cX9_pass 18 = .ok (.aload_n 0, 1) := by decide +kernel
theorem dX9_pass_19 : decode cX9_pass 19 = .ok (.getfield 10, 3) := by decide +kernel
theorem dX9_pass_22 : decode cX9_pass 22 = .ok (.getfield 216, 3) := by decide +kernel
theorem dX9_pass_25 : decode cX9_pass 25 = .ok (.isub, 1) := by decide +kernel
theorem dX9_pass_26 : decode cX9_pass 26 = .ok (.if_icmp .le 6, 3) := by decide +kernel
theorem dX9_pass_29 : decode cX9_pass 29 = .ok (.bipush (-4), 2) := by decide +kernel
theorem dX9_pass_31 : decode cX9_pass 31 = .ok (.ireturn, 1) := by decide +kernel
theorem dX9_pass_32 : decode cX9_pass 32 = .ok (.aload_n 0, 1) := by decide +kernel
theorem dX9_pass_33 : decode cX9_pass 33 = .ok (.getfield 29, 3) := by decide +kernel
theorem dX9_pass_36 : decode cX9_pass 36 = .ok (.aload_n 0, 1) := by decide +kernel
theorem dX9_pass_37 : decode cX9_pass 37 = .ok (.getfield 10, 3) := by decide +kernel
theorem dX9_pass_40 : decode cX9_pass 40 = .ok (.invokevirtual 58, 3) := by decide +kernel
theorem dX9_pass_43 : decode cX9_pass 43 = .ok (.iconst 0, 1) := by decide +kernel
theorem dX9_pass_44 : decode cX9_pass 44 = .ok (.istore_n 2, 1) := by decide +kernel
theorem dX9_pass_45 : decode cX9_pass 45 = .ok (.iload_n 2, 1) := by decide +kernel
theorem dX9_pass_46 : decode cX9_pass 46 = .ok (.iload_n 1, 1) := by decide +kernel
theorem dX9_pass_47 : decode cX9_pass 47 = .ok (.if_icmp .ge 16, 3) := by decide +kernel
theorem dX9_pass_50 : decode cX9_pass 50 = .ok (.aload_n 0, 1) := by decide +kernel
theorem dX9_pass_51 : decode cX9_pass 51 = .ok (.getfield 10, 3) := by decide +kernel
theorem dX9_pass_54 : decode cX9_pass 54 = .ok (.invokevirtual 219, 3) := by decide +kernel
theorem dX9_pass_57 : decode cX9_pass 57 = .ok (.iinc 2 1, 3) := by decide +kernel
theorem dX9_pass_60 : decode cX9_pass 60 = .ok (.goto (-15), 3) := by decide +kernel
theorem dX9_pass_63 : decode cX9_pass 63 = .ok (.aload_n 0, 1) := by decide +kernel
theorem dX9_pass_64 : decode cX9_pass 64 = .ok (.getfield 10, 3) := by decide +kernel
theorem dX9_pass_67 : decode cX9_pass 67 = .ok (.invokevirtual 222, 3) := by decide +kernel
theorem dX9_pass_70 : decode cX9_pass 70 = .ok (.ireturn, 1) := by decide +kernel
theorem dX9_investor_0 : decode cX9_investor 0 = .ok (.aload_n 0, 1) := by decide +kernel
theorem dX9_investor_1 : decode cX9_investor 1 = .ok (.getfield 10, 3) := by decide +kernel
theorem dX9_investor_4 : decode cX9_investor 4 = .ok (.iload_n 1, 1) := by decide +kernel
theorem dX9_investor_5 : decode cX9_investor 5 = .ok (.invokevirtual 72, 3) := by decide +kernel
theorem dX9_investor_8 : decode cX9_investor 8 = .ok (.ifCond .ne 5, 3) := by decide +kernel
theorem dX9_investor_11 : decode cX9_investor 11 = .ok (.iconst (-1), 1) := by decide +kernel
theorem dX9_investor_12 : decode cX9_investor 12 = .ok (.ireturn, 1) := by decide +kernel
theorem dX9_investor_13 : decode cX9_investor 13 = .ok (.aload_n 0, 1) := by decide +kernel
theorem dX9_investor_14 : decode cX9_investor 14 = .ok (.getfield 10, 3) := by decide +kernel
theorem dX9_investor_17 : decode cX9_investor 17 = .ok (.getfield 62, 3) := by decide +kernel
theorem dX9_investor_20 : decode cX9_investor 20 = .ok (.iload_n 1, 1) := by decide +kernel
theorem dX9_investor_21 : decode cX9_investor 21 = .ok (.aaload, 1) := by decide +kernel
theorem dX9_investor_22 : decode cX9_investor 22 = .ok (.astore_n 3, 1) := by decide +kernel
theorem dX9_investor_23 : decode cX9_investor 23 = .ok (.iload_n 2, 1) := by decide +kernel
theorem dX9_investor_24 : decode cX9_investor 24 = .ok (.tableswitch 82 0 5 #[40, 45, 54, 63, 72, 77], 40) := by decide +kernel
theorem dX9_investor_64 : decode cX9_investor 64 = .ok (.aload_n 3, 1) := by decide +kernel
theorem dX9_investor_65 : decode cX9_investor 65 = .ok (.getfield 77, 3) := by decide +kernel
theorem dX9_investor_68 : decode cX9_investor 68 = .ok (.ireturn, 1) := by decide +kernel
theorem dX9_investor_69 : decode cX9_investor 69 = .ok (.aload_n 0, 1) := by decide +kernel
theorem dX9_investor_70 : decode cX9_investor 70 = .ok (.getfield 10, 3) := by decide +kernel
theorem dX9_investor_73 : decode cX9_investor 73 = .ok (.iload_n 1, 1) := by decide +kernel
theorem dX9_investor_74 : decode cX9_investor 74 = .ok (.invokevirtual 265, 3) := by decide +kernel
theorem dX9_investor_77 : decode cX9_investor 77 = .ok (.ireturn, 1) := by decide +kernel
theorem dX9_investor_78 : decode cX9_investor 78 = .ok (.aload_n 0, 1) := by decide +kernel
theorem dX9_investor_79 : decode cX9_investor 79 = .ok (.getfield 10, 3) := by decide +kernel
theorem dX9_investor_82 : decode cX9_investor 82 = .ok (.iload_n 1, 1) := by decide +kernel
theorem dX9_investor_83 : decode cX9_investor 83 = .ok (.invokevirtual 268, 3) := by decide +kernel
theorem dX9_investor_86 : decode cX9_investor 86 = .ok (.ireturn, 1) := by decide +kernel
theorem dX9_investor_87 : decode cX9_investor 87 = .ok (.aload_n 0, 1) := by decide +kernel
theorem dX9_investor_88 : decode cX9_investor 88 = .ok (.getfield 10, 3) := by decide +kernel
theorem dX9_investor_91 : decode cX9_investor 91 = .ok (.iload_n 1, 1) := by decide +kernel
theorem dX9_investor_92 : decode cX9_investor 92 = .ok (.invokevirtual 271, 3) := by decide +kernel
theorem dX9_investor_95 : decode cX9_investor 95 = .ok (.ireturn, 1) := by decide +kernel
theorem dX9_investor_96 : decode cX9_investor 96 = .ok (.aload_n 3, 1) := by decide +kernel
theorem dX9_investor_97 : decode cX9_investor 97 = .ok (.getfield 274, 3) := by decide +kernel
theorem dX9_investor_100 : decode cX9_investor 100 = .ok (.ireturn, 1) := by decide +kernel
theorem dX9_investor_101 : decode cX9_investor 101 = .ok (.aload_n 3, 1) := by decide +kernel
theorem dX9_investor_102 : decode cX9_investor 102 = .ok (.getfield 277, 3) := by decide +kernel
theorem dX9_investor_105 : decode cX9_investor 105 = .ok (.ireturn, 1) := by decide +kernel
theorem dX9_investor_106 : decode cX9_investor 106 = .ok (.bipush (-2), 2) := by decide +kernel
theorem dX9_investor_108 : decode cX9_investor 108 = .ok (.ireturn, 1) := by decide +kernel
theorem dX9_loan_0 : decode cX9_loan 0 = .ok (.aload_n 0, 1) := by decide +kernel
theorem dX9_loan_1 : decode cX9_loan 1 = .ok (.getfield 10, 3) := by decide +kernel
theorem dX9_loan_4 : decode cX9_loan 4 = .ok (.iload_n 1, 1) := by decide +kernel
theorem dX9_loan_5 : decode cX9_loan 5 = .ok (.invokevirtual 111, 3) := by decide +kernel
theorem dX9_loan_8 : decode cX9_loan 8 = .ok (.ifCond .ne 5, 3) := by decide +kernel
theorem dX9_loan_11 : decode cX9_loan 11 = .ok (.iconst (-1), 1) := by decide +kernel
theorem dX9_loan_12 : decode cX9_loan 12 = .ok (.ireturn, 1) := by decide +kernel
theorem dX9_loan_13 : decode cX9_loan 13 = .ok (.aload_n 0, 1) := by decide +kernel
theorem dX9_loan_14 : decode cX9_loan 14 = .ok (.getfield 10, 3) := by decide +kernel
theorem dX9_loan_17 : decode cX9_loan 17 = .ok (.getfield 90, 3) := by decide +kernel
theorem dX9_loan_20 : decode cX9_loan 20 = .ok (.iload_n 1, 1) := by decide +kernel
theorem dX9_loan_21 : decode cX9_loan 21 = .ok (.aaload, 1) := by decide +kernel
theorem dX9_loan_22 : decode cX9_loan 22 = .ok (.astore_n 3, 1) := by decide +kernel
theorem dX9_loan_23 : decode cX9_loan 23 = .ok (.iload_n 2, 1) := by decide +kernel
theorem dX9_loan_24 : decode cX9_loan 24 = .ok (.tableswitch 151 0 12 #[68, 73, 78, 83, 88, 93, 98, 103, 108, 113, 122, 131, 141], 68) := by decide +kernel
theorem dX9_loan_92 : decode cX9_loan 92 = .ok (.aload_n 3, 1) := by decide +kernel
theorem dX9_loan_93 : decode cX9_loan 93 = .ok (.getfield 114, 3) := by decide +kernel
theorem dX9_loan_96 : decode cX9_loan 96 = .ok (.ireturn, 1) := by decide +kernel
theorem dX9_loan_97 : decode cX9_loan 97 = .ok (.aload_n 3, 1) := by decide +kernel
theorem dX9_loan_98 : decode cX9_loan 98 = .ok (.getfield 280, 3) := by decide +kernel
theorem dX9_loan_101 : decode cX9_loan 101 = .ok (.ireturn, 1) := by decide +kernel
theorem dX9_loan_102 : decode cX9_loan 102 = .ok (.aload_n 3, 1) := by decide +kernel
theorem dX9_loan_103 : decode cX9_loan 103 = .ok (.getfield 150, 3) := by decide +kernel
theorem dX9_loan_106 : decode cX9_loan 106 = .ok (.ireturn, 1) := by decide +kernel
theorem dX9_loan_107 : decode cX9_loan 107 = .ok (.aload_n 3, 1) := by decide +kernel
theorem dX9_loan_108 : decode cX9_loan 108 = .ok (.getfield 165, 3) := by decide +kernel
theorem dX9_loan_111 : decode cX9_loan 111 = .ok (.ireturn, 1) := by decide +kernel
theorem dX9_loan_112 : decode cX9_loan 112 = .ok (.aload_n 3, 1) := by decide +kernel
theorem dX9_loan_113 : decode cX9_loan 113 = .ok (.getfield 156, 3) := by decide +kernel
theorem dX9_loan_116 : decode cX9_loan 116 = .ok (.ireturn, 1) := by decide +kernel
theorem dX9_loan_117 : decode cX9_loan 117 = .ok (.aload_n 3, 1) := by decide +kernel
theorem dX9_loan_118 : decode cX9_loan 118 = .ok (.getfield 159, 3) := by decide +kernel
theorem dX9_loan_121 : decode cX9_loan 121 = .ok (.ireturn, 1) := by decide +kernel
theorem dX9_loan_122 : decode cX9_loan 122 = .ok (.aload_n 3, 1) := by decide +kernel
theorem dX9_loan_123 : decode cX9_loan 123 = .ok (.getfield 153, 3) := by decide +kernel
theorem dX9_loan_126 : decode cX9_loan 126 = .ok (.ireturn, 1) := by decide +kernel
theorem dX9_loan_127 : decode cX9_loan 127 = .ok (.aload_n 3, 1) := by decide +kernel
theorem dX9_loan_128 : decode cX9_loan 128 = .ok (.getfield 190, 3) := by decide +kernel
theorem dX9_loan_131 : decode cX9_loan 131 = .ok (.ireturn, 1) := by decide +kernel
theorem dX9_loan_132 : decode cX9_loan 132 = .ok (.aload_n 3, 1) := by decide +kernel
theorem dX9_loan_133 : decode cX9_loan 133 = .ok (.getfield 187, 3) := by decide +kernel
theorem dX9_loan_136 : decode cX9_loan 136 = .ok (.ireturn, 1) := by decide +kernel
theorem dX9_loan_137 : decode cX9_loan 137 = .ok (.aload_n 0, 1) := by decide +kernel
theorem dX9_loan_138 : decode cX9_loan 138 = .ok (.getfield 10, 3) := by decide +kernel
theorem dX9_loan_141 : decode cX9_loan 141 = .ok (.iload_n 1, 1) := by decide +kernel
theorem dX9_loan_142 : decode cX9_loan 142 = .ok (.invokevirtual 107, 3) := by decide +kernel
theorem dX9_loan_145 : decode cX9_loan 145 = .ok (.ireturn, 1) := by decide +kernel
theorem dX9_loan_146 : decode cX9_loan 146 = .ok (.aload_n 0, 1) := by decide +kernel
theorem dX9_loan_147 : decode cX9_loan 147 = .ok (.getfield 10, 3) := by decide +kernel
theorem dX9_loan_150 : decode cX9_loan 150 = .ok (.iload_n 1, 1) := by decide +kernel
theorem dX9_loan_151 : decode cX9_loan 151 = .ok (.invokevirtual 283, 3) := by decide +kernel
theorem dX9_loan_154 : decode cX9_loan 154 = .ok (.ireturn, 1) := by decide +kernel
theorem dX9_loan_155 : decode cX9_loan 155 = .ok (.aload_n 0, 1) := by decide +kernel
theorem dX9_loan_156 : decode cX9_loan 156 = .ok (.getfield 10, 3) := by decide +kernel
theorem dX9_loan_159 : decode cX9_loan 159 = .ok (.iload_n 1, 1) := by decide +kernel
theorem dX9_loan_160 : decode cX9_loan 160 = .ok (.iconst 0, 1) := by decide +kernel
theorem dX9_loan_161 : decode cX9_loan 161 = .ok (.invokevirtual 117, 3) := by decide +kernel
theorem dX9_loan_164 : decode cX9_loan 164 = .ok (.ireturn, 1) := by decide +kernel
theorem dX9_loan_165 : decode cX9_loan 165 = .ok (.aload_n 0, 1) := by decide +kernel
theorem dX9_loan_166 : decode cX9_loan 166 = .ok (.getfield 10, 3) := by decide +kernel
theorem dX9_loan_169 : decode cX9_loan 169 = .ok (.iload_n 1, 1) := by decide +kernel
theorem dX9_loan_170 : decode cX9_loan 170 = .ok (.iconst 1, 1) := by decide +kernel
theorem dX9_loan_171 : decode cX9_loan 171 = .ok (.invokevirtual 117, 3) := by decide +kernel
theorem dX9_loan_174 : decode cX9_loan 174 = .ok (.ireturn, 1) := by decide +kernel
theorem dX9_loan_175 : decode cX9_loan 175 = .ok (.bipush (-2), 2) := by decide +kernel
theorem dX9_loan_177 : decode cX9_loan 177 = .ok (.ireturn, 1) := by decide +kernel
theorem dX9_note_0 : decode cX9_note 0 = .ok (.aload_n 0, 1) := by decide +kernel
theorem dX9_note_1 : decode cX9_note 1 = .ok (.getfield 10, 3) := by decide +kernel
theorem dX9_note_4 : decode cX9_note 4 = .ok (.iload_n 1, 1) := by decide +kernel
theorem dX9_note_5 : decode cX9_note 5 = .ok (.invokevirtual 193, 3) := by decide +kernel
theorem dX9_note_8 : decode cX9_note 8 = .ok (.ifCond .ne 5, 3) := by decide +kernel
theorem dX9_note_11 : decode cX9_note 11 = .ok (.iconst (-1), 1) := by decide +kernel
theorem dX9_note_12 : decode cX9_note 12 = .ok (.ireturn, 1) := by decide +kernel
theorem dX9_note_13 : decode cX9_note 13 = .ok (.aload_n 0, 1) := by decide +kernel
theorem dX9_note_14 : decode cX9_note 14 = .ok (.getfield 10, 3) := by decide +kernel
theorem dX9_note_17 : decode cX9_note 17 = .ok (.getfield 196, 3) := by decide +kernel
theorem dX9_note_20 : decode cX9_note 20 = .ok (.iload_n 1, 1) := by decide +kernel
theorem dX9_note_21 : decode cX9_note 21 = .ok (.aaload, 1) := by decide +kernel
theorem dX9_note_22 : decode cX9_note 22 = .ok (.astore_n 3, 1) := by decide +kernel
theorem dX9_note_23 : decode cX9_note 23 = .ok (.iload_n 2, 1) := by decide +kernel
theorem dX9_note_24 : decode cX9_note 24 = .ok (.tableswitch 79 0 6 #[44, 49, 54, 59, 64, 69, 74], 44) := by decide +kernel
theorem dX9_note_68 : decode cX9_note 68 = .ok (.aload_n 3, 1) := by decide +kernel
theorem dX9_note_69 : decode cX9_note 69 = .ok (.getfield 200, 3) := by decide +kernel
theorem dX9_note_72 : decode cX9_note 72 = .ok (.ireturn, 1) := by decide +kernel
theorem dX9_note_73 : decode cX9_note 73 = .ok (.aload_n 3, 1) := by decide +kernel
theorem dX9_note_74 : decode cX9_note 74 = .ok (.getfield 205, 3) := by decide +kernel
theorem dX9_note_77 : decode cX9_note 77 = .ok (.ireturn, 1) := by decide +kernel
theorem dX9_note_78 : decode cX9_note 78 = .ok (.aload_n 3, 1) := by decide +kernel
theorem dX9_note_79 : decode cX9_note 79 = .ok (.getfield 286, 3) := by decide +kernel
theorem dX9_note_82 : decode cX9_note 82 = .ok (.ireturn, 1) := by decide +kernel
theorem dX9_note_83 : decode cX9_note 83 = .ok (.aload_n 3, 1) := by decide +kernel
theorem dX9_note_84 : decode cX9_note 84 = .ok (.getfield 215, 3) := by decide +kernel
theorem dX9_note_87 : decode cX9_note 87 = .ok (.ireturn, 1) := by decide +kernel
theorem dX9_note_88 : decode cX9_note 88 = .ok (.aload_n 3, 1) := by decide +kernel
theorem dX9_note_89 : decode cX9_note 89 = .ok (.getfield 287, 3) := by decide +kernel
theorem dX9_note_92 : decode cX9_note 92 = .ok (.ireturn, 1) := by decide +kernel
theorem dX9_note_93 : decode cX9_note 93 = .ok (.aload_n 3, 1) := by decide +kernel
theorem dX9_note_94 : decode cX9_note 94 = .ok (.getfield 290, 3) := by decide +kernel
theorem dX9_note_97 : decode cX9_note 97 = .ok (.ireturn, 1) := by decide +kernel
theorem dX9_note_98 : decode cX9_note 98 = .ok (.aload_n 3, 1) := by decide +kernel
theorem dX9_note_99 : decode cX9_note 99 = .ok (.getfield 291, 3) := by decide +kernel
theorem dX9_note_102 : decode cX9_note 102 = .ok (.ireturn, 1) := by decide +kernel
theorem dX9_note_103 : decode cX9_note 103 = .ok (.bipush (-2), 2) := by decide +kernel
theorem dX9_note_105 : decode cX9_note 105 = .ok (.ireturn, 1) := by decide +kernel
theorem dX9_split_0 : decode cX9_split 0 = .ok (.aload_n 0, 1) := by decide +kernel
theorem dX9_split_1 : decode cX9_split 1 = .ok (.getfield 10, 3) := by decide +kernel
theorem dX9_split_4 : decode cX9_split 4 = .ok (.iload_n 1, 1) := by decide +kernel
theorem dX9_split_5 : decode cX9_split 5 = .ok (.invokevirtual 111, 3) := by decide +kernel
theorem dX9_split_8 : decode cX9_split 8 = .ok (.ifCond .ne 5, 3) := by decide +kernel
theorem dX9_split_11 : decode cX9_split 11 = .ok (.iconst (-1), 1) := by decide +kernel
theorem dX9_split_12 : decode cX9_split 12 = .ok (.ireturn, 1) := by decide +kernel
theorem dX9_split_13 : decode cX9_split 13 = .ok (.iload_n 2, 1) := by decide +kernel
theorem dX9_split_14 : decode cX9_split 14 = .ok (.invokestatic 135, 3) := by decide +kernel
theorem dX9_split_17 : decode cX9_split 17 = .ok (.ifCond .eq 12, 3) := by decide +kernel
theorem dX9_split_20 : decode cX9_split 20 = .ok (.iload_n 3, 1) := by decide +kernel
theorem dX9_split_21 : decode cX9_split 21 = .ok (.ifCond .lt 8, 3) := by decide +kernel
theorem dX9_split_24 : decode cX9_split 24 = .ok (.iload_n 3, 1) := by decide +kernel
theorem dX9_split_25 : decode cX9_split 25 = .ok (.iconst 5, 1) := by decide +kernel
theorem dX9_split_26 : decode cX9_split 26 = .ok (.if_icmp .le 6, 3) := by decide +kernel
theorem dX9_split_29 : decode cX9_split 29 = .ok (.bipush (-2), 2) := by decide +kernel
theorem dX9_split_31 : decode cX9_split 31 = .ok (.ireturn, 1) := by decide +kernel
theorem dX9_split_32 : decode cX9_split 32 = .ok (.aload_n 0, 1) := by decide +kernel
theorem dX9_split_33 : decode cX9_split 33 = .ok (.getfield 43, 3) := by decide +kernel
theorem dX9_split_36 : decode cX9_split 36 = .ok (.aload_n 0, 1) := by decide +kernel
theorem dX9_split_37 : decode cX9_split 37 = .ok (.getfield 10, 3) := by decide +kernel
theorem dX9_split_40 : decode cX9_split 40 = .ok (.iload_n 1, 1) := by decide +kernel
theorem dX9_split_41 : decode cX9_split 41 = .ok (.iload_n 2, 1) := by decide +kernel
theorem dX9_split_42 : decode cX9_split 42 = .ok (.invokevirtual 138, 3) := by decide +kernel
theorem dX9_split_45 : decode cX9_split 45 = .ok (.ifCond .ne 6, 3) := by decide +kernel
theorem dX9_split_48 : decode cX9_split 48 = .ok (.bipush (-4), 2) := by decide +kernel
theorem dX9_split_50 : decode cX9_split 50 = .ok (.ireturn, 1) := by decide +kernel
theorem dX9_split_51 : decode cX9_split 51 = .ok (.iload_n 3, 1) := by decide +kernel
theorem dX9_split_52 : decode cX9_split 52 = .ok (.tableswitch 76 0 4 #[36, 44, 52, 60, 68], 36) := by decide +kernel
theorem dX9_split_88 : decode cX9_split 88 = .ok (.aload_n 0, 1) := by decide +kernel
theorem dX9_split_89 : decode cX9_split 89 = .ok (.getfield 43, 3) := by decide +kernel
theorem dX9_split_92 : decode cX9_split 92 = .ok (.getfield 294, 3) := by decide +kernel
theorem dX9_split_95 : decode cX9_split 95 = .ok (.ireturn, 1) := by decide +kernel
theorem dX9_split_96 : decode cX9_split 96 = .ok (.aload_n 0, 1) := by decide +kernel
theorem dX9_split_97 : decode cX9_split 97 = .ok (.getfield 43, 3) := by decide +kernel
theorem dX9_split_100 : decode cX9_split 100 = .ok (.getfield 297, 3) := by decide +kernel
theorem dX9_split_103 : decode cX9_split 103 = .ok (.ireturn, 1) := by decide +kernel
theorem dX9_split_104 : decode cX9_split 104 = .ok (.aload_n 0, 1) := by decide +kernel
theorem dX9_split_105 : decode cX9_split 105 = .ok (.getfield 43, 3) := by decide +kernel
theorem dX9_split_108 : decode cX9_split 108 = .ok (.getfield 298, 3) := by decide +kernel
theorem dX9_split_111 : decode cX9_split 111 = .ok (.ireturn, 1) := by decide +kernel
theorem dX9_split_112 : decode cX9_split 112 = .ok (.aload_n 0, 1) := by decide +kernel
theorem dX9_split_113 : decode cX9_split 113 = .ok (.getfield 43, 3) := by decide +kernel
theorem dX9_split_116 : decode cX9_split 116 = .ok (.getfield 301, 3) := by decide +kernel
theorem dX9_split_119 : decode cX9_split 119 = .ok (.ireturn, 1) := by decide +kernel
theorem dX9_split_120 : decode cX9_split 120 = .ok (.aload_n 0, 1) := by decide +kernel
theorem dX9_split_121 : decode cX9_split 121 = .ok (.getfield 43, 3) := by decide +kernel
theorem dX9_split_124 : decode cX9_split 124 = .ok (.getfield 302, 3) := by decide +kernel
theorem dX9_split_127 : decode cX9_split 127 = .ok (.ireturn, 1) := by decide +kernel
theorem dX9_split_128 : decode cX9_split 128 = .ok (.aload_n 0, 1) := by decide +kernel
theorem dX9_split_129 : decode cX9_split 129 = .ok (.getfield 43, 3) := by decide +kernel
theorem dX9_split_132 : decode cX9_split 132 = .ok (.getfield 305, 3) := by decide +kernel
theorem dX9_split_135 : decode cX9_split 135 = .ok (.ireturn, 1) := by decide +kernel
theorem dX9_toRepay_0 : decode cX9_toRepay 0 = .ok (.aload_n 0, 1) := by decide +kernel
theorem dX9_toRepay_1 : decode cX9_toRepay 1 = .ok (.getfield 10, 3) := by decide +kernel
theorem dX9_toRepay_4 : decode cX9_toRepay 4 = .ok (.iload_n 1, 1) := by decide +kernel
theorem dX9_toRepay_5 : decode cX9_toRepay 5 = .ok (.invokevirtual 111, 3) := by decide +kernel
theorem dX9_toRepay_8 : decode cX9_toRepay 8 = .ok (.ifCond .ne 5, 3) := by decide +kernel
theorem dX9_toRepay_11 : decode cX9_toRepay 11 = .ok (.iconst (-1), 1) := by decide +kernel
theorem dX9_toRepay_12 : decode cX9_toRepay 12 = .ok (.ireturn, 1) := by decide +kernel
theorem dX9_toRepay_13 : decode cX9_toRepay 13 = .ok (.aload_n 0, 1) := by decide +kernel
theorem dX9_toRepay_14 : decode cX9_toRepay 14 = .ok (.getfield 10, 3) := by decide +kernel
theorem dX9_toRepay_17 : decode cX9_toRepay 17 = .ok (.iload_n 1, 1) := by decide +kernel
theorem dX9_toRepay_18 : decode cX9_toRepay 18 = .ok (.invokevirtual 171, 3) := by decide +kernel
theorem dX9_toRepay_21 : decode cX9_toRepay 21 = .ok (.ifCond .ne 6, 3) := by decide +kernel
theorem dX9_toRepay_24 : decode cX9_toRepay 24 = .ok (.bipush (-4), 2) := by decide +kernel
theorem dX9_toRepay_26 : decode cX9_toRepay 26 = .ok (.ireturn, 1) := by decide +kernel
theorem dX9_toRepay_27 : decode cX9_toRepay 27 = .ok (.aload_n 0, 1) := by decide +kernel
theorem dX9_toRepay_28 : decode cX9_toRepay 28 = .ok (.getfield 10, 3) := by decide +kernel
theorem dX9_toRepay_31 : decode cX9_toRepay 31 = .ok (.getfield 90, 3) := by decide +kernel
theorem dX9_toRepay_34 : decode cX9_toRepay 34 = .ok (.iload_n 1, 1) := by decide +kernel
theorem dX9_toRepay_35 : decode cX9_toRepay 35 = .ok (.aaload, 1) := by decide +kernel
theorem dX9_toRepay_36 : decode cX9_toRepay 36 = .ok (.astore_n 2, 1) := by decide +kernel
theorem dX9_toRepay_37 : decode cX9_toRepay 37 = .ok (.aload_n 2, 1) := by decide +kernel
theorem dX9_toRepay_38 : decode cX9_toRepay 38 = .ok (.getfield 150, 3) := by decide +kernel
theorem dX9_toRepay_41 : decode cX9_toRepay 41 = .ok (.i2l, 1) := by decide +kernel
theorem dX9_toRepay_42 : decode cX9_toRepay 42 = .ok (.aload_n 2, 1) := by decide +kernel
theorem dX9_toRepay_43 : decode cX9_toRepay 43 = .ok (.getfield 156, 3) := by decide +kernel
theorem dX9_toRepay_46 : decode cX9_toRepay 46 = .ok (.i2l, 1) := by decide +kernel
theorem dX9_toRepay_47 : decode cX9_toRepay 47 = .ok (.ladd, 1) := by decide +kernel
theorem dX9_toRepay_48 : decode cX9_toRepay 48 = .ok (.lstore_n 3, 1) := by decide +kernel
theorem dX9_toRepay_49 : decode cX9_toRepay 49 = .ok (.sipush 1000, 3) := by decide +kernel
theorem dX9_toRepay_52 : decode cX9_toRepay 52 = .ok (.aload_n 2, 1) := by decide +kernel
theorem dX9_toRepay_53 : decode cX9_toRepay 53 = .ok (.getfield 190, 3) := by decide +kernel
theorem dX9_toRepay_56 : decode cX9_toRepay 56 = .ok (.invokestatic 308, 3) := by decide +kernel
theorem dX9_toRepay_59 : decode cX9_toRepay 59 = .ok (.isub, 1) := by decide +kernel
theorem dX9_toRepay_60 : decode cX9_toRepay 60 = .ok (.istore 5, 2) := by decide +kernel
theorem dX9_toRepay_62 : decode cX9_toRepay 62 = .ok (.iload 5, 2) := by decide +kernel
theorem dX9_toRepay_64 : decode cX9_toRepay 64 = .ok (.ifCond .gt 6, 3) := by decide +kernel
theorem dX9_toRepay_67 : decode cX9_toRepay 67 = .ok (.bipush (-4), 2) := by decide +kernel
theorem dX9_toRepay_69 : decode cX9_toRepay 69 = .ok (.ireturn, 1) := by decide +kernel
theorem dX9_toRepay_70 : decode cX9_toRepay 70 = .ok (.lload_n 3, 1) := by decide +kernel
theorem dX9_toRepay_71 : decode cX9_toRepay 71 = .ok (.lconst 1, 1) := by decide +kernel
theorem dX9_toRepay_72 : decode cX9_toRepay 72 = .ok (.lsub, 1) := by decide +kernel
theorem dX9_toRepay_73 : decode cX9_toRepay 73 = .ok (.ldc2_w 311, 3) := by decide +kernel
theorem dX9_toRepay_76 : decode cX9_toRepay 76 = .ok (.lmul, 1) := by decide +kernel
theorem dX9_toRepay_77 : decode cX9_toRepay 77 = .ok (.iload 5, 2) := by decide +kernel
theorem dX9_toRepay_79 : decode cX9_toRepay 79 = .ok (.i2l, 1) := by decide +kernel
theorem dX9_toRepay_80 : decode cX9_toRepay 80 = .ok (.ldiv, 1) := by decide +kernel
theorem dX9_toRepay_81 : decode cX9_toRepay 81 = .ok (.l2i, 1) := by decide +kernel
theorem dX9_toRepay_82 : decode cX9_toRepay 82 = .ok (.iconst 1, 1) := by decide +kernel
theorem dX9_toRepay_83 : decode cX9_toRepay 83 = .ok (.iadd, 1) := by decide +kernel
theorem dX9_toRepay_84 : decode cX9_toRepay 84 = .ok (.ireturn, 1) := by decide +kernel
theorem dX9_servicer_0 : decode cX9_servicer 0 = .ok (.iload_n 1, 1) := by decide +kernel
theorem dX9_servicer_1 : decode cX9_servicer 1 = .ok (.invokestatic 184, 3) := by decide +kernel
theorem dX9_servicer_4 : decode cX9_servicer 4 = .ok (.ifCond .ne 5, 3) := by decide +kernel
theorem dX9_servicer_7 : decode cX9_servicer 7 = .ok (.iconst (-1), 1) := by decide +kernel
theorem dX9_servicer_8 : decode cX9_servicer 8 = .ok (.ireturn, 1) := by decide +kernel
theorem dX9_servicer_9 : decode cX9_servicer 9 = .ok (.iload_n 2, 1) := by decide +kernel
theorem dX9_servicer_10 : decode cX9_servicer 10 = .ok (.tableswitch 51 0 2 #[26, 32, 42], 26) := by decide +kernel
theorem dX9_servicer_36 : decode cX9_servicer 36 = .ok (.getstatic 313, 3) := by decide +kernel
theorem dX9_servicer_39 : decode cX9_servicer 39 = .ok (.iload_n 1, 1) := by decide +kernel
theorem dX9_servicer_40 : decode cX9_servicer 40 = .ok (.iaload, 1) := by decide +kernel
theorem dX9_servicer_41 : decode cX9_servicer 41 = .ok (.ireturn, 1) := by decide +kernel
theorem dX9_servicer_42 : decode cX9_servicer 42 = .ok (.aload_n 0, 1) := by decide +kernel
theorem dX9_servicer_43 : decode cX9_servicer 43 = .ok (.getfield 10, 3) := by decide +kernel
theorem dX9_servicer_46 : decode cX9_servicer 46 = .ok (.getfield 317, 3) := by decide +kernel
theorem dX9_servicer_49 : decode cX9_servicer 49 = .ok (.iload_n 1, 1) := by decide +kernel
theorem dX9_servicer_50 : decode cX9_servicer 50 = .ok (.iaload, 1) := by decide +kernel
theorem dX9_servicer_51 : decode cX9_servicer 51 = .ok (.ireturn, 1) := by decide +kernel
theorem dX9_servicer_52 : decode cX9_servicer 52 = .ok (.aload_n 0, 1) := by decide +kernel
theorem dX9_servicer_53 : decode cX9_servicer 53 = .ok (.getfield 10, 3) := by decide +kernel
theorem dX9_servicer_56 : decode cX9_servicer 56 = .ok (.iload_n 1, 1) := by decide +kernel
theorem dX9_servicer_57 : decode cX9_servicer 57 = .ok (.invokevirtual 320, 3) := by decide +kernel
theorem dX9_servicer_60 : decode cX9_servicer 60 = .ok (.ireturn, 1) := by decide +kernel
theorem dX9_servicer_61 : decode cX9_servicer 61 = .ok (.bipush (-2), 2) := by decide +kernel
theorem dX9_servicer_63 : decode cX9_servicer 63 = .ok (.ireturn, 1) := by decide +kernel
theorem dX9_count_0 : decode cX9_count 0 = .ok (.iload_n 1, 1) := by decide +kernel
theorem dX9_count_1 : decode cX9_count 1 = .ok (.iconst 3, 1) := by decide +kernel
theorem dX9_count_2 : decode cX9_count 2 = .ok (.if_icmp .lt 20, 3) := by decide +kernel
theorem dX9_count_5 : decode cX9_count 5 = .ok (.iload_n 1, 1) := by decide +kernel
theorem dX9_count_6 : decode cX9_count 6 = .ok (.bipush 7, 2) := by decide +kernel
theorem dX9_count_8 : decode cX9_count 8 = .ok (.if_icmp .gt 14, 3) := by decide +kernel
theorem dX9_count_11 : decode cX9_count 11 = .ok (.aload_n 0, 1) := by decide +kernel
theorem dX9_count_12 : decode cX9_count 12 = .ok (.getfield 10, 3) := by decide +kernel
theorem dX9_count_15 : decode cX9_count 15 = .ok (.iload_n 1, 1) := by decide +kernel
theorem dX9_count_16 : decode cX9_count 16 = .ok (.iconst 3, 1) := by decide +kernel
theorem dX9_count_17 : decode cX9_count 17 = .ok (.isub, 1) := by decide +kernel
theorem dX9_count_18 : decode cX9_count 18 = .ok (.invokevirtual 323, 3) := by decide +kernel
theorem dX9_count_21 : decode cX9_count 21 = .ok (.ireturn, 1) := by decide +kernel
theorem dX9_count_22 : decode cX9_count 22 = .ok (.iload_n 1, 1) := by decide +kernel
theorem dX9_count_23 : decode cX9_count 23 = .ok (.tableswitch 189 0 17 #[85, 93, 101, 189, 189, 189, 189, 189, 109, 117, 125, 133, 141, 149, 157, 165, 173, 181], 85) := by decide +kernel
theorem dX9_count_108 : decode cX9_count 108 = .ok (.aload_n 0, 1) := by decide +kernel
theorem dX9_count_109 : decode cX9_count 109 = .ok (.getfield 10, 3) := by decide +kernel
theorem dX9_count_112 : decode cX9_count 112 = .ok (.getfield 216, 3) := by decide +kernel
theorem dX9_count_115 : decode cX9_count 115 = .ok (.ireturn, 1) := by decide +kernel
theorem dX9_count_116 : decode cX9_count 116 = .ok (.aload_n 0, 1) := by decide +kernel
theorem dX9_count_117 : decode cX9_count 117 = .ok (.getfield 10, 3) := by decide +kernel
theorem dX9_count_120 : decode cX9_count 120 = .ok (.getfield 54, 3) := by decide +kernel
theorem dX9_count_123 : decode cX9_count 123 = .ok (.ireturn, 1) := by decide +kernel
theorem dX9_count_124 : decode cX9_count 124 = .ok (.aload_n 0, 1) := by decide +kernel
theorem dX9_count_125 : decode cX9_count 125 = .ok (.getfield 10, 3) := by decide +kernel
theorem dX9_count_128 : decode cX9_count 128 = .ok (.getfield 87, 3) := by decide +kernel
theorem dX9_count_131 : decode cX9_count 131 = .ok (.ireturn, 1) := by decide +kernel
theorem dX9_count_132 : decode cX9_count 132 = .ok (.aload_n 0, 1) := by decide +kernel
theorem dX9_count_133 : decode cX9_count 133 = .ok (.getfield 10, 3) := by decide +kernel
theorem dX9_count_136 : decode cX9_count 136 = .ok (.getfield 262, 3) := by decide +kernel
theorem dX9_count_139 : decode cX9_count 139 = .ok (.ireturn, 1) := by decide +kernel
theorem dX9_count_140 : decode cX9_count 140 = .ok (.aload_n 0, 1) := by decide +kernel
theorem dX9_count_141 : decode cX9_count 141 = .ok (.getfield 10, 3) := by decide +kernel
theorem dX9_count_144 : decode cX9_count 144 = .ok (.getfield 178, 3) := by decide +kernel
theorem dX9_count_147 : decode cX9_count 147 = .ok (.ireturn, 1) := by decide +kernel
theorem dX9_count_148 : decode cX9_count 148 = .ok (.aload_n 0, 1) := by decide +kernel
theorem dX9_count_149 : decode cX9_count 149 = .ok (.getfield 10, 3) := by decide +kernel
theorem dX9_count_152 : decode cX9_count 152 = .ok (.getfield 80, 3) := by decide +kernel
theorem dX9_count_155 : decode cX9_count 155 = .ok (.ireturn, 1) := by decide +kernel
theorem dX9_count_156 : decode cX9_count 156 = .ok (.aload_n 0, 1) := by decide +kernel
theorem dX9_count_157 : decode cX9_count 157 = .ok (.getfield 10, 3) := by decide +kernel
theorem dX9_count_160 : decode cX9_count 160 = .ok (.invokevirtual 326, 3) := by decide +kernel
theorem dX9_count_163 : decode cX9_count 163 = .ok (.ireturn, 1) := by decide +kernel
theorem dX9_count_164 : decode cX9_count 164 = .ok (.aload_n 0, 1) := by decide +kernel
theorem dX9_count_165 : decode cX9_count 165 = .ok (.getfield 10, 3) := by decide +kernel
theorem dX9_count_168 : decode cX9_count 168 = .ok (.invokevirtual 329, 3) := by decide +kernel
theorem dX9_count_171 : decode cX9_count 171 = .ok (.ireturn, 1) := by decide +kernel
theorem dX9_count_172 : decode cX9_count 172 = .ok (.aload_n 0, 1) := by decide +kernel
theorem dX9_count_173 : decode cX9_count 173 = .ok (.getfield 10, 3) := by decide +kernel
theorem dX9_count_176 : decode cX9_count 176 = .ok (.invokevirtual 332, 3) := by decide +kernel
theorem dX9_count_179 : decode cX9_count 179 = .ok (.ireturn, 1) := by decide +kernel
theorem dX9_count_180 : decode cX9_count 180 = .ok (.aload_n 0, 1) := by decide +kernel
theorem dX9_count_181 : decode cX9_count 181 = .ok (.getfield 10, 3) := by decide +kernel
theorem dX9_count_184 : decode cX9_count 184 = .ok (.invokevirtual 222, 3) := by decide +kernel
theorem dX9_count_187 : decode cX9_count 187 = .ok (.ireturn, 1) := by decide +kernel
theorem dX9_count_188 : decode cX9_count 188 = .ok (.aload_n 0, 1) := by decide +kernel
theorem dX9_count_189 : decode cX9_count 189 = .ok (.getfield 10, 3) := by decide +kernel
theorem dX9_count_192 : decode cX9_count 192 = .ok (.invokevirtual 335, 3) := by decide +kernel
theorem dX9_count_195 : decode cX9_count 195 = .ok (.ireturn, 1) := by decide +kernel
theorem dX9_count_196 : decode cX9_count 196 = .ok (.aload_n 0, 1) := by decide +kernel
theorem dX9_count_197 : decode cX9_count 197 = .ok (.getfield 29, 3) := by decide +kernel
theorem dX9_count_200 : decode cX9_count 200 = .ok (.getfield 256, 3) := by decide +kernel
theorem dX9_count_203 : decode cX9_count 203 = .ok (.ireturn, 1) := by decide +kernel
theorem dX9_count_204 : decode cX9_count 204 = .ok (.aload_n 0, 1) := by decide +kernel
theorem dX9_count_205 : decode cX9_count 205 = .ok (.getfield 36, 3) := by decide +kernel
theorem dX9_count_208 : decode cX9_count 208 = .ok (.getfield 226, 3) := by decide +kernel
theorem dX9_count_211 : decode cX9_count 211 = .ok (.ireturn, 1) := by decide +kernel
theorem dX9_count_212 : decode cX9_count 212 = .ok (.bipush (-2), 2) := by decide +kernel
theorem dX9_count_214 : decode cX9_count 214 = .ok (.ireturn, 1) := by decide +kernel
theorem dX9_isServicer_0 : decode cX9_isServicer 0 = .ok (.iload_n 0, 1) := by decide +kernel
theorem dX9_isServicer_1 : decode cX9_isServicer 1 = .ok (.ifCond .lt 15, 3) := by decide +kernel
theorem dX9_isServicer_4 : decode cX9_isServicer 4 = .ok (.iload_n 0, 1) := by decide +kernel
theorem dX9_isServicer_5 : decode cX9_isServicer 5 = .ok (.getstatic 313, 3) := by decide +kernel
theorem dX9_isServicer_8 : decode cX9_isServicer 8 = .ok (.arraylength, 1) := by decide +kernel
theorem dX9_isServicer_9 : decode cX9_isServicer 9 = .ok (.if_icmp .ge 7, 3) := by decide +kernel
theorem dX9_isServicer_12 : decode cX9_isServicer 12 = .ok (.iconst 1, 1) := by decide +kernel
theorem dX9_isServicer_13 : decode cX9_isServicer 13 = .ok (.goto 4, 3) := by decide +kernel
theorem dX9_isServicer_16 : decode cX9_isServicer 16 = .ok (.iconst 0, 1) := by decide +kernel
theorem dX9_isServicer_17 : decode cX9_isServicer 17 = .ok (.ireturn, 1) := by decide +kernel
theorem dX9_isLoanMonths_0 : decode cX9_isLoanMonths 0 = .ok (.iload_n 0, 1) := by decide +kernel
theorem dX9_isLoanMonths_1 : decode cX9_isLoanMonths 1 = .ok (.iconst 1, 1) := by decide +kernel
theorem dX9_isLoanMonths_2 : decode cX9_isLoanMonths 2 = .ok (.if_icmp .lt 13, 3) := by decide +kernel
theorem dX9_isLoanMonths_5 : decode cX9_isLoanMonths 5 = .ok (.iload_n 0, 1) := by decide +kernel
theorem dX9_isLoanMonths_6 : decode cX9_isLoanMonths 6 = .ok (.bipush 36, 2) := by decide +kernel
theorem dX9_isLoanMonths_8 : decode cX9_isLoanMonths 8 = .ok (.if_icmp .gt 7, 3) := by decide +kernel
theorem dX9_isLoanMonths_11 : decode cX9_isLoanMonths 11 = .ok (.iconst 1, 1) := by decide +kernel
theorem dX9_isLoanMonths_12 : decode cX9_isLoanMonths 12 = .ok (.goto 4, 3) := by decide +kernel
theorem dX9_isLoanMonths_15 : decode cX9_isLoanMonths 15 = .ok (.iconst 0, 1) := by decide +kernel
theorem dX9_isLoanMonths_16 : decode cX9_isLoanMonths 16 = .ok (.ireturn, 1) := by decide +kernel
theorem dX9_isPayment_0 : decode cX9_isPayment 0 = .ok (.iload_n 0, 1) := by decide +kernel
theorem dX9_isPayment_1 : decode cX9_isPayment 1 = .ok (.iconst 1, 1) := by decide +kernel
theorem dX9_isPayment_2 : decode cX9_isPayment 2 = .ok (.if_icmp .lt 14, 3) := by decide +kernel
theorem dX9_isPayment_5 : decode cX9_isPayment 5 = .ok (.iload_n 0, 1) := by decide +kernel
theorem dX9_isPayment_6 : decode cX9_isPayment 6 = .ok (.ldc_w 338, 3) := by decide +kernel
theorem dX9_isPayment_9 : decode cX9_isPayment 9 = .ok (.if_icmp .gt 7, 3) := by decide +kernel
theorem dX9_isPayment_12 : decode cX9_isPayment 12 = .ok (.iconst 1, 1) := by decide +kernel
theorem dX9_isPayment_13 : decode cX9_isPayment 13 = .ok (.goto 4, 3) := by decide +kernel
theorem dX9_isPayment_16 : decode cX9_isPayment 16 = .ok (.iconst 0, 1) := by decide +kernel
theorem dX9_isPayment_17 : decode cX9_isPayment 17 = .ok (.ireturn, 1) := by decide +kernel
theorem dX9_isPrice_0 : decode cX9_isPrice 0 = .ok (.iload_n 0, 1) := by decide +kernel
theorem dX9_isPrice_1 : decode cX9_isPrice 1 = .ok (.ifCond .lt 13, 3) := by decide +kernel
theorem dX9_isPrice_4 : decode cX9_isPrice 4 = .ok (.iload_n 0, 1) := by decide +kernel
theorem dX9_isPrice_5 : decode cX9_isPrice 5 = .ok (.ldc 83, 2) := by decide +kernel
theorem dX9_isPrice_7 : decode cX9_isPrice 7 = .ok (.if_icmp .gt 7, 3) := by decide +kernel
theorem dX9_isPrice_10 : decode cX9_isPrice 10 = .ok (.iconst 1, 1) := by decide +kernel
theorem dX9_isPrice_11 : decode cX9_isPrice 11 = .ok (.goto 4, 3) := by decide +kernel
theorem dX9_isPrice_14 : decode cX9_isPrice 14 = .ok (.iconst 0, 1) := by decide +kernel
theorem dX9_isPrice_15 : decode cX9_isPrice 15 = .ok (.ireturn, 1) := by decide +kernel
theorem dX9_feeOf_0 : decode cX9_feeOf 0 = .ok (.iload_n 0, 1) := by decide +kernel
theorem dX9_feeOf_1 : decode cX9_feeOf 1 = .ok (.invokestatic 184, 3) := by decide +kernel
theorem dX9_feeOf_4 : decode cX9_feeOf 4 = .ok (.ifCond .eq 11, 3) := by decide +kernel
theorem dX9_feeOf_7 : decode cX9_feeOf 7 = .ok (.getstatic 313, 3) := by decide +kernel
theorem dX9_feeOf_10 : decode cX9_feeOf 10 = .ok (.iload_n 0, 1) := by decide +kernel
theorem dX9_feeOf_11 : decode cX9_feeOf 11 = .ok (.iaload, 1) := by decide +kernel
theorem dX9_feeOf_12 : decode cX9_feeOf 12 = .ok (.goto 4, 3) := by decide +kernel
theorem dX9_feeOf_15 : decode cX9_feeOf 15 = .ok (.iconst 0, 1) := by decide +kernel
theorem dX9_feeOf_16 : decode cX9_feeOf 16 = .ok (.ireturn, 1) := by decide +kernel
theorem dX9_dividedUp_0 : decode cX9_dividedUp 0 = .ok (.iload_n 1, 1) := by decide +kernel
theorem dX9_dividedUp_1 : decode cX9_dividedUp 1 = .ok (.iconst 1, 1) := by decide +kernel
theorem dX9_dividedUp_2 : decode cX9_dividedUp 2 = .ok (.if_icmp .ge 7, 3) := by decide +kernel
theorem dX9_dividedUp_5 : decode cX9_dividedUp 5 = .ok (.iload_n 0, 1) := by decide +kernel
theorem dX9_dividedUp_6 : decode cX9_dividedUp 6 = .ok (.goto 10, 3) := by decide +kernel
theorem dX9_dividedUp_9 : decode cX9_dividedUp 9 = .ok (.iload_n 0, 1) := by decide +kernel
theorem dX9_dividedUp_10 : decode cX9_dividedUp 10 = .ok (.iload_n 1, 1) := by decide +kernel
theorem dX9_dividedUp_11 : decode cX9_dividedUp 11 = .ok (.iadd, 1) := by decide +kernel
theorem dX9_dividedUp_12 : decode cX9_dividedUp 12 = .ok (.iconst 1, 1) := by decide +kernel
theorem dX9_dividedUp_13 : decode cX9_dividedUp 13 = .ok (.isub, 1) := by decide +kernel
theorem dX9_dividedUp_14 : decode cX9_dividedUp 14 = .ok (.iload_n 1, 1) := by decide +kernel
theorem dX9_dividedUp_15 : decode cX9_dividedUp 15 = .ok (.idiv, 1) := by decide +kernel
theorem dX9_dividedUp_16 : decode cX9_dividedUp 16 = .ok (.ireturn, 1) := by decide +kernel
end
section
theorem dL_cell_0 : decode cL_cell 0 = .ok (.iload_n 1, 1) := by decide +kernel
theorem dL_cell_1 : decode cL_cell 1 = .ok (.aload_n 0, 1) := by decide +kernel
theorem dL_cell_2 : decode cL_cell 2 = .ok (.arraylength, 1) := by decide +kernel
theorem dL_cell_3 : decode cL_cell 3 = .ok (.if_icmp .ge 9, 3) := by decide +kernel
theorem dL_cell_6 : decode cL_cell 6 = .ok (.aload_n 0, 1) := by decide +kernel
theorem dL_cell_7 : decode cL_cell 7 = .ok (.iload_n 1, 1) := by decide +kernel
theorem dL_cell_8 : decode cL_cell 8 = .ok (.iaload, 1) := by decide +kernel
theorem dL_cell_9 : decode cL_cell 9 = .ok (.goto 9, 3) := by decide +kernel
theorem dL_cell_12 : decode cL_cell 12 = .ok (.ldc 7, 2) := by decide +kernel
theorem dL_cell_14 : decode cL_cell 14 = .ok (.iload_n 1, 1) := by decide +kernel
theorem dL_cell_15 : decode cL_cell 15 = .ok (.iconst 1, 1) := by decide +kernel
theorem dL_cell_16 : decode cL_cell 16 = .ok (.iadd, 1) := by decide +kernel
theorem dL_cell_17 : decode cL_cell 17 = .ok (.imul, 1) := by decide +kernel
theorem dL_cell_18 : decode cL_cell 18 = .ok (.ireturn, 1) := by decide +kernel
theorem dL_low_0 : decode cL_low 0 = .ok (.iload_n 0, 1) := by decide +kernel
theorem dL_low_1 : decode cL_low 1 = .ok (.ldc 8, 2) := by decide +kernel
theorem dL_low_3 : decode cL_low 3 = .ok (.iand, 1) := by decide +kernel
theorem dL_low_4 : decode cL_low 4 = .ok (.iload_n 1, 1) := by decide +kernel
theorem dL_low_5 : decode cL_low 5 = .ok (.irem, 1) := by decide +kernel
theorem dL_low_6 : decode cL_low 6 = .ok (.ireturn, 1) := by decide +kernel
theorem dL_fee_0 : decode cL_fee 0 = .ok (.iload_n 0, 1) := by decide +kernel
theorem dL_fee_1 : decode cL_fee 1 = .ok (.ifCond .ne 7, 3) := by decide +kernel
theorem dL_fee_4 : decode cL_fee 4 = .ok (.iconst 5, 1) := by decide +kernel
theorem dL_fee_5 : decode cL_fee 5 = .ok (.goto 9, 3) := by decide +kernel
theorem dL_fee_8 : decode cL_fee 8 = .ok (.bipush 10, 2) := by decide +kernel
theorem dL_fee_10 : decode cL_fee 10 = .ok (.iload_n 0, 1) := by decide +kernel
theorem dL_fee_11 : decode cL_fee 11 = .ok (.iconst 1, 1) := by decide +kernel
theorem dL_fee_12 : decode cL_fee 12 = .ok (.isub, 1) := by decide +kernel
theorem dL_fee_13 : decode cL_fee 13 = .ok (.ishl, 1) := by decide +kernel
theorem dL_fee_14 : decode cL_fee 14 = .ok (.ireturn, 1) := by decide +kernel
theorem dL_principals_0 : decode cL_principals 0 = .ok (.iconst 0, 1) := by decide +kernel
theorem dL_principals_1 : decode cL_principals 1 = .ok (.istore 4, 2) := by decide +kernel
theorem dL_principals_3 : decode cL_principals 3 = .ok (.iconst 0, 1) := by decide +kernel
theorem dL_principals_4 : decode cL_principals 4 = .ok (.istore 5, 2) := by decide +kernel
theorem dL_principals_6 : decode cL_principals 6 = .ok (.iload 5, 2) := by decide +kernel
theorem dL_principals_8 : decode cL_principals 8 = .ok (.aload_n 0, 1) := by decide +kernel
theorem dL_principals_9 : decode cL_principals 9 = .ok (.iconst 2, 1) := by decide +kernel
theorem dL_principals_10 : decode cL_principals 10 = .ok (.iaload, 1) := by decide +kernel
theorem dL_principals_11 : decode cL_principals 11 = .ok (.if_icmp .ge 57, 3) := by decide +kernel
theorem dL_principals_14 : decode cL_principals 14 = .ok (.iload 4, 2) := by decide +kernel
theorem dL_principals_16 : decode cL_principals 16 = .ok (.aload_n 1, 1) := by decide +kernel
theorem dL_principals_17 : decode cL_principals 17 = .ok (.bipush 6, 2) := by decide +kernel
theorem dL_principals_19 : decode cL_principals 19 = .ok (.iload 5, 2) := by decide +kernel
theorem dL_principals_21 : decode cL_principals 21 = .ok (.imul, 1) := by decide +kernel
theorem dL_principals_22 : decode cL_principals 22 = .ok (.iconst 1, 1) := by decide +kernel
theorem dL_principals_23 : decode cL_principals 23 = .ok (.iadd, 1) := by decide +kernel
theorem dL_principals_24 : decode cL_principals 24 = .ok (.iaload, 1) := by decide +kernel
theorem dL_principals_25 : decode cL_principals 25 = .ok (.iload_n 2, 1) := by decide +kernel
theorem dL_principals_26 : decode cL_principals 26 = .ok (.if_icmp .ne 32, 3) := by decide +kernel
theorem dL_principals_29 : decode cL_principals 29 = .ok (.iload_n 3, 1) := by decide +kernel
theorem dL_principals_30 : decode cL_principals 30 = .ok (.ifCond .lt 16, 3) := by decide +kernel
theorem dL_principals_33 : decode cL_principals 33 = .ok (.aload_n 1, 1) := by decide +kernel
theorem dL_principals_34 : decode cL_principals 34 = .ok (.bipush 6, 2) := by decide +kernel
theorem dL_principals_36 : decode cL_principals 36 = .ok (.iload 5, 2) := by decide +kernel
theorem dL_principals_38 : decode cL_principals 38 = .ok (.imul, 1) := by decide +kernel
theorem dL_principals_39 : decode cL_principals 39 = .ok (.iconst 2, 1) := by decide +kernel
theorem dL_principals_40 : decode cL_principals 40 = .ok (.iadd, 1) := by decide +kernel
theorem dL_principals_41 : decode cL_principals 41 = .ok (.iaload, 1) := by decide +kernel
theorem dL_principals_42 : decode cL_principals 42 = .ok (.iload_n 3, 1) := by decide +kernel
theorem dL_principals_43 : decode cL_principals 43 = .ok (.if_icmp .ne 15, 3) := by decide +kernel
theorem dL_principals_46 : decode cL_principals 46 = .ok (.aload_n 1, 1) := by decide +kernel
theorem dL_principals_47 : decode cL_principals 47 = .ok (.bipush 6, 2) := by decide +kernel
theorem dL_principals_49 : decode cL_principals 49 = .ok (.iload 5, 2) := by decide +kernel
theorem dL_principals_51 : decode cL_principals 51 = .ok (.imul, 1) := by decide +kernel
theorem dL_principals_52 : decode cL_principals 52 = .ok (.iconst 3, 1) := by decide +kernel
theorem dL_principals_53 : decode cL_principals 53 = .ok (.iadd, 1) := by decide +kernel
theorem dL_principals_54 : decode cL_principals 54 = .ok (.iaload, 1) := by decide +kernel
theorem dL_principals_55 : decode cL_principals 55 = .ok (.goto 4, 3) := by decide +kernel
theorem dL_principals_58 : decode cL_principals 58 = .ok (.iconst 0, 1) := by decide +kernel
theorem dL_principals_59 : decode cL_principals 59 = .ok (.iadd, 1) := by decide +kernel
theorem dL_principals_60 : decode cL_principals 60 = .ok (.istore 4, 2) := by decide +kernel
theorem dL_principals_62 : decode cL_principals 62 = .ok (.iinc 5 1, 3) := by decide +kernel
theorem dL_principals_65 : decode cL_principals 65 = .ok (.goto (-59), 3) := by decide +kernel
theorem dL_principals_68 : decode cL_principals 68 = .ok (.iload 4, 2) := by decide +kernel
theorem dL_principals_70 : decode cL_principals 70 = .ok (.ireturn, 1) := by decide +kernel
theorem dL_share_0 : decode cL_share 0 = .ok (.aload_n 0, 1) := by decide +kernel
theorem dL_share_1 : decode cL_share 1 = .ok (.aload_n 1, 1) := by decide +kernel
theorem dL_share_2 : decode cL_share 2 = .ok (.iload_n 2, 1) := by decide +kernel
theorem dL_share_3 : decode cL_share 3 = .ok (.iload_n 3, 1) := by decide +kernel
theorem dL_share_4 : decode cL_share 4 = .ok (.invokestatic 9, 3) := by decide +kernel
theorem dL_share_7 : decode cL_share 7 = .ok (.istore 6, 2) := by decide +kernel
theorem dL_share_9 : decode cL_share 9 = .ok (.iconst 0, 1) := by decide +kernel
theorem dL_share_10 : decode cL_share 10 = .ok (.istore 7, 2) := by decide +kernel
theorem dL_share_12 : decode cL_share 12 = .ok (.iconst 0, 1) := by decide +kernel
theorem dL_share_13 : decode cL_share 13 = .ok (.istore 8, 2) := by decide +kernel
theorem dL_share_15 : decode cL_share 15 = .ok (.iload 8, 2) := by decide +kernel
theorem dL_share_17 : decode cL_share 17 = .ok (.aload_n 0, 1) := by decide +kernel
theorem dL_share_18 : decode cL_share 18 = .ok (.iconst 2, 1) := by decide +kernel
theorem dL_share_19 : decode cL_share 19 = .ok (.iaload, 1) := by decide +kernel
theorem dL_share_20 : decode cL_share 20 = .ok (.if_icmp .ge 110, 3) := by decide +kernel
theorem dL_share_23 : decode cL_share 23 = .ok (.aload_n 1, 1) := by decide +kernel
theorem dL_share_24 : decode cL_share 24 = .ok (.bipush 6, 2) := by decide +kernel
theorem dL_share_26 : decode cL_share 26 = .ok (.iload 8, 2) := by decide +kernel
theorem dL_share_28 : decode cL_share 28 = .ok (.imul, 1) := by decide +kernel
theorem dL_share_29 : decode cL_share 29 = .ok (.iconst 1, 1) := by decide +kernel
theorem dL_share_30 : decode cL_share 30 = .ok (.iadd, 1) := by decide +kernel
theorem dL_share_31 : decode cL_share 31 = .ok (.iaload, 1) := by decide +kernel
theorem dL_share_32 : decode cL_share 32 = .ok (.iload_n 2, 1) := by decide +kernel
theorem dL_share_33 : decode cL_share 33 = .ok (.if_icmp .ne 36, 3) := by decide +kernel
theorem dL_share_36 : decode cL_share 36 = .ok (.iload_n 3, 1) := by decide +kernel
theorem dL_share_37 : decode cL_share 37 = .ok (.ifCond .lt 16, 3) := by decide +kernel
theorem dL_share_40 : decode cL_share 40 = .ok (.aload_n 1, 1) := by decide +kernel
theorem dL_share_41 : decode cL_share 41 = .ok (.bipush 6, 2) := by decide +kernel
theorem dL_share_43 : decode cL_share 43 = .ok (.iload 8, 2) := by decide +kernel
theorem dL_share_45 : decode cL_share 45 = .ok (.imul, 1) := by decide +kernel
theorem dL_share_46 : decode cL_share 46 = .ok (.iconst 2, 1) := by decide +kernel
theorem dL_share_47 : decode cL_share 47 = .ok (.iadd, 1) := by decide +kernel
theorem dL_share_48 : decode cL_share 48 = .ok (.iaload, 1) := by decide +kernel
theorem dL_share_49 : decode cL_share 49 = .ok (.iload_n 3, 1) := by decide +kernel
theorem dL_share_50 : decode cL_share 50 = .ok (.if_icmp .ne 19, 3) := by decide +kernel
theorem dL_share_53 : decode cL_share 53 = .ok (.aload_n 1, 1) := by decide +kernel
theorem dL_share_54 : decode cL_share 54 = .ok (.bipush 6, 2) := by decide +kernel
theorem dL_share_56 : decode cL_share 56 = .ok (.iload 8, 2) := by decide +kernel
theorem dL_share_58 : decode cL_share 58 = .ok (.imul, 1) := by decide +kernel
theorem dL_share_59 : decode cL_share 59 = .ok (.iconst 3, 1) := by decide +kernel
theorem dL_share_60 : decode cL_share 60 = .ok (.iadd, 1) := by decide +kernel
theorem dL_share_61 : decode cL_share 61 = .ok (.iaload, 1) := by decide +kernel
theorem dL_share_62 : decode cL_share 62 = .ok (.ifCond .le 7, 3) := by decide +kernel
theorem dL_share_65 : decode cL_share 65 = .ok (.iconst 1, 1) := by decide +kernel
theorem dL_share_66 : decode cL_share 66 = .ok (.goto 4, 3) := by decide +kernel
theorem dL_share_69 : decode cL_share 69 = .ok (.iconst 0, 1) := by decide +kernel
theorem dL_share_70 : decode cL_share 70 = .ok (.istore 9, 2) := by decide +kernel
theorem dL_share_72 : decode cL_share 72 = .ok (.aload 5, 2) := by decide +kernel
theorem dL_share_74 : decode cL_share 74 = .ok (.iload 8, 2) := by decide +kernel
theorem dL_share_76 : decode cL_share 76 = .ok (.iload 9, 2) := by decide +kernel
theorem dL_share_78 : decode cL_share 78 = .ok (.ifCond .eq 25, 3) := by decide +kernel
theorem dL_share_81 : decode cL_share 81 = .ok (.iload 4, 2) := by decide +kernel
theorem dL_share_83 : decode cL_share 83 = .ok (.i2l, 1) := by decide +kernel
theorem dL_share_84 : decode cL_share 84 = .ok (.aload_n 1, 1) := by decide +kernel
theorem dL_share_85 : decode cL_share 85 = .ok (.bipush 6, 2) := by decide +kernel
theorem dL_share_87 : decode cL_share 87 = .ok (.iload 8, 2) := by decide +kernel
theorem dL_share_89 : decode cL_share 89 = .ok (.imul, 1) := by decide +kernel
theorem dL_share_90 : decode cL_share 90 = .ok (.iconst 3, 1) := by decide +kernel
theorem dL_share_91 : decode cL_share 91 = .ok (.iadd, 1) := by decide +kernel
theorem dL_share_92 : decode cL_share 92 = .ok (.iaload, 1) := by decide +kernel
theorem dL_share_93 : decode cL_share 93 = .ok (.i2l, 1) := by decide +kernel
theorem dL_share_94 : decode cL_share 94 = .ok (.lmul, 1) := by decide +kernel
theorem dL_share_95 : decode cL_share 95 = .ok (.iload 6, 2) := by decide +kernel
theorem dL_share_97 : decode cL_share 97 = .ok (.i2l, 1) := by decide +kernel
theorem dL_share_98 : decode cL_share 98 = .ok (.ldiv, 1) := by decide +kernel
theorem dL_share_99 : decode cL_share 99 = .ok (.l2i, 1) := by decide +kernel
theorem dL_share_100 : decode cL_share 100 = .ok (.goto 4, 3) := by decide +kernel
theorem dL_share_103 : decode cL_share 103 = .ok (.iconst (-1), 1) := by decide +kernel
theorem dL_share_104 : decode cL_share 104 = .ok (.iastore, 1) := by decide +kernel
theorem dL_share_105 : decode cL_share 105 = .ok (.iload 7, 2) := by decide +kernel
theorem dL_share_107 : decode cL_share 107 = .ok (.iload 9, 2) := by decide +kernel
theorem dL_share_109 : decode cL_share 109 = .ok (.ifCond .eq 11, 3) := by decide +kernel
theorem dL_share_112 : decode cL_share 112 = .ok (.aload 5, 2) := by decide +kernel
theorem dL_share_114 : decode cL_share 114 = .ok (.iload 8, 2) := by decide +kernel
theorem dL_share_116 : decode cL_share 116 = .ok (.iaload, 1) := by decide +kernel
theorem dL_share_117 : decode cL_share 117 = .ok (.goto 4, 3) := by decide +kernel
theorem dL_share_120 : decode cL_share 120 = .ok (.iconst 0, 1) := by decide +kernel
theorem dL_share_121 : decode cL_share 121 = .ok (.iadd, 1) := by decide +kernel
theorem dL_share_122 : decode cL_share 122 = .ok (.istore 7, 2) := by decide +kernel
theorem dL_share_124 : decode cL_share 124 = .ok (.iinc 8 1, 3) := by decide +kernel
theorem dL_share_127 : decode cL_share 127 = .ok (.goto (-112), 3) := by decide +kernel
theorem dL_share_130 : decode cL_share 130 = .ok (.iconst 0, 1) := by decide +kernel
theorem dL_share_131 : decode cL_share 131 = .ok (.istore 8, 2) := by decide +kernel
theorem dL_share_133 : decode cL_share 133 = .ok (.iload 8, 2) := by decide +kernel
theorem dL_share_135 : decode cL_share 135 = .ok (.aload_n 0, 1) := by decide +kernel
theorem dL_share_136 : decode cL_share 136 = .ok (.iconst 2, 1) := by decide +kernel
theorem dL_share_137 : decode cL_share 137 = .ok (.iaload, 1) := by decide +kernel
theorem dL_share_138 : decode cL_share 138 = .ok (.if_icmp .ge 45, 3) := by decide +kernel
theorem dL_share_141 : decode cL_share 141 = .ok (.aload 5, 2) := by decide +kernel
theorem dL_share_143 : decode cL_share 143 = .ok (.iload 8, 2) := by decide +kernel
theorem dL_share_145 : decode cL_share 145 = .ok (.iaload, 1) := by decide +kernel
theorem dL_share_146 : decode cL_share 146 = .ok (.ifCond .ge 12, 3) := by decide +kernel
theorem dL_share_149 : decode cL_share 149 = .ok (.aload 5, 2) := by decide +kernel
theorem dL_share_151 : decode cL_share 151 = .ok (.iload 8, 2) := by decide +kernel
theorem dL_share_153 : decode cL_share 153 = .ok (.iconst 0, 1) := by decide +kernel
theorem dL_share_154 : decode cL_share 154 = .ok (.iastore, 1) := by decide +kernel
theorem dL_share_155 : decode cL_share 155 = .ok (.goto 22, 3) := by decide +kernel
theorem dL_share_158 : decode cL_share 158 = .ok (.iload 7, 2) := by decide +kernel
theorem dL_share_160 : decode cL_share 160 = .ok (.iload 4, 2) := by decide +kernel
theorem dL_share_162 : decode cL_share 162 = .ok (.if_icmp .ge 15, 3) := by decide +kernel
theorem dL_share_165 : decode cL_share 165 = .ok (.aload 5, 2) := by decide +kernel
theorem dL_share_167 : decode cL_share 167 = .ok (.iload 8, 2) := by decide +kernel
theorem dL_share_169 : decode cL_share 169 = .ok (.dup2, 1) := by decide +kernel
theorem dL_share_170 : decode cL_share 170 = .ok (.iaload, 1) := by decide +kernel
theorem dL_share_171 : decode cL_share 171 = .ok (.iconst 1, 1) := by decide +kernel
theorem dL_share_172 : decode cL_share 172 = .ok (.iadd, 1) := by decide +kernel
theorem dL_share_173 : decode cL_share 173 = .ok (.iastore, 1) := by decide +kernel
theorem dL_share_174 : decode cL_share 174 = .ok (.iinc 7 1, 3) := by decide +kernel
theorem dL_share_177 : decode cL_share 177 = .ok (.iinc 8 1, 3) := by decide +kernel
theorem dL_share_180 : decode cL_share 180 = .ok (.goto (-47), 3) := by decide +kernel
theorem dL_share_183 : decode cL_share 183 = .ok (.return_, 1) := by decide +kernel
theorem dL_repays_0 : decode cL_repays 0 = .ok (.aload_n 0, 1) := by decide +kernel
theorem dL_repays_1 : decode cL_repays 1 = .ok (.aload_n 2, 1) := by decide +kernel
theorem dL_repays_2 : decode cL_repays 2 = .ok (.iload_n 3, 1) := by decide +kernel
theorem dL_repays_3 : decode cL_repays 3 = .ok (.iload 4, 2) := by decide +kernel
theorem dL_repays_5 : decode cL_repays 5 = .ok (.invokestatic 9, 3) := by decide +kernel
theorem dL_repays_8 : decode cL_repays 8 = .ok (.istore 7, 2) := by decide +kernel
theorem dL_repays_10 : decode cL_repays 10 = .ok (.iload 5, 2) := by decide +kernel
theorem dL_repays_12 : decode cL_repays 12 = .ok (.iload 7, 2) := by decide +kernel
theorem dL_repays_14 : decode cL_repays 14 = .ok (.if_icmp .le 8, 3) := by decide +kernel
theorem dL_repays_17 : decode cL_repays 17 = .ok (.iload 7, 2) := by decide +kernel
theorem dL_repays_19 : decode cL_repays 19 = .ok (.goto 5, 3) := by decide +kernel
theorem dL_repays_22 : decode cL_repays 22 = .ok (.iload 5, 2) := by decide +kernel
theorem dL_repays_24 : decode cL_repays 24 = .ok (.istore 8, 2) := by decide +kernel
theorem dL_repays_26 : decode cL_repays 26 = .ok (.aload_n 0, 1) := by decide +kernel
theorem dL_repays_27 : decode cL_repays 27 = .ok (.aload_n 2, 1) := by decide +kernel
theorem dL_repays_28 : decode cL_repays 28 = .ok (.iload_n 3, 1) := by decide +kernel
theorem dL_repays_29 : decode cL_repays 29 = .ok (.iload 4, 2) := by decide +kernel
theorem dL_repays_31 : decode cL_repays 31 = .ok (.iload 8, 2) := by decide +kernel
theorem dL_repays_33 : decode cL_repays 33 = .ok (.aload 6, 2) := by decide +kernel
theorem dL_repays_35 : decode cL_repays 35 = .ok (.invokestatic 15, 3) := by decide +kernel
theorem dL_repays_38 : decode cL_repays 38 = .ok (.iconst 0, 1) := by decide +kernel
theorem dL_repays_39 : decode cL_repays 39 = .ok (.istore 9, 2) := by decide +kernel
theorem dL_repays_41 : decode cL_repays 41 = .ok (.iload 9, 2) := by decide +kernel
theorem dL_repays_43 : decode cL_repays 43 = .ok (.aload_n 0, 1) := by decide +kernel
theorem dL_repays_44 : decode cL_repays 44 = .ok (.iconst 2, 1) := by decide +kernel
theorem dL_repays_45 : decode cL_repays 45 = .ok (.iaload, 1) := by decide +kernel
theorem dL_repays_46 : decode cL_repays 46 = .ok (.if_icmp .ge 45, 3) := by decide +kernel
theorem dL_repays_49 : decode cL_repays 49 = .ok (.aload_n 1, 1) := by decide +kernel
theorem dL_repays_50 : decode cL_repays 50 = .ok (.iconst 3, 1) := by decide +kernel
theorem dL_repays_51 : decode cL_repays 51 = .ok (.aload_n 2, 1) := by decide +kernel
theorem dL_repays_52 : decode cL_repays 52 = .ok (.bipush 6, 2) := by decide +kernel
theorem dL_repays_54 : decode cL_repays 54 = .ok (.iload 9, 2) := by decide +kernel
theorem dL_repays_56 : decode cL_repays 56 = .ok (.imul, 1) := by decide +kernel
theorem dL_repays_57 : decode cL_repays 57 = .ok (.iaload, 1) := by decide +kernel
theorem dL_repays_58 : decode cL_repays 58 = .ok (.imul, 1) := by decide +kernel
theorem dL_repays_59 : decode cL_repays 59 = .ok (.dup2, 1) := by decide +kernel
theorem dL_repays_60 : decode cL_repays 60 = .ok (.iaload, 1) := by decide +kernel
theorem dL_repays_61 : decode cL_repays 61 = .ok (.aload 6, 2) := by decide +kernel
theorem dL_repays_63 : decode cL_repays 63 = .ok (.iload 9, 2) := by decide +kernel
theorem dL_repays_65 : decode cL_repays 65 = .ok (.iaload, 1) := by decide +kernel
theorem dL_repays_66 : decode cL_repays 66 = .ok (.iadd, 1) := by decide +kernel
theorem dL_repays_67 : decode cL_repays 67 = .ok (.iastore, 1) := by decide +kernel
theorem dL_repays_68 : decode cL_repays 68 = .ok (.aload_n 2, 1) := by decide +kernel
theorem dL_repays_69 : decode cL_repays 69 = .ok (.bipush 6, 2) := by decide +kernel
theorem dL_repays_71 : decode cL_repays 71 = .ok (.iload 9, 2) := by decide +kernel
theorem dL_repays_73 : decode cL_repays 73 = .ok (.imul, 1) := by decide +kernel
theorem dL_repays_74 : decode cL_repays 74 = .ok (.iconst 3, 1) := by decide +kernel
theorem dL_repays_75 : decode cL_repays 75 = .ok (.iadd, 1) := by decide +kernel
theorem dL_repays_76 : decode cL_repays 76 = .ok (.dup2, 1) := by decide +kernel
theorem dL_repays_77 : decode cL_repays 77 = .ok (.iaload, 1) := by decide +kernel
theorem dL_repays_78 : decode cL_repays 78 = .ok (.aload 6, 2) := by decide +kernel
theorem dL_repays_80 : decode cL_repays 80 = .ok (.iload 9, 2) := by decide +kernel
theorem dL_repays_82 : decode cL_repays 82 = .ok (.iaload, 1) := by decide +kernel
theorem dL_repays_83 : decode cL_repays 83 = .ok (.isub, 1) := by decide +kernel
theorem dL_repays_84 : decode cL_repays 84 = .ok (.iastore, 1) := by decide +kernel
theorem dL_repays_85 : decode cL_repays 85 = .ok (.iinc 9 1, 3) := by decide +kernel
theorem dL_repays_88 : decode cL_repays 88 = .ok (.goto (-47), 3) := by decide +kernel
theorem dL_repays_91 : decode cL_repays 91 = .ok (.iload 5, 2) := by decide +kernel
theorem dL_repays_93 : decode cL_repays 93 = .ok (.iload 8, 2) := by decide +kernel
theorem dL_repays_95 : decode cL_repays 95 = .ok (.isub, 1) := by decide +kernel
theorem dL_repays_96 : decode cL_repays 96 = .ok (.ireturn, 1) := by decide +kernel
theorem dL_areLoans_0 : decode cL_areLoans 0 = .ok (.iconst 0, 1) := by decide +kernel
theorem dL_areLoans_1 : decode cL_areLoans 1 = .ok (.istore 4, 2) := by decide +kernel
theorem dL_areLoans_3 : decode cL_areLoans 3 = .ok (.iconst 0, 1) := by decide +kernel
theorem dL_areLoans_4 : decode cL_areLoans 4 = .ok (.istore 5, 2) := by decide +kernel
theorem dL_areLoans_6 : decode cL_areLoans 6 = .ok (.iconst 0, 1) := by decide +kernel
theorem dL_areLoans_7 : decode cL_areLoans 7 = .ok (.istore 6, 2) := by decide +kernel
theorem dL_areLoans_9 : decode cL_areLoans 9 = .ok (.iconst 0, 1) := by decide +kernel
theorem dL_areLoans_10 : decode cL_areLoans 10 = .ok (.istore 7, 2) := by decide +kernel
theorem dL_areLoans_12 : decode cL_areLoans 12 = .ok (.iconst 0, 1) := by decide +kernel
theorem dL_areLoans_13 : decode cL_areLoans 13 = .ok (.istore 8, 2) := by decide +kernel
theorem dL_areLoans_15 : decode cL_areLoans 15 = .ok (.iload 8, 2) := by decide +kernel
theorem dL_areLoans_17 : decode cL_areLoans 17 = .ok (.aload_n 1, 1) := by decide +kernel
theorem dL_areLoans_18 : decode cL_areLoans 18 = .ok (.iconst 1, 1) := by decide +kernel
theorem dL_areLoans_19 : decode cL_areLoans 19 = .ok (.iaload, 1) := by decide +kernel
theorem dL_areLoans_20 : decode cL_areLoans 20 = .ok (.if_icmp .ge 396, 3) := by decide +kernel
theorem dL_areLoans_23 : decode cL_areLoans 23 = .ok (.bipush 11, 2) := by decide +kernel
theorem dL_areLoans_25 : decode cL_areLoans 25 = .ok (.iload 8, 2) := by decide +kernel
theorem dL_areLoans_27 : decode cL_areLoans 27 = .ok (.imul, 1) := by decide +kernel
theorem dL_areLoans_28 : decode cL_areLoans 28 = .ok (.istore 9, 2) := by decide +kernel
theorem dL_areLoans_30 : decode cL_areLoans 30 = .ok (.aload_n 2, 1) := by decide +kernel
theorem dL_areLoans_31 : decode cL_areLoans 31 = .ok (.iload 9, 2) := by decide +kernel
theorem dL_areLoans_33 : decode cL_areLoans 33 = .ok (.iconst 3, 1) := by decide +kernel
theorem dL_areLoans_34 : decode cL_areLoans 34 = .ok (.iadd, 1) := by decide +kernel
theorem dL_areLoans_35 : decode cL_areLoans 35 = .ok (.iaload, 1) := by decide +kernel
theorem dL_areLoans_36 : decode cL_areLoans 36 = .ok (.iconst 1, 1) := by decide +kernel
theorem dL_areLoans_37 : decode cL_areLoans 37 = .ok (.if_icmp .ne 7, 3) := by decide +kernel
theorem dL_areLoans_40 : decode cL_areLoans 40 = .ok (.iconst 1, 1) := by decide +kernel
theorem dL_areLoans_41 : decode cL_areLoans 41 = .ok (.goto 4, 3) := by decide +kernel
theorem dL_areLoans_44 : decode cL_areLoans 44 = .ok (.iconst 0, 1) := by decide +kernel
theorem dL_areLoans_45 : decode cL_areLoans 45 = .ok (.istore 10, 2) := by decide +kernel
theorem dL_areLoans_47 : decode cL_areLoans 47 = .ok (.aload_n 2, 1) := by decide +kernel
theorem dL_areLoans_48 : decode cL_areLoans 48 = .ok (.iload 9, 2) := by decide +kernel
theorem dL_areLoans_50 : decode cL_areLoans 50 = .ok (.iconst 3, 1) := by decide +kernel
theorem dL_areLoans_51 : decode cL_areLoans 51 = .ok (.iadd, 1) := by decide +kernel
theorem dL_areLoans_52 : decode cL_areLoans 52 = .ok (.iaload, 1) := by decide +kernel
theorem dL_areLoans_53 : decode cL_areLoans 53 = .ok (.ifCond .ne 19, 3) := by decide +kernel
theorem dL_areLoans_56 : decode cL_areLoans 56 = .ok (.aload_n 2, 1) := by decide +kernel
theorem dL_areLoans_57 : decode cL_areLoans 57 = .ok (.iload 9, 2) := by decide +kernel
theorem dL_areLoans_59 : decode cL_areLoans 59 = .ok (.iaload, 1) := by decide +kernel
theorem dL_areLoans_60 : decode cL_areLoans 60 = .ok (.aload_n 1, 1) := by decide +kernel
theorem dL_areLoans_61 : decode cL_areLoans 61 = .ok (.aload_n 3, 1) := by decide +kernel
theorem dL_areLoans_62 : decode cL_areLoans 62 = .ok (.iload 8, 2) := by decide +kernel
theorem dL_areLoans_64 : decode cL_areLoans 64 = .ok (.iconst (-1), 1) := by decide +kernel
theorem dL_areLoans_65 : decode cL_areLoans 65 = .ok (.invokestatic 9, 3) := by decide +kernel
theorem dL_areLoans_68 : decode cL_areLoans 68 = .ok (.isub, 1) := by decide +kernel
theorem dL_areLoans_69 : decode cL_areLoans 69 = .ok (.goto 4, 3) := by decide +kernel
theorem dL_areLoans_72 : decode cL_areLoans 72 = .ok (.iconst 0, 1) := by decide +kernel
theorem dL_areLoans_73 : decode cL_areLoans 73 = .ok (.istore 11, 2) := by decide +kernel
theorem dL_areLoans_75 : decode cL_areLoans 75 = .ok (.aload_n 0, 1) := by decide +kernel
theorem dL_areLoans_76 : decode cL_areLoans 76 = .ok (.iload 8, 2) := by decide +kernel
theorem dL_areLoans_78 : decode cL_areLoans 78 = .ok (.iconst 0, 1) := by decide +kernel
theorem dL_areLoans_79 : decode cL_areLoans 79 = .ok (.invokevirtual 19, 3) := by decide +kernel
theorem dL_areLoans_82 : decode cL_areLoans 82 = .ok (.aload_n 2, 1) := by decide +kernel
theorem dL_areLoans_83 : decode cL_areLoans 83 = .ok (.iload 9, 2) := by decide +kernel
theorem dL_areLoans_85 : decode cL_areLoans 85 = .ok (.iconst 3, 1) := by decide +kernel
theorem dL_areLoans_86 : decode cL_areLoans 86 = .ok (.iadd, 1) := by decide +kernel
theorem dL_areLoans_87 : decode cL_areLoans 87 = .ok (.iaload, 1) := by decide +kernel
theorem dL_areLoans_88 : decode cL_areLoans 88 = .ok (.if_icmp .ne 96, 3) := by decide +kernel
theorem dL_areLoans_91 : decode cL_areLoans 91 = .ok (.aload_n 0, 1) := by decide +kernel
theorem dL_areLoans_92 : decode cL_areLoans 92 = .ok (.iload 8, 2) := by decide +kernel
theorem dL_areLoans_94 : decode cL_areLoans 94 = .ok (.iconst 1, 1) := by decide +kernel
theorem dL_areLoans_95 : decode cL_areLoans 95 = .ok (.invokevirtual 19, 3) := by decide +kernel
theorem dL_areLoans_98 : decode cL_areLoans 98 = .ok (.aload_n 2, 1) := by decide +kernel
theorem dL_areLoans_99 : decode cL_areLoans 99 = .ok (.iload 9, 2) := by decide +kernel
theorem dL_areLoans_101 : decode cL_areLoans 101 = .ok (.iaload, 1) := by decide +kernel
theorem dL_areLoans_102 : decode cL_areLoans 102 = .ok (.if_icmp .ne 82, 3) := by decide +kernel
theorem dL_areLoans_105 : decode cL_areLoans 105 = .ok (.aload_n 0, 1) := by decide +kernel
theorem dL_areLoans_106 : decode cL_areLoans 106 = .ok (.iload 8, 2) := by decide +kernel
theorem dL_areLoans_108 : decode cL_areLoans 108 = .ok (.iconst 2, 1) := by decide +kernel
theorem dL_areLoans_109 : decode cL_areLoans 109 = .ok (.invokevirtual 19, 3) := by decide +kernel
theorem dL_areLoans_112 : decode cL_areLoans 112 = .ok (.iload 10, 2) := by decide +kernel
theorem dL_areLoans_114 : decode cL_areLoans 114 = .ok (.ifCond .eq 12, 3) := by decide +kernel
theorem dL_areLoans_117 : decode cL_areLoans 117 = .ok (.aload_n 2, 1) := by decide +kernel
theorem dL_areLoans_118 : decode cL_areLoans 118 = .ok (.iload 9, 2) := by decide +kernel
theorem dL_areLoans_120 : decode cL_areLoans 120 = .ok (.iconst 4, 1) := by decide +kernel
theorem dL_areLoans_121 : decode cL_areLoans 121 = .ok (.iadd, 1) := by decide +kernel
theorem dL_areLoans_122 : decode cL_areLoans 122 = .ok (.iaload, 1) := by decide +kernel
theorem dL_areLoans_123 : decode cL_areLoans 123 = .ok (.goto 4, 3) := by decide +kernel
theorem dL_areLoans_126 : decode cL_areLoans 126 = .ok (.iconst 0, 1) := by decide +kernel
theorem dL_areLoans_127 : decode cL_areLoans 127 = .ok (.if_icmp .ne 57, 3) := by decide +kernel
theorem dL_areLoans_130 : decode cL_areLoans 130 = .ok (.aload_n 0, 1) := by decide +kernel
theorem dL_areLoans_131 : decode cL_areLoans 131 = .ok (.iload 8, 2) := by decide +kernel
theorem dL_areLoans_133 : decode cL_areLoans 133 = .ok (.iconst 3, 1) := by decide +kernel
theorem dL_areLoans_134 : decode cL_areLoans 134 = .ok (.invokevirtual 19, 3) := by decide +kernel
theorem dL_areLoans_137 : decode cL_areLoans 137 = .ok (.aload_n 2, 1) := by decide +kernel
theorem dL_areLoans_138 : decode cL_areLoans 138 = .ok (.iload 9, 2) := by decide +kernel
theorem dL_areLoans_140 : decode cL_areLoans 140 = .ok (.iconst 5, 1) := by decide +kernel
theorem dL_areLoans_141 : decode cL_areLoans 141 = .ok (.iadd, 1) := by decide +kernel
theorem dL_areLoans_142 : decode cL_areLoans 142 = .ok (.iaload, 1) := by decide +kernel
theorem dL_areLoans_143 : decode cL_areLoans 143 = .ok (.if_icmp .ne 41, 3) := by decide +kernel
theorem dL_areLoans_146 : decode cL_areLoans 146 = .ok (.aload_n 0, 1) := by decide +kernel
theorem dL_areLoans_147 : decode cL_areLoans 147 = .ok (.iload 8, 2) := by decide +kernel
theorem dL_areLoans_149 : decode cL_areLoans 149 = .ok (.iconst 4, 1) := by decide +kernel
theorem dL_areLoans_150 : decode cL_areLoans 150 = .ok (.invokevirtual 19, 3) := by decide +kernel
theorem dL_areLoans_153 : decode cL_areLoans 153 = .ok (.aload_n 2, 1) := by decide +kernel
theorem dL_areLoans_154 : decode cL_areLoans 154 = .ok (.iload 9, 2) := by decide +kernel
theorem dL_areLoans_156 : decode cL_areLoans 156 = .ok (.bipush 6, 2) := by decide +kernel
theorem dL_areLoans_158 : decode cL_areLoans 158 = .ok (.iadd, 1) := by decide +kernel
theorem dL_areLoans_159 : decode cL_areLoans 159 = .ok (.iaload, 1) := by decide +kernel
theorem dL_areLoans_160 : decode cL_areLoans 160 = .ok (.if_icmp .ne 24, 3) := by decide +kernel
theorem dL_areLoans_163 : decode cL_areLoans 163 = .ok (.aload_n 0, 1) := by decide +kernel
theorem dL_areLoans_164 : decode cL_areLoans 164 = .ok (.iload 8, 2) := by decide +kernel
theorem dL_areLoans_166 : decode cL_areLoans 166 = .ok (.iconst 5, 1) := by decide +kernel
theorem dL_areLoans_167 : decode cL_areLoans 167 = .ok (.invokevirtual 19, 3) := by decide +kernel
theorem dL_areLoans_170 : decode cL_areLoans 170 = .ok (.aload_n 2, 1) := by decide +kernel
theorem dL_areLoans_171 : decode cL_areLoans 171 = .ok (.iload 9, 2) := by decide +kernel
theorem dL_areLoans_173 : decode cL_areLoans 173 = .ok (.bipush 7, 2) := by decide +kernel
theorem dL_areLoans_175 : decode cL_areLoans 175 = .ok (.iadd, 1) := by decide +kernel
theorem dL_areLoans_176 : decode cL_areLoans 176 = .ok (.iaload, 1) := by decide +kernel
theorem dL_areLoans_177 : decode cL_areLoans 177 = .ok (.if_icmp .ne 7, 3) := by decide +kernel
theorem dL_areLoans_180 : decode cL_areLoans 180 = .ok (.iconst 1, 1) := by decide +kernel
theorem dL_areLoans_181 : decode cL_areLoans 181 = .ok (.goto 4, 3) := by decide +kernel
theorem dL_areLoans_184 : decode cL_areLoans 184 = .ok (.iconst 0, 1) := by decide +kernel
theorem dL_areLoans_185 : decode cL_areLoans 185 = .ok (.istore 12, 2) := by decide +kernel
theorem dL_areLoans_187 : decode cL_areLoans 187 = .ok (.iload 12, 2) := by decide +kernel
theorem dL_areLoans_189 : decode cL_areLoans 189 = .ok (.ifCond .eq 74, 3) := by decide +kernel
theorem dL_areLoans_192 : decode cL_areLoans 192 = .ok (.aload_n 0, 1) := by decide +kernel
theorem dL_areLoans_193 : decode cL_areLoans 193 = .ok (.iload 8, 2) := by decide +kernel
theorem dL_areLoans_195 : decode cL_areLoans 195 = .ok (.bipush 6, 2) := by decide +kernel
theorem dL_areLoans_197 : decode cL_areLoans 197 = .ok (.invokevirtual 19, 3) := by decide +kernel
theorem dL_areLoans_200 : decode cL_areLoans 200 = .ok (.aload_n 2, 1) := by decide +kernel
theorem dL_areLoans_201 : decode cL_areLoans 201 = .ok (.iload 9, 2) := by decide +kernel
theorem dL_areLoans_203 : decode cL_areLoans 203 = .ok (.bipush 8, 2) := by decide +kernel
theorem dL_areLoans_205 : decode cL_areLoans 205 = .ok (.iadd, 1) := by decide +kernel
theorem dL_areLoans_206 : decode cL_areLoans 206 = .ok (.iaload, 1) := by decide +kernel
theorem dL_areLoans_207 : decode cL_areLoans 207 = .ok (.if_icmp .ne 56, 3) := by decide +kernel
theorem dL_areLoans_210 : decode cL_areLoans 210 = .ok (.aload_n 0, 1) := by decide +kernel
theorem dL_areLoans_211 : decode cL_areLoans 211 = .ok (.iload 8, 2) := by decide +kernel
theorem dL_areLoans_213 : decode cL_areLoans 213 = .ok (.bipush 8, 2) := by decide +kernel
theorem dL_areLoans_215 : decode cL_areLoans 215 = .ok (.invokevirtual 19, 3) := by decide +kernel
theorem dL_areLoans_218 : decode cL_areLoans 218 = .ok (.aload_n 2, 1) := by decide +kernel
theorem dL_areLoans_219 : decode cL_areLoans 219 = .ok (.iload 9, 2) := by decide +kernel
theorem dL_areLoans_221 : decode cL_areLoans 221 = .ok (.bipush 10, 2) := by decide +kernel
theorem dL_areLoans_223 : decode cL_areLoans 223 = .ok (.iadd, 1) := by decide +kernel
theorem dL_areLoans_224 : decode cL_areLoans 224 = .ok (.iaload, 1) := by decide +kernel
theorem dL_areLoans_225 : decode cL_areLoans 225 = .ok (.if_icmp .ne 38, 3) := by decide +kernel
theorem dL_areLoans_228 : decode cL_areLoans 228 = .ok (.aload_n 0, 1) := by decide +kernel
theorem dL_areLoans_229 : decode cL_areLoans 229 = .ok (.iload 8, 2) := by decide +kernel
theorem dL_areLoans_231 : decode cL_areLoans 231 = .ok (.bipush 7, 2) := by decide +kernel
theorem dL_areLoans_233 : decode cL_areLoans 233 = .ok (.invokevirtual 19, 3) := by decide +kernel
theorem dL_areLoans_236 : decode cL_areLoans 236 = .ok (.aload_n 2, 1) := by decide +kernel
theorem dL_areLoans_237 : decode cL_areLoans 237 = .ok (.iload 9, 2) := by decide +kernel
theorem dL_areLoans_239 : decode cL_areLoans 239 = .ok (.bipush 9, 2) := by decide +kernel
theorem dL_areLoans_241 : decode cL_areLoans 241 = .ok (.iadd, 1) := by decide +kernel
theorem dL_areLoans_242 : decode cL_areLoans 242 = .ok (.iaload, 1) := by decide +kernel
theorem dL_areLoans_243 : decode cL_areLoans 243 = .ok (.if_icmp .ne 20, 3) := by decide +kernel
theorem dL_areLoans_246 : decode cL_areLoans 246 = .ok (.aload_n 0, 1) := by decide +kernel
theorem dL_areLoans_247 : decode cL_areLoans 247 = .ok (.iload 8, 2) := by decide +kernel
theorem dL_areLoans_249 : decode cL_areLoans 249 = .ok (.bipush 9, 2) := by decide +kernel
theorem dL_areLoans_251 : decode cL_areLoans 251 = .ok (.invokevirtual 19, 3) := by decide +kernel
theorem dL_areLoans_254 : decode cL_areLoans 254 = .ok (.iload 11, 2) := by decide +kernel
theorem dL_areLoans_256 : decode cL_areLoans 256 = .ok (.if_icmp .ne 7, 3) := by decide +kernel
theorem dL_areLoans_259 : decode cL_areLoans 259 = .ok (.iconst 1, 1) := by decide +kernel
theorem dL_areLoans_260 : decode cL_areLoans 260 = .ok (.goto 4, 3) := by decide +kernel
theorem dL_areLoans_263 : decode cL_areLoans 263 = .ok (.iconst 0, 1) := by decide +kernel
theorem dL_areLoans_264 : decode cL_areLoans 264 = .ok (.istore 12, 2) := by decide +kernel
theorem dL_areLoans_266 : decode cL_areLoans 266 = .ok (.iload 12, 2) := by decide +kernel
theorem dL_areLoans_268 : decode cL_areLoans 268 = .ok (.ifCond .eq 63, 3) := by decide +kernel
theorem dL_areLoans_271 : decode cL_areLoans 271 = .ok (.aload_n 0, 1) := by decide +kernel
theorem dL_areLoans_272 : decode cL_areLoans 272 = .ok (.iload 8, 2) := by decide +kernel
theorem dL_areLoans_274 : decode cL_areLoans 274 = .ok (.bipush 11, 2) := by decide +kernel
theorem dL_areLoans_276 : decode cL_areLoans 276 = .ok (.invokevirtual 19, 3) := by decide +kernel
theorem dL_areLoans_279 : decode cL_areLoans 279 = .ok (.aload_n 1, 1) := by decide +kernel
theorem dL_areLoans_280 : decode cL_areLoans 280 = .ok (.aload_n 3, 1) := by decide +kernel
theorem dL_areLoans_281 : decode cL_areLoans 281 = .ok (.iload 8, 2) := by decide +kernel
theorem dL_areLoans_283 : decode cL_areLoans 283 = .ok (.iconst 0, 1) := by decide +kernel
theorem dL_areLoans_284 : decode cL_areLoans 284 = .ok (.invokestatic 9, 3) := by decide +kernel
theorem dL_areLoans_287 : decode cL_areLoans 287 = .ok (.if_icmp .ne 44, 3) := by decide +kernel
theorem dL_areLoans_290 : decode cL_areLoans 290 = .ok (.aload_n 0, 1) := by decide +kernel
theorem dL_areLoans_291 : decode cL_areLoans 291 = .ok (.iload 8, 2) := by decide +kernel
theorem dL_areLoans_293 : decode cL_areLoans 293 = .ok (.bipush 12, 2) := by decide +kernel
theorem dL_areLoans_295 : decode cL_areLoans 295 = .ok (.invokevirtual 19, 3) := by decide +kernel
theorem dL_areLoans_298 : decode cL_areLoans 298 = .ok (.aload_n 1, 1) := by decide +kernel
theorem dL_areLoans_299 : decode cL_areLoans 299 = .ok (.aload_n 3, 1) := by decide +kernel
theorem dL_areLoans_300 : decode cL_areLoans 300 = .ok (.iload 8, 2) := by decide +kernel
theorem dL_areLoans_302 : decode cL_areLoans 302 = .ok (.iconst 1, 1) := by decide +kernel
theorem dL_areLoans_303 : decode cL_areLoans 303 = .ok (.invokestatic 9, 3) := by decide +kernel
theorem dL_areLoans_306 : decode cL_areLoans 306 = .ok (.if_icmp .ne 25, 3) := by decide +kernel
theorem dL_areLoans_309 : decode cL_areLoans 309 = .ok (.iload 10, 2) := by decide +kernel
theorem dL_areLoans_311 : decode cL_areLoans 311 = .ok (.ifCond .eq 22, 3) := by decide +kernel
theorem dL_areLoans_314 : decode cL_areLoans 314 = .ok (.aload_n 1, 1) := by decide +kernel
theorem dL_areLoans_315 : decode cL_areLoans 315 = .ok (.aload_n 3, 1) := by decide +kernel
theorem dL_areLoans_316 : decode cL_areLoans 316 = .ok (.iload 8, 2) := by decide +kernel
theorem dL_areLoans_318 : decode cL_areLoans 318 = .ok (.iconst (-1), 1) := by decide +kernel
theorem dL_areLoans_319 : decode cL_areLoans 319 = .ok (.invokestatic 9, 3) := by decide +kernel
theorem dL_areLoans_322 : decode cL_areLoans 322 = .ok (.aload_n 2, 1) := by decide +kernel
theorem dL_areLoans_323 : decode cL_areLoans 323 = .ok (.iload 9, 2) := by decide +kernel
theorem dL_areLoans_325 : decode cL_areLoans 325 = .ok (.iconst 4, 1) := by decide +kernel
theorem dL_areLoans_326 : decode cL_areLoans 326 = .ok (.iadd, 1) := by decide +kernel
theorem dL_areLoans_327 : decode cL_areLoans 327 = .ok (.iaload, 1) := by decide +kernel
theorem dL_areLoans_328 : decode cL_areLoans 328 = .ok (.if_icmp .eq 5, 3) := by decide +kernel
theorem dL_areLoans_331 : decode cL_areLoans 331 = .ok (.iconst 0, 1) := by decide +kernel
theorem dL_areLoans_332 : decode cL_areLoans 332 = .ok (.ireturn, 1) := by decide +kernel
theorem dL_areLoans_333 : decode cL_areLoans 333 = .ok (.iload 4, 2) := by decide +kernel
theorem dL_areLoans_335 : decode cL_areLoans 335 = .ok (.aload_n 2, 1) := by decide +kernel
theorem dL_areLoans_336 : decode cL_areLoans 336 = .ok (.iload 9, 2) := by decide +kernel
theorem dL_areLoans_338 : decode cL_areLoans 338 = .ok (.bipush 6, 2) := by decide +kernel
theorem dL_areLoans_340 : decode cL_areLoans 340 = .ok (.iadd, 1) := by decide +kernel
theorem dL_areLoans_341 : decode cL_areLoans 341 = .ok (.iaload, 1) := by decide +kernel
theorem dL_areLoans_342 : decode cL_areLoans 342 = .ok (.iadd, 1) := by decide +kernel
theorem dL_areLoans_343 : decode cL_areLoans 343 = .ok (.istore 4, 2) := by decide +kernel
theorem dL_areLoans_345 : decode cL_areLoans 345 = .ok (.iload 6, 2) := by decide +kernel
theorem dL_areLoans_347 : decode cL_areLoans 347 = .ok (.aload_n 2, 1) := by decide +kernel
theorem dL_areLoans_348 : decode cL_areLoans 348 = .ok (.iload 9, 2) := by decide +kernel
theorem dL_areLoans_350 : decode cL_areLoans 350 = .ok (.bipush 10, 2) := by decide +kernel
theorem dL_areLoans_352 : decode cL_areLoans 352 = .ok (.iadd, 1) := by decide +kernel
theorem dL_areLoans_353 : decode cL_areLoans 353 = .ok (.iaload, 1) := by decide +kernel
theorem dL_areLoans_354 : decode cL_areLoans 354 = .ok (.ifCond .ge 7, 3) := by decide +kernel
theorem dL_areLoans_357 : decode cL_areLoans 357 = .ok (.iconst 0, 1) := by decide +kernel
theorem dL_areLoans_358 : decode cL_areLoans 358 = .ok (.goto 4, 3) := by decide +kernel
theorem dL_areLoans_361 : decode cL_areLoans 361 = .ok (.iconst 1, 1) := by decide +kernel
theorem dL_areLoans_362 : decode cL_areLoans 362 = .ok (.iadd, 1) := by decide +kernel
theorem dL_areLoans_363 : decode cL_areLoans 363 = .ok (.istore 6, 2) := by decide +kernel
theorem dL_areLoans_365 : decode cL_areLoans 365 = .ok (.iload 5, 2) := by decide +kernel
theorem dL_areLoans_367 : decode cL_areLoans 367 = .ok (.iload 10, 2) := by decide +kernel
theorem dL_areLoans_369 : decode cL_areLoans 369 = .ok (.ifCond .eq 17, 3) := by decide +kernel
theorem dL_areLoans_372 : decode cL_areLoans 372 = .ok (.aload_n 2, 1) := by decide +kernel
theorem dL_areLoans_373 : decode cL_areLoans 373 = .ok (.iload 9, 2) := by decide +kernel
theorem dL_areLoans_375 : decode cL_areLoans 375 = .ok (.bipush 8, 2) := by decide +kernel
theorem dL_areLoans_377 : decode cL_areLoans 377 = .ok (.iadd, 1) := by decide +kernel
theorem dL_areLoans_378 : decode cL_areLoans 378 = .ok (.iaload, 1) := by decide +kernel
theorem dL_areLoans_379 : decode cL_areLoans 379 = .ok (.ifCond .le 7, 3) := by decide +kernel
theorem dL_areLoans_382 : decode cL_areLoans 382 = .ok (.iconst 1, 1) := by decide +kernel
theorem dL_areLoans_383 : decode cL_areLoans 383 = .ok (.goto 4, 3) := by decide +kernel
theorem dL_areLoans_386 : decode cL_areLoans 386 = .ok (.iconst 0, 1) := by decide +kernel
theorem dL_areLoans_387 : decode cL_areLoans 387 = .ok (.iadd, 1) := by decide +kernel
theorem dL_areLoans_388 : decode cL_areLoans 388 = .ok (.istore 5, 2) := by decide +kernel
theorem dL_areLoans_390 : decode cL_areLoans 390 = .ok (.iload 7, 2) := by decide +kernel
theorem dL_areLoans_392 : decode cL_areLoans 392 = .ok (.iload 10, 2) := by decide +kernel
theorem dL_areLoans_394 : decode cL_areLoans 394 = .ok (.ifCond .eq 12, 3) := by decide +kernel
theorem dL_areLoans_397 : decode cL_areLoans 397 = .ok (.aload_n 2, 1) := by decide +kernel
theorem dL_areLoans_398 : decode cL_areLoans 398 = .ok (.iload 9, 2) := by decide +kernel
theorem dL_areLoans_400 : decode cL_areLoans 400 = .ok (.iconst 4, 1) := by decide +kernel
theorem dL_areLoans_401 : decode cL_areLoans 401 = .ok (.iadd, 1) := by decide +kernel
theorem dL_areLoans_402 : decode cL_areLoans 402 = .ok (.iaload, 1) := by decide +kernel
theorem dL_areLoans_403 : decode cL_areLoans 403 = .ok (.goto 4, 3) := by decide +kernel
theorem dL_areLoans_406 : decode cL_areLoans 406 = .ok (.iconst 0, 1) := by decide +kernel
theorem dL_areLoans_407 : decode cL_areLoans 407 = .ok (.iadd, 1) := by decide +kernel
theorem dL_areLoans_408 : decode cL_areLoans 408 = .ok (.istore 7, 2) := by decide +kernel
theorem dL_areLoans_410 : decode cL_areLoans 410 = .ok (.iinc 8 1, 3) := by decide +kernel
theorem dL_areLoans_413 : decode cL_areLoans 413 = .ok (.goto (-398), 3) := by decide +kernel
theorem dL_areLoans_416 : decode cL_areLoans 416 = .ok (.aload_n 0, 1) := by decide +kernel
theorem dL_areLoans_417 : decode cL_areLoans 417 = .ok (.iconst 0, 1) := by decide +kernel
theorem dL_areLoans_418 : decode cL_areLoans 418 = .ok (.invokevirtual 25, 3) := by decide +kernel
theorem dL_areLoans_421 : decode cL_areLoans 421 = .ok (.aload_n 1, 1) := by decide +kernel
theorem dL_areLoans_422 : decode cL_areLoans 422 = .ok (.iconst 0, 1) := by decide +kernel
theorem dL_areLoans_423 : decode cL_areLoans 423 = .ok (.iaload, 1) := by decide +kernel
theorem dL_areLoans_424 : decode cL_areLoans 424 = .ok (.if_icmp .ne 109, 3) := by decide +kernel
theorem dL_areLoans_427 : decode cL_areLoans 427 = .ok (.aload_n 0, 1) := by decide +kernel
theorem dL_areLoans_428 : decode cL_areLoans 428 = .ok (.iconst 2, 1) := by decide +kernel
theorem dL_areLoans_429 : decode cL_areLoans 429 = .ok (.invokevirtual 25, 3) := by decide +kernel
theorem dL_areLoans_432 : decode cL_areLoans 432 = .ok (.aload_n 1, 1) := by decide +kernel
theorem dL_areLoans_433 : decode cL_areLoans 433 = .ok (.iconst 1, 1) := by decide +kernel
theorem dL_areLoans_434 : decode cL_areLoans 434 = .ok (.iaload, 1) := by decide +kernel
theorem dL_areLoans_435 : decode cL_areLoans 435 = .ok (.if_icmp .ne 98, 3) := by decide +kernel
theorem dL_areLoans_438 : decode cL_areLoans 438 = .ok (.aload_n 0, 1) := by decide +kernel
theorem dL_areLoans_439 : decode cL_areLoans 439 = .ok (.bipush 8, 2) := by decide +kernel
theorem dL_areLoans_441 : decode cL_areLoans 441 = .ok (.invokevirtual 25, 3) := by decide +kernel
theorem dL_areLoans_444 : decode cL_areLoans 444 = .ok (.aload_n 1, 1) := by decide +kernel
theorem dL_areLoans_445 : decode cL_areLoans 445 = .ok (.iconst 2, 1) := by decide +kernel
theorem dL_areLoans_446 : decode cL_areLoans 446 = .ok (.iaload, 1) := by decide +kernel
theorem dL_areLoans_447 : decode cL_areLoans 447 = .ok (.if_icmp .ne 86, 3) := by decide +kernel
theorem dL_areLoans_450 : decode cL_areLoans 450 = .ok (.aload_n 0, 1) := by decide +kernel
theorem dL_areLoans_451 : decode cL_areLoans 451 = .ok (.bipush 9, 2) := by decide +kernel
theorem dL_areLoans_453 : decode cL_areLoans 453 = .ok (.invokevirtual 25, 3) := by decide +kernel
theorem dL_areLoans_456 : decode cL_areLoans 456 = .ok (.aload_n 1, 1) := by decide +kernel
theorem dL_areLoans_457 : decode cL_areLoans 457 = .ok (.iconst 3, 1) := by decide +kernel
theorem dL_areLoans_458 : decode cL_areLoans 458 = .ok (.iaload, 1) := by decide +kernel
theorem dL_areLoans_459 : decode cL_areLoans 459 = .ok (.if_icmp .ne 74, 3) := by decide +kernel
theorem dL_areLoans_462 : decode cL_areLoans 462 = .ok (.aload_n 0, 1) := by decide +kernel
theorem dL_areLoans_463 : decode cL_areLoans 463 = .ok (.bipush 10, 2) := by decide +kernel
theorem dL_areLoans_465 : decode cL_areLoans 465 = .ok (.invokevirtual 25, 3) := by decide +kernel
theorem dL_areLoans_468 : decode cL_areLoans 468 = .ok (.aload_n 1, 1) := by decide +kernel
theorem dL_areLoans_469 : decode cL_areLoans 469 = .ok (.iconst 4, 1) := by decide +kernel
theorem dL_areLoans_470 : decode cL_areLoans 470 = .ok (.iaload, 1) := by decide +kernel
theorem dL_areLoans_471 : decode cL_areLoans 471 = .ok (.if_icmp .ne 62, 3) := by decide +kernel
theorem dL_areLoans_474 : decode cL_areLoans 474 = .ok (.aload_n 0, 1) := by decide +kernel
theorem dL_areLoans_475 : decode cL_areLoans 475 = .ok (.bipush 11, 2) := by decide +kernel
theorem dL_areLoans_477 : decode cL_areLoans 477 = .ok (.invokevirtual 25, 3) := by decide +kernel
theorem dL_areLoans_480 : decode cL_areLoans 480 = .ok (.iload 7, 2) := by decide +kernel
theorem dL_areLoans_482 : decode cL_areLoans 482 = .ok (.if_icmp .ne 51, 3) := by decide +kernel
theorem dL_areLoans_485 : decode cL_areLoans 485 = .ok (.aload_n 0, 1) := by decide +kernel
theorem dL_areLoans_486 : decode cL_areLoans 486 = .ok (.bipush 12, 2) := by decide +kernel
theorem dL_areLoans_488 : decode cL_areLoans 488 = .ok (.invokevirtual 25, 3) := by decide +kernel
theorem dL_areLoans_491 : decode cL_areLoans 491 = .ok (.iload 4, 2) := by decide +kernel
theorem dL_areLoans_493 : decode cL_areLoans 493 = .ok (.if_icmp .ne 40, 3) := by decide +kernel
theorem dL_areLoans_496 : decode cL_areLoans 496 = .ok (.aload_n 0, 1) := by decide +kernel
theorem dL_areLoans_497 : decode cL_areLoans 497 = .ok (.bipush 14, 2) := by decide +kernel
theorem dL_areLoans_499 : decode cL_areLoans 499 = .ok (.invokevirtual 25, 3) := by decide +kernel
theorem dL_areLoans_502 : decode cL_areLoans 502 = .ok (.iload 5, 2) := by decide +kernel
theorem dL_areLoans_504 : decode cL_areLoans 504 = .ok (.if_icmp .ne 29, 3) := by decide +kernel
theorem dL_areLoans_507 : decode cL_areLoans 507 = .ok (.aload_n 0, 1) := by decide +kernel
theorem dL_areLoans_508 : decode cL_areLoans 508 = .ok (.bipush 15, 2) := by decide +kernel
theorem dL_areLoans_510 : decode cL_areLoans 510 = .ok (.invokevirtual 25, 3) := by decide +kernel
theorem dL_areLoans_513 : decode cL_areLoans 513 = .ok (.iload 6, 2) := by decide +kernel
theorem dL_areLoans_515 : decode cL_areLoans 515 = .ok (.if_icmp .ne 18, 3) := by decide +kernel
theorem dL_areLoans_518 : decode cL_areLoans 518 = .ok (.aload_n 0, 1) := by decide +kernel
theorem dL_areLoans_519 : decode cL_areLoans 519 = .ok (.bipush 18, 2) := by decide +kernel
theorem dL_areLoans_521 : decode cL_areLoans 521 = .ok (.invokevirtual 25, 3) := by decide +kernel
theorem dL_areLoans_524 : decode cL_areLoans 524 = .ok (.bipush (-2), 2) := by decide +kernel
theorem dL_areLoans_526 : decode cL_areLoans 526 = .ok (.if_icmp .ne 7, 3) := by decide +kernel
theorem dL_areLoans_529 : decode cL_areLoans 529 = .ok (.iconst 1, 1) := by decide +kernel
theorem dL_areLoans_530 : decode cL_areLoans 530 = .ok (.goto 4, 3) := by decide +kernel
theorem dL_areLoans_533 : decode cL_areLoans 533 = .ok (.iconst 0, 1) := by decide +kernel
theorem dL_areLoans_534 : decode cL_areLoans 534 = .ok (.ireturn, 1) := by decide +kernel
theorem dL_areNotes_0 : decode cL_areNotes 0 = .ok (.iconst 0, 1) := by decide +kernel
theorem dL_areNotes_1 : decode cL_areNotes 1 = .ok (.istore 5, 2) := by decide +kernel
theorem dL_areNotes_3 : decode cL_areNotes 3 = .ok (.iconst 0, 1) := by decide +kernel
theorem dL_areNotes_4 : decode cL_areNotes 4 = .ok (.istore 6, 2) := by decide +kernel
theorem dL_areNotes_6 : decode cL_areNotes 6 = .ok (.iload 6, 2) := by decide +kernel
theorem dL_areNotes_8 : decode cL_areNotes 8 = .ok (.aload_n 1, 1) := by decide +kernel
theorem dL_areNotes_9 : decode cL_areNotes 9 = .ok (.iconst 2, 1) := by decide +kernel
theorem dL_areNotes_10 : decode cL_areNotes 10 = .ok (.iaload, 1) := by decide +kernel
theorem dL_areNotes_11 : decode cL_areNotes 11 = .ok (.if_icmp .ge 139, 3) := by decide +kernel
theorem dL_areNotes_14 : decode cL_areNotes 14 = .ok (.bipush 6, 2) := by decide +kernel
theorem dL_areNotes_16 : decode cL_areNotes 16 = .ok (.iload 6, 2) := by decide +kernel
theorem dL_areNotes_18 : decode cL_areNotes 18 = .ok (.imul, 1) := by decide +kernel
theorem dL_areNotes_19 : decode cL_areNotes 19 = .ok (.istore 7, 2) := by decide +kernel
theorem dL_areNotes_21 : decode cL_areNotes 21 = .ok (.aload_n 0, 1) := by decide +kernel
theorem dL_areNotes_22 : decode cL_areNotes 22 = .ok (.iload 6, 2) := by decide +kernel
theorem dL_areNotes_24 : decode cL_areNotes 24 = .ok (.iconst 0, 1) := by decide +kernel
theorem dL_areNotes_25 : decode cL_areNotes 25 = .ok (.invokevirtual 29, 3) := by decide +kernel
theorem dL_areNotes_28 : decode cL_areNotes 28 = .ok (.aload_n 3, 1) := by decide +kernel
theorem dL_areNotes_29 : decode cL_areNotes 29 = .ok (.iload 7, 2) := by decide +kernel
theorem dL_areNotes_31 : decode cL_areNotes 31 = .ok (.iaload, 1) := by decide +kernel
theorem dL_areNotes_32 : decode cL_areNotes 32 = .ok (.if_icmp .ne 99, 3) := by decide +kernel
theorem dL_areNotes_35 : decode cL_areNotes 35 = .ok (.aload_n 0, 1) := by decide +kernel
theorem dL_areNotes_36 : decode cL_areNotes 36 = .ok (.iload 6, 2) := by decide +kernel
theorem dL_areNotes_38 : decode cL_areNotes 38 = .ok (.iconst 1, 1) := by decide +kernel
theorem dL_areNotes_39 : decode cL_areNotes 39 = .ok (.invokevirtual 29, 3) := by decide +kernel
theorem dL_areNotes_42 : decode cL_areNotes 42 = .ok (.aload_n 3, 1) := by decide +kernel
theorem dL_areNotes_43 : decode cL_areNotes 43 = .ok (.iload 7, 2) := by decide +kernel
theorem dL_areNotes_45 : decode cL_areNotes 45 = .ok (.iconst 1, 1) := by decide +kernel
theorem dL_areNotes_46 : decode cL_areNotes 46 = .ok (.iadd, 1) := by decide +kernel
theorem dL_areNotes_47 : decode cL_areNotes 47 = .ok (.iaload, 1) := by decide +kernel
theorem dL_areNotes_48 : decode cL_areNotes 48 = .ok (.if_icmp .ne 83, 3) := by decide +kernel
theorem dL_areNotes_51 : decode cL_areNotes 51 = .ok (.aload_n 0, 1) := by decide +kernel
theorem dL_areNotes_52 : decode cL_areNotes 52 = .ok (.iload 6, 2) := by decide +kernel
theorem dL_areNotes_54 : decode cL_areNotes 54 = .ok (.iconst 2, 1) := by decide +kernel
theorem dL_areNotes_55 : decode cL_areNotes 55 = .ok (.invokevirtual 29, 3) := by decide +kernel
theorem dL_areNotes_58 : decode cL_areNotes 58 = .ok (.aload_n 3, 1) := by decide +kernel
theorem dL_areNotes_59 : decode cL_areNotes 59 = .ok (.iload 7, 2) := by decide +kernel
theorem dL_areNotes_61 : decode cL_areNotes 61 = .ok (.iconst 2, 1) := by decide +kernel
theorem dL_areNotes_62 : decode cL_areNotes 62 = .ok (.iadd, 1) := by decide +kernel
theorem dL_areNotes_63 : decode cL_areNotes 63 = .ok (.iaload, 1) := by decide +kernel
theorem dL_areNotes_64 : decode cL_areNotes 64 = .ok (.if_icmp .ne 67, 3) := by decide +kernel
theorem dL_areNotes_67 : decode cL_areNotes 67 = .ok (.aload_n 0, 1) := by decide +kernel
theorem dL_areNotes_68 : decode cL_areNotes 68 = .ok (.iload 6, 2) := by decide +kernel
theorem dL_areNotes_70 : decode cL_areNotes 70 = .ok (.iconst 3, 1) := by decide +kernel
theorem dL_areNotes_71 : decode cL_areNotes 71 = .ok (.invokevirtual 29, 3) := by decide +kernel
theorem dL_areNotes_74 : decode cL_areNotes 74 = .ok (.aload_n 3, 1) := by decide +kernel
theorem dL_areNotes_75 : decode cL_areNotes 75 = .ok (.iload 7, 2) := by decide +kernel
theorem dL_areNotes_77 : decode cL_areNotes 77 = .ok (.iconst 3, 1) := by decide +kernel
theorem dL_areNotes_78 : decode cL_areNotes 78 = .ok (.iadd, 1) := by decide +kernel
theorem dL_areNotes_79 : decode cL_areNotes 79 = .ok (.iaload, 1) := by decide +kernel
theorem dL_areNotes_80 : decode cL_areNotes 80 = .ok (.if_icmp .ne 51, 3) := by decide +kernel
theorem dL_areNotes_83 : decode cL_areNotes 83 = .ok (.aload_n 0, 1) := by decide +kernel
theorem dL_areNotes_84 : decode cL_areNotes 84 = .ok (.iload 6, 2) := by decide +kernel
theorem dL_areNotes_86 : decode cL_areNotes 86 = .ok (.iconst 4, 1) := by decide +kernel
theorem dL_areNotes_87 : decode cL_areNotes 87 = .ok (.invokevirtual 29, 3) := by decide +kernel
theorem dL_areNotes_90 : decode cL_areNotes 90 = .ok (.aload 4, 2) := by decide +kernel
theorem dL_areNotes_92 : decode cL_areNotes 92 = .ok (.iload 6, 2) := by decide +kernel
theorem dL_areNotes_94 : decode cL_areNotes 94 = .ok (.iaload, 1) := by decide +kernel
theorem dL_areNotes_95 : decode cL_areNotes 95 = .ok (.if_icmp .ne 36, 3) := by decide +kernel
theorem dL_areNotes_98 : decode cL_areNotes 98 = .ok (.aload_n 0, 1) := by decide +kernel
theorem dL_areNotes_99 : decode cL_areNotes 99 = .ok (.iload 6, 2) := by decide +kernel
theorem dL_areNotes_101 : decode cL_areNotes 101 = .ok (.iconst 5, 1) := by decide +kernel
theorem dL_areNotes_102 : decode cL_areNotes 102 = .ok (.invokevirtual 29, 3) := by decide +kernel
theorem dL_areNotes_105 : decode cL_areNotes 105 = .ok (.aload_n 3, 1) := by decide +kernel
theorem dL_areNotes_106 : decode cL_areNotes 106 = .ok (.iload 7, 2) := by decide +kernel
theorem dL_areNotes_108 : decode cL_areNotes 108 = .ok (.iconst 4, 1) := by decide +kernel
theorem dL_areNotes_109 : decode cL_areNotes 109 = .ok (.iadd, 1) := by decide +kernel
theorem dL_areNotes_110 : decode cL_areNotes 110 = .ok (.iaload, 1) := by decide +kernel
theorem dL_areNotes_111 : decode cL_areNotes 111 = .ok (.if_icmp .ne 20, 3) := by decide +kernel
theorem dL_areNotes_114 : decode cL_areNotes 114 = .ok (.aload_n 0, 1) := by decide +kernel
theorem dL_areNotes_115 : decode cL_areNotes 115 = .ok (.iload 6, 2) := by decide +kernel
theorem dL_areNotes_117 : decode cL_areNotes 117 = .ok (.bipush 6, 2) := by decide +kernel
theorem dL_areNotes_119 : decode cL_areNotes 119 = .ok (.invokevirtual 29, 3) := by decide +kernel
theorem dL_areNotes_122 : decode cL_areNotes 122 = .ok (.aload_n 3, 1) := by decide +kernel
theorem dL_areNotes_123 : decode cL_areNotes 123 = .ok (.iload 7, 2) := by decide +kernel
theorem dL_areNotes_125 : decode cL_areNotes 125 = .ok (.iconst 5, 1) := by decide +kernel
theorem dL_areNotes_126 : decode cL_areNotes 126 = .ok (.iadd, 1) := by decide +kernel
theorem dL_areNotes_127 : decode cL_areNotes 127 = .ok (.iaload, 1) := by decide +kernel
theorem dL_areNotes_128 : decode cL_areNotes 128 = .ok (.if_icmp .eq 5, 3) := by decide +kernel
theorem dL_areNotes_131 : decode cL_areNotes 131 = .ok (.iconst 0, 1) := by decide +kernel
theorem dL_areNotes_132 : decode cL_areNotes 132 = .ok (.ireturn, 1) := by decide +kernel
theorem dL_areNotes_133 : decode cL_areNotes 133 = .ok (.iload 5, 2) := by decide +kernel
theorem dL_areNotes_135 : decode cL_areNotes 135 = .ok (.aload_n 3, 1) := by decide +kernel
theorem dL_areNotes_136 : decode cL_areNotes 136 = .ok (.iload 7, 2) := by decide +kernel
theorem dL_areNotes_138 : decode cL_areNotes 138 = .ok (.iconst 5, 1) := by decide +kernel
theorem dL_areNotes_139 : decode cL_areNotes 139 = .ok (.iadd, 1) := by decide +kernel
theorem dL_areNotes_140 : decode cL_areNotes 140 = .ok (.iaload, 1) := by decide +kernel
theorem dL_areNotes_141 : decode cL_areNotes 141 = .ok (.iadd, 1) := by decide +kernel
theorem dL_areNotes_142 : decode cL_areNotes 142 = .ok (.istore 5, 2) := by decide +kernel
theorem dL_areNotes_144 : decode cL_areNotes 144 = .ok (.iinc 6 1, 3) := by decide +kernel
theorem dL_areNotes_147 : decode cL_areNotes 147 = .ok (.goto (-141), 3) := by decide +kernel
theorem dL_areNotes_150 : decode cL_areNotes 150 = .ok (.iconst 0, 1) := by decide +kernel
theorem dL_areNotes_151 : decode cL_areNotes 151 = .ok (.istore 6, 2) := by decide +kernel
theorem dL_areNotes_153 : decode cL_areNotes 153 = .ok (.iload 6, 2) := by decide +kernel
theorem dL_areNotes_155 : decode cL_areNotes 155 = .ok (.iconst 3, 1) := by decide +kernel
theorem dL_areNotes_156 : decode cL_areNotes 156 = .ok (.if_icmp .ge 219, 3) := by decide +kernel
theorem dL_areNotes_159 : decode cL_areNotes 159 = .ok (.iconst 0, 1) := by decide +kernel
theorem dL_areNotes_160 : decode cL_areNotes 160 = .ok (.istore 7, 2) := by decide +kernel
theorem dL_areNotes_162 : decode cL_areNotes 162 = .ok (.iconst 0, 1) := by decide +kernel
theorem dL_areNotes_163 : decode cL_areNotes 163 = .ok (.istore 8, 2) := by decide +kernel
theorem dL_areNotes_165 : decode cL_areNotes 165 = .ok (.iconst 0, 1) := by decide +kernel
theorem dL_areNotes_166 : decode cL_areNotes 166 = .ok (.istore 9, 2) := by decide +kernel
theorem dL_areNotes_168 : decode cL_areNotes 168 = .ok (.iconst 0, 1) := by decide +kernel
theorem dL_areNotes_169 : decode cL_areNotes 169 = .ok (.istore 10, 2) := by decide +kernel
theorem dL_areNotes_171 : decode cL_areNotes 171 = .ok (.iload 10, 2) := by decide +kernel
theorem dL_areNotes_173 : decode cL_areNotes 173 = .ok (.aload_n 1, 1) := by decide +kernel
theorem dL_areNotes_174 : decode cL_areNotes 174 = .ok (.iconst 2, 1) := by decide +kernel
theorem dL_areNotes_175 : decode cL_areNotes 175 = .ok (.iaload, 1) := by decide +kernel
theorem dL_areNotes_176 : decode cL_areNotes 176 = .ok (.if_icmp .ge 103, 3) := by decide +kernel
theorem dL_areNotes_179 : decode cL_areNotes 179 = .ok (.aload_n 3, 1) := by decide +kernel
theorem dL_areNotes_180 : decode cL_areNotes 180 = .ok (.bipush 6, 2) := by decide +kernel
theorem dL_areNotes_182 : decode cL_areNotes 182 = .ok (.iload 10, 2) := by decide +kernel
theorem dL_areNotes_184 : decode cL_areNotes 184 = .ok (.imul, 1) := by decide +kernel
theorem dL_areNotes_185 : decode cL_areNotes 185 = .ok (.iaload, 1) := by decide +kernel
theorem dL_areNotes_186 : decode cL_areNotes 186 = .ok (.iload 6, 2) := by decide +kernel
theorem dL_areNotes_188 : decode cL_areNotes 188 = .ok (.if_icmp .ne 19, 3) := by decide +kernel
theorem dL_areNotes_191 : decode cL_areNotes 191 = .ok (.aload_n 3, 1) := by decide +kernel
theorem dL_areNotes_192 : decode cL_areNotes 192 = .ok (.bipush 6, 2) := by decide +kernel
theorem dL_areNotes_194 : decode cL_areNotes 194 = .ok (.iload 10, 2) := by decide +kernel
theorem dL_areNotes_196 : decode cL_areNotes 196 = .ok (.imul, 1) := by decide +kernel
theorem dL_areNotes_197 : decode cL_areNotes 197 = .ok (.iconst 3, 1) := by decide +kernel
theorem dL_areNotes_198 : decode cL_areNotes 198 = .ok (.iadd, 1) := by decide +kernel
theorem dL_areNotes_199 : decode cL_areNotes 199 = .ok (.iaload, 1) := by decide +kernel
theorem dL_areNotes_200 : decode cL_areNotes 200 = .ok (.ifCond .le 7, 3) := by decide +kernel
theorem dL_areNotes_203 : decode cL_areNotes 203 = .ok (.iconst 1, 1) := by decide +kernel
theorem dL_areNotes_204 : decode cL_areNotes 204 = .ok (.goto 4, 3) := by decide +kernel
theorem dL_areNotes_207 : decode cL_areNotes 207 = .ok (.iconst 0, 1) := by decide +kernel
theorem dL_areNotes_208 : decode cL_areNotes 208 = .ok (.istore 11, 2) := by decide +kernel
theorem dL_areNotes_210 : decode cL_areNotes 210 = .ok (.iload 7, 2) := by decide +kernel
theorem dL_areNotes_212 : decode cL_areNotes 212 = .ok (.iload 11, 2) := by decide +kernel
theorem dL_areNotes_214 : decode cL_areNotes 214 = .ok (.ifCond .eq 15, 3) := by decide +kernel
theorem dL_areNotes_217 : decode cL_areNotes 217 = .ok (.aload_n 3, 1) := by decide +kernel
theorem dL_areNotes_218 : decode cL_areNotes 218 = .ok (.bipush 6, 2) := by decide +kernel
theorem dL_areNotes_220 : decode cL_areNotes 220 = .ok (.iload 10, 2) := by decide +kernel
end
section
theorem dL_areNotes_222 : decode cL_areNotes 222 = .ok (.imul, 1) := by decide +kernel
theorem dL_areNotes_223 : decode cL_areNotes 223 = .ok (.iconst 3, 1) := by decide +kernel
theorem dL_areNotes_224 : decode cL_areNotes 224 = .ok (.iadd, 1) := by decide +kernel
theorem dL_areNotes_225 : decode cL_areNotes 225 = .ok (.iaload, 1) := by decide +kernel
theorem dL_areNotes_226 : decode cL_areNotes 226 = .ok (.goto 4, 3) := by decide +kernel
theorem dL_areNotes_229 : decode cL_areNotes 229 = .ok (.iconst 0, 1) := by decide +kernel
theorem dL_areNotes_230 : decode cL_areNotes 230 = .ok (.iadd, 1) := by decide +kernel
theorem dL_areNotes_231 : decode cL_areNotes 231 = .ok (.istore 7, 2) := by decide +kernel
theorem dL_areNotes_233 : decode cL_areNotes 233 = .ok (.iload 8, 2) := by decide +kernel
theorem dL_areNotes_235 : decode cL_areNotes 235 = .ok (.iload 11, 2) := by decide +kernel
theorem dL_areNotes_237 : decode cL_areNotes 237 = .ok (.ifCond .eq 7, 3) := by decide +kernel
theorem dL_areNotes_240 : decode cL_areNotes 240 = .ok (.iconst 1, 1) := by decide +kernel
theorem dL_areNotes_241 : decode cL_areNotes 241 = .ok (.goto 4, 3) := by decide +kernel
theorem dL_areNotes_244 : decode cL_areNotes 244 = .ok (.iconst 0, 1) := by decide +kernel
theorem dL_areNotes_245 : decode cL_areNotes 245 = .ok (.iadd, 1) := by decide +kernel
theorem dL_areNotes_246 : decode cL_areNotes 246 = .ok (.istore 8, 2) := by decide +kernel
theorem dL_areNotes_248 : decode cL_areNotes 248 = .ok (.iload 9, 2) := by decide +kernel
theorem dL_areNotes_250 : decode cL_areNotes 250 = .ok (.iload 11, 2) := by decide +kernel
theorem dL_areNotes_252 : decode cL_areNotes 252 = .ok (.ifCond .eq 17, 3) := by decide +kernel
theorem dL_areNotes_255 : decode cL_areNotes 255 = .ok (.iconst 1, 1) := by decide +kernel
theorem dL_areNotes_256 : decode cL_areNotes 256 = .ok (.aload_n 3, 1) := by decide +kernel
theorem dL_areNotes_257 : decode cL_areNotes 257 = .ok (.bipush 6, 2) := by decide +kernel
theorem dL_areNotes_259 : decode cL_areNotes 259 = .ok (.iload 10, 2) := by decide +kernel
theorem dL_areNotes_261 : decode cL_areNotes 261 = .ok (.imul, 1) := by decide +kernel
theorem dL_areNotes_262 : decode cL_areNotes 262 = .ok (.iconst 1, 1) := by decide +kernel
theorem dL_areNotes_263 : decode cL_areNotes 263 = .ok (.iadd, 1) := by decide +kernel
theorem dL_areNotes_264 : decode cL_areNotes 264 = .ok (.iaload, 1) := by decide +kernel
theorem dL_areNotes_265 : decode cL_areNotes 265 = .ok (.ishl, 1) := by decide +kernel
theorem dL_areNotes_266 : decode cL_areNotes 266 = .ok (.goto 4, 3) := by decide +kernel
theorem dL_areNotes_269 : decode cL_areNotes 269 = .ok (.iconst 0, 1) := by decide +kernel
theorem dL_areNotes_270 : decode cL_areNotes 270 = .ok (.ior, 1) := by decide +kernel
theorem dL_areNotes_271 : decode cL_areNotes 271 = .ok (.istore 9, 2) := by decide +kernel
theorem dL_areNotes_273 : decode cL_areNotes 273 = .ok (.iinc 10 1, 3) := by decide +kernel
theorem dL_areNotes_276 : decode cL_areNotes 276 = .ok (.goto (-105), 3) := by decide +kernel
theorem dL_areNotes_279 : decode cL_areNotes 279 = .ok (.aload_n 0, 1) := by decide +kernel
theorem dL_areNotes_280 : decode cL_areNotes 280 = .ok (.iload 6, 2) := by decide +kernel
theorem dL_areNotes_282 : decode cL_areNotes 282 = .ok (.iconst 0, 1) := by decide +kernel
theorem dL_areNotes_283 : decode cL_areNotes 283 = .ok (.invokevirtual 32, 3) := by decide +kernel
theorem dL_areNotes_286 : decode cL_areNotes 286 = .ok (.aload_n 2, 1) := by decide +kernel
theorem dL_areNotes_287 : decode cL_areNotes 287 = .ok (.iconst 3, 1) := by decide +kernel
theorem dL_areNotes_288 : decode cL_areNotes 288 = .ok (.iload 6, 2) := by decide +kernel
theorem dL_areNotes_290 : decode cL_areNotes 290 = .ok (.imul, 1) := by decide +kernel
theorem dL_areNotes_291 : decode cL_areNotes 291 = .ok (.iaload, 1) := by decide +kernel
theorem dL_areNotes_292 : decode cL_areNotes 292 = .ok (.if_icmp .ne 75, 3) := by decide +kernel
theorem dL_areNotes_295 : decode cL_areNotes 295 = .ok (.aload_n 0, 1) := by decide +kernel
theorem dL_areNotes_296 : decode cL_areNotes 296 = .ok (.iload 6, 2) := by decide +kernel
theorem dL_areNotes_298 : decode cL_areNotes 298 = .ok (.iconst 1, 1) := by decide +kernel
theorem dL_areNotes_299 : decode cL_areNotes 299 = .ok (.invokevirtual 32, 3) := by decide +kernel
theorem dL_areNotes_302 : decode cL_areNotes 302 = .ok (.iload 7, 2) := by decide +kernel
theorem dL_areNotes_304 : decode cL_areNotes 304 = .ok (.if_icmp .ne 63, 3) := by decide +kernel
theorem dL_areNotes_307 : decode cL_areNotes 307 = .ok (.aload_n 0, 1) := by decide +kernel
theorem dL_areNotes_308 : decode cL_areNotes 308 = .ok (.iload 6, 2) := by decide +kernel
theorem dL_areNotes_310 : decode cL_areNotes 310 = .ok (.iconst 2, 1) := by decide +kernel
theorem dL_areNotes_311 : decode cL_areNotes 311 = .ok (.invokevirtual 32, 3) := by decide +kernel
theorem dL_areNotes_314 : decode cL_areNotes 314 = .ok (.iload 8, 2) := by decide +kernel
theorem dL_areNotes_316 : decode cL_areNotes 316 = .ok (.if_icmp .ne 51, 3) := by decide +kernel
theorem dL_areNotes_319 : decode cL_areNotes 319 = .ok (.aload_n 0, 1) := by decide +kernel
theorem dL_areNotes_320 : decode cL_areNotes 320 = .ok (.iload 6, 2) := by decide +kernel
theorem dL_areNotes_322 : decode cL_areNotes 322 = .ok (.iconst 3, 1) := by decide +kernel
theorem dL_areNotes_323 : decode cL_areNotes 323 = .ok (.invokevirtual 32, 3) := by decide +kernel
theorem dL_areNotes_326 : decode cL_areNotes 326 = .ok (.iload 9, 2) := by decide +kernel
theorem dL_areNotes_328 : decode cL_areNotes 328 = .ok (.if_icmp .ne 39, 3) := by decide +kernel
theorem dL_areNotes_331 : decode cL_areNotes 331 = .ok (.aload_n 0, 1) := by decide +kernel
theorem dL_areNotes_332 : decode cL_areNotes 332 = .ok (.iload 6, 2) := by decide +kernel
theorem dL_areNotes_334 : decode cL_areNotes 334 = .ok (.iconst 4, 1) := by decide +kernel
theorem dL_areNotes_335 : decode cL_areNotes 335 = .ok (.invokevirtual 32, 3) := by decide +kernel
theorem dL_areNotes_338 : decode cL_areNotes 338 = .ok (.aload_n 2, 1) := by decide +kernel
theorem dL_areNotes_339 : decode cL_areNotes 339 = .ok (.iconst 3, 1) := by decide +kernel
theorem dL_areNotes_340 : decode cL_areNotes 340 = .ok (.iload 6, 2) := by decide +kernel
theorem dL_areNotes_342 : decode cL_areNotes 342 = .ok (.imul, 1) := by decide +kernel
theorem dL_areNotes_343 : decode cL_areNotes 343 = .ok (.iconst 1, 1) := by decide +kernel
theorem dL_areNotes_344 : decode cL_areNotes 344 = .ok (.iadd, 1) := by decide +kernel
theorem dL_areNotes_345 : decode cL_areNotes 345 = .ok (.iaload, 1) := by decide +kernel
theorem dL_areNotes_346 : decode cL_areNotes 346 = .ok (.if_icmp .ne 21, 3) := by decide +kernel
theorem dL_areNotes_349 : decode cL_areNotes 349 = .ok (.aload_n 0, 1) := by decide +kernel
theorem dL_areNotes_350 : decode cL_areNotes 350 = .ok (.iload 6, 2) := by decide +kernel
theorem dL_areNotes_352 : decode cL_areNotes 352 = .ok (.iconst 5, 1) := by decide +kernel
theorem dL_areNotes_353 : decode cL_areNotes 353 = .ok (.invokevirtual 32, 3) := by decide +kernel
theorem dL_areNotes_356 : decode cL_areNotes 356 = .ok (.aload_n 2, 1) := by decide +kernel
theorem dL_areNotes_357 : decode cL_areNotes 357 = .ok (.iconst 3, 1) := by decide +kernel
theorem dL_areNotes_358 : decode cL_areNotes 358 = .ok (.iload 6, 2) := by decide +kernel
theorem dL_areNotes_360 : decode cL_areNotes 360 = .ok (.imul, 1) := by decide +kernel
theorem dL_areNotes_361 : decode cL_areNotes 361 = .ok (.iconst 2, 1) := by decide +kernel
theorem dL_areNotes_362 : decode cL_areNotes 362 = .ok (.iadd, 1) := by decide +kernel
theorem dL_areNotes_363 : decode cL_areNotes 363 = .ok (.iaload, 1) := by decide +kernel
theorem dL_areNotes_364 : decode cL_areNotes 364 = .ok (.if_icmp .eq 5, 3) := by decide +kernel
theorem dL_areNotes_367 : decode cL_areNotes 367 = .ok (.iconst 0, 1) := by decide +kernel
theorem dL_areNotes_368 : decode cL_areNotes 368 = .ok (.ireturn, 1) := by decide +kernel
theorem dL_areNotes_369 : decode cL_areNotes 369 = .ok (.iinc 6 1, 3) := by decide +kernel
theorem dL_areNotes_372 : decode cL_areNotes 372 = .ok (.goto (-219), 3) := by decide +kernel
theorem dL_areNotes_375 : decode cL_areNotes 375 = .ok (.iconst 0, 1) := by decide +kernel
theorem dL_areNotes_376 : decode cL_areNotes 376 = .ok (.istore 6, 2) := by decide +kernel
theorem dL_areNotes_378 : decode cL_areNotes 378 = .ok (.iload 6, 2) := by decide +kernel
theorem dL_areNotes_380 : decode cL_areNotes 380 = .ok (.iconst 4, 1) := by decide +kernel
theorem dL_areNotes_381 : decode cL_areNotes 381 = .ok (.if_icmp .ge 42, 3) := by decide +kernel
theorem dL_areNotes_384 : decode cL_areNotes 384 = .ok (.aload_n 0, 1) := by decide +kernel
theorem dL_areNotes_385 : decode cL_areNotes 385 = .ok (.iload 6, 2) := by decide +kernel
theorem dL_areNotes_387 : decode cL_areNotes 387 = .ok (.iconst 0, 1) := by decide +kernel
theorem dL_areNotes_388 : decode cL_areNotes 388 = .ok (.invokevirtual 35, 3) := by decide +kernel
theorem dL_areNotes_391 : decode cL_areNotes 391 = .ok (.iload 6, 2) := by decide +kernel
theorem dL_areNotes_393 : decode cL_areNotes 393 = .ok (.invokestatic 38, 3) := by decide +kernel
theorem dL_areNotes_396 : decode cL_areNotes 396 = .ok (.if_icmp .ne 19, 3) := by decide +kernel
theorem dL_areNotes_399 : decode cL_areNotes 399 = .ok (.aload_n 0, 1) := by decide +kernel
theorem dL_areNotes_400 : decode cL_areNotes 400 = .ok (.iload 6, 2) := by decide +kernel
theorem dL_areNotes_402 : decode cL_areNotes 402 = .ok (.iconst 1, 1) := by decide +kernel
theorem dL_areNotes_403 : decode cL_areNotes 403 = .ok (.invokevirtual 35, 3) := by decide +kernel
theorem dL_areNotes_406 : decode cL_areNotes 406 = .ok (.aload_n 1, 1) := by decide +kernel
theorem dL_areNotes_407 : decode cL_areNotes 407 = .ok (.iconst 5, 1) := by decide +kernel
theorem dL_areNotes_408 : decode cL_areNotes 408 = .ok (.iload 6, 2) := by decide +kernel
theorem dL_areNotes_410 : decode cL_areNotes 410 = .ok (.iadd, 1) := by decide +kernel
theorem dL_areNotes_411 : decode cL_areNotes 411 = .ok (.iaload, 1) := by decide +kernel
theorem dL_areNotes_412 : decode cL_areNotes 412 = .ok (.if_icmp .eq 5, 3) := by decide +kernel
theorem dL_areNotes_415 : decode cL_areNotes 415 = .ok (.iconst 0, 1) := by decide +kernel
theorem dL_areNotes_416 : decode cL_areNotes 416 = .ok (.ireturn, 1) := by decide +kernel
theorem dL_areNotes_417 : decode cL_areNotes 417 = .ok (.iinc 6 1, 3) := by decide +kernel
theorem dL_areNotes_420 : decode cL_areNotes 420 = .ok (.goto (-42), 3) := by decide +kernel
theorem dL_areNotes_423 : decode cL_areNotes 423 = .ok (.aload_n 0, 1) := by decide +kernel
theorem dL_areNotes_424 : decode cL_areNotes 424 = .ok (.bipush 13, 2) := by decide +kernel
theorem dL_areNotes_426 : decode cL_areNotes 426 = .ok (.invokevirtual 25, 3) := by decide +kernel
theorem dL_areNotes_429 : decode cL_areNotes 429 = .ok (.iload 5, 2) := by decide +kernel
theorem dL_areNotes_431 : decode cL_areNotes 431 = .ok (.if_icmp .ne 39, 3) := by decide +kernel
theorem dL_areNotes_434 : decode cL_areNotes 434 = .ok (.aload_n 0, 1) := by decide +kernel
theorem dL_areNotes_435 : decode cL_areNotes 435 = .ok (.aload_n 1, 1) := by decide +kernel
theorem dL_areNotes_436 : decode cL_areNotes 436 = .ok (.iconst 2, 1) := by decide +kernel
theorem dL_areNotes_437 : decode cL_areNotes 437 = .ok (.iaload, 1) := by decide +kernel
theorem dL_areNotes_438 : decode cL_areNotes 438 = .ok (.iconst 0, 1) := by decide +kernel
theorem dL_areNotes_439 : decode cL_areNotes 439 = .ok (.invokevirtual 29, 3) := by decide +kernel
theorem dL_areNotes_442 : decode cL_areNotes 442 = .ok (.iconst (-1), 1) := by decide +kernel
theorem dL_areNotes_443 : decode cL_areNotes 443 = .ok (.if_icmp .ne 27, 3) := by decide +kernel
theorem dL_areNotes_446 : decode cL_areNotes 446 = .ok (.aload_n 0, 1) := by decide +kernel
theorem dL_areNotes_447 : decode cL_areNotes 447 = .ok (.iconst 3, 1) := by decide +kernel
theorem dL_areNotes_448 : decode cL_areNotes 448 = .ok (.iconst 0, 1) := by decide +kernel
theorem dL_areNotes_449 : decode cL_areNotes 449 = .ok (.invokevirtual 32, 3) := by decide +kernel
theorem dL_areNotes_452 : decode cL_areNotes 452 = .ok (.iconst (-1), 1) := by decide +kernel
theorem dL_areNotes_453 : decode cL_areNotes 453 = .ok (.if_icmp .ne 17, 3) := by decide +kernel
theorem dL_areNotes_456 : decode cL_areNotes 456 = .ok (.aload_n 0, 1) := by decide +kernel
theorem dL_areNotes_457 : decode cL_areNotes 457 = .ok (.iconst 4, 1) := by decide +kernel
theorem dL_areNotes_458 : decode cL_areNotes 458 = .ok (.iconst 0, 1) := by decide +kernel
theorem dL_areNotes_459 : decode cL_areNotes 459 = .ok (.invokevirtual 35, 3) := by decide +kernel
theorem dL_areNotes_462 : decode cL_areNotes 462 = .ok (.iconst (-1), 1) := by decide +kernel
theorem dL_areNotes_463 : decode cL_areNotes 463 = .ok (.if_icmp .ne 7, 3) := by decide +kernel
theorem dL_areNotes_466 : decode cL_areNotes 466 = .ok (.iconst 1, 1) := by decide +kernel
theorem dL_areNotes_467 : decode cL_areNotes 467 = .ok (.goto 4, 3) := by decide +kernel
theorem dL_areNotes_470 : decode cL_areNotes 470 = .ok (.iconst 0, 1) := by decide +kernel
theorem dL_areNotes_471 : decode cL_areNotes 471 = .ok (.ireturn, 1) := by decide +kernel
theorem dL_isFunded_0 : decode cL_isFunded 0 = .ok (.iload 6, 2) := by decide +kernel
theorem dL_isFunded_2 : decode cL_isFunded 2 = .ok (.aload_n 1, 1) := by decide +kernel
theorem dL_isFunded_3 : decode cL_isFunded 3 = .ok (.iconst 1, 1) := by decide +kernel
theorem dL_isFunded_4 : decode cL_isFunded 4 = .ok (.iaload, 1) := by decide +kernel
theorem dL_isFunded_5 : decode cL_isFunded 5 = .ok (.invokestatic 41, 3) := by decide +kernel
theorem dL_isFunded_8 : decode cL_isFunded 8 = .ok (.istore 7, 2) := by decide +kernel
theorem dL_isFunded_10 : decode cL_isFunded 10 = .ok (.iload 6, 2) := by decide +kernel
theorem dL_isFunded_12 : decode cL_isFunded 12 = .ok (.iconst 3, 1) := by decide +kernel
theorem dL_isFunded_13 : decode cL_isFunded 13 = .ok (.ishr, 1) := by decide +kernel
theorem dL_isFunded_14 : decode cL_isFunded 14 = .ok (.iconst 3, 1) := by decide +kernel
theorem dL_isFunded_15 : decode cL_isFunded 15 = .ok (.invokestatic 41, 3) := by decide +kernel
theorem dL_isFunded_18 : decode cL_isFunded 18 = .ok (.istore 8, 2) := by decide +kernel
theorem dL_isFunded_20 : decode cL_isFunded 20 = .ok (.iload 6, 2) := by decide +kernel
theorem dL_isFunded_22 : decode cL_isFunded 22 = .ok (.iconst 5, 1) := by decide +kernel
theorem dL_isFunded_23 : decode cL_isFunded 23 = .ok (.ishr, 1) := by decide +kernel
theorem dL_isFunded_24 : decode cL_isFunded 24 = .ok (.iconst 2, 1) := by decide +kernel
theorem dL_isFunded_25 : decode cL_isFunded 25 = .ok (.invokestatic 41, 3) := by decide +kernel
theorem dL_isFunded_28 : decode cL_isFunded 28 = .ok (.istore 9, 2) := by decide +kernel
theorem dL_isFunded_30 : decode cL_isFunded 30 = .ok (.aload_n 3, 1) := by decide +kernel
theorem dL_isFunded_31 : decode cL_isFunded 31 = .ok (.bipush 11, 2) := by decide +kernel
theorem dL_isFunded_33 : decode cL_isFunded 33 = .ok (.iload 7, 2) := by decide +kernel
theorem dL_isFunded_35 : decode cL_isFunded 35 = .ok (.imul, 1) := by decide +kernel
theorem dL_isFunded_36 : decode cL_isFunded 36 = .ok (.iaload, 1) := by decide +kernel
theorem dL_isFunded_37 : decode cL_isFunded 37 = .ok (.aload_n 1, 1) := by decide +kernel
theorem dL_isFunded_38 : decode cL_isFunded 38 = .ok (.aload 4, 2) := by decide +kernel
theorem dL_isFunded_40 : decode cL_isFunded 40 = .ok (.iload 7, 2) := by decide +kernel
theorem dL_isFunded_42 : decode cL_isFunded 42 = .ok (.iconst (-1), 1) := by decide +kernel
theorem dL_isFunded_43 : decode cL_isFunded 43 = .ok (.invokestatic 9, 3) := by decide +kernel
theorem dL_isFunded_46 : decode cL_isFunded 46 = .ok (.isub, 1) := by decide +kernel
theorem dL_isFunded_47 : decode cL_isFunded 47 = .ok (.istore 10, 2) := by decide +kernel
theorem dL_isFunded_49 : decode cL_isFunded 49 = .ok (.iload 6, 2) := by decide +kernel
theorem dL_isFunded_51 : decode cL_isFunded 51 = .ok (.bipush 6, 2) := by decide +kernel
theorem dL_isFunded_53 : decode cL_isFunded 53 = .ok (.ishr, 1) := by decide +kernel
theorem dL_isFunded_54 : decode cL_isFunded 54 = .ok (.iconst 2, 1) := by decide +kernel
theorem dL_isFunded_55 : decode cL_isFunded 55 = .ok (.invokestatic 41, 3) := by decide +kernel
theorem dL_isFunded_58 : decode cL_isFunded 58 = .ok (.ifCond .ne 25, 3) := by decide +kernel
theorem dL_isFunded_61 : decode cL_isFunded 61 = .ok (.iload 10, 2) := by decide +kernel
theorem dL_isFunded_63 : decode cL_isFunded 63 = .ok (.ifCond .le 20, 3) := by decide +kernel
theorem dL_isFunded_66 : decode cL_isFunded 66 = .ok (.aload_n 3, 1) := by decide +kernel
theorem dL_isFunded_67 : decode cL_isFunded 67 = .ok (.bipush 11, 2) := by decide +kernel
theorem dL_isFunded_69 : decode cL_isFunded 69 = .ok (.iload 7, 2) := by decide +kernel
theorem dL_isFunded_71 : decode cL_isFunded 71 = .ok (.imul, 1) := by decide +kernel
theorem dL_isFunded_72 : decode cL_isFunded 72 = .ok (.iconst 3, 1) := by decide +kernel
theorem dL_isFunded_73 : decode cL_isFunded 73 = .ok (.iadd, 1) := by decide +kernel
theorem dL_isFunded_74 : decode cL_isFunded 74 = .ok (.iaload, 1) := by decide +kernel
theorem dL_isFunded_75 : decode cL_isFunded 75 = .ok (.ifCond .ne 8, 3) := by decide +kernel
theorem dL_isFunded_78 : decode cL_isFunded 78 = .ok (.iload 10, 2) := by decide +kernel
theorem dL_isFunded_80 : decode cL_isFunded 80 = .ok (.goto 16, 3) := by decide +kernel
theorem dL_isFunded_83 : decode cL_isFunded 83 = .ok (.iconst 1, 1) := by decide +kernel
theorem dL_isFunded_84 : decode cL_isFunded 84 = .ok (.iload 6, 2) := by decide +kernel
theorem dL_isFunded_86 : decode cL_isFunded 86 = .ok (.bipush 7, 2) := by decide +kernel
theorem dL_isFunded_88 : decode cL_isFunded 88 = .ok (.ishr, 1) := by decide +kernel
theorem dL_isFunded_89 : decode cL_isFunded 89 = .ok (.sipush 400, 3) := by decide +kernel
theorem dL_isFunded_92 : decode cL_isFunded 92 = .ok (.invokestatic 41, 3) := by decide +kernel
theorem dL_isFunded_95 : decode cL_isFunded 95 = .ok (.iadd, 1) := by decide +kernel
theorem dL_isFunded_96 : decode cL_isFunded 96 = .ok (.istore 11, 2) := by decide +kernel
theorem dL_isFunded_98 : decode cL_isFunded 98 = .ok (.aload_n 3, 1) := by decide +kernel
theorem dL_isFunded_99 : decode cL_isFunded 99 = .ok (.bipush 11, 2) := by decide +kernel
theorem dL_isFunded_101 : decode cL_isFunded 101 = .ok (.iload 7, 2) := by decide +kernel
theorem dL_isFunded_103 : decode cL_isFunded 103 = .ok (.imul, 1) := by decide +kernel
theorem dL_isFunded_104 : decode cL_isFunded 104 = .ok (.iconst 3, 1) := by decide +kernel
theorem dL_isFunded_105 : decode cL_isFunded 105 = .ok (.iadd, 1) := by decide +kernel
theorem dL_isFunded_106 : decode cL_isFunded 106 = .ok (.iaload, 1) := by decide +kernel
theorem dL_isFunded_107 : decode cL_isFunded 107 = .ok (.ifCond .gt 21, 3) := by decide +kernel
theorem dL_isFunded_110 : decode cL_isFunded 110 = .ok (.iload 10, 2) := by decide +kernel
theorem dL_isFunded_112 : decode cL_isFunded 112 = .ok (.iload 11, 2) := by decide +kernel
theorem dL_isFunded_114 : decode cL_isFunded 114 = .ok (.if_icmp .lt 14, 3) := by decide +kernel
theorem dL_isFunded_117 : decode cL_isFunded 117 = .ok (.aload_n 2, 1) := by decide +kernel
theorem dL_isFunded_118 : decode cL_isFunded 118 = .ok (.iconst 3, 1) := by decide +kernel
theorem dL_isFunded_119 : decode cL_isFunded 119 = .ok (.iload 8, 2) := by decide +kernel
theorem dL_isFunded_121 : decode cL_isFunded 121 = .ok (.imul, 1) := by decide +kernel
theorem dL_isFunded_122 : decode cL_isFunded 122 = .ok (.iaload, 1) := by decide +kernel
theorem dL_isFunded_123 : decode cL_isFunded 123 = .ok (.iload 11, 2) := by decide +kernel
theorem dL_isFunded_125 : decode cL_isFunded 125 = .ok (.if_icmp .ge 83, 3) := by decide +kernel
theorem dL_isFunded_128 : decode cL_isFunded 128 = .ok (.aload_n 0, 1) := by decide +kernel
theorem dL_isFunded_129 : decode cL_isFunded 129 = .ok (.iload 8, 2) := by decide +kernel
theorem dL_isFunded_131 : decode cL_isFunded 131 = .ok (.iload 7, 2) := by decide +kernel
theorem dL_isFunded_133 : decode cL_isFunded 133 = .ok (.iload 9, 2) := by decide +kernel
theorem dL_isFunded_135 : decode cL_isFunded 135 = .ok (.iconst 1, 1) := by decide +kernel
theorem dL_isFunded_136 : decode cL_isFunded 136 = .ok (.if_icmp .ne 7, 3) := by decide +kernel
theorem dL_isFunded_139 : decode cL_isFunded 139 = .ok (.iconst 1, 1) := by decide +kernel
theorem dL_isFunded_140 : decode cL_isFunded 140 = .ok (.goto 4, 3) := by decide +kernel
theorem dL_isFunded_143 : decode cL_isFunded 143 = .ok (.iconst 0, 1) := by decide +kernel
theorem dL_isFunded_144 : decode cL_isFunded 144 = .ok (.iload 11, 2) := by decide +kernel
theorem dL_isFunded_146 : decode cL_isFunded 146 = .ok (.invokevirtual 44, 3) := by decide +kernel
theorem dL_isFunded_149 : decode cL_isFunded 149 = .ok (.bipush (-4), 2) := by decide +kernel
theorem dL_isFunded_151 : decode cL_isFunded 151 = .ok (.if_icmp .ne 55, 3) := by decide +kernel
theorem dL_isFunded_154 : decode cL_isFunded 154 = .ok (.aload_n 0, 1) := by decide +kernel
theorem dL_isFunded_155 : decode cL_isFunded 155 = .ok (.iload 8, 2) := by decide +kernel
theorem dL_isFunded_157 : decode cL_isFunded 157 = .ok (.iload 7, 2) := by decide +kernel
theorem dL_isFunded_159 : decode cL_isFunded 159 = .ok (.iload 9, 2) := by decide +kernel
theorem dL_isFunded_161 : decode cL_isFunded 161 = .ok (.iconst 1, 1) := by decide +kernel
theorem dL_isFunded_162 : decode cL_isFunded 162 = .ok (.if_icmp .ne 7, 3) := by decide +kernel
theorem dL_isFunded_165 : decode cL_isFunded 165 = .ok (.iconst 1, 1) := by decide +kernel
theorem dL_isFunded_166 : decode cL_isFunded 166 = .ok (.goto 4, 3) := by decide +kernel
theorem dL_isFunded_169 : decode cL_isFunded 169 = .ok (.iconst 0, 1) := by decide +kernel
theorem dL_isFunded_170 : decode cL_isFunded 170 = .ok (.iconst 0, 1) := by decide +kernel
theorem dL_isFunded_171 : decode cL_isFunded 171 = .ok (.invokevirtual 44, 3) := by decide +kernel
theorem dL_isFunded_174 : decode cL_isFunded 174 = .ok (.bipush (-2), 2) := by decide +kernel
theorem dL_isFunded_176 : decode cL_isFunded 176 = .ok (.if_icmp .ne 30, 3) := by decide +kernel
theorem dL_isFunded_179 : decode cL_isFunded 179 = .ok (.aload_n 0, 1) := by decide +kernel
theorem dL_isFunded_180 : decode cL_isFunded 180 = .ok (.iconst 3, 1) := by decide +kernel
theorem dL_isFunded_181 : decode cL_isFunded 181 = .ok (.iload 7, 2) := by decide +kernel
theorem dL_isFunded_183 : decode cL_isFunded 183 = .ok (.iload 9, 2) := by decide +kernel
theorem dL_isFunded_185 : decode cL_isFunded 185 = .ok (.iconst 1, 1) := by decide +kernel
theorem dL_isFunded_186 : decode cL_isFunded 186 = .ok (.if_icmp .ne 7, 3) := by decide +kernel
theorem dL_isFunded_189 : decode cL_isFunded 189 = .ok (.iconst 1, 1) := by decide +kernel
theorem dL_isFunded_190 : decode cL_isFunded 190 = .ok (.goto 4, 3) := by decide +kernel
theorem dL_isFunded_193 : decode cL_isFunded 193 = .ok (.iconst 0, 1) := by decide +kernel
theorem dL_isFunded_194 : decode cL_isFunded 194 = .ok (.iconst 0, 1) := by decide +kernel
theorem dL_isFunded_195 : decode cL_isFunded 195 = .ok (.invokevirtual 44, 3) := by decide +kernel
theorem dL_isFunded_198 : decode cL_isFunded 198 = .ok (.iconst (-1), 1) := by decide +kernel
theorem dL_isFunded_199 : decode cL_isFunded 199 = .ok (.if_icmp .ne 7, 3) := by decide +kernel
theorem dL_isFunded_202 : decode cL_isFunded 202 = .ok (.iconst 1, 1) := by decide +kernel
theorem dL_isFunded_203 : decode cL_isFunded 203 = .ok (.goto 4, 3) := by decide +kernel
theorem dL_isFunded_206 : decode cL_isFunded 206 = .ok (.iconst 0, 1) := by decide +kernel
theorem dL_isFunded_207 : decode cL_isFunded 207 = .ok (.ireturn, 1) := by decide +kernel
theorem dL_isFunded_208 : decode cL_isFunded 208 = .ok (.aload_n 1, 1) := by decide +kernel
theorem dL_isFunded_209 : decode cL_isFunded 209 = .ok (.iconst 2, 1) := by decide +kernel
theorem dL_isFunded_210 : decode cL_isFunded 210 = .ok (.iaload, 1) := by decide +kernel
theorem dL_isFunded_211 : decode cL_isFunded 211 = .ok (.bipush 10, 2) := by decide +kernel
theorem dL_isFunded_213 : decode cL_isFunded 213 = .ok (.if_icmp .ne 22, 3) := by decide +kernel
theorem dL_isFunded_216 : decode cL_isFunded 216 = .ok (.aload_n 0, 1) := by decide +kernel
theorem dL_isFunded_217 : decode cL_isFunded 217 = .ok (.iload 7, 2) := by decide +kernel
theorem dL_isFunded_219 : decode cL_isFunded 219 = .ok (.bipush 9, 2) := by decide +kernel
theorem dL_isFunded_221 : decode cL_isFunded 221 = .ok (.invokevirtual 19, 3) := by decide +kernel
theorem dL_isFunded_224 : decode cL_isFunded 224 = .ok (.iload 10, 2) := by decide +kernel
theorem dL_isFunded_226 : decode cL_isFunded 226 = .ok (.if_icmp .ne 7, 3) := by decide +kernel
theorem dL_isFunded_229 : decode cL_isFunded 229 = .ok (.iconst 1, 1) := by decide +kernel
theorem dL_isFunded_230 : decode cL_isFunded 230 = .ok (.goto 4, 3) := by decide +kernel
theorem dL_isFunded_233 : decode cL_isFunded 233 = .ok (.iconst 0, 1) := by decide +kernel
theorem dL_isFunded_234 : decode cL_isFunded 234 = .ok (.ireturn, 1) := by decide +kernel
theorem dL_isFunded_235 : decode cL_isFunded 235 = .ok (.bipush 6, 2) := by decide +kernel
theorem dL_isFunded_237 : decode cL_isFunded 237 = .ok (.aload_n 1, 1) := by decide +kernel
theorem dL_isFunded_238 : decode cL_isFunded 238 = .ok (.iconst 2, 1) := by decide +kernel
theorem dL_isFunded_239 : decode cL_isFunded 239 = .ok (.iaload, 1) := by decide +kernel
theorem dL_isFunded_240 : decode cL_isFunded 240 = .ok (.imul, 1) := by decide +kernel
theorem dL_isFunded_241 : decode cL_isFunded 241 = .ok (.istore 12, 2) := by decide +kernel
theorem dL_isFunded_243 : decode cL_isFunded 243 = .ok (.aload 4, 2) := by decide +kernel
theorem dL_isFunded_245 : decode cL_isFunded 245 = .ok (.iload 12, 2) := by decide +kernel
theorem dL_isFunded_247 : decode cL_isFunded 247 = .ok (.iload 8, 2) := by decide +kernel
theorem dL_isFunded_249 : decode cL_isFunded 249 = .ok (.iastore, 1) := by decide +kernel
theorem dL_isFunded_250 : decode cL_isFunded 250 = .ok (.aload 4, 2) := by decide +kernel
theorem dL_isFunded_252 : decode cL_isFunded 252 = .ok (.iload 12, 2) := by decide +kernel
theorem dL_isFunded_254 : decode cL_isFunded 254 = .ok (.iconst 1, 1) := by decide +kernel
theorem dL_isFunded_255 : decode cL_isFunded 255 = .ok (.iadd, 1) := by decide +kernel
theorem dL_isFunded_256 : decode cL_isFunded 256 = .ok (.iload 7, 2) := by decide +kernel
theorem dL_isFunded_258 : decode cL_isFunded 258 = .ok (.iastore, 1) := by decide +kernel
theorem dL_isFunded_259 : decode cL_isFunded 259 = .ok (.aload 4, 2) := by decide +kernel
theorem dL_isFunded_261 : decode cL_isFunded 261 = .ok (.iload 12, 2) := by decide +kernel
theorem dL_isFunded_263 : decode cL_isFunded 263 = .ok (.iconst 2, 1) := by decide +kernel
theorem dL_isFunded_264 : decode cL_isFunded 264 = .ok (.iadd, 1) := by decide +kernel
theorem dL_isFunded_265 : decode cL_isFunded 265 = .ok (.iload 9, 2) := by decide +kernel
theorem dL_isFunded_267 : decode cL_isFunded 267 = .ok (.iastore, 1) := by decide +kernel
theorem dL_isFunded_268 : decode cL_isFunded 268 = .ok (.aload 4, 2) := by decide +kernel
theorem dL_isFunded_270 : decode cL_isFunded 270 = .ok (.iload 12, 2) := by decide +kernel
theorem dL_isFunded_272 : decode cL_isFunded 272 = .ok (.iconst 3, 1) := by decide +kernel
theorem dL_isFunded_273 : decode cL_isFunded 273 = .ok (.iadd, 1) := by decide +kernel
theorem dL_isFunded_274 : decode cL_isFunded 274 = .ok (.iload 11, 2) := by decide +kernel
theorem dL_isFunded_276 : decode cL_isFunded 276 = .ok (.iastore, 1) := by decide +kernel
theorem dL_isFunded_277 : decode cL_isFunded 277 = .ok (.aload 4, 2) := by decide +kernel
theorem dL_isFunded_279 : decode cL_isFunded 279 = .ok (.iload 12, 2) := by decide +kernel
theorem dL_isFunded_281 : decode cL_isFunded 281 = .ok (.iconst 4, 1) := by decide +kernel
theorem dL_isFunded_282 : decode cL_isFunded 282 = .ok (.iadd, 1) := by decide +kernel
theorem dL_isFunded_283 : decode cL_isFunded 283 = .ok (.iconst 0, 1) := by decide +kernel
theorem dL_isFunded_284 : decode cL_isFunded 284 = .ok (.iastore, 1) := by decide +kernel
theorem dL_isFunded_285 : decode cL_isFunded 285 = .ok (.aload 4, 2) := by decide +kernel
theorem dL_isFunded_287 : decode cL_isFunded 287 = .ok (.iload 12, 2) := by decide +kernel
theorem dL_isFunded_289 : decode cL_isFunded 289 = .ok (.iconst 5, 1) := by decide +kernel
theorem dL_isFunded_290 : decode cL_isFunded 290 = .ok (.iadd, 1) := by decide +kernel
theorem dL_isFunded_291 : decode cL_isFunded 291 = .ok (.iconst 0, 1) := by decide +kernel
theorem dL_isFunded_292 : decode cL_isFunded 292 = .ok (.iastore, 1) := by decide +kernel
theorem dL_isFunded_293 : decode cL_isFunded 293 = .ok (.aload 5, 2) := by decide +kernel
theorem dL_isFunded_295 : decode cL_isFunded 295 = .ok (.aload_n 1, 1) := by decide +kernel
theorem dL_isFunded_296 : decode cL_isFunded 296 = .ok (.iconst 2, 1) := by decide +kernel
theorem dL_isFunded_297 : decode cL_isFunded 297 = .ok (.iaload, 1) := by decide +kernel
theorem dL_isFunded_298 : decode cL_isFunded 298 = .ok (.iload 11, 2) := by decide +kernel
theorem dL_isFunded_300 : decode cL_isFunded 300 = .ok (.iastore, 1) := by decide +kernel
theorem dL_isFunded_301 : decode cL_isFunded 301 = .ok (.aload_n 1, 1) := by decide +kernel
theorem dL_isFunded_302 : decode cL_isFunded 302 = .ok (.iconst 2, 1) := by decide +kernel
theorem dL_isFunded_303 : decode cL_isFunded 303 = .ok (.dup2, 1) := by decide +kernel
theorem dL_isFunded_304 : decode cL_isFunded 304 = .ok (.iaload, 1) := by decide +kernel
theorem dL_isFunded_305 : decode cL_isFunded 305 = .ok (.iconst 1, 1) := by decide +kernel
theorem dL_isFunded_306 : decode cL_isFunded 306 = .ok (.iadd, 1) := by decide +kernel
theorem dL_isFunded_307 : decode cL_isFunded 307 = .ok (.iastore, 1) := by decide +kernel
theorem dL_isFunded_308 : decode cL_isFunded 308 = .ok (.aload_n 2, 1) := by decide +kernel
theorem dL_isFunded_309 : decode cL_isFunded 309 = .ok (.iconst 3, 1) := by decide +kernel
theorem dL_isFunded_310 : decode cL_isFunded 310 = .ok (.iload 8, 2) := by decide +kernel
theorem dL_isFunded_312 : decode cL_isFunded 312 = .ok (.imul, 1) := by decide +kernel
theorem dL_isFunded_313 : decode cL_isFunded 313 = .ok (.dup2, 1) := by decide +kernel
theorem dL_isFunded_314 : decode cL_isFunded 314 = .ok (.iaload, 1) := by decide +kernel
theorem dL_isFunded_315 : decode cL_isFunded 315 = .ok (.iload 11, 2) := by decide +kernel
theorem dL_isFunded_317 : decode cL_isFunded 317 = .ok (.isub, 1) := by decide +kernel
theorem dL_isFunded_318 : decode cL_isFunded 318 = .ok (.iastore, 1) := by decide +kernel
theorem dL_isFunded_319 : decode cL_isFunded 319 = .ok (.iload 10, 2) := by decide +kernel
theorem dL_isFunded_321 : decode cL_isFunded 321 = .ok (.iload 11, 2) := by decide +kernel
theorem dL_isFunded_323 : decode cL_isFunded 323 = .ok (.if_icmp .ne 81, 3) := by decide +kernel
theorem dL_isFunded_326 : decode cL_isFunded 326 = .ok (.aload_n 3, 1) := by decide +kernel
theorem dL_isFunded_327 : decode cL_isFunded 327 = .ok (.bipush 11, 2) := by decide +kernel
theorem dL_isFunded_329 : decode cL_isFunded 329 = .ok (.iload 7, 2) := by decide +kernel
theorem dL_isFunded_331 : decode cL_isFunded 331 = .ok (.imul, 1) := by decide +kernel
theorem dL_isFunded_332 : decode cL_isFunded 332 = .ok (.iconst 3, 1) := by decide +kernel
theorem dL_isFunded_333 : decode cL_isFunded 333 = .ok (.iadd, 1) := by decide +kernel
theorem dL_isFunded_334 : decode cL_isFunded 334 = .ok (.iconst 1, 1) := by decide +kernel
theorem dL_isFunded_335 : decode cL_isFunded 335 = .ok (.iastore, 1) := by decide +kernel
theorem dL_isFunded_336 : decode cL_isFunded 336 = .ok (.aload_n 3, 1) := by decide +kernel
theorem dL_isFunded_337 : decode cL_isFunded 337 = .ok (.bipush 11, 2) := by decide +kernel
theorem dL_isFunded_339 : decode cL_isFunded 339 = .ok (.iload 7, 2) := by decide +kernel
theorem dL_isFunded_341 : decode cL_isFunded 341 = .ok (.imul, 1) := by decide +kernel
theorem dL_isFunded_342 : decode cL_isFunded 342 = .ok (.iconst 4, 1) := by decide +kernel
theorem dL_isFunded_343 : decode cL_isFunded 343 = .ok (.iadd, 1) := by decide +kernel
theorem dL_isFunded_344 : decode cL_isFunded 344 = .ok (.aload_n 3, 1) := by decide +kernel
theorem dL_isFunded_345 : decode cL_isFunded 345 = .ok (.bipush 11, 2) := by decide +kernel
theorem dL_isFunded_347 : decode cL_isFunded 347 = .ok (.iload 7, 2) := by decide +kernel
theorem dL_isFunded_349 : decode cL_isFunded 349 = .ok (.imul, 1) := by decide +kernel
theorem dL_isFunded_350 : decode cL_isFunded 350 = .ok (.iaload, 1) := by decide +kernel
theorem dL_isFunded_351 : decode cL_isFunded 351 = .ok (.iastore, 1) := by decide +kernel
theorem dL_isFunded_352 : decode cL_isFunded 352 = .ok (.aload_n 3, 1) := by decide +kernel
theorem dL_isFunded_353 : decode cL_isFunded 353 = .ok (.bipush 11, 2) := by decide +kernel
theorem dL_isFunded_355 : decode cL_isFunded 355 = .ok (.iload 7, 2) := by decide +kernel
theorem dL_isFunded_357 : decode cL_isFunded 357 = .ok (.imul, 1) := by decide +kernel
theorem dL_isFunded_358 : decode cL_isFunded 358 = .ok (.iconst 5, 1) := by decide +kernel
theorem dL_isFunded_359 : decode cL_isFunded 359 = .ok (.iadd, 1) := by decide +kernel
theorem dL_isFunded_360 : decode cL_isFunded 360 = .ok (.aload_n 3, 1) := by decide +kernel
theorem dL_isFunded_361 : decode cL_isFunded 361 = .ok (.bipush 11, 2) := by decide +kernel
theorem dL_isFunded_363 : decode cL_isFunded 363 = .ok (.iload 7, 2) := by decide +kernel
theorem dL_isFunded_365 : decode cL_isFunded 365 = .ok (.imul, 1) := by decide +kernel
theorem dL_isFunded_366 : decode cL_isFunded 366 = .ok (.iaload, 1) := by decide +kernel
theorem dL_isFunded_367 : decode cL_isFunded 367 = .ok (.aload_n 3, 1) := by decide +kernel
theorem dL_isFunded_368 : decode cL_isFunded 368 = .ok (.bipush 11, 2) := by decide +kernel
theorem dL_isFunded_370 : decode cL_isFunded 370 = .ok (.iload 7, 2) := by decide +kernel
theorem dL_isFunded_372 : decode cL_isFunded 372 = .ok (.imul, 1) := by decide +kernel
theorem dL_isFunded_373 : decode cL_isFunded 373 = .ok (.iconst 2, 1) := by decide +kernel
theorem dL_isFunded_374 : decode cL_isFunded 374 = .ok (.iadd, 1) := by decide +kernel
theorem dL_isFunded_375 : decode cL_isFunded 375 = .ok (.iaload, 1) := by decide +kernel
theorem dL_isFunded_376 : decode cL_isFunded 376 = .ok (.idiv, 1) := by decide +kernel
theorem dL_isFunded_377 : decode cL_isFunded 377 = .ok (.aload_n 3, 1) := by decide +kernel
theorem dL_isFunded_378 : decode cL_isFunded 378 = .ok (.bipush 11, 2) := by decide +kernel
theorem dL_isFunded_380 : decode cL_isFunded 380 = .ok (.iload 7, 2) := by decide +kernel
theorem dL_isFunded_382 : decode cL_isFunded 382 = .ok (.imul, 1) := by decide +kernel
theorem dL_isFunded_383 : decode cL_isFunded 383 = .ok (.iaload, 1) := by decide +kernel
theorem dL_isFunded_384 : decode cL_isFunded 384 = .ok (.aload_n 3, 1) := by decide +kernel
theorem dL_isFunded_385 : decode cL_isFunded 385 = .ok (.bipush 11, 2) := by decide +kernel
theorem dL_isFunded_387 : decode cL_isFunded 387 = .ok (.iload 7, 2) := by decide +kernel
theorem dL_isFunded_389 : decode cL_isFunded 389 = .ok (.imul, 1) := by decide +kernel
theorem dL_isFunded_390 : decode cL_isFunded 390 = .ok (.iconst 2, 1) := by decide +kernel
theorem dL_isFunded_391 : decode cL_isFunded 391 = .ok (.iadd, 1) := by decide +kernel
theorem dL_isFunded_392 : decode cL_isFunded 392 = .ok (.iaload, 1) := by decide +kernel
theorem dL_isFunded_393 : decode cL_isFunded 393 = .ok (.irem, 1) := by decide +kernel
theorem dL_isFunded_394 : decode cL_isFunded 394 = .ok (.ifCond .le 7, 3) := by decide +kernel
theorem dL_isFunded_397 : decode cL_isFunded 397 = .ok (.iconst 1, 1) := by decide +kernel
theorem dL_isFunded_398 : decode cL_isFunded 398 = .ok (.goto 4, 3) := by decide +kernel
theorem dL_isFunded_401 : decode cL_isFunded 401 = .ok (.iconst 0, 1) := by decide +kernel
theorem dL_isFunded_402 : decode cL_isFunded 402 = .ok (.iadd, 1) := by decide +kernel
theorem dL_isFunded_403 : decode cL_isFunded 403 = .ok (.iastore, 1) := by decide +kernel
theorem dL_isFunded_404 : decode cL_isFunded 404 = .ok (.aload_n 0, 1) := by decide +kernel
theorem dL_isFunded_405 : decode cL_isFunded 405 = .ok (.iload 8, 2) := by decide +kernel
theorem dL_isFunded_407 : decode cL_isFunded 407 = .ok (.iload 7, 2) := by decide +kernel
theorem dL_isFunded_409 : decode cL_isFunded 409 = .ok (.iload 9, 2) := by decide +kernel
theorem dL_isFunded_411 : decode cL_isFunded 411 = .ok (.iconst 1, 1) := by decide +kernel
theorem dL_isFunded_412 : decode cL_isFunded 412 = .ok (.if_icmp .ne 7, 3) := by decide +kernel
theorem dL_isFunded_415 : decode cL_isFunded 415 = .ok (.iconst 1, 1) := by decide +kernel
theorem dL_isFunded_416 : decode cL_isFunded 416 = .ok (.goto 4, 3) := by decide +kernel
theorem dL_isFunded_419 : decode cL_isFunded 419 = .ok (.iconst 0, 1) := by decide +kernel
theorem dL_isFunded_420 : decode cL_isFunded 420 = .ok (.iload 11, 2) := by decide +kernel
theorem dL_isFunded_422 : decode cL_isFunded 422 = .ok (.invokevirtual 44, 3) := by decide +kernel
theorem dL_isFunded_425 : decode cL_isFunded 425 = .ok (.iload 10, 2) := by decide +kernel
theorem dL_isFunded_427 : decode cL_isFunded 427 = .ok (.iload 11, 2) := by decide +kernel
theorem dL_isFunded_429 : decode cL_isFunded 429 = .ok (.isub, 1) := by decide +kernel
theorem dL_isFunded_430 : decode cL_isFunded 430 = .ok (.if_icmp .ne 7, 3) := by decide +kernel
theorem dL_isFunded_433 : decode cL_isFunded 433 = .ok (.iconst 1, 1) := by decide +kernel
theorem dL_isFunded_434 : decode cL_isFunded 434 = .ok (.goto 4, 3) := by decide +kernel
theorem dL_isFunded_437 : decode cL_isFunded 437 = .ok (.iconst 0, 1) := by decide +kernel
theorem dL_isFunded_438 : decode cL_isFunded 438 = .ok (.ireturn, 1) := by decide +kernel
theorem dL_isPaid_0 : decode cL_isPaid 0 = .ok (.iload 6, 2) := by decide +kernel
theorem dL_isPaid_2 : decode cL_isPaid 2 = .ok (.aload_n 1, 1) := by decide +kernel
theorem dL_isPaid_3 : decode cL_isPaid 3 = .ok (.iconst 1, 1) := by decide +kernel
theorem dL_isPaid_4 : decode cL_isPaid 4 = .ok (.iaload, 1) := by decide +kernel
theorem dL_isPaid_5 : decode cL_isPaid 5 = .ok (.invokestatic 41, 3) := by decide +kernel
theorem dL_isPaid_8 : decode cL_isPaid 8 = .ok (.istore 7, 2) := by decide +kernel
theorem dL_isPaid_10 : decode cL_isPaid 10 = .ok (.bipush 11, 2) := by decide +kernel
theorem dL_isPaid_12 : decode cL_isPaid 12 = .ok (.iload 7, 2) := by decide +kernel
theorem dL_isPaid_14 : decode cL_isPaid 14 = .ok (.imul, 1) := by decide +kernel
theorem dL_isPaid_15 : decode cL_isPaid 15 = .ok (.istore 8, 2) := by decide +kernel
theorem dL_isPaid_17 : decode cL_isPaid 17 = .ok (.aload_n 3, 1) := by decide +kernel
theorem dL_isPaid_18 : decode cL_isPaid 18 = .ok (.iload 8, 2) := by decide +kernel
theorem dL_isPaid_20 : decode cL_isPaid 20 = .ok (.bipush 6, 2) := by decide +kernel
theorem dL_isPaid_22 : decode cL_isPaid 22 = .ok (.iadd, 1) := by decide +kernel
theorem dL_isPaid_23 : decode cL_isPaid 23 = .ok (.iaload, 1) := by decide +kernel
theorem dL_isPaid_24 : decode cL_isPaid 24 = .ok (.aload_n 3, 1) := by decide +kernel
theorem dL_isPaid_25 : decode cL_isPaid 25 = .ok (.iload 8, 2) := by decide +kernel
theorem dL_isPaid_27 : decode cL_isPaid 27 = .ok (.iconst 4, 1) := by decide +kernel
theorem dL_isPaid_28 : decode cL_isPaid 28 = .ok (.iadd, 1) := by decide +kernel
theorem dL_isPaid_29 : decode cL_isPaid 29 = .ok (.iaload, 1) := by decide +kernel
theorem dL_isPaid_30 : decode cL_isPaid 30 = .ok (.iadd, 1) := by decide +kernel
theorem dL_isPaid_31 : decode cL_isPaid 31 = .ok (.istore 9, 2) := by decide +kernel
theorem dL_isPaid_33 : decode cL_isPaid 33 = .ok (.aload_n 3, 1) := by decide +kernel
theorem dL_isPaid_34 : decode cL_isPaid 34 = .ok (.iload 8, 2) := by decide +kernel
theorem dL_isPaid_36 : decode cL_isPaid 36 = .ok (.bipush 9, 2) := by decide +kernel
theorem dL_isPaid_38 : decode cL_isPaid 38 = .ok (.iadd, 1) := by decide +kernel
theorem dL_isPaid_39 : decode cL_isPaid 39 = .ok (.iaload, 1) := by decide +kernel
theorem dL_isPaid_40 : decode cL_isPaid 40 = .ok (.istore 10, 2) := by decide +kernel
theorem dL_isPaid_42 : decode cL_isPaid 42 = .ok (.iload 6, 2) := by decide +kernel
theorem dL_isPaid_44 : decode cL_isPaid 44 = .ok (.iconst 3, 1) := by decide +kernel
theorem dL_isPaid_45 : decode cL_isPaid 45 = .ok (.ishr, 1) := by decide +kernel
theorem dL_isPaid_46 : decode cL_isPaid 46 = .ok (.iconst 5, 1) := by decide +kernel
theorem dL_isPaid_47 : decode cL_isPaid 47 = .ok (.invokestatic 41, 3) := by decide +kernel
theorem dL_isPaid_50 : decode cL_isPaid 50 = .ok (.ifCond .ne 22, 3) := by decide +kernel
theorem dL_isPaid_53 : decode cL_isPaid 53 = .ok (.aload_n 3, 1) := by decide +kernel
theorem dL_isPaid_54 : decode cL_isPaid 54 = .ok (.iload 8, 2) := by decide +kernel
theorem dL_isPaid_56 : decode cL_isPaid 56 = .ok (.iconst 3, 1) := by decide +kernel
theorem dL_isPaid_57 : decode cL_isPaid 57 = .ok (.iadd, 1) := by decide +kernel
theorem dL_isPaid_58 : decode cL_isPaid 58 = .ok (.iaload, 1) := by decide +kernel
theorem dL_isPaid_59 : decode cL_isPaid 59 = .ok (.iconst 1, 1) := by decide +kernel
theorem dL_isPaid_60 : decode cL_isPaid 60 = .ok (.if_icmp .ne 12, 3) := by decide +kernel
theorem dL_isPaid_63 : decode cL_isPaid 63 = .ok (.aload_n 0, 1) := by decide +kernel
theorem dL_isPaid_64 : decode cL_isPaid 64 = .ok (.iload 7, 2) := by decide +kernel
theorem dL_isPaid_66 : decode cL_isPaid 66 = .ok (.invokevirtual 48, 3) := by decide +kernel
theorem dL_isPaid_69 : decode cL_isPaid 69 = .ok (.goto 16, 3) := by decide +kernel
theorem dL_isPaid_72 : decode cL_isPaid 72 = .ok (.iconst 1, 1) := by decide +kernel
theorem dL_isPaid_73 : decode cL_isPaid 73 = .ok (.iload 6, 2) := by decide +kernel
theorem dL_isPaid_75 : decode cL_isPaid 75 = .ok (.bipush 6, 2) := by decide +kernel
theorem dL_isPaid_77 : decode cL_isPaid 77 = .ok (.ishr, 1) := by decide +kernel
theorem dL_isPaid_78 : decode cL_isPaid 78 = .ok (.sipush 500, 3) := by decide +kernel
theorem dL_isPaid_81 : decode cL_isPaid 81 = .ok (.invokestatic 41, 3) := by decide +kernel
theorem dL_isPaid_84 : decode cL_isPaid 84 = .ok (.iadd, 1) := by decide +kernel
theorem dL_isPaid_85 : decode cL_isPaid 85 = .ok (.istore 11, 2) := by decide +kernel
theorem dL_isPaid_87 : decode cL_isPaid 87 = .ok (.iload 11, 2) := by decide +kernel
theorem dL_isPaid_89 : decode cL_isPaid 89 = .ok (.i2l, 1) := by decide +kernel
theorem dL_isPaid_90 : decode cL_isPaid 90 = .ok (.iload 10, 2) := by decide +kernel
theorem dL_isPaid_92 : decode cL_isPaid 92 = .ok (.invokestatic 38, 3) := by decide +kernel
theorem dL_isPaid_95 : decode cL_isPaid 95 = .ok (.i2l, 1) := by decide +kernel
theorem dL_isPaid_96 : decode cL_isPaid 96 = .ok (.lmul, 1) := by decide +kernel
theorem dL_isPaid_97 : decode cL_isPaid 97 = .ok (.ldc2_w 51, 3) := by decide +kernel
theorem dL_isPaid_100 : decode cL_isPaid 100 = .ok (.ldiv, 1) := by decide +kernel
theorem dL_isPaid_101 : decode cL_isPaid 101 = .ok (.l2i, 1) := by decide +kernel
theorem dL_isPaid_102 : decode cL_isPaid 102 = .ok (.istore 12, 2) := by decide +kernel
theorem dL_isPaid_104 : decode cL_isPaid 104 = .ok (.aload_n 3, 1) := by decide +kernel
theorem dL_isPaid_105 : decode cL_isPaid 105 = .ok (.iload 8, 2) := by decide +kernel
theorem dL_isPaid_107 : decode cL_isPaid 107 = .ok (.iconst 3, 1) := by decide +kernel
theorem dL_isPaid_108 : decode cL_isPaid 108 = .ok (.iadd, 1) := by decide +kernel
theorem dL_isPaid_109 : decode cL_isPaid 109 = .ok (.iaload, 1) := by decide +kernel
theorem dL_isPaid_110 : decode cL_isPaid 110 = .ok (.iconst 1, 1) := by decide +kernel
theorem dL_isPaid_111 : decode cL_isPaid 111 = .ok (.if_icmp .ne 20, 3) := by decide +kernel
theorem dL_isPaid_114 : decode cL_isPaid 114 = .ok (.iload 11, 2) := by decide +kernel
theorem dL_isPaid_116 : decode cL_isPaid 116 = .ok (.iload 12, 2) := by decide +kernel
theorem dL_isPaid_118 : decode cL_isPaid 118 = .ok (.isub, 1) := by decide +kernel
theorem dL_isPaid_119 : decode cL_isPaid 119 = .ok (.iload 9, 2) := by decide +kernel
theorem dL_isPaid_121 : decode cL_isPaid 121 = .ok (.if_icmp .gt 10, 3) := by decide +kernel
theorem dL_isPaid_124 : decode cL_isPaid 124 = .ok (.iload 11, 2) := by decide +kernel
theorem dL_isPaid_126 : decode cL_isPaid 126 = .ok (.ldc 53, 2) := by decide +kernel
theorem dL_isPaid_128 : decode cL_isPaid 128 = .ok (.if_icmp .le 83, 3) := by decide +kernel
theorem dL_isPaid_131 : decode cL_isPaid 131 = .ok (.iload 11, 2) := by decide +kernel
theorem dL_isPaid_133 : decode cL_isPaid 133 = .ok (.ldc 53, 2) := by decide +kernel
theorem dL_isPaid_135 : decode cL_isPaid 135 = .ok (.if_icmp .le 19, 3) := by decide +kernel
theorem dL_isPaid_138 : decode cL_isPaid 138 = .ok (.aload_n 0, 1) := by decide +kernel
theorem dL_isPaid_139 : decode cL_isPaid 139 = .ok (.iload 7, 2) := by decide +kernel
theorem dL_isPaid_141 : decode cL_isPaid 141 = .ok (.iload 11, 2) := by decide +kernel
theorem dL_isPaid_143 : decode cL_isPaid 143 = .ok (.invokevirtual 54, 3) := by decide +kernel
theorem dL_isPaid_146 : decode cL_isPaid 146 = .ok (.bipush (-2), 2) := by decide +kernel
theorem dL_isPaid_148 : decode cL_isPaid 148 = .ok (.if_icmp .ne 61, 3) := by decide +kernel
theorem dL_isPaid_151 : decode cL_isPaid 151 = .ok (.goto 30, 3) := by decide +kernel
theorem dL_isPaid_154 : decode cL_isPaid 154 = .ok (.aload_n 0, 1) := by decide +kernel
theorem dL_isPaid_155 : decode cL_isPaid 155 = .ok (.iload 7, 2) := by decide +kernel
theorem dL_isPaid_157 : decode cL_isPaid 157 = .ok (.iload 11, 2) := by decide +kernel
theorem dL_isPaid_159 : decode cL_isPaid 159 = .ok (.invokevirtual 54, 3) := by decide +kernel
theorem dL_isPaid_162 : decode cL_isPaid 162 = .ok (.bipush (-4), 2) := by decide +kernel
theorem dL_isPaid_164 : decode cL_isPaid 164 = .ok (.if_icmp .ne 45, 3) := by decide +kernel
theorem dL_isPaid_167 : decode cL_isPaid 167 = .ok (.aload_n 0, 1) := by decide +kernel
theorem dL_isPaid_168 : decode cL_isPaid 168 = .ok (.iload 7, 2) := by decide +kernel
theorem dL_isPaid_170 : decode cL_isPaid 170 = .ok (.iload 11, 2) := by decide +kernel
theorem dL_isPaid_172 : decode cL_isPaid 172 = .ok (.iconst 0, 1) := by decide +kernel
theorem dL_isPaid_173 : decode cL_isPaid 173 = .ok (.invokevirtual 57, 3) := by decide +kernel
theorem dL_isPaid_176 : decode cL_isPaid 176 = .ok (.bipush (-4), 2) := by decide +kernel
theorem dL_isPaid_178 : decode cL_isPaid 178 = .ok (.if_icmp .ne 31, 3) := by decide +kernel
theorem dL_isPaid_181 : decode cL_isPaid 181 = .ok (.aload_n 0, 1) := by decide +kernel
theorem dL_isPaid_182 : decode cL_isPaid 182 = .ok (.iload 7, 2) := by decide +kernel
theorem dL_isPaid_184 : decode cL_isPaid 184 = .ok (.iconst 0, 1) := by decide +kernel
theorem dL_isPaid_185 : decode cL_isPaid 185 = .ok (.invokevirtual 54, 3) := by decide +kernel
theorem dL_isPaid_188 : decode cL_isPaid 188 = .ok (.bipush (-2), 2) := by decide +kernel
theorem dL_isPaid_190 : decode cL_isPaid 190 = .ok (.if_icmp .ne 19, 3) := by decide +kernel
theorem dL_isPaid_193 : decode cL_isPaid 193 = .ok (.aload_n 0, 1) := by decide +kernel
theorem dL_isPaid_194 : decode cL_isPaid 194 = .ok (.aload_n 1, 1) := by decide +kernel
theorem dL_isPaid_195 : decode cL_isPaid 195 = .ok (.iconst 1, 1) := by decide +kernel
theorem dL_isPaid_196 : decode cL_isPaid 196 = .ok (.iaload, 1) := by decide +kernel
theorem dL_isPaid_197 : decode cL_isPaid 197 = .ok (.iconst 0, 1) := by decide +kernel
theorem dL_isPaid_198 : decode cL_isPaid 198 = .ok (.invokevirtual 54, 3) := by decide +kernel
theorem dL_isPaid_201 : decode cL_isPaid 201 = .ok (.iconst (-1), 1) := by decide +kernel
theorem dL_isPaid_202 : decode cL_isPaid 202 = .ok (.if_icmp .ne 7, 3) := by decide +kernel
theorem dL_isPaid_205 : decode cL_isPaid 205 = .ok (.iconst 1, 1) := by decide +kernel
theorem dL_isPaid_206 : decode cL_isPaid 206 = .ok (.goto 4, 3) := by decide +kernel
theorem dL_isPaid_209 : decode cL_isPaid 209 = .ok (.iconst 0, 1) := by decide +kernel
theorem dL_isPaid_210 : decode cL_isPaid 210 = .ok (.ireturn, 1) := by decide +kernel
theorem dL_isPaid_211 : decode cL_isPaid 211 = .ok (.iload 11, 2) := by decide +kernel
theorem dL_isPaid_213 : decode cL_isPaid 213 = .ok (.iload 12, 2) := by decide +kernel
theorem dL_isPaid_215 : decode cL_isPaid 215 = .ok (.isub, 1) := by decide +kernel
theorem dL_isPaid_216 : decode cL_isPaid 216 = .ok (.aload_n 3, 1) := by decide +kernel
theorem dL_isPaid_217 : decode cL_isPaid 217 = .ok (.iload 8, 2) := by decide +kernel
theorem dL_isPaid_219 : decode cL_isPaid 219 = .ok (.bipush 6, 2) := by decide +kernel
theorem dL_isPaid_221 : decode cL_isPaid 221 = .ok (.iadd, 1) := by decide +kernel
theorem dL_isPaid_222 : decode cL_isPaid 222 = .ok (.iaload, 1) := by decide +kernel
theorem dL_isPaid_223 : decode cL_isPaid 223 = .ok (.if_icmp .ge 11, 3) := by decide +kernel
theorem dL_isPaid_226 : decode cL_isPaid 226 = .ok (.iload 11, 2) := by decide +kernel
theorem dL_isPaid_228 : decode cL_isPaid 228 = .ok (.iload 12, 2) := by decide +kernel
theorem dL_isPaid_230 : decode cL_isPaid 230 = .ok (.isub, 1) := by decide +kernel
theorem dL_isPaid_231 : decode cL_isPaid 231 = .ok (.goto 10, 3) := by decide +kernel
theorem dL_isPaid_234 : decode cL_isPaid 234 = .ok (.aload_n 3, 1) := by decide +kernel
theorem dL_isPaid_235 : decode cL_isPaid 235 = .ok (.iload 8, 2) := by decide +kernel
theorem dL_isPaid_237 : decode cL_isPaid 237 = .ok (.bipush 6, 2) := by decide +kernel
theorem dL_isPaid_239 : decode cL_isPaid 239 = .ok (.iadd, 1) := by decide +kernel
theorem dL_isPaid_240 : decode cL_isPaid 240 = .ok (.iaload, 1) := by decide +kernel
theorem dL_isPaid_241 : decode cL_isPaid 241 = .ok (.istore 13, 2) := by decide +kernel
theorem dL_isPaid_243 : decode cL_isPaid 243 = .ok (.iload 13, 2) := by decide +kernel
theorem dL_isPaid_245 : decode cL_isPaid 245 = .ok (.i2l, 1) := by decide +kernel
theorem dL_isPaid_246 : decode cL_isPaid 246 = .ok (.aload_n 1, 1) := by decide +kernel
theorem dL_isPaid_247 : decode cL_isPaid 247 = .ok (.iconst 4, 1) := by decide +kernel
theorem dL_isPaid_248 : decode cL_isPaid 248 = .ok (.iaload, 1) := by decide +kernel
theorem dL_isPaid_249 : decode cL_isPaid 249 = .ok (.i2l, 1) := by decide +kernel
theorem dL_isPaid_250 : decode cL_isPaid 250 = .ok (.lmul, 1) := by decide +kernel
theorem dL_isPaid_251 : decode cL_isPaid 251 = .ok (.ldc2_w 61, 3) := by decide +kernel
theorem dL_isPaid_254 : decode cL_isPaid 254 = .ok (.ldiv, 1) := by decide +kernel
theorem dL_isPaid_255 : decode cL_isPaid 255 = .ok (.l2i, 1) := by decide +kernel
theorem dL_isPaid_256 : decode cL_isPaid 256 = .ok (.istore 14, 2) := by decide +kernel
theorem dL_isPaid_258 : decode cL_isPaid 258 = .ok (.iload 11, 2) := by decide +kernel
theorem dL_isPaid_260 : decode cL_isPaid 260 = .ok (.iload 12, 2) := by decide +kernel
theorem dL_isPaid_262 : decode cL_isPaid 262 = .ok (.isub, 1) := by decide +kernel
theorem dL_isPaid_263 : decode cL_isPaid 263 = .ok (.iload 13, 2) := by decide +kernel
theorem dL_isPaid_265 : decode cL_isPaid 265 = .ok (.isub, 1) := by decide +kernel
theorem dL_isPaid_266 : decode cL_isPaid 266 = .ok (.istore 15, 2) := by decide +kernel
theorem dL_isPaid_268 : decode cL_isPaid 268 = .ok (.aload_n 1, 1) := by decide +kernel
theorem dL_isPaid_269 : decode cL_isPaid 269 = .ok (.aload 4, 2) := by decide +kernel
theorem dL_isPaid_271 : decode cL_isPaid 271 = .ok (.iload 7, 2) := by decide +kernel
theorem dL_isPaid_273 : decode cL_isPaid 273 = .ok (.iconst 0, 1) := by decide +kernel
theorem dL_isPaid_274 : decode cL_isPaid 274 = .ok (.invokestatic 9, 3) := by decide +kernel
theorem dL_isPaid_277 : decode cL_isPaid 277 = .ok (.istore 16, 2) := by decide +kernel
theorem dL_isPaid_279 : decode cL_isPaid 279 = .ok (.iload 15, 2) := by decide +kernel
theorem dL_isPaid_281 : decode cL_isPaid 281 = .ok (.iload 16, 2) := by decide +kernel
theorem dL_isPaid_283 : decode cL_isPaid 283 = .ok (.if_icmp .ge 8, 3) := by decide +kernel
theorem dL_isPaid_286 : decode cL_isPaid 286 = .ok (.iload 15, 2) := by decide +kernel
theorem dL_isPaid_288 : decode cL_isPaid 288 = .ok (.goto 5, 3) := by decide +kernel
theorem dL_isPaid_291 : decode cL_isPaid 291 = .ok (.iload 16, 2) := by decide +kernel
theorem dL_isPaid_293 : decode cL_isPaid 293 = .ok (.istore 17, 2) := by decide +kernel
theorem dL_isPaid_295 : decode cL_isPaid 295 = .ok (.aload_n 0, 1) := by decide +kernel
theorem dL_isPaid_296 : decode cL_isPaid 296 = .ok (.iload 7, 2) := by decide +kernel
theorem dL_isPaid_298 : decode cL_isPaid 298 = .ok (.iload 11, 2) := by decide +kernel
theorem dL_isPaid_300 : decode cL_isPaid 300 = .ok (.iconst 0, 1) := by decide +kernel
theorem dL_isPaid_301 : decode cL_isPaid 301 = .ok (.invokevirtual 57, 3) := by decide +kernel
theorem dL_isPaid_304 : decode cL_isPaid 304 = .ok (.iload 12, 2) := by decide +kernel
theorem dL_isPaid_306 : decode cL_isPaid 306 = .ok (.if_icmp .ne 76, 3) := by decide +kernel
theorem dL_isPaid_309 : decode cL_isPaid 309 = .ok (.aload_n 0, 1) := by decide +kernel
theorem dL_isPaid_310 : decode cL_isPaid 310 = .ok (.iload 7, 2) := by decide +kernel
theorem dL_isPaid_312 : decode cL_isPaid 312 = .ok (.iload 11, 2) := by decide +kernel
theorem dL_isPaid_314 : decode cL_isPaid 314 = .ok (.iconst 1, 1) := by decide +kernel
theorem dL_isPaid_315 : decode cL_isPaid 315 = .ok (.invokevirtual 57, 3) := by decide +kernel
theorem dL_isPaid_318 : decode cL_isPaid 318 = .ok (.iload 13, 2) := by decide +kernel
theorem dL_isPaid_320 : decode cL_isPaid 320 = .ok (.if_icmp .ne 62, 3) := by decide +kernel
theorem dL_isPaid_323 : decode cL_isPaid 323 = .ok (.aload_n 0, 1) := by decide +kernel
theorem dL_isPaid_324 : decode cL_isPaid 324 = .ok (.iload 7, 2) := by decide +kernel
theorem dL_isPaid_326 : decode cL_isPaid 326 = .ok (.iload 11, 2) := by decide +kernel
theorem dL_isPaid_328 : decode cL_isPaid 328 = .ok (.iconst 2, 1) := by decide +kernel
theorem dL_isPaid_329 : decode cL_isPaid 329 = .ok (.invokevirtual 57, 3) := by decide +kernel
theorem dL_isPaid_332 : decode cL_isPaid 332 = .ok (.iload 14, 2) := by decide +kernel
theorem dL_isPaid_334 : decode cL_isPaid 334 = .ok (.if_icmp .ne 48, 3) := by decide +kernel
theorem dL_isPaid_337 : decode cL_isPaid 337 = .ok (.aload_n 0, 1) := by decide +kernel
theorem dL_isPaid_338 : decode cL_isPaid 338 = .ok (.iload 7, 2) := by decide +kernel
theorem dL_isPaid_340 : decode cL_isPaid 340 = .ok (.iload 11, 2) := by decide +kernel
theorem dL_isPaid_342 : decode cL_isPaid 342 = .ok (.iconst 3, 1) := by decide +kernel
theorem dL_isPaid_343 : decode cL_isPaid 343 = .ok (.invokevirtual 57, 3) := by decide +kernel
theorem dL_isPaid_346 : decode cL_isPaid 346 = .ok (.iload 15, 2) := by decide +kernel
theorem dL_isPaid_348 : decode cL_isPaid 348 = .ok (.if_icmp .ne 34, 3) := by decide +kernel
theorem dL_isPaid_351 : decode cL_isPaid 351 = .ok (.aload_n 0, 1) := by decide +kernel
theorem dL_isPaid_352 : decode cL_isPaid 352 = .ok (.iload 7, 2) := by decide +kernel
theorem dL_isPaid_354 : decode cL_isPaid 354 = .ok (.iload 11, 2) := by decide +kernel
theorem dL_isPaid_356 : decode cL_isPaid 356 = .ok (.iconst 4, 1) := by decide +kernel
theorem dL_isPaid_357 : decode cL_isPaid 357 = .ok (.invokevirtual 57, 3) := by decide +kernel
theorem dL_isPaid_360 : decode cL_isPaid 360 = .ok (.iload 17, 2) := by decide +kernel
theorem dL_isPaid_362 : decode cL_isPaid 362 = .ok (.if_icmp .ne 20, 3) := by decide +kernel
theorem dL_isPaid_365 : decode cL_isPaid 365 = .ok (.aload_n 0, 1) := by decide +kernel
theorem dL_isPaid_366 : decode cL_isPaid 366 = .ok (.iload 7, 2) := by decide +kernel
theorem dL_isPaid_368 : decode cL_isPaid 368 = .ok (.iload 11, 2) := by decide +kernel
theorem dL_isPaid_370 : decode cL_isPaid 370 = .ok (.iconst 5, 1) := by decide +kernel
theorem dL_isPaid_371 : decode cL_isPaid 371 = .ok (.invokevirtual 57, 3) := by decide +kernel
theorem dL_isPaid_374 : decode cL_isPaid 374 = .ok (.iload 15, 2) := by decide +kernel
theorem dL_isPaid_376 : decode cL_isPaid 376 = .ok (.iload 17, 2) := by decide +kernel
theorem dL_isPaid_378 : decode cL_isPaid 378 = .ok (.isub, 1) := by decide +kernel
theorem dL_isPaid_379 : decode cL_isPaid 379 = .ok (.if_icmp .eq 5, 3) := by decide +kernel
theorem dL_isPaid_382 : decode cL_isPaid 382 = .ok (.iconst 0, 1) := by decide +kernel
theorem dL_isPaid_383 : decode cL_isPaid 383 = .ok (.ireturn, 1) := by decide +kernel
theorem dL_isPaid_384 : decode cL_isPaid 384 = .ok (.aload_n 1, 1) := by decide +kernel
theorem dL_isPaid_385 : decode cL_isPaid 385 = .ok (.iconst 5, 1) := by decide +kernel
theorem dL_isPaid_386 : decode cL_isPaid 386 = .ok (.iload 10, 2) := by decide +kernel
theorem dL_isPaid_388 : decode cL_isPaid 388 = .ok (.iadd, 1) := by decide +kernel
theorem dL_isPaid_389 : decode cL_isPaid 389 = .ok (.dup2, 1) := by decide +kernel
theorem dL_isPaid_390 : decode cL_isPaid 390 = .ok (.iaload, 1) := by decide +kernel
theorem dL_isPaid_391 : decode cL_isPaid 391 = .ok (.iload 12, 2) := by decide +kernel
theorem dL_isPaid_393 : decode cL_isPaid 393 = .ok (.iadd, 1) := by decide +kernel
theorem dL_isPaid_394 : decode cL_isPaid 394 = .ok (.iastore, 1) := by decide +kernel
theorem dL_isPaid_395 : decode cL_isPaid 395 = .ok (.aload_n 1, 1) := by decide +kernel
theorem dL_isPaid_396 : decode cL_isPaid 396 = .ok (.iconst 3, 1) := by decide +kernel
theorem dL_isPaid_397 : decode cL_isPaid 397 = .ok (.dup2, 1) := by decide +kernel
theorem dL_isPaid_398 : decode cL_isPaid 398 = .ok (.iaload, 1) := by decide +kernel
theorem dL_isPaid_399 : decode cL_isPaid 399 = .ok (.iload 14, 2) := by decide +kernel
theorem dL_isPaid_401 : decode cL_isPaid 401 = .ok (.iadd, 1) := by decide +kernel
theorem dL_isPaid_402 : decode cL_isPaid 402 = .ok (.iastore, 1) := by decide +kernel
theorem dL_isPaid_403 : decode cL_isPaid 403 = .ok (.aload_n 1, 1) := by decide +kernel
theorem dL_isPaid_404 : decode cL_isPaid 404 = .ok (.aload 4, 2) := by decide +kernel
theorem dL_isPaid_406 : decode cL_isPaid 406 = .ok (.iload 7, 2) := by decide +kernel
theorem dL_isPaid_408 : decode cL_isPaid 408 = .ok (.iconst (-1), 1) := by decide +kernel
theorem dL_isPaid_409 : decode cL_isPaid 409 = .ok (.iload 13, 2) := by decide +kernel
theorem dL_isPaid_411 : decode cL_isPaid 411 = .ok (.iload 14, 2) := by decide +kernel
theorem dL_isPaid_413 : decode cL_isPaid 413 = .ok (.isub, 1) := by decide +kernel
theorem dL_isPaid_414 : decode cL_isPaid 414 = .ok (.aload 5, 2) := by decide +kernel
theorem dL_isPaid_416 : decode cL_isPaid 416 = .ok (.invokestatic 15, 3) := by decide +kernel
theorem dL_isPaid_419 : decode cL_isPaid 419 = .ok (.iconst 0, 1) := by decide +kernel
theorem dL_isPaid_420 : decode cL_isPaid 420 = .ok (.istore 18, 2) := by decide +kernel
theorem dL_isPaid_422 : decode cL_isPaid 422 = .ok (.iload 18, 2) := by decide +kernel
theorem dL_isPaid_424 : decode cL_isPaid 424 = .ok (.aload_n 1, 1) := by decide +kernel
theorem dL_isPaid_425 : decode cL_isPaid 425 = .ok (.iconst 2, 1) := by decide +kernel
theorem dL_isPaid_426 : decode cL_isPaid 426 = .ok (.iaload, 1) := by decide +kernel
theorem dL_isPaid_427 : decode cL_isPaid 427 = .ok (.if_icmp .ge 69, 3) := by decide +kernel
theorem dL_isPaid_430 : decode cL_isPaid 430 = .ok (.aload_n 2, 1) := by decide +kernel
theorem dL_isPaid_431 : decode cL_isPaid 431 = .ok (.iconst 3, 1) := by decide +kernel
theorem dL_isPaid_432 : decode cL_isPaid 432 = .ok (.aload 4, 2) := by decide +kernel
theorem dL_isPaid_434 : decode cL_isPaid 434 = .ok (.bipush 6, 2) := by decide +kernel
theorem dL_isPaid_436 : decode cL_isPaid 436 = .ok (.iload 18, 2) := by decide +kernel
theorem dL_isPaid_438 : decode cL_isPaid 438 = .ok (.imul, 1) := by decide +kernel
theorem dL_isPaid_439 : decode cL_isPaid 439 = .ok (.iaload, 1) := by decide +kernel
theorem dL_isPaid_440 : decode cL_isPaid 440 = .ok (.imul, 1) := by decide +kernel
theorem dL_isPaid_441 : decode cL_isPaid 441 = .ok (.dup2, 1) := by decide +kernel
theorem dL_isPaid_442 : decode cL_isPaid 442 = .ok (.iaload, 1) := by decide +kernel
theorem dL_isPaid_443 : decode cL_isPaid 443 = .ok (.aload 5, 2) := by decide +kernel
theorem dL_isPaid_445 : decode cL_isPaid 445 = .ok (.iload 18, 2) := by decide +kernel
theorem dL_isPaid_447 : decode cL_isPaid 447 = .ok (.iaload, 1) := by decide +kernel
theorem dL_isPaid_448 : decode cL_isPaid 448 = .ok (.iadd, 1) := by decide +kernel
theorem dL_isPaid_449 : decode cL_isPaid 449 = .ok (.iastore, 1) := by decide +kernel
theorem dL_isPaid_450 : decode cL_isPaid 450 = .ok (.aload_n 2, 1) := by decide +kernel
theorem dL_isPaid_451 : decode cL_isPaid 451 = .ok (.iconst 3, 1) := by decide +kernel
theorem dL_isPaid_452 : decode cL_isPaid 452 = .ok (.aload 4, 2) := by decide +kernel
theorem dL_isPaid_454 : decode cL_isPaid 454 = .ok (.bipush 6, 2) := by decide +kernel
theorem dL_isPaid_456 : decode cL_isPaid 456 = .ok (.iload 18, 2) := by decide +kernel
theorem dL_isPaid_458 : decode cL_isPaid 458 = .ok (.imul, 1) := by decide +kernel
end
section
theorem dL_isPaid_459 : decode cL_isPaid 459 = .ok (.iaload, 1) := by decide +kernel
theorem dL_isPaid_460 : decode cL_isPaid 460 = .ok (.imul, 1) := by decide +kernel
theorem dL_isPaid_461 : decode cL_isPaid 461 = .ok (.iconst 1, 1) := by decide +kernel
theorem dL_isPaid_462 : decode cL_isPaid 462 = .ok (.iadd, 1) := by decide +kernel
theorem dL_isPaid_463 : decode cL_isPaid 463 = .ok (.dup2, 1) := by decide +kernel
theorem dL_isPaid_464 : decode cL_isPaid 464 = .ok (.iaload, 1) := by decide +kernel
theorem dL_isPaid_465 : decode cL_isPaid 465 = .ok (.aload 5, 2) := by decide +kernel
theorem dL_isPaid_467 : decode cL_isPaid 467 = .ok (.iload 18, 2) := by decide +kernel
theorem dL_isPaid_469 : decode cL_isPaid 469 = .ok (.iaload, 1) := by decide +kernel
theorem dL_isPaid_470 : decode cL_isPaid 470 = .ok (.iadd, 1) := by decide +kernel
theorem dL_isPaid_471 : decode cL_isPaid 471 = .ok (.iastore, 1) := by decide +kernel
theorem dL_isPaid_472 : decode cL_isPaid 472 = .ok (.aload 4, 2) := by decide +kernel
theorem dL_isPaid_474 : decode cL_isPaid 474 = .ok (.bipush 6, 2) := by decide +kernel
theorem dL_isPaid_476 : decode cL_isPaid 476 = .ok (.iload 18, 2) := by decide +kernel
theorem dL_isPaid_478 : decode cL_isPaid 478 = .ok (.imul, 1) := by decide +kernel
theorem dL_isPaid_479 : decode cL_isPaid 479 = .ok (.iconst 4, 1) := by decide +kernel
theorem dL_isPaid_480 : decode cL_isPaid 480 = .ok (.iadd, 1) := by decide +kernel
theorem dL_isPaid_481 : decode cL_isPaid 481 = .ok (.dup2, 1) := by decide +kernel
theorem dL_isPaid_482 : decode cL_isPaid 482 = .ok (.iaload, 1) := by decide +kernel
theorem dL_isPaid_483 : decode cL_isPaid 483 = .ok (.aload 5, 2) := by decide +kernel
theorem dL_isPaid_485 : decode cL_isPaid 485 = .ok (.iload 18, 2) := by decide +kernel
theorem dL_isPaid_487 : decode cL_isPaid 487 = .ok (.iaload, 1) := by decide +kernel
theorem dL_isPaid_488 : decode cL_isPaid 488 = .ok (.iadd, 1) := by decide +kernel
theorem dL_isPaid_489 : decode cL_isPaid 489 = .ok (.iastore, 1) := by decide +kernel
theorem dL_isPaid_490 : decode cL_isPaid 490 = .ok (.iinc 18 1, 3) := by decide +kernel
theorem dL_isPaid_493 : decode cL_isPaid 493 = .ok (.goto (-71), 3) := by decide +kernel
theorem dL_isPaid_496 : decode cL_isPaid 496 = .ok (.aload_n 1, 1) := by decide +kernel
theorem dL_isPaid_497 : decode cL_isPaid 497 = .ok (.aload_n 2, 1) := by decide +kernel
theorem dL_isPaid_498 : decode cL_isPaid 498 = .ok (.aload 4, 2) := by decide +kernel
theorem dL_isPaid_500 : decode cL_isPaid 500 = .ok (.iload 7, 2) := by decide +kernel
theorem dL_isPaid_502 : decode cL_isPaid 502 = .ok (.iconst 1, 1) := by decide +kernel
theorem dL_isPaid_503 : decode cL_isPaid 503 = .ok (.aload_n 1, 1) := by decide +kernel
theorem dL_isPaid_504 : decode cL_isPaid 504 = .ok (.aload_n 2, 1) := by decide +kernel
theorem dL_isPaid_505 : decode cL_isPaid 505 = .ok (.aload 4, 2) := by decide +kernel
theorem dL_isPaid_507 : decode cL_isPaid 507 = .ok (.iload 7, 2) := by decide +kernel
theorem dL_isPaid_509 : decode cL_isPaid 509 = .ok (.iconst 0, 1) := by decide +kernel
theorem dL_isPaid_510 : decode cL_isPaid 510 = .ok (.iload 15, 2) := by decide +kernel
theorem dL_isPaid_512 : decode cL_isPaid 512 = .ok (.aload 5, 2) := by decide +kernel
theorem dL_isPaid_514 : decode cL_isPaid 514 = .ok (.invokestatic 63, 3) := by decide +kernel
theorem dL_isPaid_517 : decode cL_isPaid 517 = .ok (.aload 5, 2) := by decide +kernel
theorem dL_isPaid_519 : decode cL_isPaid 519 = .ok (.invokestatic 63, 3) := by decide +kernel
theorem dL_isPaid_522 : decode cL_isPaid 522 = .ok (.ifCond .eq 5, 3) := by decide +kernel
theorem dL_isPaid_525 : decode cL_isPaid 525 = .ok (.iconst 0, 1) := by decide +kernel
theorem dL_isPaid_526 : decode cL_isPaid 526 = .ok (.ireturn, 1) := by decide +kernel
theorem dL_isPaid_527 : decode cL_isPaid 527 = .ok (.aload_n 3, 1) := by decide +kernel
theorem dL_isPaid_528 : decode cL_isPaid 528 = .ok (.iload 8, 2) := by decide +kernel
theorem dL_isPaid_530 : decode cL_isPaid 530 = .ok (.bipush 6, 2) := by decide +kernel
theorem dL_isPaid_532 : decode cL_isPaid 532 = .ok (.iadd, 1) := by decide +kernel
theorem dL_isPaid_533 : decode cL_isPaid 533 = .ok (.dup2, 1) := by decide +kernel
theorem dL_isPaid_534 : decode cL_isPaid 534 = .ok (.iaload, 1) := by decide +kernel
theorem dL_isPaid_535 : decode cL_isPaid 535 = .ok (.iload 13, 2) := by decide +kernel
theorem dL_isPaid_537 : decode cL_isPaid 537 = .ok (.isub, 1) := by decide +kernel
theorem dL_isPaid_538 : decode cL_isPaid 538 = .ok (.iastore, 1) := by decide +kernel
theorem dL_isPaid_539 : decode cL_isPaid 539 = .ok (.aload_n 3, 1) := by decide +kernel
theorem dL_isPaid_540 : decode cL_isPaid 540 = .ok (.iload 8, 2) := by decide +kernel
theorem dL_isPaid_542 : decode cL_isPaid 542 = .ok (.iconst 4, 1) := by decide +kernel
theorem dL_isPaid_543 : decode cL_isPaid 543 = .ok (.iadd, 1) := by decide +kernel
theorem dL_isPaid_544 : decode cL_isPaid 544 = .ok (.dup2, 1) := by decide +kernel
theorem dL_isPaid_545 : decode cL_isPaid 545 = .ok (.iaload, 1) := by decide +kernel
theorem dL_isPaid_546 : decode cL_isPaid 546 = .ok (.iload 15, 2) := by decide +kernel
theorem dL_isPaid_548 : decode cL_isPaid 548 = .ok (.isub, 1) := by decide +kernel
theorem dL_isPaid_549 : decode cL_isPaid 549 = .ok (.iastore, 1) := by decide +kernel
theorem dL_isPaid_550 : decode cL_isPaid 550 = .ok (.aload_n 3, 1) := by decide +kernel
theorem dL_isPaid_551 : decode cL_isPaid 551 = .ok (.iload 8, 2) := by decide +kernel
theorem dL_isPaid_553 : decode cL_isPaid 553 = .ok (.bipush 7, 2) := by decide +kernel
theorem dL_isPaid_555 : decode cL_isPaid 555 = .ok (.iadd, 1) := by decide +kernel
theorem dL_isPaid_556 : decode cL_isPaid 556 = .ok (.aload_n 3, 1) := by decide +kernel
theorem dL_isPaid_557 : decode cL_isPaid 557 = .ok (.iload 8, 2) := by decide +kernel
theorem dL_isPaid_559 : decode cL_isPaid 559 = .ok (.bipush 7, 2) := by decide +kernel
theorem dL_isPaid_561 : decode cL_isPaid 561 = .ok (.iadd, 1) := by decide +kernel
theorem dL_isPaid_562 : decode cL_isPaid 562 = .ok (.iaload, 1) := by decide +kernel
theorem dL_isPaid_563 : decode cL_isPaid 563 = .ok (.iload 15, 2) := by decide +kernel
theorem dL_isPaid_565 : decode cL_isPaid 565 = .ok (.if_icmp .ge 7, 3) := by decide +kernel
theorem dL_isPaid_568 : decode cL_isPaid 568 = .ok (.iconst 0, 1) := by decide +kernel
theorem dL_isPaid_569 : decode cL_isPaid 569 = .ok (.goto 13, 3) := by decide +kernel
theorem dL_isPaid_572 : decode cL_isPaid 572 = .ok (.aload_n 3, 1) := by decide +kernel
theorem dL_isPaid_573 : decode cL_isPaid 573 = .ok (.iload 8, 2) := by decide +kernel
theorem dL_isPaid_575 : decode cL_isPaid 575 = .ok (.bipush 7, 2) := by decide +kernel
theorem dL_isPaid_577 : decode cL_isPaid 577 = .ok (.iadd, 1) := by decide +kernel
theorem dL_isPaid_578 : decode cL_isPaid 578 = .ok (.iaload, 1) := by decide +kernel
theorem dL_isPaid_579 : decode cL_isPaid 579 = .ok (.iload 15, 2) := by decide +kernel
theorem dL_isPaid_581 : decode cL_isPaid 581 = .ok (.isub, 1) := by decide +kernel
theorem dL_isPaid_582 : decode cL_isPaid 582 = .ok (.iastore, 1) := by decide +kernel
theorem dL_isPaid_583 : decode cL_isPaid 583 = .ok (.aload_n 3, 1) := by decide +kernel
theorem dL_isPaid_584 : decode cL_isPaid 584 = .ok (.iload 8, 2) := by decide +kernel
theorem dL_isPaid_586 : decode cL_isPaid 586 = .ok (.bipush 8, 2) := by decide +kernel
theorem dL_isPaid_588 : decode cL_isPaid 588 = .ok (.iadd, 1) := by decide +kernel
theorem dL_isPaid_589 : decode cL_isPaid 589 = .ok (.aload_n 3, 1) := by decide +kernel
theorem dL_isPaid_590 : decode cL_isPaid 590 = .ok (.iload 8, 2) := by decide +kernel
theorem dL_isPaid_592 : decode cL_isPaid 592 = .ok (.bipush 6, 2) := by decide +kernel
theorem dL_isPaid_594 : decode cL_isPaid 594 = .ok (.iadd, 1) := by decide +kernel
theorem dL_isPaid_595 : decode cL_isPaid 595 = .ok (.iaload, 1) := by decide +kernel
theorem dL_isPaid_596 : decode cL_isPaid 596 = .ok (.ifCond .ne 17, 3) := by decide +kernel
theorem dL_isPaid_599 : decode cL_isPaid 599 = .ok (.aload_n 3, 1) := by decide +kernel
theorem dL_isPaid_600 : decode cL_isPaid 600 = .ok (.iload 8, 2) := by decide +kernel
theorem dL_isPaid_602 : decode cL_isPaid 602 = .ok (.bipush 7, 2) := by decide +kernel
theorem dL_isPaid_604 : decode cL_isPaid 604 = .ok (.iadd, 1) := by decide +kernel
theorem dL_isPaid_605 : decode cL_isPaid 605 = .ok (.iaload, 1) := by decide +kernel
theorem dL_isPaid_606 : decode cL_isPaid 606 = .ok (.ifCond .ne 7, 3) := by decide +kernel
theorem dL_isPaid_609 : decode cL_isPaid 609 = .ok (.iconst 0, 1) := by decide +kernel
theorem dL_isPaid_610 : decode cL_isPaid 610 = .ok (.goto 10, 3) := by decide +kernel
theorem dL_isPaid_613 : decode cL_isPaid 613 = .ok (.aload_n 3, 1) := by decide +kernel
theorem dL_isPaid_614 : decode cL_isPaid 614 = .ok (.iload 8, 2) := by decide +kernel
theorem dL_isPaid_616 : decode cL_isPaid 616 = .ok (.bipush 8, 2) := by decide +kernel
theorem dL_isPaid_618 : decode cL_isPaid 618 = .ok (.iadd, 1) := by decide +kernel
theorem dL_isPaid_619 : decode cL_isPaid 619 = .ok (.iaload, 1) := by decide +kernel
theorem dL_isPaid_620 : decode cL_isPaid 620 = .ok (.iastore, 1) := by decide +kernel
theorem dL_isPaid_621 : decode cL_isPaid 621 = .ok (.aload_n 3, 1) := by decide +kernel
theorem dL_isPaid_622 : decode cL_isPaid 622 = .ok (.iload 8, 2) := by decide +kernel
theorem dL_isPaid_624 : decode cL_isPaid 624 = .ok (.iconst 3, 1) := by decide +kernel
theorem dL_isPaid_625 : decode cL_isPaid 625 = .ok (.iadd, 1) := by decide +kernel
theorem dL_isPaid_626 : decode cL_isPaid 626 = .ok (.aload_n 3, 1) := by decide +kernel
theorem dL_isPaid_627 : decode cL_isPaid 627 = .ok (.iload 8, 2) := by decide +kernel
theorem dL_isPaid_629 : decode cL_isPaid 629 = .ok (.iconst 4, 1) := by decide +kernel
theorem dL_isPaid_630 : decode cL_isPaid 630 = .ok (.iadd, 1) := by decide +kernel
theorem dL_isPaid_631 : decode cL_isPaid 631 = .ok (.iaload, 1) := by decide +kernel
theorem dL_isPaid_632 : decode cL_isPaid 632 = .ok (.ifCond .ne 17, 3) := by decide +kernel
theorem dL_isPaid_635 : decode cL_isPaid 635 = .ok (.aload_n 3, 1) := by decide +kernel
theorem dL_isPaid_636 : decode cL_isPaid 636 = .ok (.iload 8, 2) := by decide +kernel
theorem dL_isPaid_638 : decode cL_isPaid 638 = .ok (.bipush 6, 2) := by decide +kernel
theorem dL_isPaid_640 : decode cL_isPaid 640 = .ok (.iadd, 1) := by decide +kernel
theorem dL_isPaid_641 : decode cL_isPaid 641 = .ok (.iaload, 1) := by decide +kernel
theorem dL_isPaid_642 : decode cL_isPaid 642 = .ok (.ifCond .ne 7, 3) := by decide +kernel
theorem dL_isPaid_645 : decode cL_isPaid 645 = .ok (.iconst 2, 1) := by decide +kernel
theorem dL_isPaid_646 : decode cL_isPaid 646 = .ok (.goto 4, 3) := by decide +kernel
theorem dL_isPaid_649 : decode cL_isPaid 649 = .ok (.iconst 1, 1) := by decide +kernel
theorem dL_isPaid_650 : decode cL_isPaid 650 = .ok (.iastore, 1) := by decide +kernel
theorem dL_isPaid_651 : decode cL_isPaid 651 = .ok (.aload_n 3, 1) := by decide +kernel
theorem dL_isPaid_652 : decode cL_isPaid 652 = .ok (.iload 8, 2) := by decide +kernel
theorem dL_isPaid_654 : decode cL_isPaid 654 = .ok (.bipush 10, 2) := by decide +kernel
theorem dL_isPaid_656 : decode cL_isPaid 656 = .ok (.iadd, 1) := by decide +kernel
theorem dL_isPaid_657 : decode cL_isPaid 657 = .ok (.aload_n 3, 1) := by decide +kernel
theorem dL_isPaid_658 : decode cL_isPaid 658 = .ok (.iload 8, 2) := by decide +kernel
theorem dL_isPaid_660 : decode cL_isPaid 660 = .ok (.iconst 3, 1) := by decide +kernel
theorem dL_isPaid_661 : decode cL_isPaid 661 = .ok (.iadd, 1) := by decide +kernel
theorem dL_isPaid_662 : decode cL_isPaid 662 = .ok (.iaload, 1) := by decide +kernel
theorem dL_isPaid_663 : decode cL_isPaid 663 = .ok (.iconst 2, 1) := by decide +kernel
theorem dL_isPaid_664 : decode cL_isPaid 664 = .ok (.if_icmp .ne 8, 3) := by decide +kernel
theorem dL_isPaid_667 : decode cL_isPaid 667 = .ok (.bipush (-5), 2) := by decide +kernel
theorem dL_isPaid_669 : decode cL_isPaid 669 = .ok (.goto 10, 3) := by decide +kernel
theorem dL_isPaid_672 : decode cL_isPaid 672 = .ok (.aload_n 3, 1) := by decide +kernel
theorem dL_isPaid_673 : decode cL_isPaid 673 = .ok (.iload 8, 2) := by decide +kernel
theorem dL_isPaid_675 : decode cL_isPaid 675 = .ok (.bipush 10, 2) := by decide +kernel
theorem dL_isPaid_677 : decode cL_isPaid 677 = .ok (.iadd, 1) := by decide +kernel
theorem dL_isPaid_678 : decode cL_isPaid 678 = .ok (.iaload, 1) := by decide +kernel
theorem dL_isPaid_679 : decode cL_isPaid 679 = .ok (.iastore, 1) := by decide +kernel
theorem dL_isPaid_680 : decode cL_isPaid 680 = .ok (.aload_n 0, 1) := by decide +kernel
theorem dL_isPaid_681 : decode cL_isPaid 681 = .ok (.iload 7, 2) := by decide +kernel
theorem dL_isPaid_683 : decode cL_isPaid 683 = .ok (.iload 11, 2) := by decide +kernel
theorem dL_isPaid_685 : decode cL_isPaid 685 = .ok (.invokevirtual 54, 3) := by decide +kernel
theorem dL_isPaid_688 : decode cL_isPaid 688 = .ok (.aload_n 3, 1) := by decide +kernel
theorem dL_isPaid_689 : decode cL_isPaid 689 = .ok (.iload 8, 2) := by decide +kernel
theorem dL_isPaid_691 : decode cL_isPaid 691 = .ok (.iconst 4, 1) := by decide +kernel
theorem dL_isPaid_692 : decode cL_isPaid 692 = .ok (.iadd, 1) := by decide +kernel
theorem dL_isPaid_693 : decode cL_isPaid 693 = .ok (.iaload, 1) := by decide +kernel
theorem dL_isPaid_694 : decode cL_isPaid 694 = .ok (.if_icmp .ne 7, 3) := by decide +kernel
theorem dL_isPaid_697 : decode cL_isPaid 697 = .ok (.iconst 1, 1) := by decide +kernel
theorem dL_isPaid_698 : decode cL_isPaid 698 = .ok (.goto 4, 3) := by decide +kernel
theorem dL_isPaid_701 : decode cL_isPaid 701 = .ok (.iconst 0, 1) := by decide +kernel
theorem dL_isPaid_702 : decode cL_isPaid 702 = .ok (.ireturn, 1) := by decide +kernel
theorem dL_isSold_0 : decode cL_isSold 0 = .ok (.iload 6, 2) := by decide +kernel
theorem dL_isSold_2 : decode cL_isSold 2 = .ok (.aload_n 1, 1) := by decide +kernel
theorem dL_isSold_3 : decode cL_isSold 3 = .ok (.iconst 1, 1) := by decide +kernel
theorem dL_isSold_4 : decode cL_isSold 4 = .ok (.iaload, 1) := by decide +kernel
theorem dL_isSold_5 : decode cL_isSold 5 = .ok (.invokestatic 41, 3) := by decide +kernel
theorem dL_isSold_8 : decode cL_isSold 8 = .ok (.istore 7, 2) := by decide +kernel
theorem dL_isSold_10 : decode cL_isSold 10 = .ok (.bipush 11, 2) := by decide +kernel
theorem dL_isSold_12 : decode cL_isSold 12 = .ok (.iload 7, 2) := by decide +kernel
theorem dL_isSold_14 : decode cL_isSold 14 = .ok (.imul, 1) := by decide +kernel
theorem dL_isSold_15 : decode cL_isSold 15 = .ok (.istore 8, 2) := by decide +kernel
theorem dL_isSold_17 : decode cL_isSold 17 = .ok (.iload 6, 2) := by decide +kernel
theorem dL_isSold_19 : decode cL_isSold 19 = .ok (.iconst 3, 1) := by decide +kernel
theorem dL_isSold_20 : decode cL_isSold 20 = .ok (.ishr, 1) := by decide +kernel
theorem dL_isSold_21 : decode cL_isSold 21 = .ok (.iload 6, 2) := by decide +kernel
theorem dL_isSold_23 : decode cL_isSold 23 = .ok (.bipush 14, 2) := by decide +kernel
theorem dL_isSold_25 : decode cL_isSold 25 = .ok (.ishr, 1) := by decide +kernel
theorem dL_isSold_26 : decode cL_isSold 26 = .ok (.iconst 2, 1) := by decide +kernel
theorem dL_isSold_27 : decode cL_isSold 27 = .ok (.invokestatic 41, 3) := by decide +kernel
theorem dL_isSold_30 : decode cL_isSold 30 = .ok (.ifCond .ne 9, 3) := by decide +kernel
theorem dL_isSold_33 : decode cL_isSold 33 = .ok (.sipush 400, 3) := by decide +kernel
theorem dL_isSold_36 : decode cL_isSold 36 = .ok (.goto 6, 3) := by decide +kernel
theorem dL_isSold_39 : decode cL_isSold 39 = .ok (.sipush 20000, 3) := by decide +kernel
theorem dL_isSold_42 : decode cL_isSold 42 = .ok (.invokestatic 41, 3) := by decide +kernel
theorem dL_isSold_45 : decode cL_isSold 45 = .ok (.istore 9, 2) := by decide +kernel
theorem dL_isSold_47 : decode cL_isSold 47 = .ok (.aload_n 3, 1) := by decide +kernel
theorem dL_isSold_48 : decode cL_isSold 48 = .ok (.iload 8, 2) := by decide +kernel
theorem dL_isSold_50 : decode cL_isSold 50 = .ok (.iconst 3, 1) := by decide +kernel
theorem dL_isSold_51 : decode cL_isSold 51 = .ok (.iadd, 1) := by decide +kernel
theorem dL_isSold_52 : decode cL_isSold 52 = .ok (.iaload, 1) := by decide +kernel
theorem dL_isSold_53 : decode cL_isSold 53 = .ok (.iconst 1, 1) := by decide +kernel
theorem dL_isSold_54 : decode cL_isSold 54 = .ok (.if_icmp .ne 23, 3) := by decide +kernel
theorem dL_isSold_57 : decode cL_isSold 57 = .ok (.aload_n 3, 1) := by decide +kernel
theorem dL_isSold_58 : decode cL_isSold 58 = .ok (.iload 8, 2) := by decide +kernel
theorem dL_isSold_60 : decode cL_isSold 60 = .ok (.bipush 8, 2) := by decide +kernel
theorem dL_isSold_62 : decode cL_isSold 62 = .ok (.iadd, 1) := by decide +kernel
theorem dL_isSold_63 : decode cL_isSold 63 = .ok (.iaload, 1) := by decide +kernel
theorem dL_isSold_64 : decode cL_isSold 64 = .ok (.ifCond .le 13, 3) := by decide +kernel
theorem dL_isSold_67 : decode cL_isSold 67 = .ok (.aload_n 3, 1) := by decide +kernel
theorem dL_isSold_68 : decode cL_isSold 68 = .ok (.iload 8, 2) := by decide +kernel
theorem dL_isSold_70 : decode cL_isSold 70 = .ok (.bipush 6, 2) := by decide +kernel
theorem dL_isSold_72 : decode cL_isSold 72 = .ok (.iadd, 1) := by decide +kernel
theorem dL_isSold_73 : decode cL_isSold 73 = .ok (.iaload, 1) := by decide +kernel
theorem dL_isSold_74 : decode cL_isSold 74 = .ok (.ifCond .eq 15, 3) := by decide +kernel
theorem dL_isSold_77 : decode cL_isSold 77 = .ok (.iload 6, 2) := by decide +kernel
theorem dL_isSold_79 : decode cL_isSold 79 = .ok (.bipush 16, 2) := by decide +kernel
theorem dL_isSold_81 : decode cL_isSold 81 = .ok (.ishr, 1) := by decide +kernel
theorem dL_isSold_82 : decode cL_isSold 82 = .ok (.iconst 3, 1) := by decide +kernel
theorem dL_isSold_83 : decode cL_isSold 83 = .ok (.invokestatic 41, 3) := by decide +kernel
theorem dL_isSold_86 : decode cL_isSold 86 = .ok (.ifCond .ne 138, 3) := by decide +kernel
theorem dL_isSold_89 : decode cL_isSold 89 = .ok (.iconst 1, 1) := by decide +kernel
theorem dL_isSold_90 : decode cL_isSold 90 = .ok (.iload 6, 2) := by decide +kernel
theorem dL_isSold_92 : decode cL_isSold 92 = .ok (.bipush 18, 2) := by decide +kernel
theorem dL_isSold_94 : decode cL_isSold 94 = .ok (.ishr, 1) := by decide +kernel
theorem dL_isSold_95 : decode cL_isSold 95 = .ok (.bipush 36, 2) := by decide +kernel
theorem dL_isSold_97 : decode cL_isSold 97 = .ok (.invokestatic 41, 3) := by decide +kernel
theorem dL_isSold_100 : decode cL_isSold 100 = .ok (.iadd, 1) := by decide +kernel
theorem dL_isSold_101 : decode cL_isSold 101 = .ok (.istore 10, 2) := by decide +kernel
theorem dL_isSold_103 : decode cL_isSold 103 = .ok (.aload_n 3, 1) := by decide +kernel
theorem dL_isSold_104 : decode cL_isSold 104 = .ok (.iload 8, 2) := by decide +kernel
theorem dL_isSold_106 : decode cL_isSold 106 = .ok (.iconst 3, 1) := by decide +kernel
theorem dL_isSold_107 : decode cL_isSold 107 = .ok (.iadd, 1) := by decide +kernel
theorem dL_isSold_108 : decode cL_isSold 108 = .ok (.iaload, 1) := by decide +kernel
theorem dL_isSold_109 : decode cL_isSold 109 = .ok (.iconst 1, 1) := by decide +kernel
theorem dL_isSold_110 : decode cL_isSold 110 = .ok (.if_icmp .ne 23, 3) := by decide +kernel
theorem dL_isSold_113 : decode cL_isSold 113 = .ok (.aload_n 3, 1) := by decide +kernel
theorem dL_isSold_114 : decode cL_isSold 114 = .ok (.iload 8, 2) := by decide +kernel
theorem dL_isSold_116 : decode cL_isSold 116 = .ok (.bipush 8, 2) := by decide +kernel
theorem dL_isSold_118 : decode cL_isSold 118 = .ok (.iadd, 1) := by decide +kernel
theorem dL_isSold_119 : decode cL_isSold 119 = .ok (.iaload, 1) := by decide +kernel
theorem dL_isSold_120 : decode cL_isSold 120 = .ok (.ifCond .eq 13, 3) := by decide +kernel
theorem dL_isSold_123 : decode cL_isSold 123 = .ok (.aload_n 3, 1) := by decide +kernel
theorem dL_isSold_124 : decode cL_isSold 124 = .ok (.iload 8, 2) := by decide +kernel
theorem dL_isSold_126 : decode cL_isSold 126 = .ok (.bipush 6, 2) := by decide +kernel
theorem dL_isSold_128 : decode cL_isSold 128 = .ok (.iadd, 1) := by decide +kernel
theorem dL_isSold_129 : decode cL_isSold 129 = .ok (.iaload, 1) := by decide +kernel
theorem dL_isSold_130 : decode cL_isSold 130 = .ok (.ifCond .le 35, 3) := by decide +kernel
theorem dL_isSold_133 : decode cL_isSold 133 = .ok (.aload_n 0, 1) := by decide +kernel
theorem dL_isSold_134 : decode cL_isSold 134 = .ok (.iload 7, 2) := by decide +kernel
theorem dL_isSold_136 : decode cL_isSold 136 = .ok (.iload 10, 2) := by decide +kernel
theorem dL_isSold_138 : decode cL_isSold 138 = .ok (.invokevirtual 67, 3) := by decide +kernel
theorem dL_isSold_141 : decode cL_isSold 141 = .ok (.bipush (-4), 2) := by decide +kernel
theorem dL_isSold_143 : decode cL_isSold 143 = .ok (.if_icmp .ne 20, 3) := by decide +kernel
theorem dL_isSold_146 : decode cL_isSold 146 = .ok (.aload_n 0, 1) := by decide +kernel
theorem dL_isSold_147 : decode cL_isSold 147 = .ok (.iload 7, 2) := by decide +kernel
theorem dL_isSold_149 : decode cL_isSold 149 = .ok (.bipush 37, 2) := by decide +kernel
theorem dL_isSold_151 : decode cL_isSold 151 = .ok (.invokevirtual 67, 3) := by decide +kernel
theorem dL_isSold_154 : decode cL_isSold 154 = .ok (.bipush (-2), 2) := by decide +kernel
theorem dL_isSold_156 : decode cL_isSold 156 = .ok (.if_icmp .ne 7, 3) := by decide +kernel
theorem dL_isSold_159 : decode cL_isSold 159 = .ok (.iconst 1, 1) := by decide +kernel
theorem dL_isSold_160 : decode cL_isSold 160 = .ok (.goto 4, 3) := by decide +kernel
theorem dL_isSold_163 : decode cL_isSold 163 = .ok (.iconst 0, 1) := by decide +kernel
theorem dL_isSold_164 : decode cL_isSold 164 = .ok (.ireturn, 1) := by decide +kernel
theorem dL_isSold_165 : decode cL_isSold 165 = .ok (.aload_n 3, 1) := by decide +kernel
theorem dL_isSold_166 : decode cL_isSold 166 = .ok (.iload 8, 2) := by decide +kernel
theorem dL_isSold_168 : decode cL_isSold 168 = .ok (.bipush 7, 2) := by decide +kernel
theorem dL_isSold_170 : decode cL_isSold 170 = .ok (.iadd, 1) := by decide +kernel
theorem dL_isSold_171 : decode cL_isSold 171 = .ok (.iconst 0, 1) := by decide +kernel
theorem dL_isSold_172 : decode cL_isSold 172 = .ok (.iastore, 1) := by decide +kernel
theorem dL_isSold_173 : decode cL_isSold 173 = .ok (.aload_n 3, 1) := by decide +kernel
theorem dL_isSold_174 : decode cL_isSold 174 = .ok (.iload 8, 2) := by decide +kernel
theorem dL_isSold_176 : decode cL_isSold 176 = .ok (.bipush 8, 2) := by decide +kernel
theorem dL_isSold_178 : decode cL_isSold 178 = .ok (.iadd, 1) := by decide +kernel
theorem dL_isSold_179 : decode cL_isSold 179 = .ok (.iconst 0, 1) := by decide +kernel
theorem dL_isSold_180 : decode cL_isSold 180 = .ok (.iastore, 1) := by decide +kernel
theorem dL_isSold_181 : decode cL_isSold 181 = .ok (.aload_n 3, 1) := by decide +kernel
theorem dL_isSold_182 : decode cL_isSold 182 = .ok (.iload 8, 2) := by decide +kernel
theorem dL_isSold_184 : decode cL_isSold 184 = .ok (.iconst 5, 1) := by decide +kernel
theorem dL_isSold_185 : decode cL_isSold 185 = .ok (.iadd, 1) := by decide +kernel
theorem dL_isSold_186 : decode cL_isSold 186 = .ok (.aload_n 3, 1) := by decide +kernel
theorem dL_isSold_187 : decode cL_isSold 187 = .ok (.iload 8, 2) := by decide +kernel
theorem dL_isSold_189 : decode cL_isSold 189 = .ok (.iconst 4, 1) := by decide +kernel
theorem dL_isSold_190 : decode cL_isSold 190 = .ok (.iadd, 1) := by decide +kernel
theorem dL_isSold_191 : decode cL_isSold 191 = .ok (.iaload, 1) := by decide +kernel
theorem dL_isSold_192 : decode cL_isSold 192 = .ok (.iload 10, 2) := by decide +kernel
theorem dL_isSold_194 : decode cL_isSold 194 = .ok (.iadd, 1) := by decide +kernel
theorem dL_isSold_195 : decode cL_isSold 195 = .ok (.iconst 1, 1) := by decide +kernel
theorem dL_isSold_196 : decode cL_isSold 196 = .ok (.isub, 1) := by decide +kernel
theorem dL_isSold_197 : decode cL_isSold 197 = .ok (.iload 10, 2) := by decide +kernel
theorem dL_isSold_199 : decode cL_isSold 199 = .ok (.idiv, 1) := by decide +kernel
theorem dL_isSold_200 : decode cL_isSold 200 = .ok (.iastore, 1) := by decide +kernel
theorem dL_isSold_201 : decode cL_isSold 201 = .ok (.aload_n 0, 1) := by decide +kernel
theorem dL_isSold_202 : decode cL_isSold 202 = .ok (.iload 7, 2) := by decide +kernel
theorem dL_isSold_204 : decode cL_isSold 204 = .ok (.iload 10, 2) := by decide +kernel
theorem dL_isSold_206 : decode cL_isSold 206 = .ok (.invokevirtual 67, 3) := by decide +kernel
theorem dL_isSold_209 : decode cL_isSold 209 = .ok (.aload_n 3, 1) := by decide +kernel
theorem dL_isSold_210 : decode cL_isSold 210 = .ok (.iload 8, 2) := by decide +kernel
theorem dL_isSold_212 : decode cL_isSold 212 = .ok (.iconst 5, 1) := by decide +kernel
theorem dL_isSold_213 : decode cL_isSold 213 = .ok (.iadd, 1) := by decide +kernel
theorem dL_isSold_214 : decode cL_isSold 214 = .ok (.iaload, 1) := by decide +kernel
theorem dL_isSold_215 : decode cL_isSold 215 = .ok (.if_icmp .ne 7, 3) := by decide +kernel
theorem dL_isSold_218 : decode cL_isSold 218 = .ok (.iconst 1, 1) := by decide +kernel
theorem dL_isSold_219 : decode cL_isSold 219 = .ok (.goto 4, 3) := by decide +kernel
theorem dL_isSold_222 : decode cL_isSold 222 = .ok (.iconst 0, 1) := by decide +kernel
theorem dL_isSold_223 : decode cL_isSold 223 = .ok (.ireturn, 1) := by decide +kernel
theorem dL_isSold_224 : decode cL_isSold 224 = .ok (.aload_n 3, 1) := by decide +kernel
theorem dL_isSold_225 : decode cL_isSold 225 = .ok (.iload 8, 2) := by decide +kernel
theorem dL_isSold_227 : decode cL_isSold 227 = .ok (.iconst 3, 1) := by decide +kernel
theorem dL_isSold_228 : decode cL_isSold 228 = .ok (.iadd, 1) := by decide +kernel
theorem dL_isSold_229 : decode cL_isSold 229 = .ok (.iaload, 1) := by decide +kernel
theorem dL_isSold_230 : decode cL_isSold 230 = .ok (.iconst 1, 1) := by decide +kernel
theorem dL_isSold_231 : decode cL_isSold 231 = .ok (.if_icmp .ne 14, 3) := by decide +kernel
theorem dL_isSold_234 : decode cL_isSold 234 = .ok (.aload_n 3, 1) := by decide +kernel
theorem dL_isSold_235 : decode cL_isSold 235 = .ok (.iload 8, 2) := by decide +kernel
theorem dL_isSold_237 : decode cL_isSold 237 = .ok (.bipush 8, 2) := by decide +kernel
theorem dL_isSold_239 : decode cL_isSold 239 = .ok (.iadd, 1) := by decide +kernel
theorem dL_isSold_240 : decode cL_isSold 240 = .ok (.iaload, 1) := by decide +kernel
theorem dL_isSold_241 : decode cL_isSold 241 = .ok (.iconst 3, 1) := by decide +kernel
theorem dL_isSold_242 : decode cL_isSold 242 = .ok (.if_icmp .ge 35, 3) := by decide +kernel
theorem dL_isSold_245 : decode cL_isSold 245 = .ok (.aload_n 0, 1) := by decide +kernel
theorem dL_isSold_246 : decode cL_isSold 246 = .ok (.iload 7, 2) := by decide +kernel
theorem dL_isSold_248 : decode cL_isSold 248 = .ok (.iload 9, 2) := by decide +kernel
theorem dL_isSold_250 : decode cL_isSold 250 = .ok (.invokevirtual 70, 3) := by decide +kernel
theorem dL_isSold_253 : decode cL_isSold 253 = .ok (.bipush (-4), 2) := by decide +kernel
theorem dL_isSold_255 : decode cL_isSold 255 = .ok (.if_icmp .ne 20, 3) := by decide +kernel
theorem dL_isSold_258 : decode cL_isSold 258 = .ok (.aload_n 0, 1) := by decide +kernel
theorem dL_isSold_259 : decode cL_isSold 259 = .ok (.iload 7, 2) := by decide +kernel
theorem dL_isSold_261 : decode cL_isSold 261 = .ok (.ldc 73, 2) := by decide +kernel
theorem dL_isSold_263 : decode cL_isSold 263 = .ok (.invokevirtual 70, 3) := by decide +kernel
theorem dL_isSold_266 : decode cL_isSold 266 = .ok (.bipush (-2), 2) := by decide +kernel
theorem dL_isSold_268 : decode cL_isSold 268 = .ok (.if_icmp .ne 7, 3) := by decide +kernel
theorem dL_isSold_271 : decode cL_isSold 271 = .ok (.iconst 1, 1) := by decide +kernel
theorem dL_isSold_272 : decode cL_isSold 272 = .ok (.goto 4, 3) := by decide +kernel
theorem dL_isSold_275 : decode cL_isSold 275 = .ok (.iconst 0, 1) := by decide +kernel
theorem dL_isSold_276 : decode cL_isSold 276 = .ok (.ireturn, 1) := by decide +kernel
theorem dL_isSold_277 : decode cL_isSold 277 = .ok (.aload_n 1, 1) := by decide +kernel
theorem dL_isSold_278 : decode cL_isSold 278 = .ok (.iconst 3, 1) := by decide +kernel
theorem dL_isSold_279 : decode cL_isSold 279 = .ok (.dup2, 1) := by decide +kernel
theorem dL_isSold_280 : decode cL_isSold 280 = .ok (.iaload, 1) := by decide +kernel
theorem dL_isSold_281 : decode cL_isSold 281 = .ok (.aload_n 1, 1) := by decide +kernel
theorem dL_isSold_282 : decode cL_isSold 282 = .ok (.aload_n 2, 1) := by decide +kernel
theorem dL_isSold_283 : decode cL_isSold 283 = .ok (.aload 4, 2) := by decide +kernel
theorem dL_isSold_285 : decode cL_isSold 285 = .ok (.iload 7, 2) := by decide +kernel
theorem dL_isSold_287 : decode cL_isSold 287 = .ok (.iconst 1, 1) := by decide +kernel
theorem dL_isSold_288 : decode cL_isSold 288 = .ok (.aload_n 1, 1) := by decide +kernel
theorem dL_isSold_289 : decode cL_isSold 289 = .ok (.aload_n 2, 1) := by decide +kernel
theorem dL_isSold_290 : decode cL_isSold 290 = .ok (.aload 4, 2) := by decide +kernel
theorem dL_isSold_292 : decode cL_isSold 292 = .ok (.iload 7, 2) := by decide +kernel
theorem dL_isSold_294 : decode cL_isSold 294 = .ok (.iconst 0, 1) := by decide +kernel
theorem dL_isSold_295 : decode cL_isSold 295 = .ok (.iload 9, 2) := by decide +kernel
theorem dL_isSold_297 : decode cL_isSold 297 = .ok (.aload 5, 2) := by decide +kernel
theorem dL_isSold_299 : decode cL_isSold 299 = .ok (.invokestatic 63, 3) := by decide +kernel
theorem dL_isSold_302 : decode cL_isSold 302 = .ok (.aload 5, 2) := by decide +kernel
theorem dL_isSold_304 : decode cL_isSold 304 = .ok (.invokestatic 63, 3) := by decide +kernel
theorem dL_isSold_307 : decode cL_isSold 307 = .ok (.iadd, 1) := by decide +kernel
theorem dL_isSold_308 : decode cL_isSold 308 = .ok (.iastore, 1) := by decide +kernel
theorem dL_isSold_309 : decode cL_isSold 309 = .ok (.aload_n 1, 1) := by decide +kernel
theorem dL_isSold_310 : decode cL_isSold 310 = .ok (.iconst 3, 1) := by decide +kernel
theorem dL_isSold_311 : decode cL_isSold 311 = .ok (.aload_n 1, 1) := by decide +kernel
theorem dL_isSold_312 : decode cL_isSold 312 = .ok (.aload_n 2, 1) := by decide +kernel
theorem dL_isSold_313 : decode cL_isSold 313 = .ok (.aload 4, 2) := by decide +kernel
theorem dL_isSold_315 : decode cL_isSold 315 = .ok (.iload 7, 2) := by decide +kernel
theorem dL_isSold_317 : decode cL_isSold 317 = .ok (.iconst 0, 1) := by decide +kernel
theorem dL_isSold_318 : decode cL_isSold 318 = .ok (.aload_n 1, 1) := by decide +kernel
theorem dL_isSold_319 : decode cL_isSold 319 = .ok (.iconst 3, 1) := by decide +kernel
theorem dL_isSold_320 : decode cL_isSold 320 = .ok (.iaload, 1) := by decide +kernel
theorem dL_isSold_321 : decode cL_isSold 321 = .ok (.aload 5, 2) := by decide +kernel
theorem dL_isSold_323 : decode cL_isSold 323 = .ok (.invokestatic 63, 3) := by decide +kernel
theorem dL_isSold_326 : decode cL_isSold 326 = .ok (.iastore, 1) := by decide +kernel
theorem dL_isSold_327 : decode cL_isSold 327 = .ok (.iconst 0, 1) := by decide +kernel
theorem dL_isSold_328 : decode cL_isSold 328 = .ok (.istore 10, 2) := by decide +kernel
theorem dL_isSold_330 : decode cL_isSold 330 = .ok (.iconst 0, 1) := by decide +kernel
theorem dL_isSold_331 : decode cL_isSold 331 = .ok (.istore 11, 2) := by decide +kernel
theorem dL_isSold_333 : decode cL_isSold 333 = .ok (.iload 11, 2) := by decide +kernel
theorem dL_isSold_335 : decode cL_isSold 335 = .ok (.aload_n 1, 1) := by decide +kernel
theorem dL_isSold_336 : decode cL_isSold 336 = .ok (.iconst 2, 1) := by decide +kernel
theorem dL_isSold_337 : decode cL_isSold 337 = .ok (.iaload, 1) := by decide +kernel
theorem dL_isSold_338 : decode cL_isSold 338 = .ok (.if_icmp .ge 97, 3) := by decide +kernel
theorem dL_isSold_341 : decode cL_isSold 341 = .ok (.aload 4, 2) := by decide +kernel
theorem dL_isSold_343 : decode cL_isSold 343 = .ok (.bipush 6, 2) := by decide +kernel
theorem dL_isSold_345 : decode cL_isSold 345 = .ok (.iload 11, 2) := by decide +kernel
theorem dL_isSold_347 : decode cL_isSold 347 = .ok (.imul, 1) := by decide +kernel
theorem dL_isSold_348 : decode cL_isSold 348 = .ok (.iconst 1, 1) := by decide +kernel
theorem dL_isSold_349 : decode cL_isSold 349 = .ok (.iadd, 1) := by decide +kernel
theorem dL_isSold_350 : decode cL_isSold 350 = .ok (.iaload, 1) := by decide +kernel
theorem dL_isSold_351 : decode cL_isSold 351 = .ok (.iload 7, 2) := by decide +kernel
theorem dL_isSold_353 : decode cL_isSold 353 = .ok (.if_icmp .ne 76, 3) := by decide +kernel
theorem dL_isSold_356 : decode cL_isSold 356 = .ok (.iload 10, 2) := by decide +kernel
theorem dL_isSold_358 : decode cL_isSold 358 = .ok (.aload 4, 2) := by decide +kernel
theorem dL_isSold_360 : decode cL_isSold 360 = .ok (.bipush 6, 2) := by decide +kernel
theorem dL_isSold_362 : decode cL_isSold 362 = .ok (.iload 11, 2) := by decide +kernel
theorem dL_isSold_364 : decode cL_isSold 364 = .ok (.imul, 1) := by decide +kernel
theorem dL_isSold_365 : decode cL_isSold 365 = .ok (.iconst 3, 1) := by decide +kernel
theorem dL_isSold_366 : decode cL_isSold 366 = .ok (.iadd, 1) := by decide +kernel
theorem dL_isSold_367 : decode cL_isSold 367 = .ok (.iaload, 1) := by decide +kernel
theorem dL_isSold_368 : decode cL_isSold 368 = .ok (.iadd, 1) := by decide +kernel
theorem dL_isSold_369 : decode cL_isSold 369 = .ok (.istore 10, 2) := by decide +kernel
theorem dL_isSold_371 : decode cL_isSold 371 = .ok (.aload 4, 2) := by decide +kernel
theorem dL_isSold_373 : decode cL_isSold 373 = .ok (.bipush 6, 2) := by decide +kernel
theorem dL_isSold_375 : decode cL_isSold 375 = .ok (.iload 11, 2) := by decide +kernel
theorem dL_isSold_377 : decode cL_isSold 377 = .ok (.imul, 1) := by decide +kernel
theorem dL_isSold_378 : decode cL_isSold 378 = .ok (.iconst 5, 1) := by decide +kernel
theorem dL_isSold_379 : decode cL_isSold 379 = .ok (.iadd, 1) := by decide +kernel
theorem dL_isSold_380 : decode cL_isSold 380 = .ok (.aload 4, 2) := by decide +kernel
theorem dL_isSold_382 : decode cL_isSold 382 = .ok (.bipush 6, 2) := by decide +kernel
theorem dL_isSold_384 : decode cL_isSold 384 = .ok (.iload 11, 2) := by decide +kernel
theorem dL_isSold_386 : decode cL_isSold 386 = .ok (.imul, 1) := by decide +kernel
theorem dL_isSold_387 : decode cL_isSold 387 = .ok (.iconst 3, 1) := by decide +kernel
theorem dL_isSold_388 : decode cL_isSold 388 = .ok (.iadd, 1) := by decide +kernel
theorem dL_isSold_389 : decode cL_isSold 389 = .ok (.iaload, 1) := by decide +kernel
theorem dL_isSold_390 : decode cL_isSold 390 = .ok (.iastore, 1) := by decide +kernel
theorem dL_isSold_391 : decode cL_isSold 391 = .ok (.aload_n 2, 1) := by decide +kernel
theorem dL_isSold_392 : decode cL_isSold 392 = .ok (.iconst 3, 1) := by decide +kernel
theorem dL_isSold_393 : decode cL_isSold 393 = .ok (.aload 4, 2) := by decide +kernel
theorem dL_isSold_395 : decode cL_isSold 395 = .ok (.bipush 6, 2) := by decide +kernel
theorem dL_isSold_397 : decode cL_isSold 397 = .ok (.iload 11, 2) := by decide +kernel
theorem dL_isSold_399 : decode cL_isSold 399 = .ok (.imul, 1) := by decide +kernel
theorem dL_isSold_400 : decode cL_isSold 400 = .ok (.iaload, 1) := by decide +kernel
theorem dL_isSold_401 : decode cL_isSold 401 = .ok (.imul, 1) := by decide +kernel
theorem dL_isSold_402 : decode cL_isSold 402 = .ok (.iconst 2, 1) := by decide +kernel
theorem dL_isSold_403 : decode cL_isSold 403 = .ok (.iadd, 1) := by decide +kernel
theorem dL_isSold_404 : decode cL_isSold 404 = .ok (.dup2, 1) := by decide +kernel
theorem dL_isSold_405 : decode cL_isSold 405 = .ok (.iaload, 1) := by decide +kernel
theorem dL_isSold_406 : decode cL_isSold 406 = .ok (.aload 4, 2) := by decide +kernel
theorem dL_isSold_408 : decode cL_isSold 408 = .ok (.bipush 6, 2) := by decide +kernel
theorem dL_isSold_410 : decode cL_isSold 410 = .ok (.iload 11, 2) := by decide +kernel
theorem dL_isSold_412 : decode cL_isSold 412 = .ok (.imul, 1) := by decide +kernel
theorem dL_isSold_413 : decode cL_isSold 413 = .ok (.iconst 3, 1) := by decide +kernel
theorem dL_isSold_414 : decode cL_isSold 414 = .ok (.iadd, 1) := by decide +kernel
theorem dL_isSold_415 : decode cL_isSold 415 = .ok (.iaload, 1) := by decide +kernel
theorem dL_isSold_416 : decode cL_isSold 416 = .ok (.iadd, 1) := by decide +kernel
theorem dL_isSold_417 : decode cL_isSold 417 = .ok (.iastore, 1) := by decide +kernel
theorem dL_isSold_418 : decode cL_isSold 418 = .ok (.aload 4, 2) := by decide +kernel
theorem dL_isSold_420 : decode cL_isSold 420 = .ok (.bipush 6, 2) := by decide +kernel
theorem dL_isSold_422 : decode cL_isSold 422 = .ok (.iload 11, 2) := by decide +kernel
theorem dL_isSold_424 : decode cL_isSold 424 = .ok (.imul, 1) := by decide +kernel
theorem dL_isSold_425 : decode cL_isSold 425 = .ok (.iconst 3, 1) := by decide +kernel
theorem dL_isSold_426 : decode cL_isSold 426 = .ok (.iadd, 1) := by decide +kernel
theorem dL_isSold_427 : decode cL_isSold 427 = .ok (.iconst 0, 1) := by decide +kernel
theorem dL_isSold_428 : decode cL_isSold 428 = .ok (.iastore, 1) := by decide +kernel
theorem dL_isSold_429 : decode cL_isSold 429 = .ok (.iinc 11 1, 3) := by decide +kernel
theorem dL_isSold_432 : decode cL_isSold 432 = .ok (.goto (-99), 3) := by decide +kernel
theorem dL_isSold_435 : decode cL_isSold 435 = .ok (.aload_n 3, 1) := by decide +kernel
theorem dL_isSold_436 : decode cL_isSold 436 = .ok (.iload 8, 2) := by decide +kernel
theorem dL_isSold_438 : decode cL_isSold 438 = .ok (.iconst 3, 1) := by decide +kernel
theorem dL_isSold_439 : decode cL_isSold 439 = .ok (.iadd, 1) := by decide +kernel
theorem dL_isSold_440 : decode cL_isSold 440 = .ok (.iconst 3, 1) := by decide +kernel
theorem dL_isSold_441 : decode cL_isSold 441 = .ok (.iastore, 1) := by decide +kernel
theorem dL_isSold_442 : decode cL_isSold 442 = .ok (.aload_n 3, 1) := by decide +kernel
theorem dL_isSold_443 : decode cL_isSold 443 = .ok (.iload 8, 2) := by decide +kernel
theorem dL_isSold_445 : decode cL_isSold 445 = .ok (.iconst 4, 1) := by decide +kernel
theorem dL_isSold_446 : decode cL_isSold 446 = .ok (.iadd, 1) := by decide +kernel
theorem dL_isSold_447 : decode cL_isSold 447 = .ok (.iconst 0, 1) := by decide +kernel
theorem dL_isSold_448 : decode cL_isSold 448 = .ok (.iastore, 1) := by decide +kernel
theorem dL_isSold_449 : decode cL_isSold 449 = .ok (.aload_n 3, 1) := by decide +kernel
theorem dL_isSold_450 : decode cL_isSold 450 = .ok (.iload 8, 2) := by decide +kernel
theorem dL_isSold_452 : decode cL_isSold 452 = .ok (.bipush 6, 2) := by decide +kernel
theorem dL_isSold_454 : decode cL_isSold 454 = .ok (.iadd, 1) := by decide +kernel
theorem dL_isSold_455 : decode cL_isSold 455 = .ok (.iconst 0, 1) := by decide +kernel
theorem dL_isSold_456 : decode cL_isSold 456 = .ok (.iastore, 1) := by decide +kernel
theorem dL_isSold_457 : decode cL_isSold 457 = .ok (.aload_n 3, 1) := by decide +kernel
theorem dL_isSold_458 : decode cL_isSold 458 = .ok (.iload 8, 2) := by decide +kernel
theorem dL_isSold_460 : decode cL_isSold 460 = .ok (.bipush 7, 2) := by decide +kernel
theorem dL_isSold_462 : decode cL_isSold 462 = .ok (.iadd, 1) := by decide +kernel
theorem dL_isSold_463 : decode cL_isSold 463 = .ok (.iconst 0, 1) := by decide +kernel
theorem dL_isSold_464 : decode cL_isSold 464 = .ok (.iastore, 1) := by decide +kernel
theorem dL_isSold_465 : decode cL_isSold 465 = .ok (.aload_n 3, 1) := by decide +kernel
theorem dL_isSold_466 : decode cL_isSold 466 = .ok (.iload 8, 2) := by decide +kernel
theorem dL_isSold_468 : decode cL_isSold 468 = .ok (.bipush 8, 2) := by decide +kernel
theorem dL_isSold_470 : decode cL_isSold 470 = .ok (.iadd, 1) := by decide +kernel
theorem dL_isSold_471 : decode cL_isSold 471 = .ok (.iconst 0, 1) := by decide +kernel
theorem dL_isSold_472 : decode cL_isSold 472 = .ok (.iastore, 1) := by decide +kernel
theorem dL_isSold_473 : decode cL_isSold 473 = .ok (.aload_n 3, 1) := by decide +kernel
theorem dL_isSold_474 : decode cL_isSold 474 = .ok (.iload 8, 2) := by decide +kernel
theorem dL_isSold_476 : decode cL_isSold 476 = .ok (.bipush 10, 2) := by decide +kernel
theorem dL_isSold_478 : decode cL_isSold 478 = .ok (.iadd, 1) := by decide +kernel
theorem dL_isSold_479 : decode cL_isSold 479 = .ok (.bipush (-5), 2) := by decide +kernel
theorem dL_isSold_481 : decode cL_isSold 481 = .ok (.iastore, 1) := by decide +kernel
theorem dL_isSold_482 : decode cL_isSold 482 = .ok (.aload_n 0, 1) := by decide +kernel
theorem dL_isSold_483 : decode cL_isSold 483 = .ok (.iload 7, 2) := by decide +kernel
theorem dL_isSold_485 : decode cL_isSold 485 = .ok (.iload 9, 2) := by decide +kernel
theorem dL_isSold_487 : decode cL_isSold 487 = .ok (.invokevirtual 70, 3) := by decide +kernel
theorem dL_isSold_490 : decode cL_isSold 490 = .ok (.iload 10, 2) := by decide +kernel
theorem dL_isSold_492 : decode cL_isSold 492 = .ok (.if_icmp .ne 20, 3) := by decide +kernel
theorem dL_isSold_495 : decode cL_isSold 495 = .ok (.aload_n 0, 1) := by decide +kernel
theorem dL_isSold_496 : decode cL_isSold 496 = .ok (.iload 7, 2) := by decide +kernel
theorem dL_isSold_498 : decode cL_isSold 498 = .ok (.iload 9, 2) := by decide +kernel
theorem dL_isSold_500 : decode cL_isSold 500 = .ok (.invokevirtual 70, 3) := by decide +kernel
theorem dL_isSold_503 : decode cL_isSold 503 = .ok (.bipush (-4), 2) := by decide +kernel
theorem dL_isSold_505 : decode cL_isSold 505 = .ok (.if_icmp .ne 7, 3) := by decide +kernel
theorem dL_isSold_508 : decode cL_isSold 508 = .ok (.iconst 1, 1) := by decide +kernel
theorem dL_isSold_509 : decode cL_isSold 509 = .ok (.goto 4, 3) := by decide +kernel
theorem dL_isSold_512 : decode cL_isSold 512 = .ok (.iconst 0, 1) := by decide +kernel
theorem dL_isSold_513 : decode cL_isSold 513 = .ok (.ireturn, 1) := by decide +kernel
theorem dL_isMoved_0 : decode cL_isMoved 0 = .ok (.iload 5, 2) := by decide +kernel
theorem dL_isMoved_2 : decode cL_isMoved 2 = .ok (.bipush 20, 2) := by decide +kernel
theorem dL_isMoved_4 : decode cL_isMoved 4 = .ok (.ishr, 1) := by decide +kernel
theorem dL_isMoved_5 : decode cL_isMoved 5 = .ok (.iconst 3, 1) := by decide +kernel
theorem dL_isMoved_6 : decode cL_isMoved 6 = .ok (.invokestatic 41, 3) := by decide +kernel
theorem dL_isMoved_9 : decode cL_isMoved 9 = .ok (.ifCond .ne 171, 3) := by decide +kernel
theorem dL_isMoved_12 : decode cL_isMoved 12 = .ok (.iload 5, 2) := by decide +kernel
theorem dL_isMoved_14 : decode cL_isMoved 14 = .ok (.aload_n 1, 1) := by decide +kernel
theorem dL_isMoved_15 : decode cL_isMoved 15 = .ok (.iconst 1, 1) := by decide +kernel
theorem dL_isMoved_16 : decode cL_isMoved 16 = .ok (.iaload, 1) := by decide +kernel
theorem dL_isMoved_17 : decode cL_isMoved 17 = .ok (.invokestatic 41, 3) := by decide +kernel
theorem dL_isMoved_20 : decode cL_isMoved 20 = .ok (.istore 6, 2) := by decide +kernel
theorem dL_isMoved_22 : decode cL_isMoved 22 = .ok (.iload 5, 2) := by decide +kernel
theorem dL_isMoved_24 : decode cL_isMoved 24 = .ok (.iconst 4, 1) := by decide +kernel
theorem dL_isMoved_25 : decode cL_isMoved 25 = .ok (.ishr, 1) := by decide +kernel
theorem dL_isMoved_26 : decode cL_isMoved 26 = .ok (.iconst 4, 1) := by decide +kernel
theorem dL_isMoved_27 : decode cL_isMoved 27 = .ok (.invokestatic 41, 3) := by decide +kernel
theorem dL_isMoved_30 : decode cL_isMoved 30 = .ok (.istore 7, 2) := by decide +kernel
theorem dL_isMoved_32 : decode cL_isMoved 32 = .ok (.bipush 11, 2) := by decide +kernel
theorem dL_isMoved_34 : decode cL_isMoved 34 = .ok (.iload 6, 2) := by decide +kernel
theorem dL_isMoved_36 : decode cL_isMoved 36 = .ok (.imul, 1) := by decide +kernel
theorem dL_isMoved_37 : decode cL_isMoved 37 = .ok (.istore 8, 2) := by decide +kernel
theorem dL_isMoved_39 : decode cL_isMoved 39 = .ok (.aload_n 3, 1) := by decide +kernel
theorem dL_isMoved_40 : decode cL_isMoved 40 = .ok (.iload 8, 2) := by decide +kernel
theorem dL_isMoved_42 : decode cL_isMoved 42 = .ok (.iconst 3, 1) := by decide +kernel
theorem dL_isMoved_43 : decode cL_isMoved 43 = .ok (.iadd, 1) := by decide +kernel
theorem dL_isMoved_44 : decode cL_isMoved 44 = .ok (.iaload, 1) := by decide +kernel
theorem dL_isMoved_45 : decode cL_isMoved 45 = .ok (.iconst 1, 1) := by decide +kernel
theorem dL_isMoved_46 : decode cL_isMoved 46 = .ok (.if_icmp .eq 33, 3) := by decide +kernel
theorem dL_isMoved_49 : decode cL_isMoved 49 = .ok (.aload_n 0, 1) := by decide +kernel
theorem dL_isMoved_50 : decode cL_isMoved 50 = .ok (.iload 6, 2) := by decide +kernel
theorem dL_isMoved_52 : decode cL_isMoved 52 = .ok (.iload 7, 2) := by decide +kernel
theorem dL_isMoved_54 : decode cL_isMoved 54 = .ok (.invokevirtual 74, 3) := by decide +kernel
theorem dL_isMoved_57 : decode cL_isMoved 57 = .ok (.bipush (-4), 2) := by decide +kernel
theorem dL_isMoved_59 : decode cL_isMoved 59 = .ok (.if_icmp .ne 18, 3) := by decide +kernel
theorem dL_isMoved_62 : decode cL_isMoved 62 = .ok (.aload_n 0, 1) := by decide +kernel
theorem dL_isMoved_63 : decode cL_isMoved 63 = .ok (.iload 6, 2) := by decide +kernel
theorem dL_isMoved_65 : decode cL_isMoved 65 = .ok (.iconst 4, 1) := by decide +kernel
theorem dL_isMoved_66 : decode cL_isMoved 66 = .ok (.invokevirtual 74, 3) := by decide +kernel
theorem dL_isMoved_69 : decode cL_isMoved 69 = .ok (.iconst (-1), 1) := by decide +kernel
theorem dL_isMoved_70 : decode cL_isMoved 70 = .ok (.if_icmp .ne 7, 3) := by decide +kernel
theorem dL_isMoved_73 : decode cL_isMoved 73 = .ok (.iconst 1, 1) := by decide +kernel
theorem dL_isMoved_74 : decode cL_isMoved 74 = .ok (.goto 4, 3) := by decide +kernel
theorem dL_isMoved_77 : decode cL_isMoved 77 = .ok (.iconst 0, 1) := by decide +kernel
theorem dL_isMoved_78 : decode cL_isMoved 78 = .ok (.ireturn, 1) := by decide +kernel
theorem dL_isMoved_79 : decode cL_isMoved 79 = .ok (.aload_n 3, 1) := by decide +kernel
theorem dL_isMoved_80 : decode cL_isMoved 80 = .ok (.iload 8, 2) := by decide +kernel
theorem dL_isMoved_82 : decode cL_isMoved 82 = .ok (.bipush 10, 2) := by decide +kernel
theorem dL_isMoved_84 : decode cL_isMoved 84 = .ok (.iadd, 1) := by decide +kernel
theorem dL_isMoved_85 : decode cL_isMoved 85 = .ok (.iaload, 1) := by decide +kernel
theorem dL_isMoved_86 : decode cL_isMoved 86 = .ok (.iload 7, 2) := by decide +kernel
theorem dL_isMoved_88 : decode cL_isMoved 88 = .ok (.if_icmp .eq 27, 3) := by decide +kernel
theorem dL_isMoved_91 : decode cL_isMoved 91 = .ok (.aload_n 3, 1) := by decide +kernel
theorem dL_isMoved_92 : decode cL_isMoved 92 = .ok (.iload 8, 2) := by decide +kernel
theorem dL_isMoved_94 : decode cL_isMoved 94 = .ok (.bipush 10, 2) := by decide +kernel
theorem dL_isMoved_96 : decode cL_isMoved 96 = .ok (.iadd, 1) := by decide +kernel
theorem dL_isMoved_97 : decode cL_isMoved 97 = .ok (.iaload, 1) := by decide +kernel
theorem dL_isMoved_98 : decode cL_isMoved 98 = .ok (.bipush (-5), 2) := by decide +kernel
theorem dL_isMoved_100 : decode cL_isMoved 100 = .ok (.if_icmp .ne 19, 3) := by decide +kernel
theorem dL_isMoved_103 : decode cL_isMoved 103 = .ok (.aload_n 3, 1) := by decide +kernel
theorem dL_isMoved_104 : decode cL_isMoved 104 = .ok (.iload 8, 2) := by decide +kernel
theorem dL_isMoved_106 : decode cL_isMoved 106 = .ok (.bipush 9, 2) := by decide +kernel
theorem dL_isMoved_108 : decode cL_isMoved 108 = .ok (.iadd, 1) := by decide +kernel
theorem dL_isMoved_109 : decode cL_isMoved 109 = .ok (.iaload, 1) := by decide +kernel
theorem dL_isMoved_110 : decode cL_isMoved 110 = .ok (.iload 7, 2) := by decide +kernel
theorem dL_isMoved_112 : decode cL_isMoved 112 = .ok (.if_icmp .ne 7, 3) := by decide +kernel
theorem dL_isMoved_115 : decode cL_isMoved 115 = .ok (.iconst 1, 1) := by decide +kernel
theorem dL_isMoved_116 : decode cL_isMoved 116 = .ok (.goto 4, 3) := by decide +kernel
theorem dL_isMoved_119 : decode cL_isMoved 119 = .ok (.iconst 0, 1) := by decide +kernel
theorem dL_isMoved_120 : decode cL_isMoved 120 = .ok (.istore 9, 2) := by decide +kernel
theorem dL_isMoved_122 : decode cL_isMoved 122 = .ok (.aload_n 3, 1) := by decide +kernel
theorem dL_isMoved_123 : decode cL_isMoved 123 = .ok (.iload 8, 2) := by decide +kernel
theorem dL_isMoved_125 : decode cL_isMoved 125 = .ok (.bipush 10, 2) := by decide +kernel
theorem dL_isMoved_127 : decode cL_isMoved 127 = .ok (.iadd, 1) := by decide +kernel
theorem dL_isMoved_128 : decode cL_isMoved 128 = .ok (.iload 9, 2) := by decide +kernel
theorem dL_isMoved_130 : decode cL_isMoved 130 = .ok (.ifCond .eq 13, 3) := by decide +kernel
theorem dL_isMoved_133 : decode cL_isMoved 133 = .ok (.aload_n 3, 1) := by decide +kernel
theorem dL_isMoved_134 : decode cL_isMoved 134 = .ok (.iload 8, 2) := by decide +kernel
theorem dL_isMoved_136 : decode cL_isMoved 136 = .ok (.bipush 10, 2) := by decide +kernel
theorem dL_isMoved_138 : decode cL_isMoved 138 = .ok (.iadd, 1) := by decide +kernel
theorem dL_isMoved_139 : decode cL_isMoved 139 = .ok (.iaload, 1) := by decide +kernel
theorem dL_isMoved_140 : decode cL_isMoved 140 = .ok (.goto 5, 3) := by decide +kernel
theorem dL_isMoved_143 : decode cL_isMoved 143 = .ok (.iload 7, 2) := by decide +kernel
theorem dL_isMoved_145 : decode cL_isMoved 145 = .ok (.iastore, 1) := by decide +kernel
theorem dL_isMoved_146 : decode cL_isMoved 146 = .ok (.aload_n 0, 1) := by decide +kernel
theorem dL_isMoved_147 : decode cL_isMoved 147 = .ok (.iload 6, 2) := by decide +kernel
theorem dL_isMoved_149 : decode cL_isMoved 149 = .ok (.iload 7, 2) := by decide +kernel
theorem dL_isMoved_151 : decode cL_isMoved 151 = .ok (.invokevirtual 74, 3) := by decide +kernel
theorem dL_isMoved_154 : decode cL_isMoved 154 = .ok (.iload 9, 2) := by decide +kernel
theorem dL_isMoved_156 : decode cL_isMoved 156 = .ok (.ifCond .eq 8, 3) := by decide +kernel
theorem dL_isMoved_159 : decode cL_isMoved 159 = .ok (.bipush (-5), 2) := by decide +kernel
theorem dL_isMoved_161 : decode cL_isMoved 161 = .ok (.goto 10, 3) := by decide +kernel
theorem dL_isMoved_164 : decode cL_isMoved 164 = .ok (.aload_n 3, 1) := by decide +kernel
theorem dL_isMoved_165 : decode cL_isMoved 165 = .ok (.iload 8, 2) := by decide +kernel
theorem dL_isMoved_167 : decode cL_isMoved 167 = .ok (.bipush 9, 2) := by decide +kernel
theorem dL_isMoved_169 : decode cL_isMoved 169 = .ok (.iadd, 1) := by decide +kernel
theorem dL_isMoved_170 : decode cL_isMoved 170 = .ok (.iaload, 1) := by decide +kernel
theorem dL_isMoved_171 : decode cL_isMoved 171 = .ok (.if_icmp .ne 7, 3) := by decide +kernel
theorem dL_isMoved_174 : decode cL_isMoved 174 = .ok (.iconst 1, 1) := by decide +kernel
theorem dL_isMoved_175 : decode cL_isMoved 175 = .ok (.goto 4, 3) := by decide +kernel
theorem dL_isMoved_178 : decode cL_isMoved 178 = .ok (.iconst 0, 1) := by decide +kernel
theorem dL_isMoved_179 : decode cL_isMoved 179 = .ok (.ireturn, 1) := by decide +kernel
theorem dL_isMoved_180 : decode cL_isMoved 180 = .ok (.aload_n 1, 1) := by decide +kernel
theorem dL_isMoved_181 : decode cL_isMoved 181 = .ok (.iconst 2, 1) := by decide +kernel
theorem dL_isMoved_182 : decode cL_isMoved 182 = .ok (.iaload, 1) := by decide +kernel
theorem dL_isMoved_183 : decode cL_isMoved 183 = .ok (.ifCond .ne 20, 3) := by decide +kernel
theorem dL_isMoved_186 : decode cL_isMoved 186 = .ok (.aload_n 0, 1) := by decide +kernel
theorem dL_isMoved_187 : decode cL_isMoved 187 = .ok (.iconst 0, 1) := by decide +kernel
theorem dL_isMoved_188 : decode cL_isMoved 188 = .ok (.iconst 0, 1) := by decide +kernel
theorem dL_isMoved_189 : decode cL_isMoved 189 = .ok (.iconst 0, 1) := by decide +kernel
theorem dL_isMoved_190 : decode cL_isMoved 190 = .ok (.invokevirtual 77, 3) := by decide +kernel
theorem dL_isMoved_193 : decode cL_isMoved 193 = .ok (.iconst (-1), 1) := by decide +kernel
theorem dL_isMoved_194 : decode cL_isMoved 194 = .ok (.if_icmp .ne 7, 3) := by decide +kernel
theorem dL_isMoved_197 : decode cL_isMoved 197 = .ok (.iconst 1, 1) := by decide +kernel
theorem dL_isMoved_198 : decode cL_isMoved 198 = .ok (.goto 4, 3) := by decide +kernel
theorem dL_isMoved_201 : decode cL_isMoved 201 = .ok (.iconst 0, 1) := by decide +kernel
theorem dL_isMoved_202 : decode cL_isMoved 202 = .ok (.ireturn, 1) := by decide +kernel
theorem dL_isMoved_203 : decode cL_isMoved 203 = .ok (.iload 5, 2) := by decide +kernel
theorem dL_isMoved_205 : decode cL_isMoved 205 = .ok (.aload_n 1, 1) := by decide +kernel
theorem dL_isMoved_206 : decode cL_isMoved 206 = .ok (.iconst 2, 1) := by decide +kernel
theorem dL_isMoved_207 : decode cL_isMoved 207 = .ok (.iaload, 1) := by decide +kernel
theorem dL_isMoved_208 : decode cL_isMoved 208 = .ok (.invokestatic 41, 3) := by decide +kernel
theorem dL_isMoved_211 : decode cL_isMoved 211 = .ok (.istore 6, 2) := by decide +kernel
theorem dL_isMoved_213 : decode cL_isMoved 213 = .ok (.iload 5, 2) := by decide +kernel
theorem dL_isMoved_215 : decode cL_isMoved 215 = .ok (.iconst 5, 1) := by decide +kernel
theorem dL_isMoved_216 : decode cL_isMoved 216 = .ok (.ishr, 1) := by decide +kernel
theorem dL_isMoved_217 : decode cL_isMoved 217 = .ok (.iconst 3, 1) := by decide +kernel
theorem dL_isMoved_218 : decode cL_isMoved 218 = .ok (.invokestatic 41, 3) := by decide +kernel
theorem dL_isMoved_221 : decode cL_isMoved 221 = .ok (.istore 7, 2) := by decide +kernel
theorem dL_isMoved_223 : decode cL_isMoved 223 = .ok (.iload 5, 2) := by decide +kernel
theorem dL_isMoved_225 : decode cL_isMoved 225 = .ok (.bipush 7, 2) := by decide +kernel
theorem dL_isMoved_227 : decode cL_isMoved 227 = .ok (.ishr, 1) := by decide +kernel
theorem dL_isMoved_228 : decode cL_isMoved 228 = .ok (.sipush 900, 3) := by decide +kernel
theorem dL_isMoved_231 : decode cL_isMoved 231 = .ok (.invokestatic 41, 3) := by decide +kernel
theorem dL_isMoved_234 : decode cL_isMoved 234 = .ok (.istore 8, 2) := by decide +kernel
theorem dL_isMoved_236 : decode cL_isMoved 236 = .ok (.aload 4, 2) := by decide +kernel
theorem dL_isMoved_238 : decode cL_isMoved 238 = .ok (.bipush 6, 2) := by decide +kernel
theorem dL_isMoved_240 : decode cL_isMoved 240 = .ok (.iload 6, 2) := by decide +kernel
theorem dL_isMoved_242 : decode cL_isMoved 242 = .ok (.imul, 1) := by decide +kernel
theorem dL_isMoved_243 : decode cL_isMoved 243 = .ok (.iaload, 1) := by decide +kernel
theorem dL_isMoved_244 : decode cL_isMoved 244 = .ok (.iload 7, 2) := by decide +kernel
theorem dL_isMoved_246 : decode cL_isMoved 246 = .ok (.if_icmp .ne 37, 3) := by decide +kernel
theorem dL_isMoved_249 : decode cL_isMoved 249 = .ok (.aload_n 0, 1) := by decide +kernel
theorem dL_isMoved_250 : decode cL_isMoved 250 = .ok (.iload 6, 2) := by decide +kernel
theorem dL_isMoved_252 : decode cL_isMoved 252 = .ok (.iload 7, 2) := by decide +kernel
theorem dL_isMoved_254 : decode cL_isMoved 254 = .ok (.iload 8, 2) := by decide +kernel
theorem dL_isMoved_256 : decode cL_isMoved 256 = .ok (.invokevirtual 77, 3) := by decide +kernel
theorem dL_isMoved_259 : decode cL_isMoved 259 = .ok (.bipush (-2), 2) := by decide +kernel
theorem dL_isMoved_261 : decode cL_isMoved 261 = .ok (.if_icmp .ne 20, 3) := by decide +kernel
theorem dL_isMoved_264 : decode cL_isMoved 264 = .ok (.aload_n 0, 1) := by decide +kernel
theorem dL_isMoved_265 : decode cL_isMoved 265 = .ok (.iload 6, 2) := by decide +kernel
theorem dL_isMoved_267 : decode cL_isMoved 267 = .ok (.iconst 3, 1) := by decide +kernel
theorem dL_isMoved_268 : decode cL_isMoved 268 = .ok (.iload 8, 2) := by decide +kernel
theorem dL_isMoved_270 : decode cL_isMoved 270 = .ok (.invokevirtual 77, 3) := by decide +kernel
theorem dL_isMoved_273 : decode cL_isMoved 273 = .ok (.iconst (-1), 1) := by decide +kernel
theorem dL_isMoved_274 : decode cL_isMoved 274 = .ok (.if_icmp .ne 7, 3) := by decide +kernel
theorem dL_isMoved_277 : decode cL_isMoved 277 = .ok (.iconst 1, 1) := by decide +kernel
theorem dL_isMoved_278 : decode cL_isMoved 278 = .ok (.goto 4, 3) := by decide +kernel
theorem dL_isMoved_281 : decode cL_isMoved 281 = .ok (.iconst 0, 1) := by decide +kernel
theorem dL_isMoved_282 : decode cL_isMoved 282 = .ok (.ireturn, 1) := by decide +kernel
theorem dL_isMoved_283 : decode cL_isMoved 283 = .ok (.aload_n 3, 1) := by decide +kernel
theorem dL_isMoved_284 : decode cL_isMoved 284 = .ok (.bipush 11, 2) := by decide +kernel
theorem dL_isMoved_286 : decode cL_isMoved 286 = .ok (.aload 4, 2) := by decide +kernel
theorem dL_isMoved_288 : decode cL_isMoved 288 = .ok (.bipush 6, 2) := by decide +kernel
theorem dL_isMoved_290 : decode cL_isMoved 290 = .ok (.iload 6, 2) := by decide +kernel
theorem dL_isMoved_292 : decode cL_isMoved 292 = .ok (.imul, 1) := by decide +kernel
theorem dL_isMoved_293 : decode cL_isMoved 293 = .ok (.iconst 1, 1) := by decide +kernel
theorem dL_isMoved_294 : decode cL_isMoved 294 = .ok (.iadd, 1) := by decide +kernel
theorem dL_isMoved_295 : decode cL_isMoved 295 = .ok (.iaload, 1) := by decide +kernel
theorem dL_isMoved_296 : decode cL_isMoved 296 = .ok (.imul, 1) := by decide +kernel
theorem dL_isMoved_297 : decode cL_isMoved 297 = .ok (.iconst 3, 1) := by decide +kernel
theorem dL_isMoved_298 : decode cL_isMoved 298 = .ok (.iadd, 1) := by decide +kernel
theorem dL_isMoved_299 : decode cL_isMoved 299 = .ok (.iaload, 1) := by decide +kernel
theorem dL_isMoved_300 : decode cL_isMoved 300 = .ok (.iconst 1, 1) := by decide +kernel
theorem dL_isMoved_301 : decode cL_isMoved 301 = .ok (.if_icmp .ne 14, 3) := by decide +kernel
theorem dL_isMoved_304 : decode cL_isMoved 304 = .ok (.aload_n 2, 1) := by decide +kernel
theorem dL_isMoved_305 : decode cL_isMoved 305 = .ok (.iconst 3, 1) := by decide +kernel
theorem dL_isMoved_306 : decode cL_isMoved 306 = .ok (.iload 7, 2) := by decide +kernel
theorem dL_isMoved_308 : decode cL_isMoved 308 = .ok (.imul, 1) := by decide +kernel
theorem dL_isMoved_309 : decode cL_isMoved 309 = .ok (.iaload, 1) := by decide +kernel
theorem dL_isMoved_310 : decode cL_isMoved 310 = .ok (.iload 8, 2) := by decide +kernel
theorem dL_isMoved_312 : decode cL_isMoved 312 = .ok (.if_icmp .ge 39, 3) := by decide +kernel
theorem dL_isMoved_315 : decode cL_isMoved 315 = .ok (.aload_n 0, 1) := by decide +kernel
theorem dL_isMoved_316 : decode cL_isMoved 316 = .ok (.iload 6, 2) := by decide +kernel
theorem dL_isMoved_318 : decode cL_isMoved 318 = .ok (.iload 7, 2) := by decide +kernel
theorem dL_isMoved_320 : decode cL_isMoved 320 = .ok (.iload 8, 2) := by decide +kernel
theorem dL_isMoved_322 : decode cL_isMoved 322 = .ok (.invokevirtual 77, 3) := by decide +kernel
theorem dL_isMoved_325 : decode cL_isMoved 325 = .ok (.bipush (-4), 2) := by decide +kernel
theorem dL_isMoved_327 : decode cL_isMoved 327 = .ok (.if_icmp .ne 22, 3) := by decide +kernel
theorem dL_isMoved_330 : decode cL_isMoved 330 = .ok (.aload_n 0, 1) := by decide +kernel
theorem dL_isMoved_331 : decode cL_isMoved 331 = .ok (.iload 6, 2) := by decide +kernel
theorem dL_isMoved_333 : decode cL_isMoved 333 = .ok (.iload 7, 2) := by decide +kernel
theorem dL_isMoved_335 : decode cL_isMoved 335 = .ok (.ldc 73, 2) := by decide +kernel
theorem dL_isMoved_337 : decode cL_isMoved 337 = .ok (.invokevirtual 77, 3) := by decide +kernel
theorem dL_isMoved_340 : decode cL_isMoved 340 = .ok (.bipush (-2), 2) := by decide +kernel
theorem dL_isMoved_342 : decode cL_isMoved 342 = .ok (.if_icmp .ne 7, 3) := by decide +kernel
theorem dL_isMoved_345 : decode cL_isMoved 345 = .ok (.iconst 1, 1) := by decide +kernel
theorem dL_isMoved_346 : decode cL_isMoved 346 = .ok (.goto 4, 3) := by decide +kernel
theorem dL_isMoved_349 : decode cL_isMoved 349 = .ok (.iconst 0, 1) := by decide +kernel
theorem dL_isMoved_350 : decode cL_isMoved 350 = .ok (.ireturn, 1) := by decide +kernel
theorem dL_isMoved_351 : decode cL_isMoved 351 = .ok (.aload_n 2, 1) := by decide +kernel
theorem dL_isMoved_352 : decode cL_isMoved 352 = .ok (.iconst 3, 1) := by decide +kernel
theorem dL_isMoved_353 : decode cL_isMoved 353 = .ok (.iload 7, 2) := by decide +kernel
end
section
theorem dL_isMoved_355 : decode cL_isMoved 355 = .ok (.imul, 1) := by decide +kernel
theorem dL_isMoved_356 : decode cL_isMoved 356 = .ok (.dup2, 1) := by decide +kernel
theorem dL_isMoved_357 : decode cL_isMoved 357 = .ok (.iaload, 1) := by decide +kernel
theorem dL_isMoved_358 : decode cL_isMoved 358 = .ok (.iload 8, 2) := by decide +kernel
theorem dL_isMoved_360 : decode cL_isMoved 360 = .ok (.isub, 1) := by decide +kernel
theorem dL_isMoved_361 : decode cL_isMoved 361 = .ok (.iastore, 1) := by decide +kernel
theorem dL_isMoved_362 : decode cL_isMoved 362 = .ok (.aload_n 2, 1) := by decide +kernel
theorem dL_isMoved_363 : decode cL_isMoved 363 = .ok (.iconst 3, 1) := by decide +kernel
theorem dL_isMoved_364 : decode cL_isMoved 364 = .ok (.aload 4, 2) := by decide +kernel
theorem dL_isMoved_366 : decode cL_isMoved 366 = .ok (.bipush 6, 2) := by decide +kernel
theorem dL_isMoved_368 : decode cL_isMoved 368 = .ok (.iload 6, 2) := by decide +kernel
theorem dL_isMoved_370 : decode cL_isMoved 370 = .ok (.imul, 1) := by decide +kernel
theorem dL_isMoved_371 : decode cL_isMoved 371 = .ok (.iaload, 1) := by decide +kernel
theorem dL_isMoved_372 : decode cL_isMoved 372 = .ok (.imul, 1) := by decide +kernel
theorem dL_isMoved_373 : decode cL_isMoved 373 = .ok (.dup2, 1) := by decide +kernel
theorem dL_isMoved_374 : decode cL_isMoved 374 = .ok (.iaload, 1) := by decide +kernel
theorem dL_isMoved_375 : decode cL_isMoved 375 = .ok (.iload 8, 2) := by decide +kernel
theorem dL_isMoved_377 : decode cL_isMoved 377 = .ok (.iadd, 1) := by decide +kernel
theorem dL_isMoved_378 : decode cL_isMoved 378 = .ok (.iastore, 1) := by decide +kernel
theorem dL_isMoved_379 : decode cL_isMoved 379 = .ok (.aload 4, 2) := by decide +kernel
theorem dL_isMoved_381 : decode cL_isMoved 381 = .ok (.bipush 6, 2) := by decide +kernel
theorem dL_isMoved_383 : decode cL_isMoved 383 = .ok (.iload 6, 2) := by decide +kernel
theorem dL_isMoved_385 : decode cL_isMoved 385 = .ok (.imul, 1) := by decide +kernel
theorem dL_isMoved_386 : decode cL_isMoved 386 = .ok (.iload 7, 2) := by decide +kernel
theorem dL_isMoved_388 : decode cL_isMoved 388 = .ok (.iastore, 1) := by decide +kernel
theorem dL_isMoved_389 : decode cL_isMoved 389 = .ok (.aload_n 0, 1) := by decide +kernel
theorem dL_isMoved_390 : decode cL_isMoved 390 = .ok (.iload 6, 2) := by decide +kernel
theorem dL_isMoved_392 : decode cL_isMoved 392 = .ok (.iload 7, 2) := by decide +kernel
theorem dL_isMoved_394 : decode cL_isMoved 394 = .ok (.iload 8, 2) := by decide +kernel
theorem dL_isMoved_396 : decode cL_isMoved 396 = .ok (.invokevirtual 77, 3) := by decide +kernel
theorem dL_isMoved_399 : decode cL_isMoved 399 = .ok (.aload 4, 2) := by decide +kernel
theorem dL_isMoved_401 : decode cL_isMoved 401 = .ok (.bipush 6, 2) := by decide +kernel
theorem dL_isMoved_403 : decode cL_isMoved 403 = .ok (.iload 6, 2) := by decide +kernel
theorem dL_isMoved_405 : decode cL_isMoved 405 = .ok (.imul, 1) := by decide +kernel
theorem dL_isMoved_406 : decode cL_isMoved 406 = .ok (.iconst 3, 1) := by decide +kernel
theorem dL_isMoved_407 : decode cL_isMoved 407 = .ok (.iadd, 1) := by decide +kernel
theorem dL_isMoved_408 : decode cL_isMoved 408 = .ok (.iaload, 1) := by decide +kernel
theorem dL_isMoved_409 : decode cL_isMoved 409 = .ok (.if_icmp .ne 7, 3) := by decide +kernel
theorem dL_isMoved_412 : decode cL_isMoved 412 = .ok (.iconst 1, 1) := by decide +kernel
theorem dL_isMoved_413 : decode cL_isMoved 413 = .ok (.goto 4, 3) := by decide +kernel
theorem dL_isMoved_416 : decode cL_isMoved 416 = .ok (.iconst 0, 1) := by decide +kernel
theorem dL_isMoved_417 : decode cL_isMoved 417 = .ok (.ireturn, 1) := by decide +kernel
theorem dL_isGiven_0 : decode cL_isGiven 0 = .ok (.iload 5, 2) := by decide +kernel
theorem dL_isGiven_2 : decode cL_isGiven 2 = .ok (.aload_n 1, 1) := by decide +kernel
theorem dL_isGiven_3 : decode cL_isGiven 3 = .ok (.iconst 1, 1) := by decide +kernel
theorem dL_isGiven_4 : decode cL_isGiven 4 = .ok (.iaload, 1) := by decide +kernel
theorem dL_isGiven_5 : decode cL_isGiven 5 = .ok (.invokestatic 41, 3) := by decide +kernel
theorem dL_isGiven_8 : decode cL_isGiven 8 = .ok (.istore 6, 2) := by decide +kernel
theorem dL_isGiven_10 : decode cL_isGiven 10 = .ok (.iload 5, 2) := by decide +kernel
theorem dL_isGiven_12 : decode cL_isGiven 12 = .ok (.iconst 3, 1) := by decide +kernel
theorem dL_isGiven_13 : decode cL_isGiven 13 = .ok (.ishr, 1) := by decide +kernel
theorem dL_isGiven_14 : decode cL_isGiven 14 = .ok (.iconst 3, 1) := by decide +kernel
theorem dL_isGiven_15 : decode cL_isGiven 15 = .ok (.invokestatic 41, 3) := by decide +kernel
theorem dL_isGiven_18 : decode cL_isGiven 18 = .ok (.ifCond .le 129, 3) := by decide +kernel
theorem dL_isGiven_21 : decode cL_isGiven 21 = .ok (.iload 5, 2) := by decide +kernel
theorem dL_isGiven_23 : decode cL_isGiven 23 = .ok (.iconst 5, 1) := by decide +kernel
theorem dL_isGiven_24 : decode cL_isGiven 24 = .ok (.ishr, 1) := by decide +kernel
theorem dL_isGiven_25 : decode cL_isGiven 25 = .ok (.bipush 51, 2) := by decide +kernel
theorem dL_isGiven_27 : decode cL_isGiven 27 = .ok (.invokestatic 41, 3) := by decide +kernel
theorem dL_isGiven_30 : decode cL_isGiven 30 = .ok (.istore 7, 2) := by decide +kernel
theorem dL_isGiven_32 : decode cL_isGiven 32 = .ok (.aload_n 1, 1) := by decide +kernel
theorem dL_isGiven_33 : decode cL_isGiven 33 = .ok (.iconst 4, 1) := by decide +kernel
theorem dL_isGiven_34 : decode cL_isGiven 34 = .ok (.iaload, 1) := by decide +kernel
theorem dL_isGiven_35 : decode cL_isGiven 35 = .ok (.istore 8, 2) := by decide +kernel
theorem dL_isGiven_37 : decode cL_isGiven 37 = .ok (.iload 5, 2) := by decide +kernel
theorem dL_isGiven_39 : decode cL_isGiven 39 = .ok (.bipush 11, 2) := by decide +kernel
theorem dL_isGiven_41 : decode cL_isGiven 41 = .ok (.ishr, 1) := by decide +kernel
theorem dL_isGiven_42 : decode cL_isGiven 42 = .ok (.iconst 3, 1) := by decide +kernel
theorem dL_isGiven_43 : decode cL_isGiven 43 = .ok (.invokestatic 41, 3) := by decide +kernel
theorem dL_isGiven_46 : decode cL_isGiven 46 = .ok (.istore 9, 2) := by decide +kernel
theorem dL_isGiven_48 : decode cL_isGiven 48 = .ok (.aload_n 1, 1) := by decide +kernel
theorem dL_isGiven_49 : decode cL_isGiven 49 = .ok (.iconst 4, 1) := by decide +kernel
theorem dL_isGiven_50 : decode cL_isGiven 50 = .ok (.iload 7, 2) := by decide +kernel
theorem dL_isGiven_52 : decode cL_isGiven 52 = .ok (.iastore, 1) := by decide +kernel
theorem dL_isGiven_53 : decode cL_isGiven 53 = .ok (.aload_n 2, 1) := by decide +kernel
theorem dL_isGiven_54 : decode cL_isGiven 54 = .ok (.iconst 3, 1) := by decide +kernel
theorem dL_isGiven_55 : decode cL_isGiven 55 = .ok (.iload 9, 2) := by decide +kernel
theorem dL_isGiven_57 : decode cL_isGiven 57 = .ok (.imul, 1) := by decide +kernel
theorem dL_isGiven_58 : decode cL_isGiven 58 = .ok (.dup2, 1) := by decide +kernel
theorem dL_isGiven_59 : decode cL_isGiven 59 = .ok (.iaload, 1) := by decide +kernel
theorem dL_isGiven_60 : decode cL_isGiven 60 = .ok (.iconst 1, 1) := by decide +kernel
theorem dL_isGiven_61 : decode cL_isGiven 61 = .ok (.iload 7, 2) := by decide +kernel
theorem dL_isGiven_63 : decode cL_isGiven 63 = .ok (.iadd, 1) := by decide +kernel
theorem dL_isGiven_64 : decode cL_isGiven 64 = .ok (.iadd, 1) := by decide +kernel
theorem dL_isGiven_65 : decode cL_isGiven 65 = .ok (.iastore, 1) := by decide +kernel
theorem dL_isGiven_66 : decode cL_isGiven 66 = .ok (.aload_n 0, 1) := by decide +kernel
theorem dL_isGiven_67 : decode cL_isGiven 67 = .ok (.iload 7, 2) := by decide +kernel
theorem dL_isGiven_69 : decode cL_isGiven 69 = .ok (.invokevirtual 80, 3) := by decide +kernel
theorem dL_isGiven_72 : decode cL_isGiven 72 = .ok (.iload 8, 2) := by decide +kernel
theorem dL_isGiven_74 : decode cL_isGiven 74 = .ok (.iload 7, 2) := by decide +kernel
theorem dL_isGiven_76 : decode cL_isGiven 76 = .ok (.if_icmp .ne 8, 3) := by decide +kernel
theorem dL_isGiven_79 : decode cL_isGiven 79 = .ok (.bipush (-5), 2) := by decide +kernel
theorem dL_isGiven_81 : decode cL_isGiven 81 = .ok (.goto 5, 3) := by decide +kernel
theorem dL_isGiven_84 : decode cL_isGiven 84 = .ok (.iload 8, 2) := by decide +kernel
theorem dL_isGiven_86 : decode cL_isGiven 86 = .ok (.if_icmp .ne 59, 3) := by decide +kernel
theorem dL_isGiven_89 : decode cL_isGiven 89 = .ok (.aload_n 0, 1) := by decide +kernel
theorem dL_isGiven_90 : decode cL_isGiven 90 = .ok (.bipush 51, 2) := by decide +kernel
theorem dL_isGiven_92 : decode cL_isGiven 92 = .ok (.invokevirtual 80, 3) := by decide +kernel
theorem dL_isGiven_95 : decode cL_isGiven 95 = .ok (.bipush (-2), 2) := by decide +kernel
theorem dL_isGiven_97 : decode cL_isGiven 97 = .ok (.if_icmp .ne 48, 3) := by decide +kernel
theorem dL_isGiven_100 : decode cL_isGiven 100 = .ok (.aload_n 0, 1) := by decide +kernel
theorem dL_isGiven_101 : decode cL_isGiven 101 = .ok (.iload 9, 2) := by decide +kernel
theorem dL_isGiven_103 : decode cL_isGiven 103 = .ok (.iconst 1, 1) := by decide +kernel
theorem dL_isGiven_104 : decode cL_isGiven 104 = .ok (.iload 7, 2) := by decide +kernel
theorem dL_isGiven_106 : decode cL_isGiven 106 = .ok (.iadd, 1) := by decide +kernel
theorem dL_isGiven_107 : decode cL_isGiven 107 = .ok (.invokevirtual 83, 3) := by decide +kernel
theorem dL_isGiven_110 : decode cL_isGiven 110 = .ok (.aload_n 2, 1) := by decide +kernel
theorem dL_isGiven_111 : decode cL_isGiven 111 = .ok (.iconst 3, 1) := by decide +kernel
theorem dL_isGiven_112 : decode cL_isGiven 112 = .ok (.iload 9, 2) := by decide +kernel
theorem dL_isGiven_114 : decode cL_isGiven 114 = .ok (.imul, 1) := by decide +kernel
theorem dL_isGiven_115 : decode cL_isGiven 115 = .ok (.iaload, 1) := by decide +kernel
theorem dL_isGiven_116 : decode cL_isGiven 116 = .ok (.if_icmp .ne 29, 3) := by decide +kernel
theorem dL_isGiven_119 : decode cL_isGiven 119 = .ok (.aload_n 0, 1) := by decide +kernel
theorem dL_isGiven_120 : decode cL_isGiven 120 = .ok (.iload 9, 2) := by decide +kernel
theorem dL_isGiven_122 : decode cL_isGiven 122 = .ok (.iconst 0, 1) := by decide +kernel
theorem dL_isGiven_123 : decode cL_isGiven 123 = .ok (.invokevirtual 83, 3) := by decide +kernel
theorem dL_isGiven_126 : decode cL_isGiven 126 = .ok (.bipush (-2), 2) := by decide +kernel
theorem dL_isGiven_128 : decode cL_isGiven 128 = .ok (.if_icmp .ne 17, 3) := by decide +kernel
theorem dL_isGiven_131 : decode cL_isGiven 131 = .ok (.aload_n 0, 1) := by decide +kernel
theorem dL_isGiven_132 : decode cL_isGiven 132 = .ok (.iconst 3, 1) := by decide +kernel
theorem dL_isGiven_133 : decode cL_isGiven 133 = .ok (.iconst 1, 1) := by decide +kernel
theorem dL_isGiven_134 : decode cL_isGiven 134 = .ok (.invokevirtual 83, 3) := by decide +kernel
theorem dL_isGiven_137 : decode cL_isGiven 137 = .ok (.iconst (-1), 1) := by decide +kernel
theorem dL_isGiven_138 : decode cL_isGiven 138 = .ok (.if_icmp .ne 7, 3) := by decide +kernel
theorem dL_isGiven_141 : decode cL_isGiven 141 = .ok (.iconst 1, 1) := by decide +kernel
theorem dL_isGiven_142 : decode cL_isGiven 142 = .ok (.goto 4, 3) := by decide +kernel
theorem dL_isGiven_145 : decode cL_isGiven 145 = .ok (.iconst 0, 1) := by decide +kernel
theorem dL_isGiven_146 : decode cL_isGiven 146 = .ok (.ireturn, 1) := by decide +kernel
theorem dL_isGiven_147 : decode cL_isGiven 147 = .ok (.aload_n 3, 1) := by decide +kernel
theorem dL_isGiven_148 : decode cL_isGiven 148 = .ok (.bipush 11, 2) := by decide +kernel
theorem dL_isGiven_150 : decode cL_isGiven 150 = .ok (.iload 6, 2) := by decide +kernel
theorem dL_isGiven_152 : decode cL_isGiven 152 = .ok (.imul, 1) := by decide +kernel
theorem dL_isGiven_153 : decode cL_isGiven 153 = .ok (.iconst 3, 1) := by decide +kernel
theorem dL_isGiven_154 : decode cL_isGiven 154 = .ok (.iadd, 1) := by decide +kernel
theorem dL_isGiven_155 : decode cL_isGiven 155 = .ok (.iaload, 1) := by decide +kernel
theorem dL_isGiven_156 : decode cL_isGiven 156 = .ok (.ifCond .le 31, 3) := by decide +kernel
theorem dL_isGiven_159 : decode cL_isGiven 159 = .ok (.aload_n 0, 1) := by decide +kernel
theorem dL_isGiven_160 : decode cL_isGiven 160 = .ok (.iload 6, 2) := by decide +kernel
theorem dL_isGiven_162 : decode cL_isGiven 162 = .ok (.invokevirtual 86, 3) := by decide +kernel
theorem dL_isGiven_165 : decode cL_isGiven 165 = .ok (.bipush (-4), 2) := by decide +kernel
theorem dL_isGiven_167 : decode cL_isGiven 167 = .ok (.if_icmp .ne 18, 3) := by decide +kernel
theorem dL_isGiven_170 : decode cL_isGiven 170 = .ok (.aload_n 0, 1) := by decide +kernel
theorem dL_isGiven_171 : decode cL_isGiven 171 = .ok (.aload_n 1, 1) := by decide +kernel
theorem dL_isGiven_172 : decode cL_isGiven 172 = .ok (.iconst 1, 1) := by decide +kernel
theorem dL_isGiven_173 : decode cL_isGiven 173 = .ok (.iaload, 1) := by decide +kernel
theorem dL_isGiven_174 : decode cL_isGiven 174 = .ok (.invokevirtual 86, 3) := by decide +kernel
theorem dL_isGiven_177 : decode cL_isGiven 177 = .ok (.iconst (-1), 1) := by decide +kernel
theorem dL_isGiven_178 : decode cL_isGiven 178 = .ok (.if_icmp .ne 7, 3) := by decide +kernel
theorem dL_isGiven_181 : decode cL_isGiven 181 = .ok (.iconst 1, 1) := by decide +kernel
theorem dL_isGiven_182 : decode cL_isGiven 182 = .ok (.goto 4, 3) := by decide +kernel
theorem dL_isGiven_185 : decode cL_isGiven 185 = .ok (.iconst 0, 1) := by decide +kernel
theorem dL_isGiven_186 : decode cL_isGiven 186 = .ok (.ireturn, 1) := by decide +kernel
theorem dL_isGiven_187 : decode cL_isGiven 187 = .ok (.aload_n 1, 1) := by decide +kernel
theorem dL_isGiven_188 : decode cL_isGiven 188 = .ok (.aload 4, 2) := by decide +kernel
theorem dL_isGiven_190 : decode cL_isGiven 190 = .ok (.iload 6, 2) := by decide +kernel
theorem dL_isGiven_192 : decode cL_isGiven 192 = .ok (.iconst (-1), 1) := by decide +kernel
theorem dL_isGiven_193 : decode cL_isGiven 193 = .ok (.invokestatic 9, 3) := by decide +kernel
theorem dL_isGiven_196 : decode cL_isGiven 196 = .ok (.istore 7, 2) := by decide +kernel
theorem dL_isGiven_198 : decode cL_isGiven 198 = .ok (.iconst 0, 1) := by decide +kernel
theorem dL_isGiven_199 : decode cL_isGiven 199 = .ok (.istore 8, 2) := by decide +kernel
theorem dL_isGiven_201 : decode cL_isGiven 201 = .ok (.iload 8, 2) := by decide +kernel
theorem dL_isGiven_203 : decode cL_isGiven 203 = .ok (.aload_n 1, 1) := by decide +kernel
theorem dL_isGiven_204 : decode cL_isGiven 204 = .ok (.iconst 2, 1) := by decide +kernel
theorem dL_isGiven_205 : decode cL_isGiven 205 = .ok (.iaload, 1) := by decide +kernel
theorem dL_isGiven_206 : decode cL_isGiven 206 = .ok (.if_icmp .ge 60, 3) := by decide +kernel
theorem dL_isGiven_209 : decode cL_isGiven 209 = .ok (.aload 4, 2) := by decide +kernel
theorem dL_isGiven_211 : decode cL_isGiven 211 = .ok (.bipush 6, 2) := by decide +kernel
theorem dL_isGiven_213 : decode cL_isGiven 213 = .ok (.iload 8, 2) := by decide +kernel
theorem dL_isGiven_215 : decode cL_isGiven 215 = .ok (.imul, 1) := by decide +kernel
theorem dL_isGiven_216 : decode cL_isGiven 216 = .ok (.iconst 1, 1) := by decide +kernel
theorem dL_isGiven_217 : decode cL_isGiven 217 = .ok (.iadd, 1) := by decide +kernel
theorem dL_isGiven_218 : decode cL_isGiven 218 = .ok (.iaload, 1) := by decide +kernel
theorem dL_isGiven_219 : decode cL_isGiven 219 = .ok (.iload 6, 2) := by decide +kernel
theorem dL_isGiven_221 : decode cL_isGiven 221 = .ok (.if_icmp .ne 39, 3) := by decide +kernel
theorem dL_isGiven_224 : decode cL_isGiven 224 = .ok (.aload_n 2, 1) := by decide +kernel
theorem dL_isGiven_225 : decode cL_isGiven 225 = .ok (.iconst 3, 1) := by decide +kernel
theorem dL_isGiven_226 : decode cL_isGiven 226 = .ok (.aload 4, 2) := by decide +kernel
theorem dL_isGiven_228 : decode cL_isGiven 228 = .ok (.bipush 6, 2) := by decide +kernel
theorem dL_isGiven_230 : decode cL_isGiven 230 = .ok (.iload 8, 2) := by decide +kernel
theorem dL_isGiven_232 : decode cL_isGiven 232 = .ok (.imul, 1) := by decide +kernel
theorem dL_isGiven_233 : decode cL_isGiven 233 = .ok (.iaload, 1) := by decide +kernel
theorem dL_isGiven_234 : decode cL_isGiven 234 = .ok (.imul, 1) := by decide +kernel
theorem dL_isGiven_235 : decode cL_isGiven 235 = .ok (.dup2, 1) := by decide +kernel
theorem dL_isGiven_236 : decode cL_isGiven 236 = .ok (.iaload, 1) := by decide +kernel
theorem dL_isGiven_237 : decode cL_isGiven 237 = .ok (.aload 4, 2) := by decide +kernel
theorem dL_isGiven_239 : decode cL_isGiven 239 = .ok (.bipush 6, 2) := by decide +kernel
theorem dL_isGiven_241 : decode cL_isGiven 241 = .ok (.iload 8, 2) := by decide +kernel
theorem dL_isGiven_243 : decode cL_isGiven 243 = .ok (.imul, 1) := by decide +kernel
theorem dL_isGiven_244 : decode cL_isGiven 244 = .ok (.iconst 3, 1) := by decide +kernel
theorem dL_isGiven_245 : decode cL_isGiven 245 = .ok (.iadd, 1) := by decide +kernel
theorem dL_isGiven_246 : decode cL_isGiven 246 = .ok (.iaload, 1) := by decide +kernel
theorem dL_isGiven_247 : decode cL_isGiven 247 = .ok (.iadd, 1) := by decide +kernel
theorem dL_isGiven_248 : decode cL_isGiven 248 = .ok (.iastore, 1) := by decide +kernel
theorem dL_isGiven_249 : decode cL_isGiven 249 = .ok (.aload 4, 2) := by decide +kernel
theorem dL_isGiven_251 : decode cL_isGiven 251 = .ok (.bipush 6, 2) := by decide +kernel
theorem dL_isGiven_253 : decode cL_isGiven 253 = .ok (.iload 8, 2) := by decide +kernel
theorem dL_isGiven_255 : decode cL_isGiven 255 = .ok (.imul, 1) := by decide +kernel
theorem dL_isGiven_256 : decode cL_isGiven 256 = .ok (.iconst 3, 1) := by decide +kernel
theorem dL_isGiven_257 : decode cL_isGiven 257 = .ok (.iadd, 1) := by decide +kernel
theorem dL_isGiven_258 : decode cL_isGiven 258 = .ok (.iconst 0, 1) := by decide +kernel
theorem dL_isGiven_259 : decode cL_isGiven 259 = .ok (.iastore, 1) := by decide +kernel
theorem dL_isGiven_260 : decode cL_isGiven 260 = .ok (.iinc 8 1, 3) := by decide +kernel
theorem dL_isGiven_263 : decode cL_isGiven 263 = .ok (.goto (-62), 3) := by decide +kernel
theorem dL_isGiven_266 : decode cL_isGiven 266 = .ok (.aload_n 3, 1) := by decide +kernel
theorem dL_isGiven_267 : decode cL_isGiven 267 = .ok (.bipush 11, 2) := by decide +kernel
theorem dL_isGiven_269 : decode cL_isGiven 269 = .ok (.iload 6, 2) := by decide +kernel
theorem dL_isGiven_271 : decode cL_isGiven 271 = .ok (.imul, 1) := by decide +kernel
theorem dL_isGiven_272 : decode cL_isGiven 272 = .ok (.iconst 3, 1) := by decide +kernel
theorem dL_isGiven_273 : decode cL_isGiven 273 = .ok (.iadd, 1) := by decide +kernel
theorem dL_isGiven_274 : decode cL_isGiven 274 = .ok (.iconst 4, 1) := by decide +kernel
theorem dL_isGiven_275 : decode cL_isGiven 275 = .ok (.iastore, 1) := by decide +kernel
theorem dL_isGiven_276 : decode cL_isGiven 276 = .ok (.aload_n 0, 1) := by decide +kernel
theorem dL_isGiven_277 : decode cL_isGiven 277 = .ok (.iload 6, 2) := by decide +kernel
theorem dL_isGiven_279 : decode cL_isGiven 279 = .ok (.invokevirtual 86, 3) := by decide +kernel
theorem dL_isGiven_282 : decode cL_isGiven 282 = .ok (.iload 7, 2) := by decide +kernel
theorem dL_isGiven_284 : decode cL_isGiven 284 = .ok (.if_icmp .ne 7, 3) := by decide +kernel
theorem dL_isGiven_287 : decode cL_isGiven 287 = .ok (.iconst 1, 1) := by decide +kernel
theorem dL_isGiven_288 : decode cL_isGiven 288 = .ok (.goto 4, 3) := by decide +kernel
theorem dL_isGiven_291 : decode cL_isGiven 291 = .ok (.iconst 0, 1) := by decide +kernel
theorem dL_isGiven_292 : decode cL_isGiven 292 = .ok (.ireturn, 1) := by decide +kernel
theorem dL_isPassed_0 : decode cL_isPassed 0 = .ok (.aload_n 1, 1) := by decide +kernel
theorem dL_isPassed_1 : decode cL_isPassed 1 = .ok (.iconst 0, 1) := by decide +kernel
theorem dL_isPassed_2 : decode cL_isPassed 2 = .ok (.iaload, 1) := by decide +kernel
theorem dL_isPassed_3 : decode cL_isPassed 3 = .ok (.iload_n 3, 1) := by decide +kernel
theorem dL_isPassed_4 : decode cL_isPassed 4 = .ok (.iadd, 1) := by decide +kernel
theorem dL_isPassed_5 : decode cL_isPassed 5 = .ok (.sipush 240, 3) := by decide +kernel
theorem dL_isPassed_8 : decode cL_isPassed 8 = .ok (.if_icmp .le 30, 3) := by decide +kernel
theorem dL_isPassed_11 : decode cL_isPassed 11 = .ok (.aload_n 0, 1) := by decide +kernel
theorem dL_isPassed_12 : decode cL_isPassed 12 = .ok (.iload_n 3, 1) := by decide +kernel
theorem dL_isPassed_13 : decode cL_isPassed 13 = .ok (.invokevirtual 89, 3) := by decide +kernel
theorem dL_isPassed_16 : decode cL_isPassed 16 = .ok (.bipush (-4), 2) := by decide +kernel
theorem dL_isPassed_18 : decode cL_isPassed 18 = .ok (.if_icmp .ne 18, 3) := by decide +kernel
theorem dL_isPassed_21 : decode cL_isPassed 21 = .ok (.aload_n 0, 1) := by decide +kernel
theorem dL_isPassed_22 : decode cL_isPassed 22 = .ok (.bipush 25, 2) := by decide +kernel
theorem dL_isPassed_24 : decode cL_isPassed 24 = .ok (.invokevirtual 89, 3) := by decide +kernel
theorem dL_isPassed_27 : decode cL_isPassed 27 = .ok (.bipush (-2), 2) := by decide +kernel
theorem dL_isPassed_29 : decode cL_isPassed 29 = .ok (.if_icmp .ne 7, 3) := by decide +kernel
theorem dL_isPassed_32 : decode cL_isPassed 32 = .ok (.iconst 1, 1) := by decide +kernel
theorem dL_isPassed_33 : decode cL_isPassed 33 = .ok (.goto 4, 3) := by decide +kernel
theorem dL_isPassed_36 : decode cL_isPassed 36 = .ok (.iconst 0, 1) := by decide +kernel
theorem dL_isPassed_37 : decode cL_isPassed 37 = .ok (.ireturn, 1) := by decide +kernel
theorem dL_isPassed_38 : decode cL_isPassed 38 = .ok (.iconst 0, 1) := by decide +kernel
theorem dL_isPassed_39 : decode cL_isPassed 39 = .ok (.istore 4, 2) := by decide +kernel
theorem dL_isPassed_41 : decode cL_isPassed 41 = .ok (.iconst 0, 1) := by decide +kernel
theorem dL_isPassed_42 : decode cL_isPassed 42 = .ok (.istore 5, 2) := by decide +kernel
theorem dL_isPassed_44 : decode cL_isPassed 44 = .ok (.iload 5, 2) := by decide +kernel
theorem dL_isPassed_46 : decode cL_isPassed 46 = .ok (.bipush 11, 2) := by decide +kernel
theorem dL_isPassed_48 : decode cL_isPassed 48 = .ok (.aload_n 1, 1) := by decide +kernel
theorem dL_isPassed_49 : decode cL_isPassed 49 = .ok (.iconst 1, 1) := by decide +kernel
theorem dL_isPassed_50 : decode cL_isPassed 50 = .ok (.iaload, 1) := by decide +kernel
theorem dL_isPassed_51 : decode cL_isPassed 51 = .ok (.imul, 1) := by decide +kernel
theorem dL_isPassed_52 : decode cL_isPassed 52 = .ok (.if_icmp .ge 227, 3) := by decide +kernel
theorem dL_isPassed_55 : decode cL_isPassed 55 = .ok (.iconst 0, 1) := by decide +kernel
theorem dL_isPassed_56 : decode cL_isPassed 56 = .ok (.istore 6, 2) := by decide +kernel
theorem dL_isPassed_58 : decode cL_isPassed 58 = .ok (.iload 6, 2) := by decide +kernel
theorem dL_isPassed_60 : decode cL_isPassed 60 = .ok (.iload_n 3, 1) := by decide +kernel
theorem dL_isPassed_61 : decode cL_isPassed 61 = .ok (.if_icmp .ge 182, 3) := by decide +kernel
theorem dL_isPassed_64 : decode cL_isPassed 64 = .ok (.aload_n 2, 1) := by decide +kernel
theorem dL_isPassed_65 : decode cL_isPassed 65 = .ok (.iload 5, 2) := by decide +kernel
theorem dL_isPassed_67 : decode cL_isPassed 67 = .ok (.iconst 3, 1) := by decide +kernel
theorem dL_isPassed_68 : decode cL_isPassed 68 = .ok (.iadd, 1) := by decide +kernel
theorem dL_isPassed_69 : decode cL_isPassed 69 = .ok (.iaload, 1) := by decide +kernel
theorem dL_isPassed_70 : decode cL_isPassed 70 = .ok (.iconst 1, 1) := by decide +kernel
theorem dL_isPassed_71 : decode cL_isPassed 71 = .ok (.if_icmp .ne 172, 3) := by decide +kernel
theorem dL_isPassed_74 : decode cL_isPassed 74 = .ok (.aload_n 2, 1) := by decide +kernel
theorem dL_isPassed_75 : decode cL_isPassed 75 = .ok (.iload 5, 2) := by decide +kernel
theorem dL_isPassed_77 : decode cL_isPassed 77 = .ok (.bipush 9, 2) := by decide +kernel
theorem dL_isPassed_79 : decode cL_isPassed 79 = .ok (.iadd, 1) := by decide +kernel
theorem dL_isPassed_80 : decode cL_isPassed 80 = .ok (.aload_n 2, 1) := by decide +kernel
theorem dL_isPassed_81 : decode cL_isPassed 81 = .ok (.iload 5, 2) := by decide +kernel
theorem dL_isPassed_83 : decode cL_isPassed 83 = .ok (.bipush 10, 2) := by decide +kernel
theorem dL_isPassed_85 : decode cL_isPassed 85 = .ok (.iadd, 1) := by decide +kernel
theorem dL_isPassed_86 : decode cL_isPassed 86 = .ok (.iaload, 1) := by decide +kernel
theorem dL_isPassed_87 : decode cL_isPassed 87 = .ok (.ifCond .ge 13, 3) := by decide +kernel
theorem dL_isPassed_90 : decode cL_isPassed 90 = .ok (.aload_n 2, 1) := by decide +kernel
theorem dL_isPassed_91 : decode cL_isPassed 91 = .ok (.iload 5, 2) := by decide +kernel
theorem dL_isPassed_93 : decode cL_isPassed 93 = .ok (.bipush 9, 2) := by decide +kernel
theorem dL_isPassed_95 : decode cL_isPassed 95 = .ok (.iadd, 1) := by decide +kernel
theorem dL_isPassed_96 : decode cL_isPassed 96 = .ok (.iaload, 1) := by decide +kernel
theorem dL_isPassed_97 : decode cL_isPassed 97 = .ok (.goto 10, 3) := by decide +kernel
theorem dL_isPassed_100 : decode cL_isPassed 100 = .ok (.aload_n 2, 1) := by decide +kernel
theorem dL_isPassed_101 : decode cL_isPassed 101 = .ok (.iload 5, 2) := by decide +kernel
theorem dL_isPassed_103 : decode cL_isPassed 103 = .ok (.bipush 10, 2) := by decide +kernel
theorem dL_isPassed_105 : decode cL_isPassed 105 = .ok (.iadd, 1) := by decide +kernel
theorem dL_isPassed_106 : decode cL_isPassed 106 = .ok (.iaload, 1) := by decide +kernel
theorem dL_isPassed_107 : decode cL_isPassed 107 = .ok (.iastore, 1) := by decide +kernel
theorem dL_isPassed_108 : decode cL_isPassed 108 = .ok (.aload_n 2, 1) := by decide +kernel
theorem dL_isPassed_109 : decode cL_isPassed 109 = .ok (.iload 5, 2) := by decide +kernel
theorem dL_isPassed_111 : decode cL_isPassed 111 = .ok (.bipush 10, 2) := by decide +kernel
theorem dL_isPassed_113 : decode cL_isPassed 113 = .ok (.iadd, 1) := by decide +kernel
theorem dL_isPassed_114 : decode cL_isPassed 114 = .ok (.bipush (-5), 2) := by decide +kernel
theorem dL_isPassed_116 : decode cL_isPassed 116 = .ok (.iastore, 1) := by decide +kernel
theorem dL_isPassed_117 : decode cL_isPassed 117 = .ok (.aload_n 2, 1) := by decide +kernel
theorem dL_isPassed_118 : decode cL_isPassed 118 = .ok (.iload 5, 2) := by decide +kernel
theorem dL_isPassed_120 : decode cL_isPassed 120 = .ok (.bipush 8, 2) := by decide +kernel
theorem dL_isPassed_122 : decode cL_isPassed 122 = .ok (.iadd, 1) := by decide +kernel
theorem dL_isPassed_123 : decode cL_isPassed 123 = .ok (.aload_n 2, 1) := by decide +kernel
theorem dL_isPassed_124 : decode cL_isPassed 124 = .ok (.iload 5, 2) := by decide +kernel
theorem dL_isPassed_126 : decode cL_isPassed 126 = .ok (.bipush 6, 2) := by decide +kernel
theorem dL_isPassed_128 : decode cL_isPassed 128 = .ok (.iadd, 1) := by decide +kernel
theorem dL_isPassed_129 : decode cL_isPassed 129 = .ok (.iaload, 1) := by decide +kernel
theorem dL_isPassed_130 : decode cL_isPassed 130 = .ok (.ifCond .gt 13, 3) := by decide +kernel
theorem dL_isPassed_133 : decode cL_isPassed 133 = .ok (.aload_n 2, 1) := by decide +kernel
theorem dL_isPassed_134 : decode cL_isPassed 134 = .ok (.iload 5, 2) := by decide +kernel
theorem dL_isPassed_136 : decode cL_isPassed 136 = .ok (.bipush 7, 2) := by decide +kernel
theorem dL_isPassed_138 : decode cL_isPassed 138 = .ok (.iadd, 1) := by decide +kernel
theorem dL_isPassed_139 : decode cL_isPassed 139 = .ok (.iaload, 1) := by decide +kernel
theorem dL_isPassed_140 : decode cL_isPassed 140 = .ok (.ifCond .le 15, 3) := by decide +kernel
theorem dL_isPassed_143 : decode cL_isPassed 143 = .ok (.aload_n 2, 1) := by decide +kernel
theorem dL_isPassed_144 : decode cL_isPassed 144 = .ok (.iload 5, 2) := by decide +kernel
theorem dL_isPassed_146 : decode cL_isPassed 146 = .ok (.bipush 8, 2) := by decide +kernel
theorem dL_isPassed_148 : decode cL_isPassed 148 = .ok (.iadd, 1) := by decide +kernel
theorem dL_isPassed_149 : decode cL_isPassed 149 = .ok (.iaload, 1) := by decide +kernel
theorem dL_isPassed_150 : decode cL_isPassed 150 = .ok (.iconst 1, 1) := by decide +kernel
theorem dL_isPassed_151 : decode cL_isPassed 151 = .ok (.iadd, 1) := by decide +kernel
theorem dL_isPassed_152 : decode cL_isPassed 152 = .ok (.goto 4, 3) := by decide +kernel
theorem dL_isPassed_155 : decode cL_isPassed 155 = .ok (.iconst 0, 1) := by decide +kernel
theorem dL_isPassed_156 : decode cL_isPassed 156 = .ok (.iastore, 1) := by decide +kernel
theorem dL_isPassed_157 : decode cL_isPassed 157 = .ok (.aload_n 2, 1) := by decide +kernel
theorem dL_isPassed_158 : decode cL_isPassed 158 = .ok (.iload 5, 2) := by decide +kernel
theorem dL_isPassed_160 : decode cL_isPassed 160 = .ok (.bipush 6, 2) := by decide +kernel
theorem dL_isPassed_162 : decode cL_isPassed 162 = .ok (.iadd, 1) := by decide +kernel
theorem dL_isPassed_163 : decode cL_isPassed 163 = .ok (.dup2, 1) := by decide +kernel
theorem dL_isPassed_164 : decode cL_isPassed 164 = .ok (.iaload, 1) := by decide +kernel
theorem dL_isPassed_165 : decode cL_isPassed 165 = .ok (.aload_n 2, 1) := by decide +kernel
theorem dL_isPassed_166 : decode cL_isPassed 166 = .ok (.iload 5, 2) := by decide +kernel
theorem dL_isPassed_168 : decode cL_isPassed 168 = .ok (.iconst 4, 1) := by decide +kernel
theorem dL_isPassed_169 : decode cL_isPassed 169 = .ok (.iadd, 1) := by decide +kernel
theorem dL_isPassed_170 : decode cL_isPassed 170 = .ok (.iaload, 1) := by decide +kernel
theorem dL_isPassed_171 : decode cL_isPassed 171 = .ok (.aload_n 2, 1) := by decide +kernel
theorem dL_isPassed_172 : decode cL_isPassed 172 = .ok (.iload 5, 2) := by decide +kernel
theorem dL_isPassed_174 : decode cL_isPassed 174 = .ok (.iconst 1, 1) := by decide +kernel
theorem dL_isPassed_175 : decode cL_isPassed 175 = .ok (.iadd, 1) := by decide +kernel
theorem dL_isPassed_176 : decode cL_isPassed 176 = .ok (.iaload, 1) := by decide +kernel
theorem dL_isPassed_177 : decode cL_isPassed 177 = .ok (.imul, 1) := by decide +kernel
theorem dL_isPassed_178 : decode cL_isPassed 178 = .ok (.sipush 1000, 3) := by decide +kernel
theorem dL_isPassed_181 : decode cL_isPassed 181 = .ok (.idiv, 1) := by decide +kernel
theorem dL_isPassed_182 : decode cL_isPassed 182 = .ok (.iadd, 1) := by decide +kernel
theorem dL_isPassed_183 : decode cL_isPassed 183 = .ok (.iastore, 1) := by decide +kernel
theorem dL_isPassed_184 : decode cL_isPassed 184 = .ok (.aload_n 2, 1) := by decide +kernel
theorem dL_isPassed_185 : decode cL_isPassed 185 = .ok (.iload 5, 2) := by decide +kernel
theorem dL_isPassed_187 : decode cL_isPassed 187 = .ok (.bipush 7, 2) := by decide +kernel
theorem dL_isPassed_189 : decode cL_isPassed 189 = .ok (.iadd, 1) := by decide +kernel
theorem dL_isPassed_190 : decode cL_isPassed 190 = .ok (.aload_n 2, 1) := by decide +kernel
theorem dL_isPassed_191 : decode cL_isPassed 191 = .ok (.iload 5, 2) := by decide +kernel
theorem dL_isPassed_193 : decode cL_isPassed 193 = .ok (.bipush 7, 2) := by decide +kernel
theorem dL_isPassed_195 : decode cL_isPassed 195 = .ok (.iadd, 1) := by decide +kernel
theorem dL_isPassed_196 : decode cL_isPassed 196 = .ok (.iaload, 1) := by decide +kernel
theorem dL_isPassed_197 : decode cL_isPassed 197 = .ok (.aload_n 2, 1) := by decide +kernel
theorem dL_isPassed_198 : decode cL_isPassed 198 = .ok (.iload 5, 2) := by decide +kernel
theorem dL_isPassed_200 : decode cL_isPassed 200 = .ok (.iconst 5, 1) := by decide +kernel
theorem dL_isPassed_201 : decode cL_isPassed 201 = .ok (.iadd, 1) := by decide +kernel
theorem dL_isPassed_202 : decode cL_isPassed 202 = .ok (.iaload, 1) := by decide +kernel
theorem dL_isPassed_203 : decode cL_isPassed 203 = .ok (.iadd, 1) := by decide +kernel
theorem dL_isPassed_204 : decode cL_isPassed 204 = .ok (.aload_n 2, 1) := by decide +kernel
theorem dL_isPassed_205 : decode cL_isPassed 205 = .ok (.iload 5, 2) := by decide +kernel
theorem dL_isPassed_207 : decode cL_isPassed 207 = .ok (.iconst 4, 1) := by decide +kernel
theorem dL_isPassed_208 : decode cL_isPassed 208 = .ok (.iadd, 1) := by decide +kernel
theorem dL_isPassed_209 : decode cL_isPassed 209 = .ok (.iaload, 1) := by decide +kernel
theorem dL_isPassed_210 : decode cL_isPassed 210 = .ok (.if_icmp .le 12, 3) := by decide +kernel
theorem dL_isPassed_213 : decode cL_isPassed 213 = .ok (.aload_n 2, 1) := by decide +kernel
theorem dL_isPassed_214 : decode cL_isPassed 214 = .ok (.iload 5, 2) := by decide +kernel
theorem dL_isPassed_216 : decode cL_isPassed 216 = .ok (.iconst 4, 1) := by decide +kernel
theorem dL_isPassed_217 : decode cL_isPassed 217 = .ok (.iadd, 1) := by decide +kernel
theorem dL_isPassed_218 : decode cL_isPassed 218 = .ok (.iaload, 1) := by decide +kernel
theorem dL_isPassed_219 : decode cL_isPassed 219 = .ok (.goto 17, 3) := by decide +kernel
theorem dL_isPassed_222 : decode cL_isPassed 222 = .ok (.aload_n 2, 1) := by decide +kernel
theorem dL_isPassed_223 : decode cL_isPassed 223 = .ok (.iload 5, 2) := by decide +kernel
theorem dL_isPassed_225 : decode cL_isPassed 225 = .ok (.bipush 7, 2) := by decide +kernel
theorem dL_isPassed_227 : decode cL_isPassed 227 = .ok (.iadd, 1) := by decide +kernel
theorem dL_isPassed_228 : decode cL_isPassed 228 = .ok (.iaload, 1) := by decide +kernel
theorem dL_isPassed_229 : decode cL_isPassed 229 = .ok (.aload_n 2, 1) := by decide +kernel
theorem dL_isPassed_230 : decode cL_isPassed 230 = .ok (.iload 5, 2) := by decide +kernel
theorem dL_isPassed_232 : decode cL_isPassed 232 = .ok (.iconst 5, 1) := by decide +kernel
theorem dL_isPassed_233 : decode cL_isPassed 233 = .ok (.iadd, 1) := by decide +kernel
theorem dL_isPassed_234 : decode cL_isPassed 234 = .ok (.iaload, 1) := by decide +kernel
theorem dL_isPassed_235 : decode cL_isPassed 235 = .ok (.iadd, 1) := by decide +kernel
theorem dL_isPassed_236 : decode cL_isPassed 236 = .ok (.iastore, 1) := by decide +kernel
theorem dL_isPassed_237 : decode cL_isPassed 237 = .ok (.iinc 6 1, 3) := by decide +kernel
theorem dL_isPassed_240 : decode cL_isPassed 240 = .ok (.goto (-182), 3) := by decide +kernel
theorem dL_isPassed_243 : decode cL_isPassed 243 = .ok (.iload 4, 2) := by decide +kernel
theorem dL_isPassed_245 : decode cL_isPassed 245 = .ok (.aload_n 2, 1) := by decide +kernel
theorem dL_isPassed_246 : decode cL_isPassed 246 = .ok (.iload 5, 2) := by decide +kernel
theorem dL_isPassed_248 : decode cL_isPassed 248 = .ok (.iconst 3, 1) := by decide +kernel
theorem dL_isPassed_249 : decode cL_isPassed 249 = .ok (.iadd, 1) := by decide +kernel
theorem dL_isPassed_250 : decode cL_isPassed 250 = .ok (.iaload, 1) := by decide +kernel
theorem dL_isPassed_251 : decode cL_isPassed 251 = .ok (.iconst 1, 1) := by decide +kernel
theorem dL_isPassed_252 : decode cL_isPassed 252 = .ok (.if_icmp .ne 17, 3) := by decide +kernel
theorem dL_isPassed_255 : decode cL_isPassed 255 = .ok (.aload_n 2, 1) := by decide +kernel
theorem dL_isPassed_256 : decode cL_isPassed 256 = .ok (.iload 5, 2) := by decide +kernel
theorem dL_isPassed_258 : decode cL_isPassed 258 = .ok (.bipush 8, 2) := by decide +kernel
theorem dL_isPassed_260 : decode cL_isPassed 260 = .ok (.iadd, 1) := by decide +kernel
theorem dL_isPassed_261 : decode cL_isPassed 261 = .ok (.iaload, 1) := by decide +kernel
theorem dL_isPassed_262 : decode cL_isPassed 262 = .ok (.ifCond .le 7, 3) := by decide +kernel
theorem dL_isPassed_265 : decode cL_isPassed 265 = .ok (.iconst 1, 1) := by decide +kernel
theorem dL_isPassed_266 : decode cL_isPassed 266 = .ok (.goto 4, 3) := by decide +kernel
theorem dL_isPassed_269 : decode cL_isPassed 269 = .ok (.iconst 0, 1) := by decide +kernel
theorem dL_isPassed_270 : decode cL_isPassed 270 = .ok (.iadd, 1) := by decide +kernel
theorem dL_isPassed_271 : decode cL_isPassed 271 = .ok (.istore 4, 2) := by decide +kernel
theorem dL_isPassed_273 : decode cL_isPassed 273 = .ok (.iinc 5 11, 3) := by decide +kernel
theorem dL_isPassed_276 : decode cL_isPassed 276 = .ok (.goto (-232), 3) := by decide +kernel
theorem dL_isPassed_279 : decode cL_isPassed 279 = .ok (.aload_n 1, 1) := by decide +kernel
theorem dL_isPassed_280 : decode cL_isPassed 280 = .ok (.iconst 0, 1) := by decide +kernel
theorem dL_isPassed_281 : decode cL_isPassed 281 = .ok (.dup2, 1) := by decide +kernel
theorem dL_isPassed_282 : decode cL_isPassed 282 = .ok (.iaload, 1) := by decide +kernel
theorem dL_isPassed_283 : decode cL_isPassed 283 = .ok (.iload_n 3, 1) := by decide +kernel
theorem dL_isPassed_284 : decode cL_isPassed 284 = .ok (.iadd, 1) := by decide +kernel
theorem dL_isPassed_285 : decode cL_isPassed 285 = .ok (.iastore, 1) := by decide +kernel
theorem dL_isPassed_286 : decode cL_isPassed 286 = .ok (.aload_n 0, 1) := by decide +kernel
theorem dL_isPassed_287 : decode cL_isPassed 287 = .ok (.iload_n 3, 1) := by decide +kernel
theorem dL_isPassed_288 : decode cL_isPassed 288 = .ok (.invokevirtual 89, 3) := by decide +kernel
theorem dL_isPassed_291 : decode cL_isPassed 291 = .ok (.iload 4, 2) := by decide +kernel
theorem dL_isPassed_293 : decode cL_isPassed 293 = .ok (.if_icmp .ne 17, 3) := by decide +kernel
theorem dL_isPassed_296 : decode cL_isPassed 296 = .ok (.aload_n 0, 1) := by decide +kernel
theorem dL_isPassed_297 : decode cL_isPassed 297 = .ok (.iconst 0, 1) := by decide +kernel
theorem dL_isPassed_298 : decode cL_isPassed 298 = .ok (.invokevirtual 89, 3) := by decide +kernel
theorem dL_isPassed_301 : decode cL_isPassed 301 = .ok (.bipush (-2), 2) := by decide +kernel
theorem dL_isPassed_303 : decode cL_isPassed 303 = .ok (.if_icmp .ne 7, 3) := by decide +kernel
theorem dL_isPassed_306 : decode cL_isPassed 306 = .ok (.iconst 1, 1) := by decide +kernel
theorem dL_isPassed_307 : decode cL_isPassed 307 = .ok (.goto 4, 3) := by decide +kernel
theorem dL_isPassed_310 : decode cL_isPassed 310 = .ok (.iconst 0, 1) := by decide +kernel
theorem dL_isPassed_311 : decode cL_isPassed 311 = .ok (.ireturn, 1) := by decide +kernel
theorem dL_law_0 : decode cL_law 0 = .ok (.new 20, 3) := by decide +kernel
theorem dL_law_3 : decode cL_law 3 = .ok (.dup, 1) := by decide +kernel
theorem dL_law_4 : decode cL_law 4 = .ok (.invokespecial 92, 3) := by decide +kernel
theorem dL_law_7 : decode cL_law 7 = .ok (.astore_n 1, 1) := by decide +kernel
theorem dL_law_8 : decode cL_law 8 = .ok (.bipush 9, 2) := by decide +kernel
theorem dL_law_10 : decode cL_law 10 = .ok (.newarray .int, 2) := by decide +kernel
theorem dL_law_12 : decode cL_law 12 = .ok (.astore_n 2, 1) := by decide +kernel
theorem dL_law_13 : decode cL_law 13 = .ok (.bipush 9, 2) := by decide +kernel
theorem dL_law_15 : decode cL_law 15 = .ok (.newarray .int, 2) := by decide +kernel
theorem dL_law_17 : decode cL_law 17 = .ok (.astore_n 3, 1) := by decide +kernel
theorem dL_law_18 : decode cL_law 18 = .ok (.bipush 44, 2) := by decide +kernel
theorem dL_law_20 : decode cL_law 20 = .ok (.newarray .int, 2) := by decide +kernel
theorem dL_law_22 : decode cL_law 22 = .ok (.astore 4, 2) := by decide +kernel
theorem dL_law_24 : decode cL_law 24 = .ok (.bipush 60, 2) := by decide +kernel
theorem dL_law_26 : decode cL_law 26 = .ok (.newarray .int, 2) := by decide +kernel
theorem dL_law_28 : decode cL_law 28 = .ok (.astore 5, 2) := by decide +kernel
theorem dL_law_30 : decode cL_law 30 = .ok (.bipush 10, 2) := by decide +kernel
theorem dL_law_32 : decode cL_law 32 = .ok (.newarray .int, 2) := by decide +kernel
theorem dL_law_34 : decode cL_law 34 = .ok (.astore 6, 2) := by decide +kernel
theorem dL_law_36 : decode cL_law 36 = .ok (.bipush 10, 2) := by decide +kernel
theorem dL_law_38 : decode cL_law 38 = .ok (.newarray .int, 2) := by decide +kernel
theorem dL_law_40 : decode cL_law 40 = .ok (.astore 7, 2) := by decide +kernel
theorem dL_law_42 : decode cL_law 42 = .ok (.aload_n 2, 1) := by decide +kernel
theorem dL_law_43 : decode cL_law 43 = .ok (.iconst 4, 1) := by decide +kernel
theorem dL_law_44 : decode cL_law 44 = .ok (.iconst 5, 1) := by decide +kernel
theorem dL_law_45 : decode cL_law 45 = .ok (.iastore, 1) := by decide +kernel
theorem dL_law_46 : decode cL_law 46 = .ok (.iconst 0, 1) := by decide +kernel
theorem dL_law_47 : decode cL_law 47 = .ok (.istore 8, 2) := by decide +kernel
theorem dL_law_49 : decode cL_law 49 = .ok (.iload 8, 2) := by decide +kernel
theorem dL_law_51 : decode cL_law 51 = .ok (.iconst 3, 1) := by decide +kernel
theorem dL_law_52 : decode cL_law 52 = .ok (.if_icmp .ge 54, 3) := by decide +kernel
theorem dL_law_55 : decode cL_law 55 = .ok (.aload_n 3, 1) := by decide +kernel
theorem dL_law_56 : decode cL_law 56 = .ok (.iconst 3, 1) := by decide +kernel
theorem dL_law_57 : decode cL_law 57 = .ok (.iload 8, 2) := by decide +kernel
theorem dL_law_59 : decode cL_law 59 = .ok (.imul, 1) := by decide +kernel
theorem dL_law_60 : decode cL_law 60 = .ok (.aload_n 0, 1) := by decide +kernel
theorem dL_law_61 : decode cL_law 61 = .ok (.iload 8, 2) := by decide +kernel
theorem dL_law_63 : decode cL_law 63 = .ok (.invokestatic 93, 3) := by decide +kernel
theorem dL_law_66 : decode cL_law 66 = .ok (.sipush 4000, 3) := by decide +kernel
theorem dL_law_69 : decode cL_law 69 = .ok (.invokestatic 41, 3) := by decide +kernel
theorem dL_law_72 : decode cL_law 72 = .ok (.iastore, 1) := by decide +kernel
theorem dL_law_73 : decode cL_law 73 = .ok (.aload_n 1, 1) := by decide +kernel
theorem dL_law_74 : decode cL_law 74 = .ok (.aload_n 3, 1) := by decide +kernel
theorem dL_law_75 : decode cL_law 75 = .ok (.iconst 3, 1) := by decide +kernel
theorem dL_law_76 : decode cL_law 76 = .ok (.iload 8, 2) := by decide +kernel
theorem dL_law_78 : decode cL_law 78 = .ok (.imul, 1) := by decide +kernel
theorem dL_law_79 : decode cL_law 79 = .ok (.iaload, 1) := by decide +kernel
theorem dL_law_80 : decode cL_law 80 = .ok (.invokevirtual 97, 3) := by decide +kernel
theorem dL_law_83 : decode cL_law 83 = .ok (.iload 8, 2) := by decide +kernel
theorem dL_law_85 : decode cL_law 85 = .ok (.if_icmp .ne 13, 3) := by decide +kernel
theorem dL_law_88 : decode cL_law 88 = .ok (.aload_n 1, 1) := by decide +kernel
theorem dL_law_89 : decode cL_law 89 = .ok (.iconst (-1), 1) := by decide +kernel
theorem dL_law_90 : decode cL_law 90 = .ok (.invokevirtual 97, 3) := by decide +kernel
theorem dL_law_93 : decode cL_law 93 = .ok (.bipush (-2), 2) := by decide +kernel
theorem dL_law_95 : decode cL_law 95 = .ok (.if_icmp .eq 5, 3) := by decide +kernel
theorem dL_law_98 : decode cL_law 98 = .ok (.iconst 0, 1) := by decide +kernel
theorem dL_law_99 : decode cL_law 99 = .ok (.ireturn, 1) := by decide +kernel
theorem dL_law_100 : decode cL_law 100 = .ok (.iinc 8 1, 3) := by decide +kernel
theorem dL_law_103 : decode cL_law 103 = .ok (.goto (-54), 3) := by decide +kernel
theorem dL_law_106 : decode cL_law 106 = .ok (.iconst 0, 1) := by decide +kernel
theorem dL_law_107 : decode cL_law 107 = .ok (.istore 8, 2) := by decide +kernel
theorem dL_law_109 : decode cL_law 109 = .ok (.iload 8, 2) := by decide +kernel
theorem dL_law_111 : decode cL_law 111 = .ok (.iconst 4, 1) := by decide +kernel
theorem dL_law_112 : decode cL_law 112 = .ok (.if_icmp .ge 157, 3) := by decide +kernel
theorem dL_law_115 : decode cL_law 115 = .ok (.aload_n 0, 1) := by decide +kernel
theorem dL_law_116 : decode cL_law 116 = .ok (.iconst 3, 1) := by decide +kernel
theorem dL_law_117 : decode cL_law 117 = .ok (.iload 8, 2) := by decide +kernel
theorem dL_law_119 : decode cL_law 119 = .ok (.iadd, 1) := by decide +kernel
theorem dL_law_120 : decode cL_law 120 = .ok (.invokestatic 93, 3) := by decide +kernel
theorem dL_law_123 : decode cL_law 123 = .ok (.istore 9, 2) := by decide +kernel
theorem dL_law_125 : decode cL_law 125 = .ok (.aload 4, 2) := by decide +kernel
theorem dL_law_127 : decode cL_law 127 = .ok (.bipush 11, 2) := by decide +kernel
theorem dL_law_129 : decode cL_law 129 = .ok (.iload 8, 2) := by decide +kernel
theorem dL_law_131 : decode cL_law 131 = .ok (.imul, 1) := by decide +kernel
theorem dL_law_132 : decode cL_law 132 = .ok (.bipush 100, 2) := by decide +kernel
theorem dL_law_134 : decode cL_law 134 = .ok (.iload 9, 2) := by decide +kernel
theorem dL_law_136 : decode cL_law 136 = .ok (.sipush 900, 3) := by decide +kernel
theorem dL_law_139 : decode cL_law 139 = .ok (.invokestatic 41, 3) := by decide +kernel
theorem dL_law_142 : decode cL_law 142 = .ok (.iadd, 1) := by decide +kernel
theorem dL_law_143 : decode cL_law 143 = .ok (.iastore, 1) := by decide +kernel
theorem dL_law_144 : decode cL_law 144 = .ok (.aload 4, 2) := by decide +kernel
theorem dL_law_146 : decode cL_law 146 = .ok (.bipush 11, 2) := by decide +kernel
theorem dL_law_148 : decode cL_law 148 = .ok (.iload 8, 2) := by decide +kernel
theorem dL_law_150 : decode cL_law 150 = .ok (.imul, 1) := by decide +kernel
theorem dL_law_151 : decode cL_law 151 = .ok (.iconst 1, 1) := by decide +kernel
theorem dL_law_152 : decode cL_law 152 = .ok (.iadd, 1) := by decide +kernel
theorem dL_law_153 : decode cL_law 153 = .ok (.iload 9, 2) := by decide +kernel
theorem dL_law_155 : decode cL_law 155 = .ok (.bipush 11, 2) := by decide +kernel
theorem dL_law_157 : decode cL_law 157 = .ok (.ishr, 1) := by decide +kernel
theorem dL_law_158 : decode cL_law 158 = .ok (.bipush 51, 2) := by decide +kernel
theorem dL_law_160 : decode cL_law 160 = .ok (.invokestatic 41, 3) := by decide +kernel
theorem dL_law_163 : decode cL_law 163 = .ok (.iastore, 1) := by decide +kernel
theorem dL_law_164 : decode cL_law 164 = .ok (.aload 4, 2) := by decide +kernel
theorem dL_law_166 : decode cL_law 166 = .ok (.bipush 11, 2) := by decide +kernel
theorem dL_law_168 : decode cL_law 168 = .ok (.iload 8, 2) := by decide +kernel
theorem dL_law_170 : decode cL_law 170 = .ok (.imul, 1) := by decide +kernel
theorem dL_law_171 : decode cL_law 171 = .ok (.iconst 2, 1) := by decide +kernel
theorem dL_law_172 : decode cL_law 172 = .ok (.iadd, 1) := by decide +kernel
theorem dL_law_173 : decode cL_law 173 = .ok (.iconst 1, 1) := by decide +kernel
theorem dL_law_174 : decode cL_law 174 = .ok (.iload 9, 2) := by decide +kernel
theorem dL_law_176 : decode cL_law 176 = .ok (.bipush 18, 2) := by decide +kernel
theorem dL_law_178 : decode cL_law 178 = .ok (.ishr, 1) := by decide +kernel
theorem dL_law_179 : decode cL_law 179 = .ok (.bipush 36, 2) := by decide +kernel
theorem dL_law_181 : decode cL_law 181 = .ok (.invokestatic 41, 3) := by decide +kernel
theorem dL_law_184 : decode cL_law 184 = .ok (.iadd, 1) := by decide +kernel
theorem dL_law_185 : decode cL_law 185 = .ok (.iastore, 1) := by decide +kernel
theorem dL_law_186 : decode cL_law 186 = .ok (.aload 4, 2) := by decide +kernel
theorem dL_law_188 : decode cL_law 188 = .ok (.bipush 11, 2) := by decide +kernel
theorem dL_law_190 : decode cL_law 190 = .ok (.iload 8, 2) := by decide +kernel
theorem dL_law_192 : decode cL_law 192 = .ok (.imul, 1) := by decide +kernel
theorem dL_law_193 : decode cL_law 193 = .ok (.iconst 5, 1) := by decide +kernel
theorem dL_law_194 : decode cL_law 194 = .ok (.iadd, 1) := by decide +kernel
theorem dL_law_195 : decode cL_law 195 = .ok (.bipush (-5), 2) := by decide +kernel
theorem dL_law_197 : decode cL_law 197 = .ok (.iastore, 1) := by decide +kernel
theorem dL_law_198 : decode cL_law 198 = .ok (.aload 4, 2) := by decide +kernel
theorem dL_law_200 : decode cL_law 200 = .ok (.bipush 11, 2) := by decide +kernel
theorem dL_law_202 : decode cL_law 202 = .ok (.iload 8, 2) := by decide +kernel
theorem dL_law_204 : decode cL_law 204 = .ok (.imul, 1) := by decide +kernel
theorem dL_law_205 : decode cL_law 205 = .ok (.bipush 10, 2) := by decide +kernel
theorem dL_law_207 : decode cL_law 207 = .ok (.iadd, 1) := by decide +kernel
theorem dL_law_208 : decode cL_law 208 = .ok (.bipush (-5), 2) := by decide +kernel
theorem dL_law_210 : decode cL_law 210 = .ok (.iastore, 1) := by decide +kernel
theorem dL_law_211 : decode cL_law 211 = .ok (.aload_n 1, 1) := by decide +kernel
theorem dL_law_212 : decode cL_law 212 = .ok (.aload 4, 2) := by decide +kernel
theorem dL_law_214 : decode cL_law 214 = .ok (.bipush 11, 2) := by decide +kernel
theorem dL_law_216 : decode cL_law 216 = .ok (.iload 8, 2) := by decide +kernel
theorem dL_law_218 : decode cL_law 218 = .ok (.imul, 1) := by decide +kernel
theorem dL_law_219 : decode cL_law 219 = .ok (.iaload, 1) := by decide +kernel
theorem dL_law_220 : decode cL_law 220 = .ok (.aload 4, 2) := by decide +kernel
theorem dL_law_222 : decode cL_law 222 = .ok (.bipush 11, 2) := by decide +kernel
theorem dL_law_224 : decode cL_law 224 = .ok (.iload 8, 2) := by decide +kernel
theorem dL_law_226 : decode cL_law 226 = .ok (.imul, 1) := by decide +kernel
theorem dL_law_227 : decode cL_law 227 = .ok (.iconst 1, 1) := by decide +kernel
theorem dL_law_228 : decode cL_law 228 = .ok (.iadd, 1) := by decide +kernel
theorem dL_law_229 : decode cL_law 229 = .ok (.iaload, 1) := by decide +kernel
theorem dL_law_230 : decode cL_law 230 = .ok (.aload 4, 2) := by decide +kernel
theorem dL_law_232 : decode cL_law 232 = .ok (.bipush 11, 2) := by decide +kernel
theorem dL_law_234 : decode cL_law 234 = .ok (.iload 8, 2) := by decide +kernel
theorem dL_law_236 : decode cL_law 236 = .ok (.imul, 1) := by decide +kernel
theorem dL_law_237 : decode cL_law 237 = .ok (.iconst 2, 1) := by decide +kernel
theorem dL_law_238 : decode cL_law 238 = .ok (.iadd, 1) := by decide +kernel
theorem dL_law_239 : decode cL_law 239 = .ok (.iaload, 1) := by decide +kernel
theorem dL_law_240 : decode cL_law 240 = .ok (.invokevirtual 100, 3) := by decide +kernel
theorem dL_law_243 : decode cL_law 243 = .ok (.iload 8, 2) := by decide +kernel
theorem dL_law_245 : decode cL_law 245 = .ok (.if_icmp .ne 16, 3) := by decide +kernel
theorem dL_law_248 : decode cL_law 248 = .ok (.aload_n 1, 1) := by decide +kernel
theorem dL_law_249 : decode cL_law 249 = .ok (.bipush 99, 2) := by decide +kernel
theorem dL_law_251 : decode cL_law 251 = .ok (.iconst 0, 1) := by decide +kernel
theorem dL_law_252 : decode cL_law 252 = .ok (.iconst 1, 1) := by decide +kernel
theorem dL_law_253 : decode cL_law 253 = .ok (.invokevirtual 100, 3) := by decide +kernel
theorem dL_law_256 : decode cL_law 256 = .ok (.bipush (-2), 2) := by decide +kernel
theorem dL_law_258 : decode cL_law 258 = .ok (.if_icmp .eq 5, 3) := by decide +kernel
theorem dL_law_261 : decode cL_law 261 = .ok (.iconst 0, 1) := by decide +kernel
theorem dL_law_262 : decode cL_law 262 = .ok (.ireturn, 1) := by decide +kernel
theorem dL_law_263 : decode cL_law 263 = .ok (.iinc 8 1, 3) := by decide +kernel
theorem dL_law_266 : decode cL_law 266 = .ok (.goto (-157), 3) := by decide +kernel
theorem dL_law_269 : decode cL_law 269 = .ok (.aload_n 2, 1) := by decide +kernel
theorem dL_law_270 : decode cL_law 270 = .ok (.iconst 1, 1) := by decide +kernel
theorem dL_law_271 : decode cL_law 271 = .ok (.iconst 4, 1) := by decide +kernel
theorem dL_law_272 : decode cL_law 272 = .ok (.iastore, 1) := by decide +kernel
theorem dL_law_273 : decode cL_law 273 = .ok (.bipush 7, 2) := by decide +kernel
theorem dL_law_275 : decode cL_law 275 = .ok (.istore 8, 2) := by decide +kernel
theorem dL_law_277 : decode cL_law 277 = .ok (.iload 8, 2) := by decide +kernel
theorem dL_law_279 : decode cL_law 279 = .ok (.bipush 62, 2) := by decide +kernel
theorem dL_law_281 : decode cL_law 281 = .ok (.if_icmp .ge 234, 3) := by decide +kernel
theorem dL_law_284 : decode cL_law 284 = .ok (.aload_n 0, 1) := by decide +kernel
theorem dL_law_285 : decode cL_law 285 = .ok (.iload 8, 2) := by decide +kernel
theorem dL_law_287 : decode cL_law 287 = .ok (.invokestatic 93, 3) := by decide +kernel
theorem dL_law_290 : decode cL_law 290 = .ok (.istore 9, 2) := by decide +kernel
theorem dL_law_292 : decode cL_law 292 = .ok (.iload 9, 2) := by decide +kernel
theorem dL_law_294 : decode cL_law 294 = .ok (.bipush 25, 2) := by decide +kernel
theorem dL_law_296 : decode cL_law 296 = .ok (.ishr, 1) := by decide +kernel
theorem dL_law_297 : decode cL_law 297 = .ok (.bipush 11, 2) := by decide +kernel
theorem dL_law_299 : decode cL_law 299 = .ok (.invokestatic 41, 3) := by decide +kernel
theorem dL_law_302 : decode cL_law 302 = .ok (.tableswitch 141 0 8 #[50, 50, 50, 69, 69, 69, 88, 107, 124], 50) := by decide +kernel
theorem dL_law_352 : decode cL_law 352 = .ok (.aload_n 1, 1) := by decide +kernel
theorem dL_law_353 : decode cL_law 353 = .ok (.aload_n 2, 1) := by decide +kernel
theorem dL_law_354 : decode cL_law 354 = .ok (.aload_n 3, 1) := by decide +kernel
theorem dL_law_355 : decode cL_law 355 = .ok (.aload 4, 2) := by decide +kernel
theorem dL_law_357 : decode cL_law 357 = .ok (.aload 5, 2) := by decide +kernel
theorem dL_law_359 : decode cL_law 359 = .ok (.aload 6, 2) := by decide +kernel
theorem dL_law_361 : decode cL_law 361 = .ok (.iload 9, 2) := by decide +kernel
theorem dL_law_363 : decode cL_law 363 = .ok (.invokestatic 103, 3) := by decide +kernel
theorem dL_law_366 : decode cL_law 366 = .ok (.istore 10, 2) := by decide +kernel
theorem dL_law_368 : decode cL_law 368 = .ok (.goto 109, 3) := by decide +kernel
theorem dL_law_371 : decode cL_law 371 = .ok (.aload_n 1, 1) := by decide +kernel
theorem dL_law_372 : decode cL_law 372 = .ok (.aload_n 2, 1) := by decide +kernel
theorem dL_law_373 : decode cL_law 373 = .ok (.aload_n 3, 1) := by decide +kernel
theorem dL_law_374 : decode cL_law 374 = .ok (.aload 4, 2) := by decide +kernel
theorem dL_law_376 : decode cL_law 376 = .ok (.aload 5, 2) := by decide +kernel
theorem dL_law_378 : decode cL_law 378 = .ok (.aload 7, 2) := by decide +kernel
theorem dL_law_380 : decode cL_law 380 = .ok (.iload 9, 2) := by decide +kernel
theorem dL_law_382 : decode cL_law 382 = .ok (.invokestatic 107, 3) := by decide +kernel
theorem dL_law_385 : decode cL_law 385 = .ok (.istore 10, 2) := by decide +kernel
theorem dL_law_387 : decode cL_law 387 = .ok (.goto 90, 3) := by decide +kernel
theorem dL_law_390 : decode cL_law 390 = .ok (.aload_n 1, 1) := by decide +kernel
theorem dL_law_391 : decode cL_law 391 = .ok (.aload_n 2, 1) := by decide +kernel
theorem dL_law_392 : decode cL_law 392 = .ok (.aload_n 3, 1) := by decide +kernel
theorem dL_law_393 : decode cL_law 393 = .ok (.aload 4, 2) := by decide +kernel
theorem dL_law_395 : decode cL_law 395 = .ok (.aload 5, 2) := by decide +kernel
theorem dL_law_397 : decode cL_law 397 = .ok (.aload 7, 2) := by decide +kernel
theorem dL_law_399 : decode cL_law 399 = .ok (.iload 9, 2) := by decide +kernel
theorem dL_law_401 : decode cL_law 401 = .ok (.invokestatic 110, 3) := by decide +kernel
theorem dL_law_404 : decode cL_law 404 = .ok (.istore 10, 2) := by decide +kernel
theorem dL_law_406 : decode cL_law 406 = .ok (.goto 71, 3) := by decide +kernel
theorem dL_law_409 : decode cL_law 409 = .ok (.aload_n 1, 1) := by decide +kernel
theorem dL_law_410 : decode cL_law 410 = .ok (.aload_n 2, 1) := by decide +kernel
theorem dL_law_411 : decode cL_law 411 = .ok (.aload_n 3, 1) := by decide +kernel
theorem dL_law_412 : decode cL_law 412 = .ok (.aload 4, 2) := by decide +kernel
theorem dL_law_414 : decode cL_law 414 = .ok (.aload 5, 2) := by decide +kernel
theorem dL_law_416 : decode cL_law 416 = .ok (.iload 9, 2) := by decide +kernel
theorem dL_law_418 : decode cL_law 418 = .ok (.invokestatic 113, 3) := by decide +kernel
theorem dL_law_421 : decode cL_law 421 = .ok (.istore 10, 2) := by decide +kernel
theorem dL_law_423 : decode cL_law 423 = .ok (.goto 54, 3) := by decide +kernel
theorem dL_law_426 : decode cL_law 426 = .ok (.aload_n 1, 1) := by decide +kernel
theorem dL_law_427 : decode cL_law 427 = .ok (.aload_n 2, 1) := by decide +kernel
theorem dL_law_428 : decode cL_law 428 = .ok (.aload_n 3, 1) := by decide +kernel
theorem dL_law_429 : decode cL_law 429 = .ok (.aload 4, 2) := by decide +kernel
theorem dL_law_431 : decode cL_law 431 = .ok (.aload 5, 2) := by decide +kernel
theorem dL_law_433 : decode cL_law 433 = .ok (.iload 9, 2) := by decide +kernel
theorem dL_law_435 : decode cL_law 435 = .ok (.invokestatic 117, 3) := by decide +kernel
theorem dL_law_438 : decode cL_law 438 = .ok (.istore 10, 2) := by decide +kernel
theorem dL_law_440 : decode cL_law 440 = .ok (.goto 37, 3) := by decide +kernel
theorem dL_law_443 : decode cL_law 443 = .ok (.aload_n 1, 1) := by decide +kernel
theorem dL_law_444 : decode cL_law 444 = .ok (.aload_n 2, 1) := by decide +kernel
theorem dL_law_445 : decode cL_law 445 = .ok (.aload 4, 2) := by decide +kernel
theorem dL_law_447 : decode cL_law 447 = .ok (.iconst 1, 1) := by decide +kernel
theorem dL_law_448 : decode cL_law 448 = .ok (.iload 9, 2) := by decide +kernel
theorem dL_law_450 : decode cL_law 450 = .ok (.iload 9, 2) := by decide +kernel
theorem dL_law_452 : decode cL_law 452 = .ok (.bipush 6, 2) := by decide +kernel
theorem dL_law_454 : decode cL_law 454 = .ok (.ishr, 1) := by decide +kernel
theorem dL_law_455 : decode cL_law 455 = .ok (.iconst 4, 1) := by decide +kernel
theorem dL_law_456 : decode cL_law 456 = .ok (.invokestatic 41, 3) := by decide +kernel
theorem dL_law_459 : decode cL_law 459 = .ok (.ifCond .ne 8, 3) := by decide +kernel
theorem dL_law_462 : decode cL_law 462 = .ok (.bipush 24, 2) := by decide +kernel
theorem dL_law_464 : decode cL_law 464 = .ok (.goto 4, 3) := by decide +kernel
theorem dL_law_467 : decode cL_law 467 = .ok (.iconst 2, 1) := by decide +kernel
theorem dL_law_468 : decode cL_law 468 = .ok (.invokestatic 41, 3) := by decide +kernel
theorem dL_law_471 : decode cL_law 471 = .ok (.iadd, 1) := by decide +kernel
theorem dL_law_472 : decode cL_law 472 = .ok (.invokestatic 120, 3) := by decide +kernel
theorem dL_law_475 : decode cL_law 475 = .ok (.istore 10, 2) := by decide +kernel
theorem dL_law_477 : decode cL_law 477 = .ok (.iload 10, 2) := by decide +kernel
theorem dL_law_479 : decode cL_law 479 = .ok (.ifCond .eq 28, 3) := by decide +kernel
theorem dL_law_482 : decode cL_law 482 = .ok (.aload_n 1, 1) := by decide +kernel
theorem dL_law_483 : decode cL_law 483 = .ok (.aload_n 2, 1) := by decide +kernel
theorem dL_law_484 : decode cL_law 484 = .ok (.aload 4, 2) := by decide +kernel
theorem dL_law_486 : decode cL_law 486 = .ok (.aload 5, 2) := by decide +kernel
theorem dL_law_488 : decode cL_law 488 = .ok (.invokestatic 124, 3) := by decide +kernel
theorem dL_law_491 : decode cL_law 491 = .ok (.ifCond .eq 16, 3) := by decide +kernel
theorem dL_law_494 : decode cL_law 494 = .ok (.aload_n 1, 1) := by decide +kernel
theorem dL_law_495 : decode cL_law 495 = .ok (.aload_n 2, 1) := by decide +kernel
theorem dL_law_496 : decode cL_law 496 = .ok (.aload_n 3, 1) := by decide +kernel
theorem dL_law_497 : decode cL_law 497 = .ok (.aload 5, 2) := by decide +kernel
theorem dL_law_499 : decode cL_law 499 = .ok (.aload 6, 2) := by decide +kernel
theorem dL_law_501 : decode cL_law 501 = .ok (.invokestatic 128, 3) := by decide +kernel
theorem dL_law_504 : decode cL_law 504 = .ok (.ifCond .ne 5, 3) := by decide +kernel
theorem dL_law_507 : decode cL_law 507 = .ok (.iconst 0, 1) := by decide +kernel
theorem dL_law_508 : decode cL_law 508 = .ok (.ireturn, 1) := by decide +kernel
theorem dL_law_509 : decode cL_law 509 = .ok (.iinc 8 1, 3) := by decide +kernel
theorem dL_law_512 : decode cL_law 512 = .ok (.goto (-235), 3) := by decide +kernel
theorem dL_law_515 : decode cL_law 515 = .ok (.iconst 1, 1) := by decide +kernel
theorem dL_law_516 : decode cL_law 516 = .ok (.ireturn, 1) := by decide +kernel
end
section
/-! THE STORE AND THE LAYOUT: what the class's objects and the law's six arrays hold, and where they lie once all are made -/
abbrev Sto : Type := (Nat → Nat → Nat → Int32) × (Nat → Nat)
def up (σ : Sto) (f j l : Nat) (v : Int32) : Sto := (fun f' j' l' => if f' = f ∧ j' = j ∧ l' = l then v else σ.1 f' j' l', σ.2)
def upH (σ : Sto) (i m : Nat) : Sto := (σ.1, fun i' => if i' = i then m else σ.2 i')
def mb (j : Nat) : Nat := if j < 3 then 1 + 83 * j else 252 + 83 * (j - 3)
def off (κ j l : Nat) : Nat := match κ with
  | 0 => 587 + l
  | 1 => 584
  | 2 => 250
  | 3 => mb j + 5 + l
  | 4 => mb j + 13 + l
  | 5 => mb j
  | 6 => mb j + 23 + l
  | 7 => 597
  | 8 => 598
  | 9 => 0
  | 10 => 0
  | 11 => mb j + 1
  | 12 => mb j + 2
  | 13 => mb j + 3
  | 14 => mb j + 4
  | 15 => 251
  | 16 => 585
  | 17 => 586
  | 18 => 599 + j
  | κ => 602 + (κ - 19)
def cj (κ : Nat) : Nat := match κ with
  | 3 => 7 | 4 => 7 | 5 => 7 | 6 => 7 | 11 => 7 | 12 => 7 | 13 => 7 | 14 => 7 | 18 => 3 | 10 => 0 | _ => 1
def cl (κ : Nat) : Nat := match κ with
  | 0 => 10 | 3 => 8 | 4 => 10 | 6 => 60 | _ => 1
def mtok (j r : Nat) : Nat × Nat × Nat :=
  if r = 0 then (5, j, 0) else if r = 1 then (11, j, 0) else if r = 2 then (12, j, 0) else if r = 3 then (13, j, 0) else if r = 4 then (14, j, 0) else if r < 13 then (3, j, r - 5) else if r < 23 then (4, j, r - 13) else (6, j, r - 23)
def tok (t : Nat) : Nat × Nat × Nat :=
  if t = 0 then (9, 0, 0) else if t < 250 then mtok ((t - 1) / 83) ((t - 1) % 83) else if t = 250 then (2, 0, 0) else if t = 251 then (15, 0, 0) else if t < 584 then mtok ((t - 252) / 83 + 3) ((t - 252) % 83)
  else if t = 584 then (1, 0, 0) else if t = 585 then (16, 0, 0) else if t = 586 then (17, 0, 0) else if t < 597 then (0, 0, t - 587) else if t = 597 then (7, 0, 0) else if t = 598 then (8, 0, 0) else if t < 602 then (18, t - 599, 0) else (t - 602 + 19, 0, 0)
def okt (κ j l : Nat) : Prop := κ < 25 ∧ j < cj κ ∧ l < cl κ
set_option maxRecDepth 100000 in
theorem off_tok : ∀ t, t < 608 → off (tok t).1 (tok t).2.1 (tok t).2.2 = t ∧ (tok t).1 < 25 ∧ (tok t).2.1 < cj (tok t).1 ∧ (tok t).2.2 < cl (tok t).1 := by decide +kernel
set_option maxRecDepth 100000 in
theorem tok_off0 : ∀ κ, κ < 25 → ∀ j, j < cj κ → ∀ l, l < cl κ → tok (off κ j l) = (κ, j, l) ∧ off κ j l < 608 := by decide +kernel
theorem tok_off {κ j l : Nat} (h : okt κ j l) : tok (off κ j l) = (κ, j, l) := (tok_off0 κ h.1 j h.2.1 l h.2.2).1
theorem off_lt {κ j l : Nat} (h : okt κ j l) : off κ j l < 608 := (tok_off0 κ h.1 j h.2.1 l h.2.2).2
/-- the base address, the address of the fees, the classes' numbers and slots, the arrays' classes -/
abbrev Gm : Type := Nat × Nat × va_G × (Nat → ClassId)
abbrev clz : List vw_C := [(RX0, TX0, 4), (RX1, TX1, 4), (RX2, TX2, 2), (RX3, TX3, 3), (RX4, TX4, 11), (RX5, TX5, 10), (RX6, TX6, 7), (RX7, TX7, 6), (RX8, TX8, 3), (RX9, TX9, 8)]
abbrev tysG (G : Gm) : List (ClassId × FieldType) := [(G.2.2.2 0, .int), (G.2.2.2 1, .char), (G.2.2.2 2, .object RX3), (G.2.2.2 3, .object RX4), (G.2.2.2 4, .object RX6), (G.2.2.2 5, .object RX5), (G.2.2.2 6, .object RX0)]
def ad (G : Gm) (κ j l : Nat) : Nat := G.1 + off κ j l
def rf (G : Gm) (κ j l : Nat) : Value := .ref (ad G κ j l)
def ia (G : Gm) (σ : Sto) (f j n : Nat) : va_E := .inl (G.2.2.2 0, n, .inl (σ.1 f j))
def ra (G : Gm) (c n : Nat) (g : Nat → Nat) : va_E := .inl (G.2.2.2 c, n, .inr (.inr (.inr (.inr fun i => some (g i)))))
/-- what the object or array (κ, j, l) holds -/
def cE (G : Gm) (σ : Sto) (κ j l : Nat) : va_E := match κ with
  | 0 => .inr (0, [.int (σ.1 0 j l), .int (σ.1 1 j l), .int (σ.1 2 j l), .int (σ.1 3 j l)])
  | 1 => .inr (1, [rf G 16 0 0, .int (σ.1 17 j l), rf G 17 0 0, .int (σ.1 19 j l)])
  | 2 => .inr (2, [rf G 15 0 0, .int (σ.1 33 j l)])
  | 3 => .inr (3, [.int (σ.1 48 j l), .int (σ.1 49 j l), .int (σ.1 50 j l)])
  | 4 => .inr (4, [.int (σ.1 64 j l), .int (σ.1 65 j l), .int (σ.1 66 j l), .int (σ.1 67 j l), .int (σ.1 68 j l), .int (σ.1 69 j l), .int (σ.1 70 j l), .int (σ.1 71 j l), .int (σ.1 72 j l), .int (σ.1 73 j l), .int (σ.1 74 j l)])
  | 5 => .inr (5, [rf G 11 j 0, rf G 12 j 0, rf G 13 j 0, rf G 14 j 0, .int (σ.1 84 j l), .int (σ.1 85 j l), .int (σ.1 86 j l), .int (σ.1 87 j l), .int (σ.1 88 j l), .int (σ.1 89 j l)])
  | 6 => .inr (6, [.int (σ.1 96 j l), .int (σ.1 97 j l), .int (σ.1 98 j l), .int (σ.1 99 j l), .int (σ.1 100 j l), .int (σ.1 101 j l), .int (σ.1 102 j l)])
  | 7 => .inr (7, [.int (σ.1 112 j l), .int (σ.1 113 j l), .int (σ.1 114 j l), .int (σ.1 115 j l), .int (σ.1 116 j l), .int (σ.1 117 j l)])
  | 8 => .inr (8, [rf G 18 0 0, rf G 18 1 0, rf G 18 2 0])
  | 9 => .inr (9, [rf G 5 0 0, rf G 5 1 0, rf G 5 2 0, .int (σ.1 147 j l), rf G 2 0 0, rf G 1 0 0, rf G 7 0 0, rf G 8 0 0])
  | 10 => .inr (10, [])
  | 11 => ra G 2 8 (fun i => ad G 3 j i)
  | 12 => ra G 3 10 (fun i => ad G 4 j i)
  | 13 => ra G 4 60 (fun i => ad G 6 j i)
  | 14 => ia G σ 224 j 4
  | 15 => ra G 5 4 (fun i => ad G 5 (σ.2 i) 0)
  | 16 => .inl (G.2.2.2 1, 60, .inl (σ.1 256 j))
  | 17 => ra G 6 10 (fun i => ad G 0 0 i)
  | 18 => ia G σ 288 j 60
  | 19 => ia G σ 304 j 9
  | 20 => ia G σ 320 j 9
  | 21 => ia G σ 336 j 44
  | 22 => ia G σ 352 j 60
  | 23 => ia G σ 368 j 10
  | _ => ia G σ 384 j 10
theorem cE_congr {G : Gm} {σ τ : Sto} {κ j l : Nat} (hκ : κ < 25) (h1 : κ < 11 → ∀ k, k < 16 → σ.1 (16 * κ + k) j l = τ.1 (16 * κ + k) j l) (h2 : 11 ≤ κ → σ.1 (16 * κ) j = τ.1 (16 * κ) j) (h3 : κ = 15 → ∀ i, i < 4 → σ.2 i = τ.2 i) (h4 : κ = 15 → ∀ i, 4 ≤ i → σ.2 i = τ.2 i) : cE G σ κ j l = cE G τ κ j l := by
  have g3 : κ = 15 → σ.2 = τ.2 := fun h => funext fun i => by
    rcases Nat.lt_or_ge i 4 with q | q
    · exact h3 h i q
    · exact h4 h i q
  by_cases hk : κ < 11
  · have h1 := h1 hk
    have hh : ∀ f, 16 * κ ≤ f → f < 16 * κ + 16 → σ.1 f j l = τ.1 f j l := fun f a b => by
      have := h1 (f - 16 * κ) (by omega)
      rwa [show 16 * κ + (f - 16 * κ) = f by omega] at this
    rcases (show κ = 0 ∨ κ = 1 ∨ κ = 2 ∨ κ = 3 ∨ κ = 4 ∨ κ = 5 ∨ κ = 6 ∨ κ = 7 ∨ κ = 8 ∨ κ = 9 ∨ κ = 10 by omega) with rfl | rfl | rfl | rfl | rfl | rfl | rfl | rfl | rfl | rfl | rfl <;> simp (disch := omega) only [cE, hh]
  · have h2 := h2 (by omega)
    rcases (show κ = 11 ∨ κ = 12 ∨ κ = 13 ∨ κ = 14 ∨ κ = 15 ∨ κ = 16 ∨ κ = 17 ∨ κ = 18 ∨ κ = 19 ∨ κ = 20 ∨ κ = 21 ∨ κ = 22 ∨ κ = 23 ∨ κ = 24 by omega) with rfl | rfl | rfl | rfl | rfl | rfl | rfl | rfl | rfl | rfl | rfl | rfl | rfl | rfl <;> first | rfl | (simp only [cE, g3 rfl]; done) | (simp only [cE, ia]; simp only [Nat.reduceMul] at h2; rw [h2])
/-- all cells, by their places -/
def cT (G : Gm) (σ : Sto) (t : Nat) : va_E := cE G σ (tok t).1 (tok t).2.1 (tok t).2.2
def wl (G : Gm) (σ : Sto) : va_W := (List.range 608).map (fun t => (G.1 + t, cT G σ t))
/-- which cells may be written: from the base on -/
def AG (G : Gm) : Nat → Prop := fun q => G.1 ≤ q
theorem wl_at {G : Gm} {σ : Sto} {t : Nat} (h : t < 608) : (wl G σ)[t]? = some (G.1 + t, cT G σ t) := by
  simp only [wl, List.getElem?_map, List.getElem?_range h, Option.map_some]
theorem wl_lt {G : Gm} {σ : Sto} {t : Nat} {q : Nat × va_E} (h : (wl G σ)[t]? = some q) : t < 608 ∧ q = (G.1 + t, cT G σ t) := by
  have h1 := (List.getElem?_eq_some_iff.mp h).1
  have h2 : t < 608 := by simpa only [wl, List.length_map, List.length_range] using h1
  rw [wl_at h2] at h
  exact ⟨h2, (Option.some.inj h).symm⟩
theorem wl_get {G : Gm} {σ : Sto} {κ j l : Nat} (hk : okt κ j l) : (wl G σ)[off κ j l]? = some (ad G κ j l, cE G σ κ j l) := by
  rw [wl_at (off_lt hk), cT, tok_off hk]
  rfl
theorem wl_D {G : Gm} {σ : Sto} : va_D (AG G) (wl G σ) := by
  refine ⟨fun i j p q hi hj e => ?_, fun k q hk => ?_⟩
  · rw [(wl_lt hi).2, (wl_lt hj).2] at e
    exact Nat.add_left_cancel e
  · rw [(wl_lt hk).2]
    exact Nat.le_add_right _ _
theorem wl_set {G : Gm} {σ τ : Sto} {κ j l : Nat} {e : va_E} (hk : okt κ j l) (he : e = cE G τ κ j l) (h : ∀ t, t < 608 → ¬ tok t = (κ, j, l) → cT G τ t = cT G σ t) : (wl G σ).set (off κ j l) (ad G κ j l, e) = wl G τ := by
  subst he
  refine List.ext_getElem? fun t => ?_
  by_cases ht : t < 608
  · rw [wl_at ht]
    by_cases hn : tok t = (κ, j, l)
    · have e : t = off κ j l := by have := (off_tok t ht).1; rw [hn] at this; exact this.symm
      rw [← e, List.getElem?_set_self (by simpa only [wl, List.length_map, List.length_range] using ht), cT, hn, e]
      rfl
    · have hne : off κ j l ≠ t := fun e => hn (by rw [← e, tok_off hk])
      rw [List.getElem?_set_ne hne, wl_at ht, h t ht hn]
  · have hl : ∀ ρ : Sto, (wl G ρ).length = 608 := fun ρ => by simp only [wl, List.length_map, List.length_range]
    rw [List.getElem?_eq_none (by rw [List.length_set, hl]; omega), List.getElem?_eq_none (by rw [hl]; omega)]
/-- one cell is written: an object's number -/
theorem wl_put {G : Gm} {σ : Sto} {κ j l f : Nat} {v : Int32} {e : va_E} (hk : okt κ j l) (hκ : κ < 11) (hf : 16 * κ ≤ f ∧ f < 16 * κ + 16) (he : e = cE G (up σ f j l v) κ j l) : (wl G σ).set (off κ j l) (ad G κ j l, e) = wl G (up σ f j l v) := by
  refine wl_set hk he fun t ht hn => ?_
  obtain ⟨o1, o2, o3, o4⟩ := off_tok t ht
  refine cE_congr o2 (fun hk2 k hk3 => ?_) (fun hk2 => funext fun i => ?_) (fun _ _ _ => rfl) (fun _ _ _ => rfl)
  · show (if _ then _ else _) = _
    rw [if_neg]
    rintro ⟨a, b, c⟩
    exact hn (by rw [← b, ← c, show κ = (tok t).1 by omega])
  · show (if _ then _ else _) = _
    rw [if_neg]
    rintro ⟨a, b, c⟩
    omega
/-- one cell is written: an array's number -/
theorem wl_puta {G : Gm} {σ : Sto} {κ j f i : Nat} {v : Int32} {e : va_E} (hk : okt κ j 0) (hκ : 11 ≤ κ) (hf : f = 16 * κ) (he : e = cE G (up σ f j i v) κ j 0) : (wl G σ).set (off κ j 0) (ad G κ j 0, e) = wl G (up σ f j i v) := by
  refine wl_set hk he fun t ht hn => ?_
  obtain ⟨o1, o2, o3, o4⟩ := off_tok t ht
  refine cE_congr o2 (fun hk2 k hk3 => ?_) (fun hk2 => funext fun x => ?_) (fun _ _ _ => rfl) (fun _ _ _ => rfl)
  · show (if _ then _ else _) = _
    rw [if_neg]
    rintro ⟨a, b, c⟩
    omega
  · show (if _ then _ else _) = _
    rw [if_neg]
    rintro ⟨a, b, c⟩
    have hκ' : (tok t).1 = κ := by omega
    have hl : (tok t).2.2 < 1 := by
      have : cl (tok t).1 = 1 := by
        rw [hκ']
        rcases (show κ = 11 ∨ κ = 12 ∨ κ = 13 ∨ κ = 14 ∨ κ = 15 ∨ κ = 16 ∨ κ = 17 ∨ κ = 18 ∨ κ = 19 ∨ κ = 20 ∨ κ = 21 ∨ κ = 22 ∨ κ = 23 ∨ κ = 24 by have := hk.1; omega) with rfl | rfl | rfl | rfl | rfl | rfl | rfl | rfl | rfl | rfl | rfl | rfl | rfl | rfl | rfl | rfl <;> rfl
      omega
    have hl0 : (tok t).2.2 = 0 := by omega
    exact hn (by rw [← hκ', ← b, ← hl0])
/-- one cell is written: a place of the row of states -/
theorem wl_putH {G : Gm} {σ : Sto} {i m : Nat} {e : va_E} (he : e = cE G (upH σ i m) 15 0 0) : (wl G σ).set (off 15 0 0) (ad G 15 0 0, e) = wl G (upH σ i m) := by
  refine wl_set (by unfold okt; decide) he fun t ht hn => ?_
  obtain ⟨o1, o2, o3, o4⟩ := off_tok t ht
  have hne15 : (tok t).1 ≠ 15 := by
    intro e
    rw [e] at o3 o4
    have a : (tok t).2.1 < 1 := o3
    have b : (tok t).2.2 < 1 := o4
    exact hn (Prod.ext e (Prod.ext (Nat.lt_one_iff.mp a) (Nat.lt_one_iff.mp b)))
  exact cE_congr o2 (fun _ _ _ => rfl) (fun _ => rfl) (fun z => absurd z hne15) (fun z => absurd z hne15)
/-- the heap holds the store -/
def Rep (G : Gm) (σ : Sto) (H : Heap) : Prop := va_P G.2.2.1 clz (wl G σ) H ∧ ∀ i, σ.2 i < 7
end
section
/-! THE JUDGEMENT V: a walk over stores; a row an instruction -/
def wsA : List Cond := lw_tbl.filter goodWord
theorem wA {w : Cond} (k : Nat) (h : lw_tbl[k]? = some w) (hg : goodWord w = true) : w ∈ wsA := List.mem_filter.mpr ⟨List.mem_of_getElem? h, hg⟩
theorem wsA_good {w : Cond} (h : w ∈ wsA) : (w.onTables && w.keeps) = true ∨ ∃ ty, w = .arrayClass ty := good_of_word (List.mem_filter.mp h).2
def nsM : List (String × Nat × MethodName × String) := [("PeerNotes", 42, ⟨"PeerNotes$Parts", "<init>", "()V"⟩, "PeerNotes"), ("PeerNotes", 49, ⟨"PeerNotes$Payout", "<init>", "()V"⟩, "PeerNotes"), ("PeerNotes$FundingText", 28, ⟨"PeerNotes$Funding", "<init>", "()V"⟩, "PeerNotes"), ("PeerNotes$Loan", 45, ⟨"PeerNotes", "dividedUp", "(II)I"⟩, "PeerNotes"), ("PeerNotes$Market", 104, ⟨"PeerNotes", "isServicer", "(I)Z"⟩, "PeerNotes"), ("PeerNotes$Market", 55, ⟨"PeerNotes$Investor", "<init>", "()V"⟩, "PeerNotes"), ("PeerNotes$Market", 56, ⟨"PeerNotes$Loan", "<init>", "()V"⟩, "PeerNotes"), ("PeerNotes$Market", 57, ⟨"PeerNotes$Note", "<init>", "()V"⟩, "PeerNotes"), ("PeerNotes$Parts", 25, ⟨"PeerNotes", "feeOf", "(I)I"⟩, "PeerNotes")]
/-- links within the nest -/
def NW (U : State) : Prop := va_Nw (.fieldLinkNest "PeerNotes$Market" 29 "PeerNotes" "FEES" "[I" "PeerNotes") U ∧ ∀ q ∈ nsM, va_Nw (.methodLinkNest q.1 q.2.1 q.2.2.1 q.2.2.2) U
theorem NW.warm {s U : State} (hW : s.WarmedH U.vm) (h : NW s) : NW U := ⟨va_Nw.warmF hW h.1, fun q hq => va_Nw.warmM hW (h.2 q hq)⟩
theorem NW.same {s U : State} (hW : s.vm = U.vm) (h : NW s) : NW U := ⟨va_Nw.same rfl hW h.1, fun q hq => va_Nw.same rfl hW (h.2 q hq)⟩
def feeI : Nat → Int32 := fun k => match k with
  | 0 => 5 | 1 => 10 | 2 => 20 | _ => 40
def feeV : Nat → Value := fun k => .int (feeI k)
def Wt (G : Gm) (U : State) : Prop := va_K G.2.2.1 clz (tysG G) U ∧ NW U
def Wf (G : Gm) (U : State) (H : Heap) : Prop := va_Z "PeerNotes" "FEES" "[I" (.ref G.2.1) (AG G) U H ∧ va_T .int G.2.1 4 feeV (AG G) U H
/-- the world at a state -/
def Wd (G : Gm) (σ : Sto) (U : State) : Prop := Rep G σ U.heap ∧ Wt G U ∧ Wf G U U.heap
theorem Wt.warm {G : Gm} {s U : State} (hW : s.WarmedH U.vm) (h : Wt G s) : Wt G U := ⟨va_K.moved hW.alike h.1, h.2.warm hW⟩
theorem Wf.kept {G : Gm} {U : State} {H H1 : Heap} (h : Wf G U H) (hq : ∀ a : Nat, a < H.size → ¬ AG G a → H1[a]? = H[a]?) : Wf G U H1 := ⟨h.1.kept hq, h.2.kept hq⟩
theorem Wf.alike {G : Gm} {s U : State} {H : Heap} (hW : s.vm.Alike U.vm) (h : Wf G s H) : Wf G U H := ⟨h.1.moved hW, h.2.moved hW⟩
theorem Wd.blind {G : Gm} {σ : Sto} {U : State} (g : JFrame) (mk : MethodId) (a : Array Value) (h : Wd G σ U) : Wd G σ (U.calling g mk a) :=
  ⟨h.1, ⟨va_K.moved (u := U) (U := U.calling g mk a) (Vm.Alike.refl U.vm) h.2.1.1, h.2.1.2.same rfl⟩, h.2.2.alike (U := U.calling g mk a) (Vm.Alike.refl U.vm)⟩
/-! locals as a list: what is known of each -/
def asc : Nat → List (Option Value) → List (Nat × Value)
  | _, [] => []
  | i, none :: r => asc (i + 1) r
  | i, some v :: r => (i, v) :: asc (i + 1) r
theorem asc_mem (r : List (Option Value)) : ∀ (i k : Nat) (w : Value), (k, w) ∈ asc i r ↔ i ≤ k ∧ r[k - i]? = some (some w) := by
  induction r with
  | nil => intro i k w; simp [asc]
  | cons a r ih =>
    intro i k w
    have key : (k, w) ∈ asc (i + 1) r ↔ i + 1 ≤ k ∧ (a :: r)[k - i]? = some (some w) := by
      rw [ih (i + 1) k w]
      refine and_congr_right fun h => ?_
      rw [show k - i = (k - (i + 1)) + 1 by omega, List.getElem?_cons_succ]
    have hz : i ≤ k ∧ (a :: r)[k - i]? = some (some w) ↔ (k = i ∧ a = some w) ∨ (i + 1 ≤ k ∧ (a :: r)[k - i]? = some (some w)) := by
      constructor
      · rintro ⟨h1, h2⟩
        rcases Nat.eq_or_lt_of_le h1 with e | e
        · subst e
          rw [Nat.sub_self] at h2
          exact Or.inl ⟨rfl, by simpa using h2⟩
        · exact Or.inr ⟨e, h2⟩
      · rintro (⟨rfl, rfl⟩ | ⟨h1, h2⟩)
        · exact ⟨Nat.le_refl _, by simp⟩
        · exact ⟨by omega, h2⟩
    rw [hz]
    cases a with
    | none => simp only [asc, key]; simp
    | some v =>
      simp only [asc, List.mem_cons, key, Prod.mk.injEq]
      constructor
      · rintro (⟨rfl, rfl⟩ | h)
        · exact Or.inl ⟨rfl, rfl⟩
        · exact Or.inr h
      · rintro (⟨rfl, h⟩ | h)
        · exact Or.inl ⟨rfl, (Option.some.inj h).symm⟩
        · exact Or.inr h
def lcok (ls : Array Slot) (lc : List (Option Value)) : Prop := lv_has ls lc.length (asc 0 lc)
theorem lcok_at {ls : Array Slot} {lc : List (Option Value)} (h : lcok ls lc) {i : Nat} {v : Value} (hi : lc[i]? = some (some v)) : ls[i]? = some (.val v) := h.2.2 (i, v) ((asc_mem lc 0 i v).mpr ⟨Nat.zero_le _, hi⟩)
def kil (lc : List (Option Value)) (i : Nat) : List (Option Value) := match i with
  | 0 => lc
  | i + 1 => match lc[i]? with
    | some (some (.long _)) => lc.set i none
    | some (some (.double _)) => lc.set i none
    | _ => lc
def stv (lc : List (Option Value)) (i : Nat) (v : Value) : List (Option Value) := (kil lc i).set i (some v)
def stw (lc : List (Option Value)) (i : Nat) (v : Value) : List (Option Value) := ((kil lc i).set (i + 1) none).set i (some v)
theorem kil_len (lc : List (Option Value)) (i : Nat) : (kil lc i).length = lc.length := by
  unfold kil
  split
  · rfl
  · split <;> simp
theorem kil_at {lc : List (Option Value)} {i k : Nat} {w : Value} (h : (kil lc i)[k]? = some (some w)) : lc[k]? = some (some w) ∧ ¬ (k + 1 = i ∧ w.category = 2) := by
  unfold kil at h
  split at h
  · exact ⟨h, fun q => by omega⟩
  · rename_i i
    have aux : ∀ x : Option Value, lc[i]? = some x → (lc.set i none)[k]? = some (some w) → lc[k]? = some (some w) ∧ ¬ (k + 1 = i + 1 ∧ w.category = 2) := by
      intro x hx hk
      by_cases e : i = k
      · subst e
        rw [List.getElem?_set_self (List.getElem?_eq_some_iff.mp hx).1] at hk
        cases hk
      · rw [List.getElem?_set_ne e] at hk
        exact ⟨hk, fun q => by omega⟩
    split at h
    · rename_i hx; exact aux _ hx h
    · rename_i hx; exact aux _ hx h
    · rename_i n1 n2
      refine ⟨h, ?_⟩
      rintro ⟨e, c⟩
      have e2 : k = i := by omega
      subst e2
      cases w <;> simp [Value.category] at c
      · exact n1 _ h
      · exact n2 _ h
theorem lcok_stv {ls ls' : Array Slot} {lc : List (Option Value)} {i : Nat} {v : Value} (hi : i < lc.length) (h : lv_has ls' lc.length ((i, v) :: (asc 0 lc).filter (fun q => !(q.1 == i) && !(q.1 + 1 == i && q.2.category == 2)))) : lcok ls' (stv lc i v) := by
  refine ⟨by rw [h.1, stv, List.length_set, kil_len], h.2.1, fun q hq => h.2.2 q ?_⟩
  obtain ⟨k, w⟩ := q
  have hk := ((asc_mem _ 0 k w).mp hq).2
  rw [Nat.sub_zero, stv] at hk
  by_cases e : i = k
  · subst e
    rw [List.getElem?_set_self (by rw [kil_len]; exact hi)] at hk
    cases hk
    exact List.mem_cons_self
  · rw [List.getElem?_set_ne e] at hk
    obtain ⟨h1, h2⟩ := kil_at hk
    refine List.mem_cons_of_mem _ (List.mem_filter.mpr ⟨(asc_mem lc 0 k w).mpr ⟨Nat.zero_le _, h1⟩, ?_⟩)
    have e1 : (k == i) = false := by simpa using fun q => e q.symm
    have e2 : (k + 1 == i && w.category == 2) = false := by
      rw [Bool.eq_false_iff]
      intro q
      rw [Bool.and_eq_true, beq_iff_eq, beq_iff_eq] at q
      exact h2 q
    show (!(k == i) && !(k + 1 == i && w.category == 2)) = true
    rw [e1, e2]
    rfl
theorem lcok_stw {ls ls' : Array Slot} {lc : List (Option Value)} {i : Nat} {v : Value} (hi : i + 1 < lc.length) (h : lv_has ls' lc.length ((i, v) :: (asc 0 lc).filter (fun q => !(q.1 == i) && (!(q.1 == i + 1) && !(q.1 + 1 == i && q.2.category == 2))))) : lcok ls' (stw lc i v) := by
  refine ⟨by rw [h.1, stw, List.length_set, List.length_set, kil_len], h.2.1, fun q hq => h.2.2 q ?_⟩
  obtain ⟨k, w⟩ := q
  have hk := ((asc_mem _ 0 k w).mp hq).2
  rw [Nat.sub_zero, stw] at hk
  by_cases e : i = k
  · subst e
    rw [List.getElem?_set_self (by rw [List.length_set, kil_len]; omega)] at hk
    cases hk
    exact List.mem_cons_self
  · rw [List.getElem?_set_ne e] at hk
    by_cases e3 : i + 1 = k
    · subst e3
      rw [List.getElem?_set_self (by rw [kil_len]; omega)] at hk
      cases hk
    rw [List.getElem?_set_ne e3] at hk
    obtain ⟨h1, h2⟩ := kil_at hk
    refine List.mem_cons_of_mem _ (List.mem_filter.mpr ⟨(asc_mem lc 0 k w).mpr ⟨Nat.zero_le _, h1⟩, ?_⟩)
    have e1 : (k == i) = false := by simpa using fun q => e q.symm
    have e4 : (k == i + 1) = false := by simpa using fun q => e3 q.symm
    have e2 : (k + 1 == i && w.category == 2) = false := by
      rw [Bool.eq_false_iff]
      intro q
      rw [Bool.and_eq_true, beq_iff_eq, beq_iff_eq] at q
      exact h2 q
    show (!(k == i) && (!(k == i + 1) && !(k + 1 == i && w.category == 2))) = true
    rw [e1, e2, e4]
    rfl
/-- fewer known locals -/
def mask : List Bool → List (Option Value) → List (Option Value)
  | b :: bs, a :: as => (if b then a else none) :: mask bs as
  | [], as => as.map fun _ => none
  | _, [] => []
theorem mask_at (bs : List Bool) : ∀ (as : List (Option Value)), (mask bs as).length = as.length ∧ ∀ (k : Nat) (w : Value), (mask bs as)[k]? = some (some w) → as[k]? = some (some w) := by
  induction bs with
  | nil =>
    intro as
    have e : mask [] as = as.map fun _ => none := by cases as <;> rfl
    rw [e]
    refine ⟨by simp, fun k w h => ?_⟩
    rw [List.getElem?_map] at h
    rcases hx : as[k]? with _ | z <;> rw [hx] at h <;> simp at h
  | cons b bs ih =>
    intro as
    cases as with
    | nil => exact ⟨rfl, fun k w h => by simp [mask] at h⟩
    | cons a as =>
      refine ⟨by simp [mask, (ih as).1], fun k w h => ?_⟩
      cases k with
      | zero =>
        cases b
        · simp [mask] at h
        · simpa [mask] using h
      | succ k =>
        rw [mask, List.getElem?_cons_succ] at h
        rw [List.getElem?_cons_succ]
        exact (ih as).2 k w h
theorem lcok_mask {ls : Array Slot} {lc : List (Option Value)} (bs : List Bool) (h : lcok ls lc) : lcok ls (mask bs lc) := by
  refine ⟨by rw [h.1, (mask_at bs lc).1], h.2.1, fun q hq => ?_⟩
  obtain ⟨k, w⟩ := q
  have hk := ((asc_mem _ 0 k w).mp hq).2
  rw [Nat.sub_zero] at hk
  exact lcok_at h ((mask_at bs lc).2 k w hk)
/-! the judgement -/
abbrev Cx : Type := Program × Launch × Env × Room × State × MethodId × Array Value × List Frame × Method × Code
abbrev cxS (X : Cx) : State := X.2.2.2.2.1
abbrev cxR (X : Cx) : Room := X.2.2.2.1
abbrev cxM (X : Cx) : MethodId := X.2.2.2.2.2.1
abbrev cxA (X : Cx) : Array Value := X.2.2.2.2.2.2.1
abbrev cxC (X : Cx) : Code := X.2.2.2.2.2.2.2.2.2
abbrev cxN (X : Cx) : Method := X.2.2.2.2.2.2.2.2.1
abbrev WX (X : Cx) (H : Heap) (locs : List Loc) (mc ms : Nat) (Q : State → Prop) (g : JFrame) : Prop := W X.1 X.2.1 X.2.2.1 X.2.2.2.1 X.2.2.2.2.1 X.2.2.2.2.2.1 X.2.2.2.2.2.2.1 X.2.2.2.2.2.2.2.1 X.2.2.2.2.2.2.2.2.1 X.2.2.2.2.2.2.2.2.2 H locs mc ms Q g
def V (X : Cx) (G : Gm) (mc ms : Nat) (Q : State → Prop) (σ : Sto) (pc : Nat) (lc : List (Option Value)) (st : List Value) : Prop :=
  ∀ (H : Heap) (locs : List Loc) (ls : Array Slot), Rep G σ H → va_S (AG G) (cxS X).heap H locs → lcok ls lc → WX X H locs mc ms Q (F0 (cxM X) pc ls st)
/-- what holds all over a method's walk: the code, the class, the locals' number, the depth d of calls left, what it returns -/
def Gd (X : Cx) (G : Gm) (cc : ByteArray) (own : String) (nL d : Nat) (ret : Option FieldType) (mc ms : Nat) : Prop :=
  X.1.tables.exec = Jvm.exec ∧ (cxC X).code = cc ∧ (cxC X).maxLocals = nL ∧ (cxS X).vm.findClass own = some (cxM X).cls ∧ (∀ w ∈ wsA, w.before (cxA X) (cxS X) = true) ∧ Wt G (cxS X) ∧ Wf G (cxS X) (cxS X).heap ∧ d ≤ (cxR X).frames ∧ 41 * d ≤ (cxR X).locals ∧ mc ≤ (cxR X).cells ∧ ms ≤ (cxR X).slots ∧ (cxN X).sig.returnType = ret ∧ (cxN X).locks = false
section V1
variable {X : Cx} {G : Gm} {mc ms : Nat} {Q : State → Prop} {σ : Sto} {pc : Nat} {lc : List (Option Value)} {st : List Value} {cc : ByteArray} {own : String} {nL d : Nat} {ret : Option FieldType}
abbrev inb (i : Int32) (n : Nat) : Prop := 0 ≤ i.toInt ∧ i.toInt < (n : Int)
def jn {α β : Type} (f : α) (g : α → β) : β := g f
def bd {α : Type} (f : Option (Int32 × Sto)) (k : Int32 → Sto → Option α) : Option α := match f with
  | none => none
  | some (r, σ) => k r σ
def bv {α : Type} (f : Option Sto) (k : Sto → Option α) : Option α := match f with
  | none => none
  | some σ => k σ
theorem bd_some {α : Type} {f : Option (Int32 × Sto)} {k : Int32 → Sto → Option α} {x : α} (h : bd f k = some x) : ∃ r σ, f = some (r, σ) ∧ k r σ = some x := by
  cases f with
  | none => cases h
  | some q => exact ⟨q.1, q.2, rfl, h⟩
theorem bv_some {α : Type} {f : Option Sto} {k : Sto → Option α} {x : α} (h : bv f k = some x) : ∃ σ, f = some σ ∧ k σ = some x := by
  cases f with
  | none => cases h
  | some q => exact ⟨q, rfl, h⟩
theorem if_some {α : Type} {p : Prop} [Decidable p] {a : Option α} {x : α} (h : (if p then a else none) = some x) : p ∧ a = some x := by
  by_cases hp : p
  · rw [if_pos hp] at h; exact ⟨hp, h⟩
  · rw [if_neg hp] at h; cases h
theorem v_mask (bs : List Bool) {lc' : List (Option Value)} (e : mask bs lc = lc') (kk : V X G mc ms Q σ pc lc' st) : V X G mc ms Q σ pc lc st := fun H locs ls hR hS hl => kk H locs ls hR hS (e ▸ lcok_mask bs hl)
theorem v_join {α R : Type} {f : α} {g : α → Option R} {res : R} {T : Prop} (P : α → Prop) (h : jn f g = some res) (h1 : P f) (h2 : ∀ k, P k → g k = some res → T) : T := h2 f h1 h

theorem v_iconst (C : Gd X G cc own nL d ret mc ms) {n : Int} {v : Int32} (hd : decode cc pc = .ok (.iconst n, 1)) (hv : Int32.ofInt n = v) (kk : V X G mc ms Q σ (pc + 1) lc (.int v :: st)) : V X G mc ms Q σ pc lc (st) := fun H locs ls hR hS hl => lv_iconst C.1 C.2.1 hd hv (kk H locs ls hR hS hl)
theorem v_bipush (C : Gd X G cc own nL d ret mc ms) {n : Int} {v : Int32} (hd : decode cc pc = .ok (.bipush n, 2)) (hv : (Int8.ofInt n).toInt32 = v) (kk : V X G mc ms Q σ (pc + 2) lc (.int v :: st)) : V X G mc ms Q σ pc lc (st) := fun H locs ls hR hS hl => lv_bipush C.1 C.2.1 hd hv (kk H locs ls hR hS hl)
theorem v_sipush (C : Gd X G cc own nL d ret mc ms) {n : Int} {v : Int32} (hd : decode cc pc = .ok (.sipush n, 3)) (hv : (Int16.ofInt n).toInt32 = v) (kk : V X G mc ms Q σ (pc + 3) lc (.int v :: st)) : V X G mc ms Q σ pc lc (st) := fun H locs ls hR hS hl => lv_sipush C.1 C.2.1 hd hv (kk H locs ls hR hS hl)
theorem v_lconst (C : Gd X G cc own nL d ret mc ms) {n : Fin 2} {v : Int64} (hd : decode cc pc = .ok (.lconst n, 1)) (hv : Int64.ofNat (n : Nat) = v) (kk : V X G mc ms Q σ (pc + 1) lc (.long v :: st)) : V X G mc ms Q σ pc lc (st) := fun H locs ls hR hS hl => lv_lconst C.1 C.2.1 hd hv (kk H locs ls hR hS hl)
theorem v_ldc (C : Gd X G cc own nL d ret mc ms) {index : Nat} {v : Int32} (hd : decode cc pc = .ok (.ldc index, 2)) (hw : Cond.constant own index v ∈ wsA) (kk : V X G mc ms Q σ (pc + 2) lc (.int v :: st)) : V X G mc ms Q σ pc lc st := fun H locs ls hR hS hl => lv_ldc C.1 C.2.1 C.2.2.2.1 (C.2.2.2.2.1 _ hw) hd (kk H locs ls hR hS hl)
theorem v_ldcw (C : Gd X G cc own nL d ret mc ms) {index : Nat} {v : Int32} (hd : decode cc pc = .ok (.ldc_w index, 3)) (hw : Cond.constant own index v ∈ wsA) (kk : V X G mc ms Q σ (pc + 3) lc (.int v :: st)) : V X G mc ms Q σ pc lc st := fun H locs ls hR hS hl => lv_ldcw C.1 C.2.1 C.2.2.2.1 (C.2.2.2.2.1 _ hw) hd (kk H locs ls hR hS hl)
theorem v_ldc2 (C : Gd X G cc own nL d ret mc ms) {index : Nat} {v : Int64} (hd : decode cc pc = .ok (.ldc2_w index, 3)) (hw : Cond.constantLong own index v ∈ wsA) (kk : V X G mc ms Q σ (pc + 3) lc (.long v :: st)) : V X G mc ms Q σ pc lc st := fun H locs ls hR hS hl => lv_ldc2 C.1 C.2.1 C.2.2.2.1 (C.2.2.2.2.1 _ hw) hd (kk H locs ls hR hS hl)
theorem v_iload_n (C : Gd X G cc own nL d ret mc ms) {k : Fin 4} {i : Nat} {x : Int32} (hd : decode cc pc = .ok (.iload_n k, 1)) (hi : (k : Nat) = i) (hl : lc[i]? = some (some (.int x))) (kk : V X G mc ms Q σ (pc + 1) lc (.int x :: st)) : V X G mc ms Q σ pc lc st := fun H locs ls hR hS h => lv_iload_n C.1 C.2.1 hd hi (lcok_at h hl) (kk H locs ls hR hS h)
theorem v_iload (C : Gd X G cc own nL d ret mc ms) {i : Nat} {x : Int32} (hd : decode cc pc = .ok (.iload i, 2)) (hl : lc[i]? = some (some (.int x))) (kk : V X G mc ms Q σ (pc + 2) lc (.int x :: st)) : V X G mc ms Q σ pc lc st := fun H locs ls hR hS h => lv_iload C.1 C.2.1 hd (lcok_at h hl) (kk H locs ls hR hS h)
theorem v_istore_n (C : Gd X G cc own nL d ret mc ms) {k : Fin 4} {i : Nat} {x : Int32} {lc1 : List (Option Value)} (hd : decode cc pc = .ok (.istore_n k, 1)) (hi : (k : Nat) = i) (hlt : i < lc.length) (e : stv lc i (.int x) = lc1) (kk : V X G mc ms Q σ (pc + 1) lc1 st) : V X G mc ms Q σ pc lc (.int x :: st) := fun H locs ls hR hS h => lv_istore_n C.1 C.2.1 hd hi h hlt rfl (fun ls1 h1 => kk H locs ls1 hR hS (e ▸ lcok_stv (ls := ls) hlt h1))
theorem v_istore (C : Gd X G cc own nL d ret mc ms) {i : Nat} {x : Int32} {lc1 : List (Option Value)} (hd : decode cc pc = .ok (.istore i, 2)) (hlt : i < lc.length) (e : stv lc i (.int x) = lc1) (kk : V X G mc ms Q σ (pc + 2) lc1 st) : V X G mc ms Q σ pc lc (.int x :: st) := fun H locs ls hR hS h => lv_istore C.1 C.2.1 hd h hlt rfl (fun ls1 h1 => kk H locs ls1 hR hS (e ▸ lcok_stv (ls := ls) hlt h1))
theorem v_lload_n (C : Gd X G cc own nL d ret mc ms) {k : Fin 4} {i : Nat} {x : Int64} (hd : decode cc pc = .ok (.lload_n k, 1)) (hi : (k : Nat) = i) (hl : lc[i]? = some (some (.long x))) (kk : V X G mc ms Q σ (pc + 1) lc (.long x :: st)) : V X G mc ms Q σ pc lc st := fun H locs ls hR hS h => lv_lload_n C.1 C.2.1 hd hi (lcok_at h hl) (kk H locs ls hR hS h)
theorem v_lload (C : Gd X G cc own nL d ret mc ms) {i : Nat} {x : Int64} (hd : decode cc pc = .ok (.lload i, 2)) (hl : lc[i]? = some (some (.long x))) (kk : V X G mc ms Q σ (pc + 2) lc (.long x :: st)) : V X G mc ms Q σ pc lc st := fun H locs ls hR hS h => lv_lload C.1 C.2.1 hd (lcok_at h hl) (kk H locs ls hR hS h)
theorem v_lstore_n (C : Gd X G cc own nL d ret mc ms) {k : Fin 4} {i : Nat} {x : Int64} {lc1 : List (Option Value)} (hd : decode cc pc = .ok (.lstore_n k, 1)) (hi : (k : Nat) = i) (hlt : i + 1 < lc.length) (e : stw lc i (.long x) = lc1) (kk : V X G mc ms Q σ (pc + 1) lc1 st) : V X G mc ms Q σ pc lc (.long x :: st) := fun H locs ls hR hS h => lv_lstore_n C.1 C.2.1 hd hi h hlt rfl (fun ls1 h1 => kk H locs ls1 hR hS (e ▸ lcok_stw (ls := ls) hlt h1))
theorem v_lstore (C : Gd X G cc own nL d ret mc ms) {i : Nat} {x : Int64} {lc1 : List (Option Value)} (hd : decode cc pc = .ok (.lstore i, 2)) (hlt : i + 1 < lc.length) (e : stw lc i (.long x) = lc1) (kk : V X G mc ms Q σ (pc + 2) lc1 st) : V X G mc ms Q σ pc lc (.long x :: st) := fun H locs ls hR hS h => lv_lstore C.1 C.2.1 hd h hlt rfl (fun ls1 h1 => kk H locs ls1 hR hS (e ▸ lcok_stw (ls := ls) hlt h1))
theorem v_aload_n (C : Gd X G cc own nL d ret mc ms) {k : Fin 4} {i : Nat} {x : Nat} (hd : decode cc pc = .ok (.aload_n k, 1)) (hi : (k : Nat) = i) (hl : lc[i]? = some (some (.ref x))) (kk : V X G mc ms Q σ (pc + 1) lc (.ref x :: st)) : V X G mc ms Q σ pc lc st := fun H locs ls hR hS h => lv_aload_n C.1 C.2.1 hd hi (lcok_at h hl) (kk H locs ls hR hS h)
theorem v_aload (C : Gd X G cc own nL d ret mc ms) {i : Nat} {x : Nat} (hd : decode cc pc = .ok (.aload i, 2)) (hl : lc[i]? = some (some (.ref x))) (kk : V X G mc ms Q σ (pc + 2) lc (.ref x :: st)) : V X G mc ms Q σ pc lc st := fun H locs ls hR hS h => lv_aload C.1 C.2.1 hd (lcok_at h hl) (kk H locs ls hR hS h)
theorem v_astore_n (C : Gd X G cc own nL d ret mc ms) {k : Fin 4} {i : Nat} {x : Nat} {lc1 : List (Option Value)} (hd : decode cc pc = .ok (.astore_n k, 1)) (hi : (k : Nat) = i) (hlt : i < lc.length) (e : stv lc i (.ref x) = lc1) (kk : V X G mc ms Q σ (pc + 1) lc1 st) : V X G mc ms Q σ pc lc (.ref x :: st) := fun H locs ls hR hS h => lv_astore_n C.1 C.2.1 hd hi h hlt rfl (fun ls1 h1 => kk H locs ls1 hR hS (e ▸ lcok_stv (ls := ls) hlt h1))
theorem v_astore (C : Gd X G cc own nL d ret mc ms) {i : Nat} {x : Nat} {lc1 : List (Option Value)} (hd : decode cc pc = .ok (.astore i, 2)) (hlt : i < lc.length) (e : stv lc i (.ref x) = lc1) (kk : V X G mc ms Q σ (pc + 2) lc1 st) : V X G mc ms Q σ pc lc (.ref x :: st) := fun H locs ls hR hS h => lv_astore C.1 C.2.1 hd h hlt rfl (fun ls1 h1 => kk H locs ls1 hR hS (e ▸ lcok_stv (ls := ls) hlt h1))
theorem v_iinc (C : Gd X G cc own nL d ret mc ms) {i : Nat} {n : Int} {x v : Int32} {lc1 : List (Option Value)} (hd : decode cc pc = .ok (.iinc i n, 3)) (hl : lc[i]? = some (some (.int x))) (hv : x + Int32.ofInt n = v) (e : stv lc i (.int v) = lc1) (kk : V X G mc ms Q σ (pc + 3) lc1 st) : V X G mc ms Q σ pc lc st := by
  intro H locs ls hR hS h
  obtain ⟨k, hk⟩ := List.getElem?_of_mem ((asc_mem lc 0 i _).mpr ⟨Nat.zero_le _, hl⟩)
  have hlt : i < lc.length := (List.getElem?_eq_some_iff.mp hl).1
  exact lv_iinc C.1 C.2.1 hd h hk hv hlt rfl (fun ls1 h1 => kk H locs ls1 hR hS (e ▸ lcok_stv (ls := ls) hlt h1))
theorem v_iadd (C : Gd X G cc own nL d ret mc ms) {x y : Int32} (hd : decode cc pc = .ok (.iadd, 1))  (kk : V X G mc ms Q σ (pc + 1) lc (.int (x + y) :: st)) : V X G mc ms Q σ pc lc (.int y :: .int x :: st) := fun H locs ls hR hS hl => lv_iadd C.1 C.2.1 hd  (kk H locs ls hR hS hl)
theorem v_isub (C : Gd X G cc own nL d ret mc ms) {x y : Int32} (hd : decode cc pc = .ok (.isub, 1))  (kk : V X G mc ms Q σ (pc + 1) lc (.int (x - y) :: st)) : V X G mc ms Q σ pc lc (.int y :: .int x :: st) := fun H locs ls hR hS hl => lv_isub C.1 C.2.1 hd  (kk H locs ls hR hS hl)
theorem v_imul (C : Gd X G cc own nL d ret mc ms) {x y : Int32} (hd : decode cc pc = .ok (.imul, 1))  (kk : V X G mc ms Q σ (pc + 1) lc (.int (x * y) :: st)) : V X G mc ms Q σ pc lc (.int y :: .int x :: st) := fun H locs ls hR hS hl => lv_imul C.1 C.2.1 hd  (kk H locs ls hR hS hl)
theorem v_iand (C : Gd X G cc own nL d ret mc ms) {x y : Int32} (hd : decode cc pc = .ok (.iand, 1))  (kk : V X G mc ms Q σ (pc + 1) lc (.int (x &&& y) :: st)) : V X G mc ms Q σ pc lc (.int y :: .int x :: st) := fun H locs ls hR hS hl => lv_iand C.1 C.2.1 hd  (kk H locs ls hR hS hl)
theorem v_ior (C : Gd X G cc own nL d ret mc ms) {x y : Int32} (hd : decode cc pc = .ok (.ior, 1))  (kk : V X G mc ms Q σ (pc + 1) lc (.int (x ||| y) :: st)) : V X G mc ms Q σ pc lc (.int y :: .int x :: st) := fun H locs ls hR hS hl => lv_ior C.1 C.2.1 hd  (kk H locs ls hR hS hl)
theorem v_ishl (C : Gd X G cc own nL d ret mc ms) {x y : Int32} (hd : decode cc pc = .ok (.ishl, 1))  (kk : V X G mc ms Q σ (pc + 1) lc (.int (x <<< (y &&& 31)) :: st)) : V X G mc ms Q σ pc lc (.int y :: .int x :: st) := fun H locs ls hR hS hl => lv_ishl C.1 C.2.1 hd  (kk H locs ls hR hS hl)
theorem v_ishr (C : Gd X G cc own nL d ret mc ms) {x y : Int32} (hd : decode cc pc = .ok (.ishr, 1))  (kk : V X G mc ms Q σ (pc + 1) lc (.int (x >>> (y &&& 31)) :: st)) : V X G mc ms Q σ pc lc (.int y :: .int x :: st) := fun H locs ls hR hS hl => lv_ishr C.1 C.2.1 hd  (kk H locs ls hR hS hl)
theorem v_ladd (C : Gd X G cc own nL d ret mc ms) {x y : Int64} (hd : decode cc pc = .ok (.ladd, 1))  (kk : V X G mc ms Q σ (pc + 1) lc (.long (x + y) :: st)) : V X G mc ms Q σ pc lc (.long y :: .long x :: st) := fun H locs ls hR hS hl => lv_ladd C.1 C.2.1 hd  (kk H locs ls hR hS hl)
theorem v_lsub (C : Gd X G cc own nL d ret mc ms) {x y : Int64} (hd : decode cc pc = .ok (.lsub, 1))  (kk : V X G mc ms Q σ (pc + 1) lc (.long (x - y) :: st)) : V X G mc ms Q σ pc lc (.long y :: .long x :: st) := fun H locs ls hR hS hl => lv_lsub C.1 C.2.1 hd  (kk H locs ls hR hS hl)
theorem v_lmul (C : Gd X G cc own nL d ret mc ms) {x y : Int64} (hd : decode cc pc = .ok (.lmul, 1))  (kk : V X G mc ms Q σ (pc + 1) lc (.long (x * y) :: st)) : V X G mc ms Q σ pc lc (.long y :: .long x :: st) := fun H locs ls hR hS hl => lv_lmul C.1 C.2.1 hd  (kk H locs ls hR hS hl)
theorem v_idiv (C : Gd X G cc own nL d ret mc ms) {x y : Int32} (hd : decode cc pc = .ok (.idiv, 1)) (hne : ¬ y = 0) (kk : V X G mc ms Q σ (pc + 1) lc (.int (x / y) :: st)) : V X G mc ms Q σ pc lc (.int y :: .int x :: st) := fun H locs ls hR hS hl => lv_idiv C.1 C.2.1 hd hne (kk H locs ls hR hS hl)
theorem v_irem (C : Gd X G cc own nL d ret mc ms) {x y : Int32} (hd : decode cc pc = .ok (.irem, 1)) (hne : ¬ y = 0) (kk : V X G mc ms Q σ (pc + 1) lc (.int (x - x / y * y) :: st)) : V X G mc ms Q σ pc lc (.int y :: .int x :: st) := fun H locs ls hR hS hl => lv_irem C.1 C.2.1 hd hne (kk H locs ls hR hS hl)
theorem v_ldiv (C : Gd X G cc own nL d ret mc ms) {x y : Int64} (hd : decode cc pc = .ok (.ldiv, 1)) (hne : ¬ y = 0) (kk : V X G mc ms Q σ (pc + 1) lc (.long (x / y) :: st)) : V X G mc ms Q σ pc lc (.long y :: .long x :: st) := fun H locs ls hR hS hl => lv_ldiv C.1 C.2.1 hd hne (kk H locs ls hR hS hl)
theorem v_ineg (C : Gd X G cc own nL d ret mc ms) {x : Int32} (hd : decode cc pc = .ok (.ineg, 1))  (kk : V X G mc ms Q σ (pc + 1) lc (.int (-x) :: st)) : V X G mc ms Q σ pc lc (.int x :: st) := fun H locs ls hR hS hl => lv_ineg C.1 C.2.1 hd  (kk H locs ls hR hS hl)
theorem v_i2l (C : Gd X G cc own nL d ret mc ms) {x : Int32} (hd : decode cc pc = .ok (.i2l, 1))  (kk : V X G mc ms Q σ (pc + 1) lc (.long x.toInt64 :: st)) : V X G mc ms Q σ pc lc (.int x :: st) := fun H locs ls hR hS hl => lv_i2l C.1 C.2.1 hd rfl (kk H locs ls hR hS hl)
theorem v_l2i (C : Gd X G cc own nL d ret mc ms) {x : Int64} (hd : decode cc pc = .ok (.l2i, 1))  (kk : V X G mc ms Q σ (pc + 1) lc (.int x.toInt32 :: st)) : V X G mc ms Q σ pc lc (.long x :: st) := fun H locs ls hR hS hl => lv_l2i C.1 C.2.1 hd rfl (kk H locs ls hR hS hl)
theorem v_i2c (C : Gd X G cc own nL d ret mc ms) {x : Int32} (hd : decode cc pc = .ok (.i2c, 1))  (kk : V X G mc ms Q σ (pc + 1) lc (.int (x.toUInt32 % 65536).toInt32 :: st)) : V X G mc ms Q σ pc lc (.int x :: st) := fun H locs ls hR hS hl => lv_i2c C.1 C.2.1 hd rfl (kk H locs ls hR hS hl)
theorem v_lcmp (C : Gd X G cc own nL d ret mc ms) {x y : Int64} (hd : decode cc pc = .ok (.lcmp, 1))  (kk : V X G mc ms Q σ (pc + 1) lc (.int (lg_cmp x y) :: st)) : V X G mc ms Q σ pc lc (.long y :: .long x :: st) := fun H locs ls hR hS hl => W.lcmp C.1 C.2.1 hd  (kk H locs ls hR hS hl)
theorem v_dup (C : Gd X G cc own nL d ret mc ms) {va : Value} (hd : decode cc pc = .ok (.dup, 1)) (h1 : va.category = 1) (kk : V X G mc ms Q σ (pc + 1) lc (va :: va :: st)) : V X G mc ms Q σ pc lc (va :: st) := fun H locs ls hR hS hl => lv_dup C.1 C.2.1 hd h1 (kk H locs ls hR hS hl)
theorem v_dup2 (C : Gd X G cc own nL d ret mc ms) {va vb : Value} (hd : decode cc pc = .ok (.dup2, 1)) (h1 : va.category = 1) (h2 : vb.category = 1) (kk : V X G mc ms Q σ (pc + 1) lc (va :: vb :: va :: vb :: st)) : V X G mc ms Q σ pc lc (va :: vb :: st) := fun H locs ls hR hS hl => lv_dup2_11 C.1 C.2.1 hd h1 h2 (kk H locs ls hR hS hl)
theorem v_pop (C : Gd X G cc own nL d ret mc ms) {va : Value} (hd : decode cc pc = .ok (.pop, 1)) (h1 : va.category = 1) (kk : V X G mc ms Q σ (pc + 1) lc (st)) : V X G mc ms Q σ pc lc (va :: st) := fun H locs ls hR hS hl => lv_pop C.1 C.2.1 hd h1 (kk H locs ls hR hS hl)
theorem v_goto (C : Gd X G cc own nL d ret mc ms) {off : Int} {tgt : Nat} (hd : decode cc pc = .ok (.goto off, 3)) (ht : (pc : Int) + off = (tgt : Int)) (kk : V X G mc ms Q σ tgt lc st) : V X G mc ms Q σ pc lc st := fun H locs ls hR hS hl => lv_goto C.1 C.2.1 hd ht (kk H locs ls hR hS hl)
theorem v_if_ne (C : Gd X G cc own nL d ret mc ms) {R : Type} {x : Int32} {off : Int} {tgt : Nat} {A B : Option R} {res : R} (hd : decode cc pc = .ok (.ifCond .ne off, 3)) (ht : (pc : Int) + off = (tgt : Int)) (h : (if x = 0 then B else A) = some res) (kt : A = some res → V X G mc ms Q σ tgt lc st) (kf : B = some res → V X G mc ms Q σ (pc + 3) lc st) : V X G mc ms Q σ pc lc (.int x :: st) := fun H locs ls hR hS hl => lv_if_ne C.1 C.2.1 hd ht (fun p => kt (by rwa [if_neg p] at h) H locs ls hR hS hl) (fun p => kf (by rwa [if_pos p] at h) H locs ls hR hS hl)
theorem v_icmp_ne (C : Gd X G cc own nL d ret mc ms) {R : Type} {x y : Int32} {off : Int} {tgt : Nat} {A B : Option R} {res : R} (hd : decode cc pc = .ok (.if_icmp .ne off, 3)) (ht : (pc : Int) + off = (tgt : Int)) (h : (if x = y then B else A) = some res) (kt : A = some res → V X G mc ms Q σ tgt lc st) (kf : B = some res → V X G mc ms Q σ (pc + 3) lc st) : V X G mc ms Q σ pc lc (.int y :: .int x :: st) := fun H locs ls hR hS hl => lv_icmp_ne C.1 C.2.1 hd ht (fun p => kt (by rwa [if_neg p] at h) H locs ls hR hS hl) (fun p => kf (by rwa [if_pos p] at h) H locs ls hR hS hl)
theorem v_if_eq (C : Gd X G cc own nL d ret mc ms) {R : Type} {x : Int32} {off : Int} {tgt : Nat} {A B : Option R} {res : R} (hd : decode cc pc = .ok (.ifCond .eq off, 3)) (ht : (pc : Int) + off = (tgt : Int)) (h : (if x = 0 then A else B) = some res) (kt : A = some res → V X G mc ms Q σ tgt lc st) (kf : B = some res → V X G mc ms Q σ (pc + 3) lc st) : V X G mc ms Q σ pc lc (.int x :: st) := fun H locs ls hR hS hl => lv_if_eq C.1 C.2.1 hd ht (fun p => kt (by rwa [if_pos p] at h) H locs ls hR hS hl) (fun p => kf (by rwa [if_neg p] at h) H locs ls hR hS hl)
theorem v_icmp_eq (C : Gd X G cc own nL d ret mc ms) {R : Type} {x y : Int32} {off : Int} {tgt : Nat} {A B : Option R} {res : R} (hd : decode cc pc = .ok (.if_icmp .eq off, 3)) (ht : (pc : Int) + off = (tgt : Int)) (h : (if x = y then A else B) = some res) (kt : A = some res → V X G mc ms Q σ tgt lc st) (kf : B = some res → V X G mc ms Q σ (pc + 3) lc st) : V X G mc ms Q σ pc lc (.int y :: .int x :: st) := fun H locs ls hR hS hl => lv_icmp_eq C.1 C.2.1 hd ht (fun p => kt (by rwa [if_pos p] at h) H locs ls hR hS hl) (fun p => kf (by rwa [if_neg p] at h) H locs ls hR hS hl)
theorem v_if_lt (C : Gd X G cc own nL d ret mc ms) {R : Type} {x : Int32} {off : Int} {tgt : Nat} {A B : Option R} {res : R} (hd : decode cc pc = .ok (.ifCond .lt off, 3)) (ht : (pc : Int) + off = (tgt : Int)) (h : (if x < 0 then A else B) = some res) (kt : A = some res → V X G mc ms Q σ tgt lc st) (kf : B = some res → V X G mc ms Q σ (pc + 3) lc st) : V X G mc ms Q σ pc lc (.int x :: st) := fun H locs ls hR hS hl => lv_if_lt C.1 C.2.1 hd ht (fun p => kt (by rwa [if_pos p] at h) H locs ls hR hS hl) (fun p => kf (by rwa [if_neg p] at h) H locs ls hR hS hl)
theorem v_icmp_lt (C : Gd X G cc own nL d ret mc ms) {R : Type} {x y : Int32} {off : Int} {tgt : Nat} {A B : Option R} {res : R} (hd : decode cc pc = .ok (.if_icmp .lt off, 3)) (ht : (pc : Int) + off = (tgt : Int)) (h : (if x < y then A else B) = some res) (kt : A = some res → V X G mc ms Q σ tgt lc st) (kf : B = some res → V X G mc ms Q σ (pc + 3) lc st) : V X G mc ms Q σ pc lc (.int y :: .int x :: st) := fun H locs ls hR hS hl => lv_icmp_lt C.1 C.2.1 hd ht (fun p => kt (by rwa [if_pos p] at h) H locs ls hR hS hl) (fun p => kf (by rwa [if_neg p] at h) H locs ls hR hS hl)
theorem v_if_ge (C : Gd X G cc own nL d ret mc ms) {R : Type} {x : Int32} {off : Int} {tgt : Nat} {A B : Option R} {res : R} (hd : decode cc pc = .ok (.ifCond .ge off, 3)) (ht : (pc : Int) + off = (tgt : Int)) (h : (if 0 ≤ x then A else B) = some res) (kt : A = some res → V X G mc ms Q σ tgt lc st) (kf : B = some res → V X G mc ms Q σ (pc + 3) lc st) : V X G mc ms Q σ pc lc (.int x :: st) := fun H locs ls hR hS hl => lv_if_ge C.1 C.2.1 hd ht (fun p => kt (by rwa [if_pos p] at h) H locs ls hR hS hl) (fun p => kf (by rwa [if_neg p] at h) H locs ls hR hS hl)
theorem v_icmp_ge (C : Gd X G cc own nL d ret mc ms) {R : Type} {x y : Int32} {off : Int} {tgt : Nat} {A B : Option R} {res : R} (hd : decode cc pc = .ok (.if_icmp .ge off, 3)) (ht : (pc : Int) + off = (tgt : Int)) (h : (if y ≤ x then A else B) = some res) (kt : A = some res → V X G mc ms Q σ tgt lc st) (kf : B = some res → V X G mc ms Q σ (pc + 3) lc st) : V X G mc ms Q σ pc lc (.int y :: .int x :: st) := fun H locs ls hR hS hl => lv_icmp_ge C.1 C.2.1 hd ht (fun p => kt (by rwa [if_pos p] at h) H locs ls hR hS hl) (fun p => kf (by rwa [if_neg p] at h) H locs ls hR hS hl)
theorem v_if_gt (C : Gd X G cc own nL d ret mc ms) {R : Type} {x : Int32} {off : Int} {tgt : Nat} {A B : Option R} {res : R} (hd : decode cc pc = .ok (.ifCond .gt off, 3)) (ht : (pc : Int) + off = (tgt : Int)) (h : (if 0 < x then A else B) = some res) (kt : A = some res → V X G mc ms Q σ tgt lc st) (kf : B = some res → V X G mc ms Q σ (pc + 3) lc st) : V X G mc ms Q σ pc lc (.int x :: st) := fun H locs ls hR hS hl => lv_if_gt C.1 C.2.1 hd ht (fun p => kt (by rwa [if_pos p] at h) H locs ls hR hS hl) (fun p => kf (by rwa [if_neg p] at h) H locs ls hR hS hl)
theorem v_icmp_gt (C : Gd X G cc own nL d ret mc ms) {R : Type} {x y : Int32} {off : Int} {tgt : Nat} {A B : Option R} {res : R} (hd : decode cc pc = .ok (.if_icmp .gt off, 3)) (ht : (pc : Int) + off = (tgt : Int)) (h : (if y < x then A else B) = some res) (kt : A = some res → V X G mc ms Q σ tgt lc st) (kf : B = some res → V X G mc ms Q σ (pc + 3) lc st) : V X G mc ms Q σ pc lc (.int y :: .int x :: st) := fun H locs ls hR hS hl => lv_icmp_gt C.1 C.2.1 hd ht (fun p => kt (by rwa [if_pos p] at h) H locs ls hR hS hl) (fun p => kf (by rwa [if_neg p] at h) H locs ls hR hS hl)
theorem v_if_le (C : Gd X G cc own nL d ret mc ms) {R : Type} {x : Int32} {off : Int} {tgt : Nat} {A B : Option R} {res : R} (hd : decode cc pc = .ok (.ifCond .le off, 3)) (ht : (pc : Int) + off = (tgt : Int)) (h : (if x ≤ 0 then A else B) = some res) (kt : A = some res → V X G mc ms Q σ tgt lc st) (kf : B = some res → V X G mc ms Q σ (pc + 3) lc st) : V X G mc ms Q σ pc lc (.int x :: st) := fun H locs ls hR hS hl => lv_if_le C.1 C.2.1 hd ht (fun p => kt (by rwa [if_pos p] at h) H locs ls hR hS hl) (fun p => kf (by rwa [if_neg p] at h) H locs ls hR hS hl)
theorem v_icmp_le (C : Gd X G cc own nL d ret mc ms) {R : Type} {x y : Int32} {off : Int} {tgt : Nat} {A B : Option R} {res : R} (hd : decode cc pc = .ok (.if_icmp .le off, 3)) (ht : (pc : Int) + off = (tgt : Int)) (h : (if x ≤ y then A else B) = some res) (kt : A = some res → V X G mc ms Q σ tgt lc st) (kf : B = some res → V X G mc ms Q σ (pc + 3) lc st) : V X G mc ms Q σ pc lc (.int y :: .int x :: st) := fun H locs ls hR hS hl => lv_icmp_le C.1 C.2.1 hd ht (fun p => kt (by rwa [if_pos p] at h) H locs ls hR hS hl) (fun p => kf (by rwa [if_neg p] at h) H locs ls hR hS hl)
theorem v_tin (C : Gd X G cc own nL d ret mc ms) {dflt lo hi : Int} {offs : Array Int} {len : Nat} {x : Int32} {off : Int} {tgt : Nat} (hd : decode cc pc = .ok (.tableswitch dflt lo hi offs, len)) (h1 : ¬ x.toInt < lo) (h2 : ¬ hi < x.toInt) (ho : offs[(x.toInt - lo).toNat]? = some off) (ht : (pc : Int) + off = (tgt : Int)) (kk : V X G mc ms Q σ tgt lc st) : V X G mc ms Q σ pc lc (.int x :: st) := fun H locs ls hR hS hl => lv_tableIn C.1 C.2.1 hd h1 h2 ho ht (kk H locs ls hR hS hl)
theorem v_tout (C : Gd X G cc own nL d ret mc ms) {dflt lo hi : Int} {offs : Array Int} {len : Nat} {x : Int32} {tgt : Nat} (hd : decode cc pc = .ok (.tableswitch dflt lo hi offs, len)) (h : x.toInt < lo ∨ hi < x.toInt) (ht : (pc : Int) + dflt = (tgt : Int)) (kk : V X G mc ms Q σ tgt lc st) : V X G mc ms Q σ pc lc (.int x :: st) := fun H locs ls hR hS hl => lv_tableOut C.1 C.2.1 hd h ht (kk H locs ls hR hS hl)
theorem tne {x : Int32} {k : Int32} {a : Int} (h : ¬ x = k) (hk : k.toInt = a) : x.toInt ≠ a := fun e => h (Int32.toInt_inj.mp (e.trans hk.symm))
/-- a field that holds a number -/
theorem v_geti (C : Gd X G cc own nL d ret mc ms) {CC : String} {T : u_T} {N : Nat} (κ j l k f : Nat) {index : Nat} {fs : List Value} (hk : okt κ j l) (hc : clz[κ]? = some (CC, T, N)) (hin : ∀ w ∈ u_ws CC T N, w ∈ wsA) (hkn : k < N) (hlink : Cond.fieldLink own index CC (T k).2.1 (T k).2.2.1 ∈ wsA) (hT : (T k).1 = CC) (he : cE G σ κ j l = .inr (κ, fs)) (hv : fs[k]? = some (.int (σ.1 f j l))) (hd : decode cc pc = .ok (.getfield index, 3))
    (kk : V X G mc ms Q σ (pc + 3) lc (.int (σ.1 f j l) :: st)) : V X G mc ms Q σ pc lc (.ref (ad G κ j l) :: st) := fun H locs ls hR hS hl =>
  va_get (D := G.2.2.1) (ci := κ) C.1 C.2.1 C.2.2.2.2.1 hin C.2.2.2.1 C.2.2.2.2.2.1.1 hR.1 (off κ j l) (by rw [wl_get hk, he]) hc k hkn (C.2.2.2.2.1 _ hlink) (fun x h => by rw [hT] at h; exact h) hv hd (kk H locs ls hR hS hl)
/-- a field that holds a reference -/
theorem v_getr (C : Gd X G cc own nL d ret mc ms) {CC : String} {T : u_T} {N : Nat} (κ j l k a : Nat) {index : Nat} {fs : List Value} (hk : okt κ j l) (hc : clz[κ]? = some (CC, T, N)) (hin : ∀ w ∈ u_ws CC T N, w ∈ wsA) (hkn : k < N) (hlink : Cond.fieldLink own index CC (T k).2.1 (T k).2.2.1 ∈ wsA) (hT : (T k).1 = CC) (he : cE G σ κ j l = .inr (κ, fs)) (hv : fs[k]? = some (.ref a)) (hd : decode cc pc = .ok (.getfield index, 3))
    (kk : V X G mc ms Q σ (pc + 3) lc (.ref a :: st)) : V X G mc ms Q σ pc lc (.ref (ad G κ j l) :: st) := fun H locs ls hR hS hl =>
  va_get (D := G.2.2.1) (ci := κ) C.1 C.2.1 C.2.2.2.2.1 hin C.2.2.2.1 C.2.2.2.2.2.1.1 hR.1 (off κ j l) (by rw [wl_get hk, he]) hc k hkn (C.2.2.2.2.1 _ hlink) (fun x h => by rw [hT] at h; exact h) hv hd (kk H locs ls hR hS hl)
/-- a number is put into a field -/
theorem v_puti (C : Gd X G cc own nL d ret mc ms) {CC : String} {T : u_T} {N : Nat} (κ j l k f : Nat) {index : Nat} {fs : List Value} {v : Int32} {ty : FieldType} (ty0 : Nat → FieldType) (hk : okt κ j l) (hc : clz[κ]? = some (CC, T, N)) (hin : ∀ w ∈ u_ws CC T N, w ∈ wsA) (hty : ∀ k, k < N → parseFieldDescriptor (T k).2.2.1 = some (ty0 k)) (hnm : ∀ a, a < N → ∀ b, b < N → a ≠ b → (T a).2.1 ≠ (T b).2.1) (hkn : k < N) (hlink : Cond.fieldLink own index CC (T k).2.1 (T k).2.2.1 ∈ wsA) (hT : (T k).1 = CC) (hfin : (T k).2.2.2 = false) (hdsc : parseFieldDescriptor (T k).2.2.1 = some ty) (hn : narrow ty (.int v) = .int v) (hfit : fits ty (.int v) = true) (hκ : κ < 11) (hf : 16 * κ ≤ f ∧ f < 16 * κ + 16) (he : cE G σ κ j l = .inr (κ, fs)) (hl9 : k < fs.length) (he2 : .inr (κ, fs.set k (.int v)) = cE G (up σ f j l v) κ j l) (hd : decode cc pc = .ok (.putfield index, 3))
    (kk : V X G mc ms Q (up σ f j l v) (pc + 3) lc st) : V X G mc ms Q σ pc lc (.int v :: .ref (ad G κ j l) :: st) := fun H locs ls hR hS hl =>
  va_put (D := G.2.2.1) (ci := κ) C.1 C.2.1 C.2.2.2.2.1 hin ty0 hty hnm C.2.2.2.1 C.2.2.2.2.2.1.1 hR.1 wl_D hS (off κ j l) (by rw [wl_get hk, he]) hc k hkn (C.2.2.2.2.1 _ hlink) (fun x h => by rw [hT] at h; exact h) hfin hdsc hn hfit hl9 hd (fun H1 locs1 hP _ hS1 => kk H1 locs1 ls ⟨wl_put hk hκ hf he2 ▸ hP, hR.2⟩ hS1 hl)
/-- arrays of numbers -/
theorem upd_up {σ : Sto} {f j i : Nat} {v : Int32} : upd (σ.1 f j) i v = (up σ f j i v).1 f j := by
  funext k
  simp only [upd, up, true_and]
theorem v_iald (C : Gd X G cc own nL d ret mc ms) {R : Type} (κ j f n : Nat) {i : Int32} {A : Option R} {res : R} (hk : okt κ j 0) (he : cE G σ κ j 0 = ia G σ f j n) (hd : decode cc pc = .ok (.iaload, 1)) (h : (if inb i n then A else none) = some res)
    (kk : A = some res → V X G mc ms Q σ (pc + 1) lc (.int (σ.1 f j i.toNatClampNeg) :: st)) : V X G mc ms Q σ pc lc (.int i :: .ref (ad G κ j 0) :: st) := fun H locs ls hR hS hl =>
  va_iald C.1 C.2.1 C.2.2.2.2.2.1.1 hR.1 (off κ j 0) 0 (by rw [wl_get hk, he]; rfl) rfl (vp_in_iff.mpr (if_some h).1) hd (kk (if_some h).2 H locs ls hR hS hl)
theorem v_iast (C : Gd X G cc own nL d ret mc ms) {R : Type} (κ j f n : Nat) {i v : Int32} {A : Option R} {res : R} (hk : okt κ j 0) (hκ : 11 ≤ κ) (hf : f = 16 * κ) (he : ∀ τ : Sto, cE G τ κ j 0 = ia G τ f j n) (hd : decode cc pc = .ok (.iastore, 1)) (h : (if inb i n then A else none) = some res)
    (kk : A = some res → V X G mc ms Q (up σ f j i.toNatClampNeg v) (pc + 1) lc st) : V X G mc ms Q σ pc lc (.int v :: .int i :: .ref (ad G κ j 0) :: st) := fun H locs ls hR hS hl =>
  va_iast C.1 C.2.1 C.2.2.2.2.2.1.1 hR.1 wl_D hS (off κ j 0) 0 (by rw [wl_get hk, he]; rfl) rfl (vp_in_iff.mpr (if_some h).1) hd (fun H1 locs1 hP _ hS1 => kk (if_some h).2 H1 locs1 ls ⟨by rw [upd_up] at hP; rw [← wl_puta (i := i.toNatClampNeg) (v := v) hk hκ hf rfl, he]; exact hP, hR.2⟩ hS1 hl)
theorem v_cald (C : Gd X G cc own nL d ret mc ms) {R : Type} {i : Int32} {A : Option R} {res : R} (hd : decode cc pc = .ok (.caload, 1)) (h : (if inb i 60 then A else none) = some res)
    (kk : A = some res → V X G mc ms Q σ (pc + 1) lc (.int (σ.1 256 0 i.toNatClampNeg) :: st)) : V X G mc ms Q σ pc lc (.int i :: .ref (ad G 16 0 0) :: st) := fun H locs ls hR hS hl =>
  va_cald C.1 C.2.1 C.2.2.2.2.2.1.1 hR.1 (off 16 0 0) 1 (by rw [wl_get (by unfold okt; decide)]; rfl) rfl (vp_in_iff.mpr (if_some h).1) hd (kk (if_some h).2 H locs ls hR hS hl)
theorem v_cast (C : Gd X G cc own nL d ret mc ms) {R : Type} {i v : Int32} {A : Option R} {res : R} (hd : decode cc pc = .ok (.castore, 1)) (h : (if inb i 60 then A else none) = some res)
    (kk : A = some res → V X G mc ms Q (up σ 256 0 i.toNatClampNeg (vp_nar .char v)) (pc + 1) lc st) : V X G mc ms Q σ pc lc (.int v :: .int i :: .ref (ad G 16 0 0) :: st) := fun H locs ls hR hS hl =>
  va_cast C.1 C.2.1 C.2.2.2.2.2.1.1 hR.1 wl_D hS (off 16 0 0) 1 (by rw [wl_get (by unfold okt; decide)]; rfl) rfl (vp_in_iff.mpr (if_some h).1) hd (fun H1 locs1 hP _ hS1 => kk (if_some h).2 H1 locs1 ls ⟨by rw [upd_up] at hP; rw [← wl_puta (κ := 16) (j := 0) (i := i.toNatClampNeg) (v := vp_nar .char v) (by unfold okt; decide) (by decide) rfl rfl]; exact hP, hR.2⟩ hS1 hl)
/-- arrays of references: their rows stand -/
theorem v_aald (C : Gd X G cc own nL d ret mc ms) {R : Type} (κ j n t c : Nat) (g : Nat → Nat) {CN : String} {i : Int32} {A : Option R} {res : R} (hk : okt κ j 0) (ht : (tysG G)[t]? = some (G.2.2.2 c, .object CN)) (he : cE G σ κ j 0 = ra G c n g) (hd : decode cc pc = .ok (.aaload, 1)) (h : (if inb i n then A else none) = some res)
    (kk : A = some res → V X G mc ms Q σ (pc + 1) lc (.ref (g i.toNatClampNeg) :: st)) : V X G mc ms Q σ pc lc (.int i :: .ref (ad G κ j 0) :: st) := fun H locs ls hR hS hl =>
  va_aldq (f := fun i => some (g i)) C.1 C.2.1 C.2.2.2.2.2.1.1 hR.1 (off κ j 0) t (by rw [wl_get hk, he]; rfl) ht (vp_in_iff.mpr (if_some h).1) hd (kk (if_some h).2 H locs ls hR hS hl)
theorem up_upH {σ : Sto} {i m : Nat} : .inl (G.2.2.2 5, 4, .inr (.inr (.inr (.inr (va_up (fun i => some (ad G 5 (σ.2 i) 0)) i (some (ad G 5 m 0))))))) = cE G (upH σ i m) 15 0 0 := by
  have e : va_up (fun i => some (ad G 5 (σ.2 i) 0)) i (some (ad G 5 m 0)) = fun k => some (ad G 5 ((upH σ i m).2 k) 0) := by
    funext k
    simp only [va_up, upH]
    split <;> rfl
  rw [e]
  rfl
theorem v_aast (C : Gd X G cc own nL d ret mc ms) {R : Type} (m : Nat) {i : Int32} {A : Option R} {res : R} (hm : m < 7) (hd : decode cc pc = .ok (.aastore, 1)) (h : (if inb i 4 then A else none) = some res)
    (kk : A = some res → V X G mc ms Q (upH σ i.toNatClampNeg m) (pc + 1) lc st) : V X G mc ms Q σ pc lc (.ref (ad G 5 m 0) :: .int i :: .ref (ad G 15 0 0) :: st) := fun H locs ls hR hS hl =>
  va_astq (r := (RX5, TX5, 10)) C.1 C.2.1 C.2.2.2.2.2.1.1 hR.1 wl_D hS (off 15 0 0) 5 (off 5 m 0) 5 (by rw [wl_get (by unfold okt; decide)]; rfl) rfl (by rw [wl_get ⟨by decide, hm, by decide⟩]; rfl) rfl (vp_in_iff.mpr (if_some h).1) hd (fun H1 locs1 hP _ hS1 => kk (if_some h).2 H1 locs1 ls ⟨by rw [← wl_putH (i := i.toNatClampNeg) (m := m) rfl, ← up_upH]; exact hP, fun x => by show (if x = _ then m else σ.2 x) < 7; split; exact hm; exact hR.2 x⟩ hS1 hl)
theorem v_alen (C : Gd X G cc own nL d ret mc ms) (κ j n t c : Nat) {ty : FieldType} {x : vp_A} {v : Int32} (hk : okt κ j 0) (ht : (tysG G)[t]? = some (G.2.2.2 c, ty)) (he : cE G σ κ j 0 = .inl (G.2.2.2 c, x)) (hv : Int32.ofNat x.1 = v) (hd : decode cc pc = .ok (.arraylength, 1))
    (kk : V X G mc ms Q σ (pc + 1) lc (.int v :: st)) : V X G mc ms Q σ pc lc (.ref (ad G κ j 0) :: st) := fun H locs ls hR hS hl =>
  va_alen C.1 C.2.1 C.2.2.2.2.2.1.1 hR.1 (off κ j 0) t (by rw [wl_get hk, he]) ht hv hd (kk H locs ls hR hS hl)
/-- the fees -/
theorem v_fees (C : Gd X G cc own nL d ret mc ms) {index : Nat} (hlink : Cond.fieldLink own index "PeerNotes" "FEES" "[I" ∈ wsA) (hd : decode cc pc = .ok (.getstatic index, 3)) (kk : V X G mc ms Q σ (pc + 3) lc (.ref G.2.1 :: st)) : V X G mc ms Q σ pc lc st := fun H locs ls hR hS hl =>
  va_gets C.1 C.2.1 C.2.2.2.2.2.2.1.1 hS C.2.2.2.1 (C.2.2.2.2.1 _ hlink) (fun x h => h) hd (kk H locs ls hR hS hl)
theorem v_feesN (C : Gd X G cc own nL d ret mc ms) (ho : own = "PeerNotes$Market") (hd : decode cc pc = .ok (.getstatic 29, 3)) (kk : V X G mc ms Q σ (pc + 3) lc (.ref G.2.1 :: st)) : V X G mc ms Q σ pc lc st := fun H locs ls hR hS hl =>
  va_getsN (host := "PeerNotes") C.1 C.2.1 C.2.2.2.2.2.2.1.1 hS C.2.2.2.1 (by rw [ho]; exact va_Nw.use rfl C.2.2.2.2.2.1.2.1) (fun x h => h) hd (kk H locs ls hR hS hl)
theorem v_feeld (C : Gd X G cc own nL d ret mc ms) {R : Type} {i : Int32} {A : Option R} {res : R} (hd : decode cc pc = .ok (.iaload, 1)) (h : (if inb i 4 then A else none) = some res) (kk : A = some res → V X G mc ms Q σ (pc + 1) lc (.int (feeI i.toNatClampNeg) :: st)) : V X G mc ms Q σ pc lc (.int i :: .ref G.2.1 :: st) := fun H locs ls hR hS hl =>
  va_ti C.1 C.2.1 C.2.2.2.2.2.2.1.2 hS (vp_in_iff.mpr (if_some h).1) rfl hd (kk (if_some h).2 H locs ls hR hS hl)
theorem v_feelen (C : Gd X G cc own nL d ret mc ms) (hd : decode cc pc = .ok (.arraylength, 1)) (kk : V X G mc ms Q σ (pc + 1) lc (.int 4 :: st)) : V X G mc ms Q σ pc lc (.ref G.2.1 :: st) := fun H locs ls hR hS hl =>
  va_tlen C.1 C.2.1 C.2.2.2.2.2.2.1.2 hS rfl hd (kk H locs ls hR hS hl)

end V1
end
section
/-! CONTRACTS AND CALLS -/
abbrev Ym : Type := MethodName × ByteArray × Nat × Option FieldType
def rmd (d : Nat) : Room := { frames := d, cells := 0, slots := 0, locals := 41 * d }
def wsY (y : Ym) : List Cond := .code y.1 y.2.1 y.2.2.1 y.2.2.2 :: wsA
def QcR (G : Gm) (r : Option Value) (τ : Sto) : Array Value → State → Outcome → State → Prop := fun _ st oc t => (oc = .returned r ∧ Rep G τ t.heap) ∧ va_F (AG G) st t
/-- the contract: from a world with σ the call of y with these values returns r and leaves the world with τ; d: the depth of calls that it may need -/
def Cl (G : Gm) (d : Nat) (y : Ym) (av : List Value) (σ : Sto) (r : Option Value) (τ : Sto) : Prop := ∀ l : Launch, Met l y.1 (wsY y) (rmd d) (va_Pc av (Wd G σ)) (QcR G r τ) 0 0 (AG G)
def QE (X : Cx) (G : Gm) (r : Option Value) (τ : Sto) : State → Prop := MQ X.2.2.2.2.2.2.2.1 (QcR G r τ) (cxA X) (cxS X) 0 0 (AG G)
def ent (av : List Value) (n : Nat) : List (Option Value) := av.map some ++ List.replicate (n - av.length) none
theorem lg_sl_1 : ∀ {av : List Value}, (∀ v ∈ av, v.category = 1) → lg_sl av = av.map Slot.val
  | [], _ => rfl
  | v :: av, h => by
    have h1 := h v List.mem_cons_self
    have h2 := lg_sl_1 (av := av) (fun w hw => h w (List.mem_cons_of_mem _ hw))
    show (if v.category = 2 then _ else _) ++ lg_sl av = _
    rw [if_neg (by omega), h2]
    rfl
theorem lv_args_1 : ∀ (av : List Value) (i : Nat), (∀ v ∈ av, v.category = 1) → ∀ (k : Nat) (w : Value), i ≤ k → av[k - i]? = some w → (k, w) ∈ lv_args i av
  | [], _, _, _, _, _, h => by simp at h
  | v :: av, i, hc, k, w, hk, h => by
    have h1 := hc v List.mem_cons_self
    show (k, w) ∈ (i, v) :: lv_args (if v.category = 2 then i + 2 else i + 1) av
    rw [if_neg (by omega)]
    rcases Nat.eq_or_lt_of_le hk with e | e
    · subst e
      rw [Nat.sub_self] at h
      cases h
      exact List.mem_cons_self
    · refine List.mem_cons_of_mem _ (lv_args_1 av (i + 1) (fun w hw => hc w (List.mem_cons_of_mem _ hw)) k w e ?_)
      rw [show k - i = (k - (i + 1)) + 1 by omega, List.getElem?_cons_succ] at h
      exact h
theorem lcok_ent {av : List Value} {n : Nat} (hc : ∀ v ∈ av, v.category = 1) (hn : av.length ≤ n) : lcok ((lg_sl av ++ List.replicate (n - (lg_sl av).length) Slot.unset).toArray) (ent av n) := by
  have h := lv_entry av (n := n) (by rw [lg_sl_1 hc, List.length_map]; exact hn)
  have hl : (ent av n).length = n := by simp only [ent, List.length_append, List.length_map, List.length_replicate]; omega
  refine ⟨by rw [hl]; exact h.1, h.2.1, fun q hq => ?_⟩
  obtain ⟨k, w⟩ := q
  have hk := ((asc_mem _ 0 k w).mp hq).2
  rw [Nat.sub_zero, ent] at hk
  refine h.2.2 (k, w) (lv_args_1 av 0 hc k w (Nat.zero_le _) ?_)
  rw [Nat.sub_zero]
  by_cases hlt : k < av.length
  · rw [List.getElem?_append_left (by simpa using hlt), List.getElem?_map] at hk
    rcases hx : av[k]? with _ | z <;> rw [hx] at hk <;> simp at hk
    rw [hk]
  · rw [List.getElem?_append_right (by simpa using hlt)] at hk
    have := List.eq_of_mem_replicate (List.mem_of_getElem? hk)
    cases this
theorem Cl.mk {G : Gm} {d : Nat} {y : Ym} {av : List Value} {σ τ : Sto} {r : Option Value} {cc : ByteArray} {own : String} {nL : Nat} {ret : Option FieldType} (e1 : y.2.1 = cc) (e2 : y.1.cls = own) (e3 : y.2.2.1 = nL) (e4 : y.2.2.2 = ret) (hy : plainName y.1.cls = true) (hc : ∀ v ∈ av, v.category = 1) (hn : av.length ≤ nL)
    (h : ∀ X : Cx, Gd X G cc own nL d ret 0 0 → V X G 0 0 (QE X G r τ) σ 0 (ent av nL) []) : Cl G d y av σ r τ := by
  subst e1; subst e2; subst e3; subst e4
  intro l
  refine Met.ofW (cc := y.2.1) (maxL := y.2.2.1) (ret := y.2.2.2) hy rfl ?_
  intro p e s m args below meth c s₁ B hml hv
  obtain ⟨rfl, hR, hT, hF⟩ := hv
  have hts := atoms_spec (ws := wsY y) B.pre
  have hown : s.vm.findClass y.1.cls = some m.cls := findClass_of_methodNamed B.named
  have h1 := h (p, l, e, (headSpec (wsY y) (rmd d)).room, s, m, av.toArray, below, meth, c) ⟨B.exec, B.bytes, hml, hown, fun w hw => hts w (List.mem_cons_of_mem _ hw), hT, hF, Nat.le_refl _, Nat.le_refl _, Nat.zero_le _, Nat.zero_le _, B.returns, B.notSynchronized⟩
  rw [lg_entry_eq]
  exact h1 s.heap [] _ hR va_S.rf (lcok_ent hc hn)
section V2
variable {X : Cx} {G : Gm} {mc ms : Nat} {Q : State → Prop} {σ τ : Sto} {pc : Nat} {lc : List (Option Value)} {st : List Value} {cc : ByteArray} {own : String} {nL d : Nat} {ret : Option FieldType}
theorem v_iret {x r : Int32} (C : Gd X G cc own nL d (some .int) 0 0) (hd : decode cc pc = .ok (.ireturn, 1)) (h : some (x, σ) = some (r, τ)) : V X G 0 0 (QE X G (some (.int r)) τ) σ pc lc [.int x] := by
  cases h
  exact fun H locs ls hR hS hl => W.iret C.1 C.2.1 C.2.2.2.2.2.2.2.2.2.2.2.1 (fun t ht hW => ⟨⟨rfl, by rw [ht]; exact hR⟩, hS.F ht⟩) hS.2.2 hd (hlocks := C.2.2.2.2.2.2.2.2.2.2.2.2)
theorem v_zretc {x r : Int32} (C : Gd X G cc own nL d (some .boolean) 0 0) (hd : decode cc pc = .ok (.ireturn, 1)) (hn : narrow .boolean (.int x) = .int x) (h : some (x, σ) = some (r, τ)) : V X G 0 0 (QE X G (some (.int r)) τ) σ pc lc [.int x] := by
  cases h
  exact fun H locs ls hR hS hl => W.zret C.1 C.2.1 C.2.2.2.2.2.2.2.2.2.2.2.1 hn (fun t ht hW => ⟨⟨rfl, by rw [ht]; exact hR⟩, hS.F ht⟩) hS.2.2 hd (hlocks := C.2.2.2.2.2.2.2.2.2.2.2.2)
theorem nar01 {x : Int32} (h : x = 0 ∨ x = 1) : narrow .boolean (.int x) = .int x := by
  rcases h with rfl | rfl <;> decide +kernel
theorem fit01 {x : Int32} (h : x = 0 ∨ x = 1) : fits .boolean (.int x) = true := by
  rcases h with rfl | rfl <;> decide +kernel
theorem v_zret {x r : Int32} (C : Gd X G cc own nL d (some .boolean) 0 0) (hd : decode cc pc = .ok (.ireturn, 1)) (h : (if x = 0 ∨ x = 1 then some (x, σ) else none) = some (r, τ)) : V X G 0 0 (QE X G (some (.int r)) τ) σ pc lc [.int x] := v_zretc C hd (nar01 (if_some h).1) (if_some h).2
theorem v_vret (C : Gd X G cc own nL d none 0 0) (hd : decode cc pc = .ok (.return_, 1)) (h : some σ = some τ) : V X G 0 0 (QE X G none τ) σ pc lc [] := by
  cases h
  exact fun H locs ls hR hS hl => W.vret C.1 C.2.1 C.2.2.2.2.2.2.2.2.2.2.2.1 (fun t ht hW => ⟨⟨rfl, by rw [ht]; exact hR⟩, hS.F ht⟩) hS.2.2 hd (hlocks := C.2.2.2.2.2.2.2.2.2.2.2.2)
/-- what a call's place and its method need of the tables -/
def SiM (y : Ym) (n : Nat) : Prop := Cond.initialized y.1.cls ∈ wsA ∧ Cond.code y.1 y.2.1 y.2.2.1 y.2.2.2 ∈ wsA ∧ (y.1.cls ≠ "java/lang/invoke/MethodHandle" ∧ y.1.cls ≠ "java/lang/invoke/VarHandle" ∧ (parseMethodDescriptor y.1.desc).map (fun d => d.parameters.length) = some n) ∧ y.2.2.1 ≤ 22
def SiV (y : Ym) (n : Nat) : Prop := SiM y n ∧ Cond.instanceMethod y.1 ∈ wsA ∧ Cond.selects y.1.cls y.1 y.1 ∈ wsA
def SiS (y : Ym) (n : Nat) : Prop := SiM y n ∧ Cond.static y.1 ∈ wsA
theorem Gd.callB (C : Gd X G cc own nL (d + 1) ret mc ms) {y : Ym} {n index : Nat} (hs : SiM y n) (hl : Cond.methodLink own index y.1 ∈ wsA) : CallB (cxR X) (cxS X) (cxA X) own index y.1 y.2.1 y.2.2.1 y.2.2.2 (wsY y) (rmd d) 0 0 n := by
  obtain ⟨h1, h2, h3, h4⟩ := hs
  obtain ⟨-, -, -, -, hts, -, -, hf, ho, -⟩ := C
  refine ⟨rfl, rfl, hf, by show 8 + (y.2.2.1 + 11) + 41 * d ≤ _; omega, fun w hw a' U hW => ?_, List.mem_cons_self, hts _ h2, hts _ h1, ⟨h3.1, h3.2.1⟩, fun sig h => ?_, hts _ hl⟩
  · have hw' : w ∈ wsA := (List.mem_cons.mp hw).elim (fun e => e ▸ h2) id
    exact word_at hW (wsA_good hw') (hts w hw')
  · have h5 := h3.2.2
    rw [h] at h5
    exact (Option.some.inj h5).symm
theorem Gd.callN (C : Gd X G cc own nL (d + 1) ret mc ms) {y : Ym} {n index : Nat} {host : String} (hs : SiM y n) (hl : (own, index, y.1, host) ∈ nsM) : va_CN (cxR X) (cxS X) (cxA X) own index y.1 host y.2.1 y.2.2.1 y.2.2.2 (wsY y) (rmd d) 0 0 n := by
  obtain ⟨h1, h2, h3, h4⟩ := hs
  obtain ⟨-, -, -, -, hts, hwt, -, hf, ho, -⟩ := C
  refine ⟨⟨rfl, rfl, hf, by show 8 + (y.2.2.1 + 11) + 41 * d ≤ _; omega, fun w hw a' U hW => ?_, List.mem_cons_self⟩, hts _ h2, hts _ h1, ⟨h3.1, h3.2.1⟩, fun sig h => ?_, va_Nw.use rfl (hwt.2.2 _ hl)⟩
  · have hw' : w ∈ wsA := (List.mem_cons.mp hw).elim (fun e => e ▸ h2) id
    exact word_at hW (wsA_good hw') (hts w hw')
  · have h5 := h3.2.2
    rw [h] at h5
    exact (Option.some.inj h5).symm
theorem blindW {av : List Value} : FrameBlind (va_Pc av (Wd G σ)) := fun a U g mk q => ⟨q.1, Wd.blind g mk a q.2⟩
theorem Gd.world (C : Gd X G cc own nL d ret mc ms) {H : Heap} {locs : List Loc} (hR : Rep G σ H) (hS : va_S (AG G) (cxS X).heap H locs) {U : State} (hU : U.heap = H) (hW : (cxS X).WarmedH U.vm) : Wd G σ U :=
  ⟨by rw [hU]; exact hR, C.2.2.2.2.2.1.warm hW, (Wf.kept (C.2.2.2.2.2.2.1.alike hW.alike) (H1 := U.heap) (fun a h1 h2 => by rw [hU]; exact hS.2.1 a h1 h2))⟩
/-- the end of a call -/
theorem run_end {H : Heap} {locs : List Loc} {ls : Array Slot} {r : Option Value} {st0 : List Value} {a : Array Value} (hS : va_S (AG G) (cxS X).heap H locs) (hl : lcok ls lc)
    (hr : va_Run X.1 X.2.1 X.2.2.1 X.2.2.2.1 X.2.2.2.2.1 X.2.2.2.2.2.1 X.2.2.2.2.2.2.1 X.2.2.2.2.2.2.2.1 X.2.2.2.2.2.2.2.2.1 X.2.2.2.2.2.2.2.2.2 H locs mc ms 0 0 (F0 (cxM X) pc ls st0) st (QcR G r τ a) (AG G))
    (kk : V X G mc ms Q τ (pc + 3) lc (r.toList ++ st)) : WX X H locs mc ms Q (F0 (cxM X) pc ls st0) := by
  intro T hT Y
  obtain ⟨v, st₀, t, T', L, h0, Y', hL, e1, e2, ⟨⟨hv, hRep⟩, hz, hk⟩, stp⟩ := hr T hT Y
  cases hv
  rw [h0] at hz hk
  have hS' : va_S (AG G) (cxS X).heap T'.heap (locs ++ L) := ⟨Nat.le_trans hS.1 (by rw [e1]; exact hz), fun q h1 h2 => by rw [e1, hk q (Nat.lt_of_lt_of_le h1 hS.1) h2]; exact hS.2.1 q h1 h2, fun q hq => by
      rcases List.mem_append.mp hq with h | h
      · exact hS.2.2 q h
      · exact hL q h⟩
  obtain ⟨t2, a1, b1⟩ := kk T'.heap (locs ++ L) ls (by rw [e1]; exact hRep) hS' hl T' rfl Y'
  exact ⟨t2, stp t2 a1, b1⟩
theorem v_callV (C : Gd X G cc own nL (d + 1) ret mc ms) (κ j l : Nat) {y : Ym} {n index : Nat} {av fs st0 : List Value} {r : Option Value} {T : u_T} {N : Nat} (hs : SiV y n) (hlk : Cond.methodLink own index y.1 ∈ wsA) (hk : okt κ j l) (hc : clz[κ]? = some (y.1.cls, T, N)) (he : cE G σ κ j l = .inr (κ, fs)) (hn : av.length = n) (hlc : lc.length = nL) (hst : st0 = av.reverse ++ .ref (ad G κ j l) :: st) (hcat : (st.map fun v => v.category).sum ≤ 8) (hd : decode cc pc = .ok (.invokevirtual index, 3)) (hcl : Cl G d y (.ref (ad G κ j l) :: av) σ r τ)
    (kk : V X G mc ms Q τ (pc + 3) lc (r.toList ++ st)) : V X G mc ms Q σ pc lc st0 := by
  intro H locs ls hR hS hl
  refine run_end hS hl (va_runV (C := y.1.cls) (nL := nL) (b := ad G κ j l) (As := av) (rest := st) ⟨C.1, C.2.1, C.2.2.1, C.2.2.2.1, C.2.2.2.2.1⟩ (hcl _) ⟨C.callB hs.1 hlk, C.2.2.2.2.1 _ hs.2.1, C.2.2.2.2.1 _ hs.2.2⟩ ⟨blindW, va_recv C.2.2.2.2.2.1.1 hR.1 hc (q0 := off κ j l) (by rw [wl_get hk, he]), fun U hU hW => ⟨rfl, C.world hR hS hU hW⟩⟩ rfl hn (hl.1.trans hlc) hst (lv_room hcat) hd ⟨C.2.2.2.2.2.2.2.2.2.1, C.2.2.2.2.2.2.2.2.2.2.1⟩) kk
theorem v_callS (C : Gd X G cc own nL (d + 1) ret mc ms) {y : Ym} {n index : Nat} {av st0 : List Value} {r : Option Value} (hs : SiS y n) (hlk : Cond.methodLink own index y.1 ∈ wsA) (hn : av.length = n) (hlc : lc.length = nL) (hst : st0 = av.reverse ++ st) (hcat : (st.map fun v => v.category).sum ≤ 8) (hd : decode cc pc = .ok (.invokestatic index, 3)) (hcl : Cl G d y av σ r τ)
    (kk : V X G mc ms Q τ (pc + 3) lc (r.toList ++ st)) : V X G mc ms Q σ pc lc st0 := by
  intro H locs ls hR hS hl
  refine run_end hS hl (va_runS (nL := nL) (As := av) (rest := st) ⟨C.1, C.2.1, C.2.2.1, C.2.2.2.1, C.2.2.2.2.1⟩ (hcl _) ⟨C.callB hs.1 hlk, C.2.2.2.2.1 _ hs.2⟩ ⟨blindW, fun U hU hW => ⟨rfl, C.world hR hS hU hW⟩⟩ rfl hn (hl.1.trans hlc) hst (lv_room hcat) hd ⟨C.2.2.2.2.2.2.2.2.2.1, C.2.2.2.2.2.2.2.2.2.2.1⟩) kk
theorem v_callSN (C : Gd X G cc own nL (d + 1) ret mc ms) {y : Ym} {n index : Nat} {av st0 : List Value} {r : Option Value} (hs : SiS y n) (hlk : (own, index, y.1, "PeerNotes") ∈ nsM) (hn : av.length = n) (hlc : lc.length = nL) (hst : st0 = av.reverse ++ st) (hcat : (st.map fun v => v.category).sum ≤ 8) (hd : decode cc pc = .ok (.invokestatic index, 3)) (hcl : Cl G d y av σ r τ)
    (kk : V X G mc ms Q τ (pc + 3) lc (r.toList ++ st)) : V X G mc ms Q σ pc lc st0 := by
  intro H locs ls hR hS hl
  refine run_end hS hl (va_runSN (nL := nL) (As := av) (rest := st) ⟨C.1, C.2.1, C.2.2.1, C.2.2.2.1, C.2.2.2.2.1⟩ (hcl _) ⟨C.callN hs.1 hlk, C.2.2.2.2.1 _ hs.2, trivial⟩ ⟨blindW, fun U hU hW => ⟨rfl, C.world hR hS hU hW⟩⟩ rfl hn (hl.1.trans hlc) hst (lv_room hcat) hd ⟨C.2.2.2.2.2.2.2.2.2.1, C.2.2.2.2.2.2.2.2.2.2.1⟩) kk
/-- Math.min, Math.max -/
def jmin (x y : Int32) : Int32 := if y < x then y else x
def jmax (x y : Int32) : Int32 := if x < y then y else x
theorem v_mmin (C : Gd X G cc own nL (d + 1) ret mc ms) {x y : Int32} {index : Nat} (hlk : Cond.methodLink own index Lib.Math.min.name ∈ wsA) (h1 : Cond.static Lib.Math.min.name ∈ wsA) (h2 : Cond.initialized "java/lang/Math" ∈ wsA) (h3 : Cond.code Lib.Math.min.name Lib.Math.min.code 2 (some .int) ∈ wsA) (hlc : lc.length = nL) (hcat : (st.map fun v => v.category).sum ≤ 8) (hd : decode cc pc = .ok (.invokestatic index, 3))
    (kk : V X G mc ms Q σ (pc + 3) lc (.int (jmin x y) :: st)) : V X G mc ms Q σ pc lc (.int y :: .int x :: st) := by
  intro H locs ls hR hS hl
  obtain ⟨c1, c2, c3, c4, hts, -, -, hf, ho, hc1, hc2, -⟩ := C
  exact va_mmin c1 c2 (c3.trans (hlc.symm.trans hl.1.symm)) c4 (hts _ hlk) (hts _ h1) (hts _ h2) (hts _ h3) (by omega) (by omega) hc1 hc2 hd (kk H locs ls hR hS hl)
theorem v_mmax (C : Gd X G cc own nL (d + 1) ret mc ms) {x y : Int32} {index : Nat} (hlk : Cond.methodLink own index Lib.Math.max.name ∈ wsA) (h1 : Cond.static Lib.Math.max.name ∈ wsA) (h2 : Cond.initialized "java/lang/Math" ∈ wsA) (h3 : Cond.code Lib.Math.max.name Lib.Math.max.code 2 (some .int) ∈ wsA) (hlc : lc.length = nL) (hcat : (st.map fun v => v.category).sum ≤ 8) (hd : decode cc pc = .ok (.invokestatic index, 3))
    (kk : V X G mc ms Q σ (pc + 3) lc (.int (jmax x y) :: st)) : V X G mc ms Q σ pc lc (.int y :: .int x :: st) := by
  intro H locs ls hR hS hl
  obtain ⟨c1, c2, c3, c4, hts, -, -, hf, ho, hc1, hc2, -⟩ := C
  exact va_mmax c1 c2 (c3.trans (hlc.symm.trans hl.1.symm)) c4 (hts _ hlk) (hts _ h1) (hts _ h2) (hts _ h3) (by omega) (by omega) hc1 hc2 hd (kk H locs ls hR hS hl)
/-- calls with their answer out of the store's function -/
theorem vb_i {R : Type} {f : Option (Int32 × Sto)} {k : Int32 → Sto → Option R} {res : R} {T : Prop} (h : bd f k = some res) (kk : ∀ (r : Int32) (τ : Sto), f = some (r, τ) → k r τ = some res → T) : T := by
  obtain ⟨r, τ, h1, h2⟩ := bd_some h
  exact kk r τ h1 h2
theorem vb_v {R : Type} {f : Option Sto} {k : Sto → Option R} {res : R} {T : Prop} (h : bv f k = some res) (kk : ∀ τ : Sto, f = some τ → k τ = some res → T) : T := by
  obtain ⟨τ, h1, h2⟩ := bv_some h
  exact kk τ h1 h2
end V2
end
section
/-! SITES: places of the constant pools, methods, by program (wip/p28/gen.py) -/
theorem ok0 {l : Nat} (hl : l < 10) : okt 0 0 l := ⟨by decide, by decide, hl⟩
theorem ok1  : okt 1 0 0 := ⟨by decide, by decide, by decide⟩
theorem ok2  : okt 2 0 0 := ⟨by decide, by decide, by decide⟩
theorem ok3 {j l : Nat} (hj : j < 7) (hl : l < 8) : okt 3 j l := ⟨by decide, hj, hl⟩
theorem ok4 {j l : Nat} (hj : j < 7) (hl : l < 10) : okt 4 j l := ⟨by decide, hj, hl⟩
theorem ok5 {j : Nat} (hj : j < 7) : okt 5 j 0 := ⟨by decide, hj, by decide⟩
theorem ok6 {j l : Nat} (hj : j < 7) (hl : l < 60) : okt 6 j l := ⟨by decide, hj, hl⟩
theorem ok7  : okt 7 0 0 := ⟨by decide, by decide, by decide⟩
theorem ok8  : okt 8 0 0 := ⟨by decide, by decide, by decide⟩
theorem ok9  : okt 9 0 0 := ⟨by decide, by decide, by decide⟩
theorem ok11 {j : Nat} (hj : j < 7) : okt 11 j 0 := ⟨by decide, hj, by decide⟩
theorem ok12 {j : Nat} (hj : j < 7) : okt 12 j 0 := ⟨by decide, hj, by decide⟩
theorem ok13 {j : Nat} (hj : j < 7) : okt 13 j 0 := ⟨by decide, hj, by decide⟩
theorem ok14 {j : Nat} (hj : j < 7) : okt 14 j 0 := ⟨by decide, hj, by decide⟩
theorem ok15  : okt 15 0 0 := ⟨by decide, by decide, by decide⟩
theorem ok16  : okt 16 0 0 := ⟨by decide, by decide, by decide⟩
theorem ok17  : okt 17 0 0 := ⟨by decide, by decide, by decide⟩
theorem ok18 {j : Nat} (hj : j < 3) : okt 18 j 0 := ⟨by decide, hj, by decide⟩
theorem ok19  : okt 19 0 0 := ⟨by decide, by decide, by decide⟩
theorem ok20  : okt 20 0 0 := ⟨by decide, by decide, by decide⟩
theorem ok21  : okt 21 0 0 := ⟨by decide, by decide, by decide⟩
theorem ok22  : okt 22 0 0 := ⟨by decide, by decide, by decide⟩
theorem ok23  : okt 23 0 0 := ⟨by decide, by decide, by decide⟩
theorem ok24  : okt 24 0 0 := ⟨by decide, by decide, by decide⟩
set_option maxRecDepth 20000 in
theorem inA0 : ∀ w ∈ wsX00, w ∈ wsA := fun w hw => List.mem_filter.mpr ⟨(by decide +kernel : ∀ w ∈ wsX00, w ∈ lw_tbl) w hw, (by decide +kernel : ∀ w ∈ wsX00, goodWord w = true) w hw⟩
set_option maxRecDepth 20000 in
theorem inA1 : ∀ w ∈ wsX10, w ∈ wsA := fun w hw => List.mem_filter.mpr ⟨(by decide +kernel : ∀ w ∈ wsX10, w ∈ lw_tbl) w hw, (by decide +kernel : ∀ w ∈ wsX10, goodWord w = true) w hw⟩
set_option maxRecDepth 20000 in
theorem inA2 : ∀ w ∈ wsX20, w ∈ wsA := fun w hw => List.mem_filter.mpr ⟨(by decide +kernel : ∀ w ∈ wsX20, w ∈ lw_tbl) w hw, (by decide +kernel : ∀ w ∈ wsX20, goodWord w = true) w hw⟩
set_option maxRecDepth 20000 in
theorem inA3 : ∀ w ∈ wsX30, w ∈ wsA := fun w hw => List.mem_filter.mpr ⟨(by decide +kernel : ∀ w ∈ wsX30, w ∈ lw_tbl) w hw, (by decide +kernel : ∀ w ∈ wsX30, goodWord w = true) w hw⟩
set_option maxRecDepth 20000 in
theorem inA4 : ∀ w ∈ wsX40, w ∈ wsA := fun w hw => List.mem_filter.mpr ⟨(by decide +kernel : ∀ w ∈ wsX40, w ∈ lw_tbl) w hw, (by decide +kernel : ∀ w ∈ wsX40, goodWord w = true) w hw⟩
set_option maxRecDepth 20000 in
theorem inA5 : ∀ w ∈ wsX50, w ∈ wsA := fun w hw => List.mem_filter.mpr ⟨(by decide +kernel : ∀ w ∈ wsX50, w ∈ lw_tbl) w hw, (by decide +kernel : ∀ w ∈ wsX50, goodWord w = true) w hw⟩
set_option maxRecDepth 20000 in
theorem inA6 : ∀ w ∈ wsX60, w ∈ wsA := fun w hw => List.mem_filter.mpr ⟨(by decide +kernel : ∀ w ∈ wsX60, w ∈ lw_tbl) w hw, (by decide +kernel : ∀ w ∈ wsX60, goodWord w = true) w hw⟩
set_option maxRecDepth 20000 in
theorem inA7 : ∀ w ∈ wsX70, w ∈ wsA := fun w hw => List.mem_filter.mpr ⟨(by decide +kernel : ∀ w ∈ wsX70, w ∈ lw_tbl) w hw, (by decide +kernel : ∀ w ∈ wsX70, goodWord w = true) w hw⟩
set_option maxRecDepth 20000 in
theorem inA8 : ∀ w ∈ wsX80, w ∈ wsA := fun w hw => List.mem_filter.mpr ⟨(by decide +kernel : ∀ w ∈ wsX80, w ∈ lw_tbl) w hw, (by decide +kernel : ∀ w ∈ wsX80, goodWord w = true) w hw⟩
set_option maxRecDepth 20000 in
theorem inA9 : ∀ w ∈ wsX90, w ∈ wsA := fun w hw => List.mem_filter.mpr ⟨(by decide +kernel : ∀ w ∈ wsX90, w ∈ lw_tbl) w hw, (by decide +kernel : ∀ w ∈ wsX90, goodWord w = true) w hw⟩
set_option maxRecDepth 20000 in
theorem inA10 : ∀ w ∈ wsX100, w ∈ wsA := fun w hw => List.mem_filter.mpr ⟨(by decide +kernel : ∀ w ∈ wsX100, w ∈ lw_tbl) w hw, (by decide +kernel : ∀ w ∈ wsX100, goodWord w = true) w hw⟩
theorem ki_m1 : Int32.ofInt (-1) = (-1 : Int32) := by decide
theorem ki_0 : Int32.ofInt (0) = (0 : Int32) := by decide
theorem ki_1 : Int32.ofInt (1) = (1 : Int32) := by decide
theorem ki_2 : Int32.ofInt (2) = (2 : Int32) := by decide
theorem ki_3 : Int32.ofInt (3) = (3 : Int32) := by decide
theorem ki_4 : Int32.ofInt (4) = (4 : Int32) := by decide
theorem ki_5 : Int32.ofInt (5) = (5 : Int32) := by decide
theorem kb_m5 : (Int8.ofInt (-5)).toInt32 = (-5 : Int32) := by decide
theorem kb_m4 : (Int8.ofInt (-4)).toInt32 = (-4 : Int32) := by decide
theorem kb_m3 : (Int8.ofInt (-3)).toInt32 = (-3 : Int32) := by decide
theorem kb_m2 : (Int8.ofInt (-2)).toInt32 = (-2 : Int32) := by decide
theorem kb_6 : (Int8.ofInt (6)).toInt32 = (6 : Int32) := by decide
theorem kb_7 : (Int8.ofInt (7)).toInt32 = (7 : Int32) := by decide
theorem kb_8 : (Int8.ofInt (8)).toInt32 = (8 : Int32) := by decide
theorem kb_9 : (Int8.ofInt (9)).toInt32 = (9 : Int32) := by decide
theorem kb_10 : (Int8.ofInt (10)).toInt32 = (10 : Int32) := by decide
theorem kb_11 : (Int8.ofInt (11)).toInt32 = (11 : Int32) := by decide
theorem kb_12 : (Int8.ofInt (12)).toInt32 = (12 : Int32) := by decide
theorem kb_13 : (Int8.ofInt (13)).toInt32 = (13 : Int32) := by decide
theorem kb_14 : (Int8.ofInt (14)).toInt32 = (14 : Int32) := by decide
theorem kb_15 : (Int8.ofInt (15)).toInt32 = (15 : Int32) := by decide
theorem kb_16 : (Int8.ofInt (16)).toInt32 = (16 : Int32) := by decide
theorem kb_18 : (Int8.ofInt (18)).toInt32 = (18 : Int32) := by decide
theorem kb_20 : (Int8.ofInt (20)).toInt32 = (20 : Int32) := by decide
theorem kb_24 : (Int8.ofInt (24)).toInt32 = (24 : Int32) := by decide
theorem kb_25 : (Int8.ofInt (25)).toInt32 = (25 : Int32) := by decide
theorem kb_36 : (Int8.ofInt (36)).toInt32 = (36 : Int32) := by decide
theorem kb_37 : (Int8.ofInt (37)).toInt32 = (37 : Int32) := by decide
theorem kb_44 : (Int8.ofInt (44)).toInt32 = (44 : Int32) := by decide
theorem kb_50 : (Int8.ofInt (50)).toInt32 = (50 : Int32) := by decide
theorem kb_51 : (Int8.ofInt (51)).toInt32 = (51 : Int32) := by decide
theorem kb_60 : (Int8.ofInt (60)).toInt32 = (60 : Int32) := by decide
theorem kb_62 : (Int8.ofInt (62)).toInt32 = (62 : Int32) := by decide
theorem kb_99 : (Int8.ofInt (99)).toInt32 = (99 : Int32) := by decide
theorem kb_100 : (Int8.ofInt (100)).toInt32 = (100 : Int32) := by decide
theorem ks_240 : (Int16.ofInt (240)).toInt32 = (240 : Int32) := by decide
theorem ks_400 : (Int16.ofInt (400)).toInt32 = (400 : Int32) := by decide
theorem ks_500 : (Int16.ofInt (500)).toInt32 = (500 : Int32) := by decide
theorem ks_900 : (Int16.ofInt (900)).toInt32 = (900 : Int32) := by decide
theorem ks_1000 : (Int16.ofInt (1000)).toInt32 = (1000 : Int32) := by decide
theorem ks_4000 : (Int16.ofInt (4000)).toInt32 = (4000 : Int32) := by decide
theorem ks_20000 : (Int16.ofInt (20000)).toInt32 = (20000 : Int32) := by decide
theorem kl_0 : Int64.ofNat (((0 : Fin 2) : Nat)) = (0 : Int64) := by decide
theorem kl_1 : Int64.ofNat (((1 : Fin 2) : Nat)) = (1 : Int64) := by decide
theorem kc_1 (x : Int32) : x + Int32.ofInt 1 = x + 1 := by rw [ki_1]
theorem kc_m1 (x : Int32) : x + Int32.ofInt (-1) = x + (-1) := by rw [ki_m1]
theorem kc_11 (x : Int32) : x + Int32.ofInt 11 = x + 11 := by rw [show Int32.ofInt 11 = (11 : Int32) by decide]
theorem catA {av : List Value} (h : av.all (fun v => v.category == 1) = true) : ∀ v ∈ av, v.category = 1 := fun v hv => by simpa using List.all_eq_true.mp h v hv
section SI
variable {X : Cx} {G : Gm} {mc ms : Nat} {Q : State → Prop} {σ : Sto} {pc : Nat} {lc : List (Option Value)} {st : List Value} {cc : ByteArray} {nL d : Nat} {ret : Option FieldType}
theorem pf_X1_15 (C : Gd X G cc RX1 nL d ret mc ms) {v : Int32} (hd : decode cc pc = .ok (.putfield 15, 3)) (kk : V X G mc ms Q (up σ 17 0 0 v) (pc + 3) lc st) : V X G mc ms Q σ pc lc (.int v :: .ref (ad G 1 0 0) :: st) := v_puti C 1 0 0 1 17 (ty := .int) tyX1 (ok1) rfl inA1 tyX1_ok nmX1 (by decide) (wA 253 (by decide +kernel) rfl) rfl rfl (by decide +kernel) rfl rfl (by decide) (by decide) rfl (Nat.le_of_ble_eq_true rfl) (by simp [cE, up]) hd kk
theorem pf_X1_25 (C : Gd X G cc RX1 nL d ret mc ms) {v : Int32} (hd : decode cc pc = .ok (.putfield 25, 3)) (kk : V X G mc ms Q (up σ 19 0 0 v) (pc + 3) lc st) : V X G mc ms Q σ pc lc (.int v :: .ref (ad G 1 0 0) :: st) := v_puti C 1 0 0 3 19 (ty := .int) tyX1 (ok1) rfl inA1 tyX1_ok nmX1 (by decide) (wA 256 (by decide +kernel) rfl) rfl rfl (by decide +kernel) rfl rfl (by decide) (by decide) rfl (Nat.le_of_ble_eq_true rfl) (by simp [cE, up]) hd kk
theorem gf_X1_21 (C : Gd X G cc RX1 nL d ret mc ms) (hd : decode cc pc = .ok (.getfield 21, 3)) (kk : V X G mc ms Q σ (pc + 3) lc (.ref (ad G 17 0 0) :: st)) : V X G mc ms Q σ pc lc (.ref (ad G 1 0 0) :: st) := v_getr C 1 0 0 2 (ad G 17 0 0) (ok1) rfl inA1 (by decide) (wA 255 (by decide +kernel) rfl) rfl rfl rfl hd kk
theorem pf_X2_17 (C : Gd X G cc RX2 nL d ret mc ms) {v : Int32} (hd : decode cc pc = .ok (.putfield 17, 3)) (kk : V X G mc ms Q (up σ 33 0 0 v) (pc + 3) lc st) : V X G mc ms Q σ pc lc (.int v :: .ref (ad G 2 0 0) :: st) := v_puti C 2 0 0 1 33 (ty := .int) tyX2 (ok2) rfl inA2 tyX2_ok nmX2 (by decide) (wA 222 (by decide +kernel) rfl) rfl rfl (by decide +kernel) rfl rfl (by decide) (by decide) rfl (Nat.le_of_ble_eq_true rfl) (by simp [cE, up]) hd kk
theorem gf_X2_11 (C : Gd X G cc RX2 nL d ret mc ms) (hd : decode cc pc = .ok (.getfield 11, 3)) (kk : V X G mc ms Q σ (pc + 3) lc (.ref (ad G 15 0 0) :: st)) : V X G mc ms Q σ pc lc (.ref (ad G 2 0 0) :: st) := v_getr C 2 0 0 0 (ad G 15 0 0) (ok2) rfl inA2 (by decide) (wA 221 (by decide +kernel) rfl) rfl rfl rfl hd kk
theorem gf_X2_17 (C : Gd X G cc RX2 nL d ret mc ms) (hd : decode cc pc = .ok (.getfield 17, 3)) (kk : V X G mc ms Q σ (pc + 3) lc (.int (σ.1 33 0 0) :: st)) : V X G mc ms Q σ pc lc (.ref (ad G 2 0 0) :: st) := v_geti C 2 0 0 1 33 (ok2) rfl inA2 (by decide) (wA 222 (by decide +kernel) rfl) rfl rfl rfl hd kk
theorem pf_X3_7 (C : Gd X G cc RX3 nL d ret mc ms) {j : Nat} (hj : j < 7) {l : Nat} (hl : l < 8) {v : Int32} (hd : decode cc pc = .ok (.putfield 7, 3)) (kk : V X G mc ms Q (up σ 48 j l v) (pc + 3) lc st) : V X G mc ms Q σ pc lc (.int v :: .ref (ad G 3 j l) :: st) := v_puti C 3 j l 0 48 (ty := .int) tyX3 (ok3 hj hl) rfl inA3 tyX3_ok nmX3 (by decide) (wA 44 (by decide +kernel) rfl) rfl rfl (by decide +kernel) rfl rfl (by decide) (by decide) rfl (Nat.le_of_ble_eq_true rfl) (by simp [cE, up]) hd kk
theorem pf_X3_13 (C : Gd X G cc RX3 nL d ret mc ms) {j : Nat} (hj : j < 7) {l : Nat} (hl : l < 8) {v : Int32} (hd : decode cc pc = .ok (.putfield 13, 3)) (kk : V X G mc ms Q (up σ 49 j l v) (pc + 3) lc st) : V X G mc ms Q σ pc lc (.int v :: .ref (ad G 3 j l) :: st) := v_puti C 3 j l 1 49 (ty := .int) tyX3 (ok3 hj hl) rfl inA3 tyX3_ok nmX3 (by decide) (wA 48 (by decide +kernel) rfl) rfl rfl (by decide +kernel) rfl rfl (by decide) (by decide) rfl (Nat.le_of_ble_eq_true rfl) (by simp [cE, up]) hd kk
theorem pf_X3_16 (C : Gd X G cc RX3 nL d ret mc ms) {j : Nat} (hj : j < 7) {l : Nat} (hl : l < 8) {v : Int32} (hd : decode cc pc = .ok (.putfield 16, 3)) (kk : V X G mc ms Q (up σ 50 j l v) (pc + 3) lc st) : V X G mc ms Q σ pc lc (.int v :: .ref (ad G 3 j l) :: st) := v_puti C 3 j l 2 50 (ty := .int) tyX3 (ok3 hj hl) rfl inA3 tyX3_ok nmX3 (by decide) (wA 51 (by decide +kernel) rfl) rfl rfl (by decide +kernel) rfl rfl (by decide) (by decide) rfl (Nat.le_of_ble_eq_true rfl) (by simp [cE, up]) hd kk
theorem gf_X3_7 (C : Gd X G cc RX3 nL d ret mc ms) {j : Nat} (hj : j < 7) {l : Nat} (hl : l < 8) (hd : decode cc pc = .ok (.getfield 7, 3)) (kk : V X G mc ms Q σ (pc + 3) lc (.int (σ.1 48 j l) :: st)) : V X G mc ms Q σ pc lc (.ref (ad G 3 j l) :: st) := v_geti C 3 j l 0 48 (ok3 hj hl) rfl inA3 (by decide) (wA 44 (by decide +kernel) rfl) rfl rfl rfl hd kk
theorem gf_X3_13 (C : Gd X G cc RX3 nL d ret mc ms) {j : Nat} (hj : j < 7) {l : Nat} (hl : l < 8) (hd : decode cc pc = .ok (.getfield 13, 3)) (kk : V X G mc ms Q σ (pc + 3) lc (.int (σ.1 49 j l) :: st)) : V X G mc ms Q σ pc lc (.ref (ad G 3 j l) :: st) := v_geti C 3 j l 1 49 (ok3 hj hl) rfl inA3 (by decide) (wA 48 (by decide +kernel) rfl) rfl rfl rfl hd kk
theorem gf_X3_16 (C : Gd X G cc RX3 nL d ret mc ms) {j : Nat} (hj : j < 7) {l : Nat} (hl : l < 8) (hd : decode cc pc = .ok (.getfield 16, 3)) (kk : V X G mc ms Q σ (pc + 3) lc (.int (σ.1 50 j l) :: st)) : V X G mc ms Q σ pc lc (.ref (ad G 3 j l) :: st) := v_geti C 3 j l 2 50 (ok3 hj hl) rfl inA3 (by decide) (wA 51 (by decide +kernel) rfl) rfl rfl rfl hd kk
theorem pf_X4_9 (C : Gd X G cc RX4 nL d ret mc ms) {j : Nat} (hj : j < 7) {l : Nat} (hl : l < 10) {v : Int32} (hd : decode cc pc = .ok (.putfield 9, 3)) (kk : V X G mc ms Q (up σ 64 j l v) (pc + 3) lc st) : V X G mc ms Q σ pc lc (.int v :: .ref (ad G 4 j l) :: st) := v_puti C 4 j l 0 64 (ty := .int) tyX4 (ok4 hj hl) rfl inA4 tyX4_ok nmX4 (by decide) (wA 67 (by decide +kernel) rfl) rfl rfl (by decide +kernel) rfl rfl (by decide) (by decide) rfl (Nat.le_of_ble_eq_true rfl) (by simp [cE, up]) hd kk
theorem pf_X4_15 (C : Gd X G cc RX4 nL d ret mc ms) {j : Nat} (hj : j < 7) {l : Nat} (hl : l < 10) {v : Int32} (hd : decode cc pc = .ok (.putfield 15, 3)) (kk : V X G mc ms Q (up σ 65 j l v) (pc + 3) lc st) : V X G mc ms Q σ pc lc (.int v :: .ref (ad G 4 j l) :: st) := v_puti C 4 j l 1 65 (ty := .int) tyX4 (ok4 hj hl) rfl inA4 tyX4_ok nmX4 (by decide) (wA 70 (by decide +kernel) rfl) rfl rfl (by decide +kernel) rfl rfl (by decide) (by decide) rfl (Nat.le_of_ble_eq_true rfl) (by simp [cE, up]) hd kk
theorem pf_X4_18 (C : Gd X G cc RX4 nL d ret mc ms) {j : Nat} (hj : j < 7) {l : Nat} (hl : l < 10) {v : Int32} (hd : decode cc pc = .ok (.putfield 18, 3)) (kk : V X G mc ms Q (up σ 66 j l v) (pc + 3) lc st) : V X G mc ms Q σ pc lc (.int v :: .ref (ad G 4 j l) :: st) := v_puti C 4 j l 2 66 (ty := .int) tyX4 (ok4 hj hl) rfl inA4 tyX4_ok nmX4 (by decide) (wA 73 (by decide +kernel) rfl) rfl rfl (by decide +kernel) rfl rfl (by decide) (by decide) rfl (Nat.le_of_ble_eq_true rfl) (by simp [cE, up]) hd kk
theorem pf_X4_21 (C : Gd X G cc RX4 nL d ret mc ms) {j : Nat} (hj : j < 7) {l : Nat} (hl : l < 10) {v : Int32} (hd : decode cc pc = .ok (.putfield 21, 3)) (kk : V X G mc ms Q (up σ 67 j l v) (pc + 3) lc st) : V X G mc ms Q σ pc lc (.int v :: .ref (ad G 4 j l) :: st) := v_puti C 4 j l 3 67 (ty := .int) tyX4 (ok4 hj hl) rfl inA4 tyX4_ok nmX4 (by decide) (wA 74 (by decide +kernel) rfl) rfl rfl (by decide +kernel) rfl rfl (by decide) (by decide) rfl (Nat.le_of_ble_eq_true rfl) (by simp [cE, up]) hd kk
theorem pf_X4_24 (C : Gd X G cc RX4 nL d ret mc ms) {j : Nat} (hj : j < 7) {l : Nat} (hl : l < 10) {v : Int32} (hd : decode cc pc = .ok (.putfield 24, 3)) (kk : V X G mc ms Q (up σ 68 j l v) (pc + 3) lc st) : V X G mc ms Q σ pc lc (.int v :: .ref (ad G 4 j l) :: st) := v_puti C 4 j l 4 68 (ty := .int) tyX4 (ok4 hj hl) rfl inA4 tyX4_ok nmX4 (by decide) (wA 75 (by decide +kernel) rfl) rfl rfl (by decide +kernel) rfl rfl (by decide) (by decide) rfl (Nat.le_of_ble_eq_true rfl) (by simp [cE, up]) hd kk
theorem pf_X4_27 (C : Gd X G cc RX4 nL d ret mc ms) {j : Nat} (hj : j < 7) {l : Nat} (hl : l < 10) {v : Int32} (hd : decode cc pc = .ok (.putfield 27, 3)) (kk : V X G mc ms Q (up σ 69 j l v) (pc + 3) lc st) : V X G mc ms Q σ pc lc (.int v :: .ref (ad G 4 j l) :: st) := v_puti C 4 j l 5 69 (ty := .int) tyX4 (ok4 hj hl) rfl inA4 tyX4_ok nmX4 (by decide) (wA 79 (by decide +kernel) rfl) rfl rfl (by decide +kernel) rfl rfl (by decide) (by decide) rfl (Nat.le_of_ble_eq_true rfl) (by simp [cE, up]) hd kk
theorem pf_X4_30 (C : Gd X G cc RX4 nL d ret mc ms) {j : Nat} (hj : j < 7) {l : Nat} (hl : l < 10) {v : Int32} (hd : decode cc pc = .ok (.putfield 30, 3)) (kk : V X G mc ms Q (up σ 70 j l v) (pc + 3) lc st) : V X G mc ms Q σ pc lc (.int v :: .ref (ad G 4 j l) :: st) := v_puti C 4 j l 6 70 (ty := .int) tyX4 (ok4 hj hl) rfl inA4 tyX4_ok nmX4 (by decide) (wA 81 (by decide +kernel) rfl) rfl rfl (by decide +kernel) rfl rfl (by decide) (by decide) rfl (Nat.le_of_ble_eq_true rfl) (by simp [cE, up]) hd kk
theorem pf_X4_33 (C : Gd X G cc RX4 nL d ret mc ms) {j : Nat} (hj : j < 7) {l : Nat} (hl : l < 10) {v : Int32} (hd : decode cc pc = .ok (.putfield 33, 3)) (kk : V X G mc ms Q (up σ 71 j l v) (pc + 3) lc st) : V X G mc ms Q σ pc lc (.int v :: .ref (ad G 4 j l) :: st) := v_puti C 4 j l 7 71 (ty := .int) tyX4 (ok4 hj hl) rfl inA4 tyX4_ok nmX4 (by decide) (wA 85 (by decide +kernel) rfl) rfl rfl (by decide +kernel) rfl rfl (by decide) (by decide) rfl (Nat.le_of_ble_eq_true rfl) (by simp [cE, up]) hd kk
theorem pf_X4_36 (C : Gd X G cc RX4 nL d ret mc ms) {j : Nat} (hj : j < 7) {l : Nat} (hl : l < 10) {v : Int32} (hd : decode cc pc = .ok (.putfield 36, 3)) (kk : V X G mc ms Q (up σ 72 j l v) (pc + 3) lc st) : V X G mc ms Q σ pc lc (.int v :: .ref (ad G 4 j l) :: st) := v_puti C 4 j l 8 72 (ty := .int) tyX4 (ok4 hj hl) rfl inA4 tyX4_ok nmX4 (by decide) (wA 87 (by decide +kernel) rfl) rfl rfl (by decide +kernel) rfl rfl (by decide) (by decide) rfl (Nat.le_of_ble_eq_true rfl) (by simp [cE, up]) hd kk
theorem pf_X4_39 (C : Gd X G cc RX4 nL d ret mc ms) {j : Nat} (hj : j < 7) {l : Nat} (hl : l < 10) {v : Int32} (hd : decode cc pc = .ok (.putfield 39, 3)) (kk : V X G mc ms Q (up σ 73 j l v) (pc + 3) lc st) : V X G mc ms Q σ pc lc (.int v :: .ref (ad G 4 j l) :: st) := v_puti C 4 j l 9 73 (ty := .int) tyX4 (ok4 hj hl) rfl inA4 tyX4_ok nmX4 (by decide) (wA 91 (by decide +kernel) rfl) rfl rfl (by decide +kernel) rfl rfl (by decide) (by decide) rfl (Nat.le_of_ble_eq_true rfl) (by simp [cE, up]) hd kk
theorem pf_X4_42 (C : Gd X G cc RX4 nL d ret mc ms) {j : Nat} (hj : j < 7) {l : Nat} (hl : l < 10) {v : Int32} (hd : decode cc pc = .ok (.putfield 42, 3)) (kk : V X G mc ms Q (up σ 74 j l v) (pc + 3) lc st) : V X G mc ms Q σ pc lc (.int v :: .ref (ad G 4 j l) :: st) := v_puti C 4 j l 10 74 (ty := .int) tyX4 (ok4 hj hl) rfl inA4 tyX4_ok nmX4 (by decide) (wA 94 (by decide +kernel) rfl) rfl rfl (by decide +kernel) rfl rfl (by decide) (by decide) rfl (Nat.le_of_ble_eq_true rfl) (by simp [cE, up]) hd kk
theorem gf_X4_15 (C : Gd X G cc RX4 nL d ret mc ms) {j : Nat} (hj : j < 7) {l : Nat} (hl : l < 10) (hd : decode cc pc = .ok (.getfield 15, 3)) (kk : V X G mc ms Q σ (pc + 3) lc (.int (σ.1 65 j l) :: st)) : V X G mc ms Q σ pc lc (.ref (ad G 4 j l) :: st) := v_geti C 4 j l 1 65 (ok4 hj hl) rfl inA4 (by decide) (wA 70 (by decide +kernel) rfl) rfl rfl rfl hd kk
theorem gf_X4_21 (C : Gd X G cc RX4 nL d ret mc ms) {j : Nat} (hj : j < 7) {l : Nat} (hl : l < 10) (hd : decode cc pc = .ok (.getfield 21, 3)) (kk : V X G mc ms Q σ (pc + 3) lc (.int (σ.1 67 j l) :: st)) : V X G mc ms Q σ pc lc (.ref (ad G 4 j l) :: st) := v_geti C 4 j l 3 67 (ok4 hj hl) rfl inA4 (by decide) (wA 74 (by decide +kernel) rfl) rfl rfl rfl hd kk
theorem gf_X4_42 (C : Gd X G cc RX4 nL d ret mc ms) {j : Nat} (hj : j < 7) {l : Nat} (hl : l < 10) (hd : decode cc pc = .ok (.getfield 42, 3)) (kk : V X G mc ms Q σ (pc + 3) lc (.int (σ.1 74 j l) :: st)) : V X G mc ms Q σ pc lc (.ref (ad G 4 j l) :: st) := v_geti C 4 j l 10 74 (ok4 hj hl) rfl inA4 (by decide) (wA 94 (by decide +kernel) rfl) rfl rfl rfl hd kk
theorem gf_X4_30 (C : Gd X G cc RX4 nL d ret mc ms) {j : Nat} (hj : j < 7) {l : Nat} (hl : l < 10) (hd : decode cc pc = .ok (.getfield 30, 3)) (kk : V X G mc ms Q σ (pc + 3) lc (.int (σ.1 70 j l) :: st)) : V X G mc ms Q σ pc lc (.ref (ad G 4 j l) :: st) := v_geti C 4 j l 6 70 (ok4 hj hl) rfl inA4 (by decide) (wA 81 (by decide +kernel) rfl) rfl rfl rfl hd kk
theorem gf_X4_33 (C : Gd X G cc RX4 nL d ret mc ms) {j : Nat} (hj : j < 7) {l : Nat} (hl : l < 10) (hd : decode cc pc = .ok (.getfield 33, 3)) (kk : V X G mc ms Q σ (pc + 3) lc (.int (σ.1 71 j l) :: st)) : V X G mc ms Q σ pc lc (.ref (ad G 4 j l) :: st) := v_geti C 4 j l 7 71 (ok4 hj hl) rfl inA4 (by decide) (wA 85 (by decide +kernel) rfl) rfl rfl rfl hd kk
theorem gf_X4_36 (C : Gd X G cc RX4 nL d ret mc ms) {j : Nat} (hj : j < 7) {l : Nat} (hl : l < 10) (hd : decode cc pc = .ok (.getfield 36, 3)) (kk : V X G mc ms Q σ (pc + 3) lc (.int (σ.1 72 j l) :: st)) : V X G mc ms Q σ pc lc (.ref (ad G 4 j l) :: st) := v_geti C 4 j l 8 72 (ok4 hj hl) rfl inA4 (by decide) (wA 87 (by decide +kernel) rfl) rfl rfl rfl hd kk
theorem gf_X4_24 (C : Gd X G cc RX4 nL d ret mc ms) {j : Nat} (hj : j < 7) {l : Nat} (hl : l < 10) (hd : decode cc pc = .ok (.getfield 24, 3)) (kk : V X G mc ms Q σ (pc + 3) lc (.int (σ.1 68 j l) :: st)) : V X G mc ms Q σ pc lc (.ref (ad G 4 j l) :: st) := v_geti C 4 j l 4 68 (ok4 hj hl) rfl inA4 (by decide) (wA 75 (by decide +kernel) rfl) rfl rfl rfl hd kk
theorem gf_X4_18 (C : Gd X G cc RX4 nL d ret mc ms) {j : Nat} (hj : j < 7) {l : Nat} (hl : l < 10) (hd : decode cc pc = .ok (.getfield 18, 3)) (kk : V X G mc ms Q σ (pc + 3) lc (.int (σ.1 66 j l) :: st)) : V X G mc ms Q σ pc lc (.ref (ad G 4 j l) :: st) := v_geti C 4 j l 2 66 (ok4 hj hl) rfl inA4 (by decide) (wA 73 (by decide +kernel) rfl) rfl rfl rfl hd kk
theorem gf_X4_27 (C : Gd X G cc RX4 nL d ret mc ms) {j : Nat} (hj : j < 7) {l : Nat} (hl : l < 10) (hd : decode cc pc = .ok (.getfield 27, 3)) (kk : V X G mc ms Q σ (pc + 3) lc (.int (σ.1 69 j l) :: st)) : V X G mc ms Q σ pc lc (.ref (ad G 4 j l) :: st) := v_geti C 4 j l 5 69 (ok4 hj hl) rfl inA4 (by decide) (wA 79 (by decide +kernel) rfl) rfl rfl rfl hd kk
theorem gf_X4_9 (C : Gd X G cc RX4 nL d ret mc ms) {j : Nat} (hj : j < 7) {l : Nat} (hl : l < 10) (hd : decode cc pc = .ok (.getfield 9, 3)) (kk : V X G mc ms Q σ (pc + 3) lc (.int (σ.1 64 j l) :: st)) : V X G mc ms Q σ pc lc (.ref (ad G 4 j l) :: st) := v_geti C 4 j l 0 64 (ok4 hj hl) rfl inA4 (by decide) (wA 67 (by decide +kernel) rfl) rfl rfl rfl hd kk
theorem gf_X4_39 (C : Gd X G cc RX4 nL d ret mc ms) {j : Nat} (hj : j < 7) {l : Nat} (hl : l < 10) (hd : decode cc pc = .ok (.getfield 39, 3)) (kk : V X G mc ms Q σ (pc + 3) lc (.int (σ.1 73 j l) :: st)) : V X G mc ms Q σ pc lc (.ref (ad G 4 j l) :: st) := v_geti C 4 j l 9 73 (ok4 hj hl) rfl inA4 (by decide) (wA 91 (by decide +kernel) rfl) rfl rfl rfl hd kk
theorem pf_X5_36 (C : Gd X G cc RX5 nL d ret mc ms) {j : Nat} (hj : j < 7) {v : Int32} (hd : decode cc pc = .ok (.putfield 36, 3)) (kk : V X G mc ms Q (up σ 84 j 0 v) (pc + 3) lc st) : V X G mc ms Q σ pc lc (.int v :: .ref (ad G 5 j 0) :: st) := v_puti C 5 j 0 4 84 (ty := .int) tyX5 (ok5 hj) rfl inA5 tyX5_ok nmX5 (by decide) (wA 175 (by decide +kernel) rfl) rfl rfl (by decide +kernel) rfl rfl (by decide) (by decide) rfl (Nat.le_of_ble_eq_true rfl) (by simp [cE, up]) hd kk
theorem pf_X5_40 (C : Gd X G cc RX5 nL d ret mc ms) {j : Nat} (hj : j < 7) {v : Int32} (hd : decode cc pc = .ok (.putfield 40, 3)) (kk : V X G mc ms Q (up σ 85 j 0 v) (pc + 3) lc st) : V X G mc ms Q σ pc lc (.int v :: .ref (ad G 5 j 0) :: st) := v_puti C 5 j 0 5 85 (ty := .int) tyX5 (ok5 hj) rfl inA5 tyX5_ok nmX5 (by decide) (wA 178 (by decide +kernel) rfl) rfl rfl (by decide +kernel) rfl rfl (by decide) (by decide) rfl (Nat.le_of_ble_eq_true rfl) (by simp [cE, up]) hd kk
theorem pf_X5_43 (C : Gd X G cc RX5 nL d ret mc ms) {j : Nat} (hj : j < 7) {v : Int32} (hd : decode cc pc = .ok (.putfield 43, 3)) (kk : V X G mc ms Q (up σ 86 j 0 v) (pc + 3) lc st) : V X G mc ms Q σ pc lc (.int v :: .ref (ad G 5 j 0) :: st) := v_puti C 5 j 0 6 86 (ty := .int) tyX5 (ok5 hj) rfl inA5 tyX5_ok nmX5 (by decide) (wA 180 (by decide +kernel) rfl) rfl rfl (by decide +kernel) rfl rfl (by decide) (by decide) rfl (Nat.le_of_ble_eq_true rfl) (by simp [cE, up]) hd kk
theorem pf_X5_46 (C : Gd X G cc RX5 nL d ret mc ms) {j : Nat} (hj : j < 7) {v : Int32} (hd : decode cc pc = .ok (.putfield 46, 3)) (kk : V X G mc ms Q (up σ 87 j 0 v) (pc + 3) lc st) : V X G mc ms Q σ pc lc (.int v :: .ref (ad G 5 j 0) :: st) := v_puti C 5 j 0 7 87 (ty := .int) tyX5 (ok5 hj) rfl inA5 tyX5_ok nmX5 (by decide) (wA 183 (by decide +kernel) rfl) rfl rfl (by decide +kernel) rfl rfl (by decide) (by decide) rfl (Nat.le_of_ble_eq_true rfl) (by simp [cE, up]) hd kk
theorem pf_X5_49 (C : Gd X G cc RX5 nL d ret mc ms) {j : Nat} (hj : j < 7) {v : Int32} (hd : decode cc pc = .ok (.putfield 49, 3)) (kk : V X G mc ms Q (up σ 88 j 0 v) (pc + 3) lc st) : V X G mc ms Q σ pc lc (.int v :: .ref (ad G 5 j 0) :: st) := v_puti C 5 j 0 8 88 (ty := .int) tyX5 (ok5 hj) rfl inA5 tyX5_ok nmX5 (by decide) (wA 185 (by decide +kernel) rfl) rfl rfl (by decide +kernel) rfl rfl (by decide) (by decide) rfl (Nat.le_of_ble_eq_true rfl) (by simp [cE, up]) hd kk
theorem pf_X5_52 (C : Gd X G cc RX5 nL d ret mc ms) {j : Nat} (hj : j < 7) {v : Int32} (hd : decode cc pc = .ok (.putfield 52, 3)) (kk : V X G mc ms Q (up σ 89 j 0 v) (pc + 3) lc st) : V X G mc ms Q σ pc lc (.int v :: .ref (ad G 5 j 0) :: st) := v_puti C 5 j 0 9 89 (ty := .int) tyX5 (ok5 hj) rfl inA5 tyX5_ok nmX5 (by decide) (wA 188 (by decide +kernel) rfl) rfl rfl (by decide +kernel) rfl rfl (by decide) (by decide) rfl (Nat.le_of_ble_eq_true rfl) (by simp [cE, up]) hd kk
theorem gf_X5_11 (C : Gd X G cc RX5 nL d ret mc ms) {j : Nat} (hj : j < 7) (hd : decode cc pc = .ok (.getfield 11, 3)) (kk : V X G mc ms Q σ (pc + 3) lc (.ref (ad G 11 j 0) :: st)) : V X G mc ms Q σ pc lc (.ref (ad G 5 j 0) :: st) := v_getr C 5 j 0 0 (ad G 11 j 0) (ok5 hj) rfl inA5 (by decide) (wA 164 (by decide +kernel) rfl) rfl rfl rfl hd kk
theorem gf_X5_19 (C : Gd X G cc RX5 nL d ret mc ms) {j : Nat} (hj : j < 7) (hd : decode cc pc = .ok (.getfield 19, 3)) (kk : V X G mc ms Q σ (pc + 3) lc (.ref (ad G 12 j 0) :: st)) : V X G mc ms Q σ pc lc (.ref (ad G 5 j 0) :: st) := v_getr C 5 j 0 1 (ad G 12 j 0) (ok5 hj) rfl inA5 (by decide) (wA 167 (by decide +kernel) rfl) rfl rfl rfl hd kk
theorem gf_X5_25 (C : Gd X G cc RX5 nL d ret mc ms) {j : Nat} (hj : j < 7) (hd : decode cc pc = .ok (.getfield 25, 3)) (kk : V X G mc ms Q σ (pc + 3) lc (.ref (ad G 13 j 0) :: st)) : V X G mc ms Q σ pc lc (.ref (ad G 5 j 0) :: st) := v_getr C 5 j 0 2 (ad G 13 j 0) (ok5 hj) rfl inA5 (by decide) (wA 170 (by decide +kernel) rfl) rfl rfl rfl hd kk
theorem gf_X5_33 (C : Gd X G cc RX5 nL d ret mc ms) {j : Nat} (hj : j < 7) (hd : decode cc pc = .ok (.getfield 33, 3)) (kk : V X G mc ms Q σ (pc + 3) lc (.ref (ad G 14 j 0) :: st)) : V X G mc ms Q σ pc lc (.ref (ad G 5 j 0) :: st) := v_getr C 5 j 0 3 (ad G 14 j 0) (ok5 hj) rfl inA5 (by decide) (wA 173 (by decide +kernel) rfl) rfl rfl rfl hd kk
theorem gf_X5_36 (C : Gd X G cc RX5 nL d ret mc ms) {j : Nat} (hj : j < 7) (hd : decode cc pc = .ok (.getfield 36, 3)) (kk : V X G mc ms Q σ (pc + 3) lc (.int (σ.1 84 j 0) :: st)) : V X G mc ms Q σ pc lc (.ref (ad G 5 j 0) :: st) := v_geti C 5 j 0 4 84 (ok5 hj) rfl inA5 (by decide) (wA 175 (by decide +kernel) rfl) rfl rfl rfl hd kk
theorem gf_X5_40 (C : Gd X G cc RX5 nL d ret mc ms) {j : Nat} (hj : j < 7) (hd : decode cc pc = .ok (.getfield 40, 3)) (kk : V X G mc ms Q σ (pc + 3) lc (.int (σ.1 85 j 0) :: st)) : V X G mc ms Q σ pc lc (.ref (ad G 5 j 0) :: st) := v_geti C 5 j 0 5 85 (ok5 hj) rfl inA5 (by decide) (wA 178 (by decide +kernel) rfl) rfl rfl rfl hd kk
theorem gf_X5_43 (C : Gd X G cc RX5 nL d ret mc ms) {j : Nat} (hj : j < 7) (hd : decode cc pc = .ok (.getfield 43, 3)) (kk : V X G mc ms Q σ (pc + 3) lc (.int (σ.1 86 j 0) :: st)) : V X G mc ms Q σ pc lc (.ref (ad G 5 j 0) :: st) := v_geti C 5 j 0 6 86 (ok5 hj) rfl inA5 (by decide) (wA 180 (by decide +kernel) rfl) rfl rfl rfl hd kk
theorem gf_X5_46 (C : Gd X G cc RX5 nL d ret mc ms) {j : Nat} (hj : j < 7) (hd : decode cc pc = .ok (.getfield 46, 3)) (kk : V X G mc ms Q σ (pc + 3) lc (.int (σ.1 87 j 0) :: st)) : V X G mc ms Q σ pc lc (.ref (ad G 5 j 0) :: st) := v_geti C 5 j 0 7 87 (ok5 hj) rfl inA5 (by decide) (wA 183 (by decide +kernel) rfl) rfl rfl rfl hd kk
theorem gf_X5_49 (C : Gd X G cc RX5 nL d ret mc ms) {j : Nat} (hj : j < 7) (hd : decode cc pc = .ok (.getfield 49, 3)) (kk : V X G mc ms Q σ (pc + 3) lc (.int (σ.1 88 j 0) :: st)) : V X G mc ms Q σ pc lc (.ref (ad G 5 j 0) :: st) := v_geti C 5 j 0 8 88 (ok5 hj) rfl inA5 (by decide) (wA 185 (by decide +kernel) rfl) rfl rfl rfl hd kk
theorem gf_X5_52 (C : Gd X G cc RX5 nL d ret mc ms) {j : Nat} (hj : j < 7) (hd : decode cc pc = .ok (.getfield 52, 3)) (kk : V X G mc ms Q σ (pc + 3) lc (.int (σ.1 89 j 0) :: st)) : V X G mc ms Q σ pc lc (.ref (ad G 5 j 0) :: st) := v_geti C 5 j 0 9 89 (ok5 hj) rfl inA5 (by decide) (wA 188 (by decide +kernel) rfl) rfl rfl rfl hd kk
theorem gf_X5_72 (C : Gd X G cc RX5 nL d ret mc ms) {j : Nat} (hj : j < 7) {l : Nat} (hl : l < 10) (hd : decode cc pc = .ok (.getfield 72, 3)) (kk : V X G mc ms Q σ (pc + 3) lc (.int (σ.1 64 j l) :: st)) : V X G mc ms Q σ pc lc (.ref (ad G 4 j l) :: st) := v_geti C 4 j l 0 64 (ok4 hj hl) rfl inA4 (by decide) (wA 68 (by decide +kernel) rfl) rfl rfl rfl hd kk
theorem gf_X5_78 (C : Gd X G cc RX5 nL d ret mc ms) {j : Nat} (hj : j < 7) {l : Nat} (hl : l < 8) (hd : decode cc pc = .ok (.getfield 78, 3)) (kk : V X G mc ms Q σ (pc + 3) lc (.int (σ.1 48 j l) :: st)) : V X G mc ms Q σ pc lc (.ref (ad G 3 j l) :: st) := v_geti C 3 j l 0 48 (ok3 hj hl) rfl inA3 (by decide) (wA 47 (by decide +kernel) rfl) rfl rfl rfl hd kk
theorem pf_X5_78 (C : Gd X G cc RX5 nL d ret mc ms) {j : Nat} (hj : j < 7) {l : Nat} (hl : l < 8) {v : Int32} (hd : decode cc pc = .ok (.putfield 78, 3)) (kk : V X G mc ms Q (up σ 48 j l v) (pc + 3) lc st) : V X G mc ms Q σ pc lc (.int v :: .ref (ad G 3 j l) :: st) := v_puti C 3 j l 0 48 (ty := .int) tyX3 (ok3 hj hl) rfl inA3 tyX3_ok nmX3 (by decide) (wA 47 (by decide +kernel) rfl) rfl rfl (by decide +kernel) rfl rfl (by decide) (by decide) rfl (Nat.le_of_ble_eq_true rfl) (by simp [cE, up]) hd kk
theorem gf_X5_101 (C : Gd X G cc RX5 nL d ret mc ms) {j : Nat} (hj : j < 7) {l : Nat} (hl : l < 10) (hd : decode cc pc = .ok (.getfield 101, 3)) (kk : V X G mc ms Q σ (pc + 3) lc (.int (σ.1 73 j l) :: st)) : V X G mc ms Q σ pc lc (.ref (ad G 4 j l) :: st) := v_geti C 4 j l 9 73 (ok4 hj hl) rfl inA4 (by decide) (wA 92 (by decide +kernel) rfl) rfl rfl rfl hd kk
theorem gf_X5_107 (C : Gd X G cc RX5 nL d ret mc ms) (hd : decode cc pc = .ok (.getfield 107, 3)) (kk : V X G mc ms Q σ (pc + 3) lc (.int (σ.1 112 0 0) :: st)) : V X G mc ms Q σ pc lc (.ref (ad G 7 0 0) :: st) := v_geti C 7 0 0 0 112 (ok7) rfl inA7 (by decide) (wA 273 (by decide +kernel) rfl) rfl rfl rfl hd kk
theorem gf_X5_112 (C : Gd X G cc RX5 nL d ret mc ms) (hd : decode cc pc = .ok (.getfield 112, 3)) (kk : V X G mc ms Q σ (pc + 3) lc (.int (σ.1 114 0 0) :: st)) : V X G mc ms Q σ pc lc (.ref (ad G 7 0 0) :: st) := v_geti C 7 0 0 2 114 (ok7) rfl inA7 (by decide) (wA 281 (by decide +kernel) rfl) rfl rfl rfl hd kk
theorem gf_X5_115 (C : Gd X G cc RX5 nL d ret mc ms) (hd : decode cc pc = .ok (.getfield 115, 3)) (kk : V X G mc ms Q σ (pc + 3) lc (.int (σ.1 113 0 0) :: st)) : V X G mc ms Q σ pc lc (.ref (ad G 7 0 0) :: st) := v_geti C 7 0 0 1 113 (ok7) rfl inA7 (by decide) (wA 277 (by decide +kernel) rfl) rfl rfl rfl hd kk
theorem gf_X5_118 (C : Gd X G cc RX5 nL d ret mc ms) (hd : decode cc pc = .ok (.getfield 118, 3)) (kk : V X G mc ms Q σ (pc + 3) lc (.int (σ.1 115 0 0) :: st)) : V X G mc ms Q σ pc lc (.ref (ad G 7 0 0) :: st) := v_geti C 7 0 0 3 115 (ok7) rfl inA7 (by decide) (wA 284 (by decide +kernel) rfl) rfl rfl rfl hd kk
theorem gf_X5_124 (C : Gd X G cc RX5 nL d ret mc ms) {j : Nat} (hj : j < 7) {l : Nat} (hl : l < 60) (hd : decode cc pc = .ok (.getfield 124, 3)) (kk : V X G mc ms Q σ (pc + 3) lc (.int (σ.1 97 j l) :: st)) : V X G mc ms Q σ pc lc (.ref (ad G 6 j l) :: st) := v_geti C 6 j l 1 97 (ok6 hj hl) rfl inA6 (by decide) (wA 131 (by decide +kernel) rfl) rfl rfl rfl hd kk
theorem gf_X5_127 (C : Gd X G cc RX5 nL d ret mc ms) {j : Nat} (hj : j < 7) {l : Nat} (hl : l < 60) (hd : decode cc pc = .ok (.getfield 127, 3)) (kk : V X G mc ms Q σ (pc + 3) lc (.int (σ.1 99 j l) :: st)) : V X G mc ms Q σ pc lc (.ref (ad G 6 j l) :: st) := v_geti C 6 j l 3 99 (ok6 hj hl) rfl inA6 (by decide) (wA 139 (by decide +kernel) rfl) rfl rfl rfl hd kk
theorem pf_X5_128 (C : Gd X G cc RX5 nL d ret mc ms) {j : Nat} (hj : j < 7) {l : Nat} (hl : l < 60) {v : Int32} (hd : decode cc pc = .ok (.putfield 128, 3)) (kk : V X G mc ms Q (up σ 102 j l v) (pc + 3) lc st) : V X G mc ms Q σ pc lc (.int v :: .ref (ad G 6 j l) :: st) := v_puti C 6 j l 6 102 (ty := .int) tyX6 (ok6 hj hl) rfl inA6 tyX6_ok nmX6 (by decide) (wA 147 (by decide +kernel) rfl) rfl rfl (by decide +kernel) rfl rfl (by decide) (by decide) rfl (Nat.le_of_ble_eq_true rfl) (by simp [cE, up]) hd kk
theorem pf_X5_127 (C : Gd X G cc RX5 nL d ret mc ms) {j : Nat} (hj : j < 7) {l : Nat} (hl : l < 60) {v : Int32} (hd : decode cc pc = .ok (.putfield 127, 3)) (kk : V X G mc ms Q (up σ 99 j l v) (pc + 3) lc st) : V X G mc ms Q σ pc lc (.int v :: .ref (ad G 6 j l) :: st) := v_puti C 6 j l 3 99 (ty := .int) tyX6 (ok6 hj hl) rfl inA6 tyX6_ok nmX6 (by decide) (wA 139 (by decide +kernel) rfl) rfl rfl (by decide +kernel) rfl rfl (by decide) (by decide) rfl (Nat.le_of_ble_eq_true rfl) (by simp [cE, up]) hd kk
theorem gf_X5_128 (C : Gd X G cc RX5 nL d ret mc ms) {j : Nat} (hj : j < 7) {l : Nat} (hl : l < 60) (hd : decode cc pc = .ok (.getfield 128, 3)) (kk : V X G mc ms Q σ (pc + 3) lc (.int (σ.1 102 j l) :: st)) : V X G mc ms Q σ pc lc (.ref (ad G 6 j l) :: st) := v_geti C 6 j l 6 102 (ok6 hj hl) rfl inA6 (by decide) (wA 147 (by decide +kernel) rfl) rfl rfl rfl hd kk
theorem gf_X5_131 (C : Gd X G cc RX5 nL d ret mc ms) {j : Nat} (hj : j < 7) {l : Nat} (hl : l < 60) (hd : decode cc pc = .ok (.getfield 131, 3)) (kk : V X G mc ms Q σ (pc + 3) lc (.int (σ.1 96 j l) :: st)) : V X G mc ms Q σ pc lc (.ref (ad G 6 j l) :: st) := v_geti C 6 j l 0 96 (ok6 hj hl) rfl inA6 (by decide) (wA 128 (by decide +kernel) rfl) rfl rfl rfl hd kk
theorem gf_X5_134 (C : Gd X G cc RX5 nL d ret mc ms) {j : Nat} (hj : j < 7) {l : Nat} (hl : l < 8) (hd : decode cc pc = .ok (.getfield 134, 3)) (kk : V X G mc ms Q σ (pc + 3) lc (.int (σ.1 50 j l) :: st)) : V X G mc ms Q σ pc lc (.ref (ad G 3 j l) :: st) := v_geti C 3 j l 2 50 (ok3 hj hl) rfl inA3 (by decide) (wA 52 (by decide +kernel) rfl) rfl rfl rfl hd kk
theorem pf_X5_134 (C : Gd X G cc RX5 nL d ret mc ms) {j : Nat} (hj : j < 7) {l : Nat} (hl : l < 8) {v : Int32} (hd : decode cc pc = .ok (.putfield 134, 3)) (kk : V X G mc ms Q (up σ 50 j l v) (pc + 3) lc st) : V X G mc ms Q σ pc lc (.int v :: .ref (ad G 3 j l) :: st) := v_puti C 3 j l 2 50 (ty := .int) tyX3 (ok3 hj hl) rfl inA3 tyX3_ok nmX3 (by decide) (wA 52 (by decide +kernel) rfl) rfl rfl (by decide +kernel) rfl rfl (by decide) (by decide) rfl (Nat.le_of_ble_eq_true rfl) (by simp [cE, up]) hd kk
theorem gf_X5_143 (C : Gd X G cc RX5 nL d ret mc ms) {j : Nat} (hj : j < 7) {l : Nat} (hl : l < 10) (hd : decode cc pc = .ok (.getfield 143, 3)) (kk : V X G mc ms Q σ (pc + 3) lc (.int (σ.1 65 j l) :: st)) : V X G mc ms Q σ pc lc (.ref (ad G 4 j l) :: st) := v_geti C 4 j l 1 65 (ok4 hj hl) rfl inA4 (by decide) (wA 71 (by decide +kernel) rfl) rfl rfl rfl hd kk
theorem gf_X5_150 (C : Gd X G cc RX5 nL d ret mc ms) {j : Nat} (hj : j < 7) {l : Nat} (hl : l < 60) (hd : decode cc pc = .ok (.getfield 150, 3)) (kk : V X G mc ms Q σ (pc + 3) lc (.int (σ.1 98 j l) :: st)) : V X G mc ms Q σ pc lc (.ref (ad G 6 j l) :: st) := v_geti C 6 j l 2 98 (ok6 hj hl) rfl inA6 (by decide) (wA 135 (by decide +kernel) rfl) rfl rfl rfl hd kk
theorem gf_X5_153 (C : Gd X G cc RX5 nL d ret mc ms) {j : Nat} (hj : j < 7) {l : Nat} (hl : l < 10) (hd : decode cc pc = .ok (.getfield 153, 3)) (kk : V X G mc ms Q σ (pc + 3) lc (.int (σ.1 72 j l) :: st)) : V X G mc ms Q σ pc lc (.ref (ad G 4 j l) :: st) := v_geti C 4 j l 8 72 (ok4 hj hl) rfl inA4 (by decide) (wA 89 (by decide +kernel) rfl) rfl rfl rfl hd kk
theorem gf_X5_156 (C : Gd X G cc RX5 nL d ret mc ms) {j : Nat} (hj : j < 7) {l : Nat} (hl : l < 10) (hd : decode cc pc = .ok (.getfield 156, 3)) (kk : V X G mc ms Q σ (pc + 3) lc (.int (σ.1 74 j l) :: st)) : V X G mc ms Q σ pc lc (.ref (ad G 4 j l) :: st) := v_geti C 4 j l 10 74 (ok4 hj hl) rfl inA4 (by decide) (wA 96 (by decide +kernel) rfl) rfl rfl rfl hd kk
theorem gf_X5_159 (C : Gd X G cc RX5 nL d ret mc ms) {j : Nat} (hj : j < 7) {l : Nat} (hl : l < 10) (hd : decode cc pc = .ok (.getfield 159, 3)) (kk : V X G mc ms Q σ (pc + 3) lc (.int (σ.1 68 j l) :: st)) : V X G mc ms Q σ pc lc (.ref (ad G 4 j l) :: st) := v_geti C 4 j l 4 68 (ok4 hj hl) rfl inA4 (by decide) (wA 78 (by decide +kernel) rfl) rfl rfl rfl hd kk
theorem gf_X5_160 (C : Gd X G cc RX5 nL d ret mc ms) {j : Nat} (hj : j < 7) {l : Nat} (hl : l < 10) (hd : decode cc pc = .ok (.getfield 160, 3)) (kk : V X G mc ms Q σ (pc + 3) lc (.int (σ.1 70 j l) :: st)) : V X G mc ms Q σ pc lc (.ref (ad G 4 j l) :: st) := v_geti C 4 j l 6 70 (ok4 hj hl) rfl inA4 (by decide) (wA 84 (by decide +kernel) rfl) rfl rfl rfl hd kk
theorem pf_X6_7 (C : Gd X G cc RX6 nL d ret mc ms) {j : Nat} (hj : j < 7) {l : Nat} (hl : l < 60) {v : Int32} (hd : decode cc pc = .ok (.putfield 7, 3)) (kk : V X G mc ms Q (up σ 96 j l v) (pc + 3) lc st) : V X G mc ms Q σ pc lc (.int v :: .ref (ad G 6 j l) :: st) := v_puti C 6 j l 0 96 (ty := .int) tyX6 (ok6 hj hl) rfl inA6 tyX6_ok nmX6 (by decide) (wA 125 (by decide +kernel) rfl) rfl rfl (by decide +kernel) rfl rfl (by decide) (by decide) rfl (Nat.le_of_ble_eq_true rfl) (by simp [cE, up]) hd kk
theorem pf_X6_13 (C : Gd X G cc RX6 nL d ret mc ms) {j : Nat} (hj : j < 7) {l : Nat} (hl : l < 60) {v : Int32} (hd : decode cc pc = .ok (.putfield 13, 3)) (kk : V X G mc ms Q (up σ 97 j l v) (pc + 3) lc st) : V X G mc ms Q σ pc lc (.int v :: .ref (ad G 6 j l) :: st) := v_puti C 6 j l 1 97 (ty := .int) tyX6 (ok6 hj hl) rfl inA6 tyX6_ok nmX6 (by decide) (wA 129 (by decide +kernel) rfl) rfl rfl (by decide +kernel) rfl rfl (by decide) (by decide) rfl (Nat.le_of_ble_eq_true rfl) (by simp [cE, up]) hd kk
theorem pf_X6_16 (C : Gd X G cc RX6 nL d ret mc ms) {j : Nat} (hj : j < 7) {l : Nat} (hl : l < 60) {v : Int32} (hd : decode cc pc = .ok (.putfield 16, 3)) (kk : V X G mc ms Q (up σ 98 j l v) (pc + 3) lc st) : V X G mc ms Q σ pc lc (.int v :: .ref (ad G 6 j l) :: st) := v_puti C 6 j l 2 98 (ty := .int) tyX6 (ok6 hj hl) rfl inA6 tyX6_ok nmX6 (by decide) (wA 133 (by decide +kernel) rfl) rfl rfl (by decide +kernel) rfl rfl (by decide) (by decide) rfl (Nat.le_of_ble_eq_true rfl) (by simp [cE, up]) hd kk
theorem pf_X6_19 (C : Gd X G cc RX6 nL d ret mc ms) {j : Nat} (hj : j < 7) {l : Nat} (hl : l < 60) {v : Int32} (hd : decode cc pc = .ok (.putfield 19, 3)) (kk : V X G mc ms Q (up σ 99 j l v) (pc + 3) lc st) : V X G mc ms Q σ pc lc (.int v :: .ref (ad G 6 j l) :: st) := v_puti C 6 j l 3 99 (ty := .int) tyX6 (ok6 hj hl) rfl inA6 tyX6_ok nmX6 (by decide) (wA 137 (by decide +kernel) rfl) rfl rfl (by decide +kernel) rfl rfl (by decide) (by decide) rfl (Nat.le_of_ble_eq_true rfl) (by simp [cE, up]) hd kk
theorem pf_X6_22 (C : Gd X G cc RX6 nL d ret mc ms) {j : Nat} (hj : j < 7) {l : Nat} (hl : l < 60) {v : Int32} (hd : decode cc pc = .ok (.putfield 22, 3)) (kk : V X G mc ms Q (up σ 100 j l v) (pc + 3) lc st) : V X G mc ms Q σ pc lc (.int v :: .ref (ad G 6 j l) :: st) := v_puti C 6 j l 4 100 (ty := .int) tyX6 (ok6 hj hl) rfl inA6 tyX6_ok nmX6 (by decide) (wA 141 (by decide +kernel) rfl) rfl rfl (by decide +kernel) rfl rfl (by decide) (by decide) rfl (Nat.le_of_ble_eq_true rfl) (by simp [cE, up]) hd kk
theorem pf_X6_25 (C : Gd X G cc RX6 nL d ret mc ms) {j : Nat} (hj : j < 7) {l : Nat} (hl : l < 60) {v : Int32} (hd : decode cc pc = .ok (.putfield 25, 3)) (kk : V X G mc ms Q (up σ 101 j l v) (pc + 3) lc st) : V X G mc ms Q σ pc lc (.int v :: .ref (ad G 6 j l) :: st) := v_puti C 6 j l 5 101 (ty := .int) tyX6 (ok6 hj hl) rfl inA6 tyX6_ok nmX6 (by decide) (wA 143 (by decide +kernel) rfl) rfl rfl (by decide +kernel) rfl rfl (by decide) (by decide) rfl (Nat.le_of_ble_eq_true rfl) (by simp [cE, up]) hd kk
theorem pf_X6_28 (C : Gd X G cc RX6 nL d ret mc ms) {j : Nat} (hj : j < 7) {l : Nat} (hl : l < 60) {v : Int32} (hd : decode cc pc = .ok (.putfield 28, 3)) (kk : V X G mc ms Q (up σ 102 j l v) (pc + 3) lc st) : V X G mc ms Q σ pc lc (.int v :: .ref (ad G 6 j l) :: st) := v_puti C 6 j l 6 102 (ty := .int) tyX6 (ok6 hj hl) rfl inA6 tyX6_ok nmX6 (by decide) (wA 146 (by decide +kernel) rfl) rfl rfl (by decide +kernel) rfl rfl (by decide) (by decide) rfl (Nat.le_of_ble_eq_true rfl) (by simp [cE, up]) hd kk
theorem gf_X6_7 (C : Gd X G cc RX6 nL d ret mc ms) {j : Nat} (hj : j < 7) {l : Nat} (hl : l < 60) (hd : decode cc pc = .ok (.getfield 7, 3)) (kk : V X G mc ms Q σ (pc + 3) lc (.int (σ.1 96 j l) :: st)) : V X G mc ms Q σ pc lc (.ref (ad G 6 j l) :: st) := v_geti C 6 j l 0 96 (ok6 hj hl) rfl inA6 (by decide) (wA 125 (by decide +kernel) rfl) rfl rfl rfl hd kk
theorem gf_X6_13 (C : Gd X G cc RX6 nL d ret mc ms) {j : Nat} (hj : j < 7) {l : Nat} (hl : l < 60) (hd : decode cc pc = .ok (.getfield 13, 3)) (kk : V X G mc ms Q σ (pc + 3) lc (.int (σ.1 97 j l) :: st)) : V X G mc ms Q σ pc lc (.ref (ad G 6 j l) :: st) := v_geti C 6 j l 1 97 (ok6 hj hl) rfl inA6 (by decide) (wA 129 (by decide +kernel) rfl) rfl rfl rfl hd kk
theorem gf_X6_16 (C : Gd X G cc RX6 nL d ret mc ms) {j : Nat} (hj : j < 7) {l : Nat} (hl : l < 60) (hd : decode cc pc = .ok (.getfield 16, 3)) (kk : V X G mc ms Q σ (pc + 3) lc (.int (σ.1 98 j l) :: st)) : V X G mc ms Q σ pc lc (.ref (ad G 6 j l) :: st) := v_geti C 6 j l 2 98 (ok6 hj hl) rfl inA6 (by decide) (wA 133 (by decide +kernel) rfl) rfl rfl rfl hd kk
theorem gf_X6_19 (C : Gd X G cc RX6 nL d ret mc ms) {j : Nat} (hj : j < 7) {l : Nat} (hl : l < 60) (hd : decode cc pc = .ok (.getfield 19, 3)) (kk : V X G mc ms Q σ (pc + 3) lc (.int (σ.1 99 j l) :: st)) : V X G mc ms Q σ pc lc (.ref (ad G 6 j l) :: st) := v_geti C 6 j l 3 99 (ok6 hj hl) rfl inA6 (by decide) (wA 137 (by decide +kernel) rfl) rfl rfl rfl hd kk
theorem gf_X6_22 (C : Gd X G cc RX6 nL d ret mc ms) {j : Nat} (hj : j < 7) {l : Nat} (hl : l < 60) (hd : decode cc pc = .ok (.getfield 22, 3)) (kk : V X G mc ms Q σ (pc + 3) lc (.int (σ.1 100 j l) :: st)) : V X G mc ms Q σ pc lc (.ref (ad G 6 j l) :: st) := v_geti C 6 j l 4 100 (ok6 hj hl) rfl inA6 (by decide) (wA 141 (by decide +kernel) rfl) rfl rfl rfl hd kk
theorem gf_X6_25 (C : Gd X G cc RX6 nL d ret mc ms) {j : Nat} (hj : j < 7) {l : Nat} (hl : l < 60) (hd : decode cc pc = .ok (.getfield 25, 3)) (kk : V X G mc ms Q σ (pc + 3) lc (.int (σ.1 101 j l) :: st)) : V X G mc ms Q σ pc lc (.ref (ad G 6 j l) :: st) := v_geti C 6 j l 5 101 (ok6 hj hl) rfl inA6 (by decide) (wA 143 (by decide +kernel) rfl) rfl rfl rfl hd kk
theorem gf_X6_28 (C : Gd X G cc RX6 nL d ret mc ms) {j : Nat} (hj : j < 7) {l : Nat} (hl : l < 60) (hd : decode cc pc = .ok (.getfield 28, 3)) (kk : V X G mc ms Q σ (pc + 3) lc (.int (σ.1 102 j l) :: st)) : V X G mc ms Q σ pc lc (.ref (ad G 6 j l) :: st) := v_geti C 6 j l 6 102 (ok6 hj hl) rfl inA6 (by decide) (wA 146 (by decide +kernel) rfl) rfl rfl rfl hd kk
theorem gf_X7_15 (C : Gd X G cc RX7 nL d ret mc ms) {j : Nat} (hj : j < 7) (hd : decode cc pc = .ok (.getfield 15, 3)) (kk : V X G mc ms Q σ (pc + 3) lc (.ref (ad G 12 j 0) :: st)) : V X G mc ms Q σ pc lc (.ref (ad G 5 j 0) :: st) := v_getr C 5 j 0 1 (ad G 12 j 0) (ok5 hj) rfl inA5 (by decide) (wA 168 (by decide +kernel) rfl) rfl rfl rfl hd kk
theorem gf_X7_19 (C : Gd X G cc RX7 nL d ret mc ms) {j : Nat} (hj : j < 7) {l : Nat} (hl : l < 10) (hd : decode cc pc = .ok (.getfield 19, 3)) (kk : V X G mc ms Q σ (pc + 3) lc (.int (σ.1 73 j l) :: st)) : V X G mc ms Q σ pc lc (.ref (ad G 4 j l) :: st) := v_geti C 4 j l 9 73 (ok4 hj hl) rfl inA4 (by decide) (wA 90 (by decide +kernel) rfl) rfl rfl rfl hd kk
theorem pf_X7_29 (C : Gd X G cc RX7 nL d ret mc ms) {v : Int32} (hd : decode cc pc = .ok (.putfield 29, 3)) (kk : V X G mc ms Q (up σ 112 0 0 v) (pc + 3) lc st) : V X G mc ms Q σ pc lc (.int v :: .ref (ad G 7 0 0) :: st) := v_puti C 7 0 0 0 112 (ty := .int) tyX7 (ok7) rfl inA7 tyX7_ok nmX7 (by decide) (wA 272 (by decide +kernel) rfl) rfl rfl (by decide +kernel) rfl rfl (by decide) (by decide) rfl (Nat.le_of_ble_eq_true rfl) (by simp [cE, up]) hd kk
theorem gf_X7_29 (C : Gd X G cc RX7 nL d ret mc ms) (hd : decode cc pc = .ok (.getfield 29, 3)) (kk : V X G mc ms Q σ (pc + 3) lc (.int (σ.1 112 0 0) :: st)) : V X G mc ms Q σ pc lc (.ref (ad G 7 0 0) :: st) := v_geti C 7 0 0 0 112 (ok7) rfl inA7 (by decide) (wA 272 (by decide +kernel) rfl) rfl rfl rfl hd kk
theorem gf_X7_34 (C : Gd X G cc RX7 nL d ret mc ms) {j : Nat} (hj : j < 7) {l : Nat} (hl : l < 10) (hd : decode cc pc = .ok (.getfield 34, 3)) (kk : V X G mc ms Q σ (pc + 3) lc (.int (σ.1 70 j l) :: st)) : V X G mc ms Q σ pc lc (.ref (ad G 4 j l) :: st) := v_geti C 4 j l 6 70 (ok4 hj hl) rfl inA4 (by decide) (wA 82 (by decide +kernel) rfl) rfl rfl rfl hd kk
theorem gf_X7_37 (C : Gd X G cc RX7 nL d ret mc ms) {j : Nat} (hj : j < 7) {l : Nat} (hl : l < 10) (hd : decode cc pc = .ok (.getfield 37, 3)) (kk : V X G mc ms Q σ (pc + 3) lc (.int (σ.1 68 j l) :: st)) : V X G mc ms Q σ pc lc (.ref (ad G 4 j l) :: st) := v_geti C 4 j l 4 68 (ok4 hj hl) rfl inA4 (by decide) (wA 76 (by decide +kernel) rfl) rfl rfl rfl hd kk
theorem pf_X7_46 (C : Gd X G cc RX7 nL d ret mc ms) {v : Int32} (hd : decode cc pc = .ok (.putfield 46, 3)) (kk : V X G mc ms Q (up σ 113 0 0 v) (pc + 3) lc st) : V X G mc ms Q σ pc lc (.int v :: .ref (ad G 7 0 0) :: st) := v_puti C 7 0 0 1 113 (ty := .int) tyX7 (ok7) rfl inA7 tyX7_ok nmX7 (by decide) (wA 275 (by decide +kernel) rfl) rfl rfl (by decide +kernel) rfl rfl (by decide) (by decide) rfl (Nat.le_of_ble_eq_true rfl) (by simp [cE, up]) hd kk
theorem gf_X7_46 (C : Gd X G cc RX7 nL d ret mc ms) (hd : decode cc pc = .ok (.getfield 46, 3)) (kk : V X G mc ms Q σ (pc + 3) lc (.int (σ.1 113 0 0) :: st)) : V X G mc ms Q σ pc lc (.ref (ad G 7 0 0) :: st) := v_geti C 7 0 0 1 113 (ok7) rfl inA7 (by decide) (wA 275 (by decide +kernel) rfl) rfl rfl rfl hd kk
theorem gf_X7_49 (C : Gd X G cc RX7 nL d ret mc ms) {j : Nat} (hj : j < 7) (hd : decode cc pc = .ok (.getfield 49, 3)) (kk : V X G mc ms Q σ (pc + 3) lc (.int (σ.1 89 j 0) :: st)) : V X G mc ms Q σ pc lc (.ref (ad G 5 j 0) :: st) := v_geti C 5 j 0 9 89 (ok5 hj) rfl inA5 (by decide) (wA 189 (by decide +kernel) rfl) rfl rfl rfl hd kk
theorem pf_X7_52 (C : Gd X G cc RX7 nL d ret mc ms) {v : Int32} (hd : decode cc pc = .ok (.putfield 52, 3)) (kk : V X G mc ms Q (up σ 114 0 0 v) (pc + 3) lc st) : V X G mc ms Q σ pc lc (.int v :: .ref (ad G 7 0 0) :: st) := v_puti C 7 0 0 2 114 (ty := .int) tyX7 (ok7) rfl inA7 tyX7_ok nmX7 (by decide) (wA 279 (by decide +kernel) rfl) rfl rfl (by decide +kernel) rfl rfl (by decide) (by decide) rfl (Nat.le_of_ble_eq_true rfl) (by simp [cE, up]) hd kk
theorem pf_X7_55 (C : Gd X G cc RX7 nL d ret mc ms) {v : Int32} (hd : decode cc pc = .ok (.putfield 55, 3)) (kk : V X G mc ms Q (up σ 115 0 0 v) (pc + 3) lc st) : V X G mc ms Q σ pc lc (.int v :: .ref (ad G 7 0 0) :: st) := v_puti C 7 0 0 3 115 (ty := .int) tyX7 (ok7) rfl inA7 tyX7_ok nmX7 (by decide) (wA 283 (by decide +kernel) rfl) rfl rfl (by decide +kernel) rfl rfl (by decide) (by decide) rfl (Nat.le_of_ble_eq_true rfl) (by simp [cE, up]) hd kk
theorem gf_X7_55 (C : Gd X G cc RX7 nL d ret mc ms) (hd : decode cc pc = .ok (.getfield 55, 3)) (kk : V X G mc ms Q σ (pc + 3) lc (.int (σ.1 115 0 0) :: st)) : V X G mc ms Q σ pc lc (.ref (ad G 7 0 0) :: st) := v_geti C 7 0 0 3 115 (ok7) rfl inA7 (by decide) (wA 283 (by decide +kernel) rfl) rfl rfl rfl hd kk
theorem pf_X7_59 (C : Gd X G cc RX7 nL d ret mc ms) {v : Int32} (hd : decode cc pc = .ok (.putfield 59, 3)) (kk : V X G mc ms Q (up σ 116 0 0 v) (pc + 3) lc st) : V X G mc ms Q σ pc lc (.int v :: .ref (ad G 7 0 0) :: st) := v_puti C 7 0 0 4 116 (ty := .int) tyX7 (ok7) rfl inA7 tyX7_ok nmX7 (by decide) (wA 286 (by decide +kernel) rfl) rfl rfl (by decide +kernel) rfl rfl (by decide) (by decide) rfl (Nat.le_of_ble_eq_true rfl) (by simp [cE, up]) hd kk
theorem gf_X7_59 (C : Gd X G cc RX7 nL d ret mc ms) (hd : decode cc pc = .ok (.getfield 59, 3)) (kk : V X G mc ms Q σ (pc + 3) lc (.int (σ.1 116 0 0) :: st)) : V X G mc ms Q σ pc lc (.ref (ad G 7 0 0) :: st) := v_geti C 7 0 0 4 116 (ok7) rfl inA7 (by decide) (wA 286 (by decide +kernel) rfl) rfl rfl rfl hd kk
theorem pf_X7_62 (C : Gd X G cc RX7 nL d ret mc ms) {v : Int32} (hd : decode cc pc = .ok (.putfield 62, 3)) (kk : V X G mc ms Q (up σ 117 0 0 v) (pc + 3) lc st) : V X G mc ms Q σ pc lc (.int v :: .ref (ad G 7 0 0) :: st) := v_puti C 7 0 0 5 117 (ty := .int) tyX7 (ok7) rfl inA7 tyX7_ok nmX7 (by decide) (wA 289 (by decide +kernel) rfl) rfl rfl (by decide +kernel) rfl rfl (by decide) (by decide) rfl (Nat.le_of_ble_eq_true rfl) (by simp [cE, up]) hd kk
theorem gf_X8_15 (C : Gd X G cc RX8 nL d ret mc ms) (hd : decode cc pc = .ok (.getfield 15, 3)) (kk : V X G mc ms Q σ (pc + 3) lc (.ref (ad G 18 1 0) :: st)) : V X G mc ms Q σ pc lc (.ref (ad G 8 0 0) :: st) := v_getr C 8 0 0 1 (ad G 18 1 0) (ok8) rfl inA8 (by decide) (wA 312 (by decide +kernel) rfl) rfl rfl rfl hd kk
theorem gf_X8_18 (C : Gd X G cc RX8 nL d ret mc ms) (hd : decode cc pc = .ok (.getfield 18, 3)) (kk : V X G mc ms Q σ (pc + 3) lc (.ref (ad G 18 2 0) :: st)) : V X G mc ms Q σ pc lc (.ref (ad G 8 0 0) :: st) := v_getr C 8 0 0 2 (ad G 18 2 0) (ok8) rfl inA8 (by decide) (wA 313 (by decide +kernel) rfl) rfl rfl rfl hd kk
theorem gf_X8_28 (C : Gd X G cc RX8 nL d ret mc ms) (hd : decode cc pc = .ok (.getfield 28, 3)) (kk : V X G mc ms Q σ (pc + 3) lc (.int (σ.1 113 0 0) :: st)) : V X G mc ms Q σ pc lc (.ref (ad G 7 0 0) :: st) := v_geti C 7 0 0 1 113 (ok7) rfl inA7 (by decide) (wA 276 (by decide +kernel) rfl) rfl rfl rfl hd kk
theorem gf_X8_33 (C : Gd X G cc RX8 nL d ret mc ms) (hd : decode cc pc = .ok (.getfield 33, 3)) (kk : V X G mc ms Q σ (pc + 3) lc (.int (σ.1 114 0 0) :: st)) : V X G mc ms Q σ pc lc (.ref (ad G 7 0 0) :: st) := v_geti C 7 0 0 2 114 (ok7) rfl inA7 (by decide) (wA 280 (by decide +kernel) rfl) rfl rfl rfl hd kk
theorem gf_X8_9 (C : Gd X G cc RX8 nL d ret mc ms) (hd : decode cc pc = .ok (.getfield 9, 3)) (kk : V X G mc ms Q σ (pc + 3) lc (.ref (ad G 18 0 0) :: st)) : V X G mc ms Q σ pc lc (.ref (ad G 8 0 0) :: st) := v_getr C 8 0 0 0 (ad G 18 0 0) (ok8) rfl inA8 (by decide) (wA 311 (by decide +kernel) rfl) rfl rfl rfl hd kk
theorem gf_X8_40 (C : Gd X G cc RX8 nL d ret mc ms) (hd : decode cc pc = .ok (.getfield 40, 3)) (kk : V X G mc ms Q σ (pc + 3) lc (.int (σ.1 116 0 0) :: st)) : V X G mc ms Q σ pc lc (.ref (ad G 7 0 0) :: st) := v_geti C 7 0 0 4 116 (ok7) rfl inA7 (by decide) (wA 287 (by decide +kernel) rfl) rfl rfl rfl hd kk
theorem gf_X8_43 (C : Gd X G cc RX8 nL d ret mc ms) (hd : decode cc pc = .ok (.getfield 43, 3)) (kk : V X G mc ms Q σ (pc + 3) lc (.int (σ.1 117 0 0) :: st)) : V X G mc ms Q σ pc lc (.ref (ad G 7 0 0) :: st) := v_geti C 7 0 0 5 117 (ok7) rfl inA7 (by decide) (wA 290 (by decide +kernel) rfl) rfl rfl rfl hd kk
theorem gf_X8_61 (C : Gd X G cc RX8 nL d ret mc ms) {j : Nat} (hj : j < 7) (hd : decode cc pc = .ok (.getfield 61, 3)) (kk : V X G mc ms Q σ (pc + 3) lc (.int (σ.1 88 j 0) :: st)) : V X G mc ms Q σ pc lc (.ref (ad G 5 j 0) :: st) := v_geti C 5 j 0 8 88 (ok5 hj) rfl inA5 (by decide) (wA 186 (by decide +kernel) rfl) rfl rfl rfl hd kk
theorem gf_X8_67 (C : Gd X G cc RX8 nL d ret mc ms) {j : Nat} (hj : j < 7) (hd : decode cc pc = .ok (.getfield 67, 3)) (kk : V X G mc ms Q σ (pc + 3) lc (.int (σ.1 84 j 0) :: st)) : V X G mc ms Q σ pc lc (.ref (ad G 5 j 0) :: st) := v_geti C 5 j 0 4 84 (ok5 hj) rfl inA5 (by decide) (wA 177 (by decide +kernel) rfl) rfl rfl rfl hd kk
theorem gf_X8_70 (C : Gd X G cc RX8 nL d ret mc ms) {j : Nat} (hj : j < 7) (hd : decode cc pc = .ok (.getfield 70, 3)) (kk : V X G mc ms Q σ (pc + 3) lc (.ref (ad G 11 j 0) :: st)) : V X G mc ms Q σ pc lc (.ref (ad G 5 j 0) :: st) := v_getr C 5 j 0 0 (ad G 11 j 0) (ok5 hj) rfl inA5 (by decide) (wA 166 (by decide +kernel) rfl) rfl rfl rfl hd kk
theorem gf_X8_74 (C : Gd X G cc RX8 nL d ret mc ms) {j : Nat} (hj : j < 7) {l : Nat} (hl : l < 8) (hd : decode cc pc = .ok (.getfield 74, 3)) (kk : V X G mc ms Q σ (pc + 3) lc (.int (σ.1 48 j l) :: st)) : V X G mc ms Q σ pc lc (.ref (ad G 3 j l) :: st) := v_geti C 3 j l 0 48 (ok3 hj hl) rfl inA3 (by decide) (wA 46 (by decide +kernel) rfl) rfl rfl rfl hd kk
theorem gf_X8_79 (C : Gd X G cc RX8 nL d ret mc ms) {j : Nat} (hj : j < 7) (hd : decode cc pc = .ok (.getfield 79, 3)) (kk : V X G mc ms Q σ (pc + 3) lc (.int (σ.1 86 j 0) :: st)) : V X G mc ms Q σ pc lc (.ref (ad G 5 j 0) :: st) := v_geti C 5 j 0 6 86 (ok5 hj) rfl inA5 (by decide) (wA 181 (by decide +kernel) rfl) rfl rfl rfl hd kk
theorem gf_X8_82 (C : Gd X G cc RX8 nL d ret mc ms) {j : Nat} (hj : j < 7) (hd : decode cc pc = .ok (.getfield 82, 3)) (kk : V X G mc ms Q σ (pc + 3) lc (.ref (ad G 13 j 0) :: st)) : V X G mc ms Q σ pc lc (.ref (ad G 5 j 0) :: st) := v_getr C 5 j 0 2 (ad G 13 j 0) (ok5 hj) rfl inA5 (by decide) (wA 171 (by decide +kernel) rfl) rfl rfl rfl hd kk
theorem gf_X8_86 (C : Gd X G cc RX8 nL d ret mc ms) {j : Nat} (hj : j < 7) {l : Nat} (hl : l < 60) (hd : decode cc pc = .ok (.getfield 86, 3)) (kk : V X G mc ms Q σ (pc + 3) lc (.int (σ.1 96 j l) :: st)) : V X G mc ms Q σ pc lc (.ref (ad G 6 j l) :: st) := v_geti C 6 j l 0 96 (ok6 hj hl) rfl inA6 (by decide) (wA 126 (by decide +kernel) rfl) rfl rfl rfl hd kk
theorem gf_X8_93 (C : Gd X G cc RX8 nL d ret mc ms) {j : Nat} (hj : j < 7) {l : Nat} (hl : l < 60) (hd : decode cc pc = .ok (.getfield 93, 3)) (kk : V X G mc ms Q σ (pc + 3) lc (.int (σ.1 101 j l) :: st)) : V X G mc ms Q σ pc lc (.ref (ad G 6 j l) :: st) := v_geti C 6 j l 5 101 (ok6 hj hl) rfl inA6 (by decide) (wA 144 (by decide +kernel) rfl) rfl rfl rfl hd kk
theorem pf_X8_93 (C : Gd X G cc RX8 nL d ret mc ms) {j : Nat} (hj : j < 7) {l : Nat} (hl : l < 60) {v : Int32} (hd : decode cc pc = .ok (.putfield 93, 3)) (kk : V X G mc ms Q (up σ 101 j l v) (pc + 3) lc st) : V X G mc ms Q σ pc lc (.int v :: .ref (ad G 6 j l) :: st) := v_puti C 6 j l 5 101 (ty := .int) tyX6 (ok6 hj hl) rfl inA6 tyX6_ok nmX6 (by decide) (wA 144 (by decide +kernel) rfl) rfl rfl (by decide +kernel) rfl rfl (by decide) (by decide) rfl (Nat.le_of_ble_eq_true rfl) (by simp [cE, up]) hd kk
theorem gf_X8_94 (C : Gd X G cc RX8 nL d ret mc ms) {j : Nat} (hj : j < 7) {l : Nat} (hl : l < 60) (hd : decode cc pc = .ok (.getfield 94, 3)) (kk : V X G mc ms Q σ (pc + 3) lc (.int (σ.1 99 j l) :: st)) : V X G mc ms Q σ pc lc (.ref (ad G 6 j l) :: st) := v_geti C 6 j l 3 99 (ok6 hj hl) rfl inA6 (by decide) (wA 138 (by decide +kernel) rfl) rfl rfl rfl hd kk
theorem pf_X8_94 (C : Gd X G cc RX8 nL d ret mc ms) {j : Nat} (hj : j < 7) {l : Nat} (hl : l < 60) {v : Int32} (hd : decode cc pc = .ok (.putfield 94, 3)) (kk : V X G mc ms Q (up σ 99 j l v) (pc + 3) lc st) : V X G mc ms Q σ pc lc (.int v :: .ref (ad G 6 j l) :: st) := v_puti C 6 j l 3 99 (ty := .int) tyX6 (ok6 hj hl) rfl inA6 tyX6_ok nmX6 (by decide) (wA 138 (by decide +kernel) rfl) rfl rfl (by decide +kernel) rfl rfl (by decide) (by decide) rfl (Nat.le_of_ble_eq_true rfl) (by simp [cE, up]) hd kk
theorem gf_X8_100 (C : Gd X G cc RX8 nL d ret mc ms) {j : Nat} (hj : j < 7) {l : Nat} (hl : l < 8) (hd : decode cc pc = .ok (.getfield 100, 3)) (kk : V X G mc ms Q σ (pc + 3) lc (.int (σ.1 49 j l) :: st)) : V X G mc ms Q σ pc lc (.ref (ad G 3 j l) :: st) := v_geti C 3 j l 1 49 (ok3 hj hl) rfl inA3 (by decide) (wA 49 (by decide +kernel) rfl) rfl rfl rfl hd kk
theorem pf_X8_100 (C : Gd X G cc RX8 nL d ret mc ms) {j : Nat} (hj : j < 7) {l : Nat} (hl : l < 8) {v : Int32} (hd : decode cc pc = .ok (.putfield 100, 3)) (kk : V X G mc ms Q (up σ 49 j l v) (pc + 3) lc st) : V X G mc ms Q σ pc lc (.int v :: .ref (ad G 3 j l) :: st) := v_puti C 3 j l 1 49 (ty := .int) tyX3 (ok3 hj hl) rfl inA3 tyX3_ok nmX3 (by decide) (wA 49 (by decide +kernel) rfl) rfl rfl (by decide +kernel) rfl rfl (by decide) (by decide) rfl (Nat.le_of_ble_eq_true rfl) (by simp [cE, up]) hd kk
theorem gf_X8_105 (C : Gd X G cc RX8 nL d ret mc ms) {j : Nat} (hj : j < 7) {l : Nat} (hl : l < 60) (hd : decode cc pc = .ok (.getfield 105, 3)) (kk : V X G mc ms Q σ (pc + 3) lc (.int (σ.1 97 j l) :: st)) : V X G mc ms Q σ pc lc (.ref (ad G 6 j l) :: st) := v_geti C 6 j l 1 97 (ok6 hj hl) rfl inA6 (by decide) (wA 130 (by decide +kernel) rfl) rfl rfl rfl hd kk
theorem gf_X8_108 (C : Gd X G cc RX8 nL d ret mc ms) {j : Nat} (hj : j < 7) {l : Nat} (hl : l < 60) (hd : decode cc pc = .ok (.getfield 108, 3)) (kk : V X G mc ms Q σ (pc + 3) lc (.int (σ.1 98 j l) :: st)) : V X G mc ms Q σ pc lc (.ref (ad G 6 j l) :: st) := v_geti C 6 j l 2 98 (ok6 hj hl) rfl inA6 (by decide) (wA 134 (by decide +kernel) rfl) rfl rfl rfl hd kk
theorem pf_X9_22 (C : Gd X G cc RX9 nL d ret mc ms) {v : Int32} (hv : v = 0 ∨ v = 1) (hd : decode cc pc = .ok (.putfield 22, 3)) (kk : V X G mc ms Q (up σ 147 0 0 v) (pc + 3) lc st) : V X G mc ms Q σ pc lc (.int v :: .ref (ad G 9 0 0) :: st) := v_puti C 9 0 0 3 147 (ty := .boolean) tyX9 (ok9) rfl inA9 tyX9_ok nmX9 (by decide) (wA 324 (by decide +kernel) rfl) rfl rfl (by decide +kernel) (nar01 hv) (fit01 hv) (by decide) (by decide) rfl (Nat.le_of_ble_eq_true rfl) (by simp [cE, up]) hd kk
theorem gf_X9_10 (C : Gd X G cc RX9 nL d ret mc ms) (hd : decode cc pc = .ok (.getfield 10, 3)) (kk : V X G mc ms Q σ (pc + 3) lc (.ref (ad G 5 0 0) :: st)) : V X G mc ms Q σ pc lc (.ref (ad G 9 0 0) :: st) := v_getr C 9 0 0 0 (ad G 5 0 0) (ok9) rfl inA9 (by decide) (wA 321 (by decide +kernel) rfl) rfl rfl rfl hd kk
theorem gf_X9_54 (C : Gd X G cc RX9 nL d ret mc ms) {j : Nat} (hj : j < 7) (hd : decode cc pc = .ok (.getfield 54, 3)) (kk : V X G mc ms Q σ (pc + 3) lc (.int (σ.1 84 j 0) :: st)) : V X G mc ms Q σ pc lc (.ref (ad G 5 j 0) :: st) := v_geti C 5 j 0 4 84 (ok5 hj) rfl inA5 (by decide) (wA 176 (by decide +kernel) rfl) rfl rfl rfl hd kk
theorem gf_X9_29 (C : Gd X G cc RX9 nL d ret mc ms) (hd : decode cc pc = .ok (.getfield 29, 3)) (kk : V X G mc ms Q σ (pc + 3) lc (.ref (ad G 2 0 0) :: st)) : V X G mc ms Q σ pc lc (.ref (ad G 9 0 0) :: st) := v_getr C 9 0 0 4 (ad G 2 0 0) (ok9) rfl inA9 (by decide) (wA 325 (by decide +kernel) rfl) rfl rfl rfl hd kk
theorem gf_X9_62 (C : Gd X G cc RX9 nL d ret mc ms) {j : Nat} (hj : j < 7) (hd : decode cc pc = .ok (.getfield 62, 3)) (kk : V X G mc ms Q σ (pc + 3) lc (.ref (ad G 11 j 0) :: st)) : V X G mc ms Q σ pc lc (.ref (ad G 5 j 0) :: st) := v_getr C 5 j 0 0 (ad G 11 j 0) (ok5 hj) rfl inA5 (by decide) (wA 165 (by decide +kernel) rfl) rfl rfl rfl hd kk
theorem pf_X9_54 (C : Gd X G cc RX9 nL d ret mc ms) {j : Nat} (hj : j < 7) {v : Int32} (hd : decode cc pc = .ok (.putfield 54, 3)) (kk : V X G mc ms Q (up σ 84 j 0 v) (pc + 3) lc st) : V X G mc ms Q σ pc lc (.int v :: .ref (ad G 5 j 0) :: st) := v_puti C 5 j 0 4 84 (ty := .int) tyX5 (ok5 hj) rfl inA5 tyX5_ok nmX5 (by decide) (wA 176 (by decide +kernel) rfl) rfl rfl (by decide +kernel) rfl rfl (by decide) (by decide) rfl (Nat.le_of_ble_eq_true rfl) (by simp [cE, up]) hd kk
theorem gf_X9_77 (C : Gd X G cc RX9 nL d ret mc ms) {j : Nat} (hj : j < 7) {l : Nat} (hl : l < 8) (hd : decode cc pc = .ok (.getfield 77, 3)) (kk : V X G mc ms Q σ (pc + 3) lc (.int (σ.1 48 j l) :: st)) : V X G mc ms Q σ pc lc (.ref (ad G 3 j l) :: st) := v_geti C 3 j l 0 48 (ok3 hj hl) rfl inA3 (by decide) (wA 45 (by decide +kernel) rfl) rfl rfl rfl hd kk
theorem pf_X9_77 (C : Gd X G cc RX9 nL d ret mc ms) {j : Nat} (hj : j < 7) {l : Nat} (hl : l < 8) {v : Int32} (hd : decode cc pc = .ok (.putfield 77, 3)) (kk : V X G mc ms Q (up σ 48 j l v) (pc + 3) lc st) : V X G mc ms Q σ pc lc (.int v :: .ref (ad G 3 j l) :: st) := v_puti C 3 j l 0 48 (ty := .int) tyX3 (ok3 hj hl) rfl inA3 tyX3_ok nmX3 (by decide) (wA 45 (by decide +kernel) rfl) rfl rfl (by decide +kernel) rfl rfl (by decide) (by decide) rfl (Nat.le_of_ble_eq_true rfl) (by simp [cE, up]) hd kk
theorem gf_X9_80 (C : Gd X G cc RX9 nL d ret mc ms) {j : Nat} (hj : j < 7) (hd : decode cc pc = .ok (.getfield 80, 3)) (kk : V X G mc ms Q σ (pc + 3) lc (.int (σ.1 89 j 0) :: st)) : V X G mc ms Q σ pc lc (.ref (ad G 5 j 0) :: st) := v_geti C 5 j 0 9 89 (ok5 hj) rfl inA5 (by decide) (wA 190 (by decide +kernel) rfl) rfl rfl rfl hd kk
theorem pf_X9_80 (C : Gd X G cc RX9 nL d ret mc ms) {j : Nat} (hj : j < 7) {v : Int32} (hd : decode cc pc = .ok (.putfield 80, 3)) (kk : V X G mc ms Q (up σ 89 j 0 v) (pc + 3) lc st) : V X G mc ms Q σ pc lc (.int v :: .ref (ad G 5 j 0) :: st) := v_puti C 5 j 0 9 89 (ty := .int) tyX5 (ok5 hj) rfl inA5 tyX5_ok nmX5 (by decide) (wA 190 (by decide +kernel) rfl) rfl rfl (by decide +kernel) rfl rfl (by decide) (by decide) rfl (Nat.le_of_ble_eq_true rfl) (by simp [cE, up]) hd kk
theorem gf_X9_87 (C : Gd X G cc RX9 nL d ret mc ms) {j : Nat} (hj : j < 7) (hd : decode cc pc = .ok (.getfield 87, 3)) (kk : V X G mc ms Q σ (pc + 3) lc (.int (σ.1 85 j 0) :: st)) : V X G mc ms Q σ pc lc (.ref (ad G 5 j 0) :: st) := v_geti C 5 j 0 5 85 (ok5 hj) rfl inA5 (by decide) (wA 179 (by decide +kernel) rfl) rfl rfl rfl hd kk
theorem gf_X9_90 (C : Gd X G cc RX9 nL d ret mc ms) {j : Nat} (hj : j < 7) (hd : decode cc pc = .ok (.getfield 90, 3)) (kk : V X G mc ms Q σ (pc + 3) lc (.ref (ad G 12 j 0) :: st)) : V X G mc ms Q σ pc lc (.ref (ad G 5 j 0) :: st) := v_getr C 5 j 0 1 (ad G 12 j 0) (ok5 hj) rfl inA5 (by decide) (wA 169 (by decide +kernel) rfl) rfl rfl rfl hd kk
theorem pf_X9_87 (C : Gd X G cc RX9 nL d ret mc ms) {j : Nat} (hj : j < 7) {v : Int32} (hd : decode cc pc = .ok (.putfield 87, 3)) (kk : V X G mc ms Q (up σ 85 j 0 v) (pc + 3) lc st) : V X G mc ms Q σ pc lc (.int v :: .ref (ad G 5 j 0) :: st) := v_puti C 5 j 0 5 85 (ty := .int) tyX5 (ok5 hj) rfl inA5 tyX5_ok nmX5 (by decide) (wA 179 (by decide +kernel) rfl) rfl rfl (by decide +kernel) rfl rfl (by decide) (by decide) rfl (Nat.le_of_ble_eq_true rfl) (by simp [cE, up]) hd kk
theorem gf_X9_114 (C : Gd X G cc RX9 nL d ret mc ms) {j : Nat} (hj : j < 7) {l : Nat} (hl : l < 10) (hd : decode cc pc = .ok (.getfield 114, 3)) (kk : V X G mc ms Q σ (pc + 3) lc (.int (σ.1 64 j l) :: st)) : V X G mc ms Q σ pc lc (.ref (ad G 4 j l) :: st) := v_geti C 4 j l 0 64 (ok4 hj hl) rfl inA4 (by decide) (wA 69 (by decide +kernel) rfl) rfl rfl rfl hd kk
theorem gf_X9_50 (C : Gd X G cc RX9 nL d ret mc ms) (hd : decode cc pc = .ok (.getfield 50, 3)) (kk : V X G mc ms Q σ (pc + 3) lc (.ref (ad G 8 0 0) :: st)) : V X G mc ms Q σ pc lc (.ref (ad G 9 0 0) :: st) := v_getr C 9 0 0 7 (ad G 8 0 0) (ok9) rfl inA9 (by decide) (wA 328 (by decide +kernel) rfl) rfl rfl rfl hd kk
theorem gf_X9_43 (C : Gd X G cc RX9 nL d ret mc ms) (hd : decode cc pc = .ok (.getfield 43, 3)) (kk : V X G mc ms Q σ (pc + 3) lc (.ref (ad G 7 0 0) :: st)) : V X G mc ms Q σ pc lc (.ref (ad G 9 0 0) :: st) := v_getr C 9 0 0 6 (ad G 7 0 0) (ok9) rfl inA9 (by decide) (wA 327 (by decide +kernel) rfl) rfl rfl rfl hd kk
theorem gf_X9_150 (C : Gd X G cc RX9 nL d ret mc ms) {j : Nat} (hj : j < 7) {l : Nat} (hl : l < 10) (hd : decode cc pc = .ok (.getfield 150, 3)) (kk : V X G mc ms Q σ (pc + 3) lc (.int (σ.1 68 j l) :: st)) : V X G mc ms Q σ pc lc (.ref (ad G 4 j l) :: st) := v_geti C 4 j l 4 68 (ok4 hj hl) rfl inA4 (by decide) (wA 77 (by decide +kernel) rfl) rfl rfl rfl hd kk
theorem gf_X9_153 (C : Gd X G cc RX9 nL d ret mc ms) {j : Nat} (hj : j < 7) {l : Nat} (hl : l < 10) (hd : decode cc pc = .ok (.getfield 153, 3)) (kk : V X G mc ms Q σ (pc + 3) lc (.int (σ.1 72 j l) :: st)) : V X G mc ms Q σ pc lc (.ref (ad G 4 j l) :: st) := v_geti C 4 j l 8 72 (ok4 hj hl) rfl inA4 (by decide) (wA 88 (by decide +kernel) rfl) rfl rfl rfl hd kk
theorem gf_X9_156 (C : Gd X G cc RX9 nL d ret mc ms) {j : Nat} (hj : j < 7) {l : Nat} (hl : l < 10) (hd : decode cc pc = .ok (.getfield 156, 3)) (kk : V X G mc ms Q σ (pc + 3) lc (.int (σ.1 70 j l) :: st)) : V X G mc ms Q σ pc lc (.ref (ad G 4 j l) :: st) := v_geti C 4 j l 6 70 (ok4 hj hl) rfl inA4 (by decide) (wA 83 (by decide +kernel) rfl) rfl rfl rfl hd kk
theorem pf_X9_159 (C : Gd X G cc RX9 nL d ret mc ms) {j : Nat} (hj : j < 7) {l : Nat} (hl : l < 10) {v : Int32} (hd : decode cc pc = .ok (.putfield 159, 3)) (kk : V X G mc ms Q (up σ 71 j l v) (pc + 3) lc st) : V X G mc ms Q σ pc lc (.int v :: .ref (ad G 4 j l) :: st) := v_puti C 4 j l 7 71 (ty := .int) tyX4 (ok4 hj hl) rfl inA4 tyX4_ok nmX4 (by decide) (wA 86 (by decide +kernel) rfl) rfl rfl (by decide +kernel) rfl rfl (by decide) (by decide) rfl (Nat.le_of_ble_eq_true rfl) (by simp [cE, up]) hd kk
theorem pf_X9_153 (C : Gd X G cc RX9 nL d ret mc ms) {j : Nat} (hj : j < 7) {l : Nat} (hl : l < 10) {v : Int32} (hd : decode cc pc = .ok (.putfield 153, 3)) (kk : V X G mc ms Q (up σ 72 j l v) (pc + 3) lc st) : V X G mc ms Q σ pc lc (.int v :: .ref (ad G 4 j l) :: st) := v_puti C 4 j l 8 72 (ty := .int) tyX4 (ok4 hj hl) rfl inA4 tyX4_ok nmX4 (by decide) (wA 88 (by decide +kernel) rfl) rfl rfl (by decide +kernel) rfl rfl (by decide) (by decide) rfl (Nat.le_of_ble_eq_true rfl) (by simp [cE, up]) hd kk
theorem pf_X9_165 (C : Gd X G cc RX9 nL d ret mc ms) {j : Nat} (hj : j < 7) {l : Nat} (hl : l < 10) {v : Int32} (hd : decode cc pc = .ok (.putfield 165, 3)) (kk : V X G mc ms Q (up σ 69 j l v) (pc + 3) lc st) : V X G mc ms Q σ pc lc (.int v :: .ref (ad G 4 j l) :: st) := v_puti C 4 j l 5 69 (ty := .int) tyX4 (ok4 hj hl) rfl inA4 tyX4_ok nmX4 (by decide) (wA 80 (by decide +kernel) rfl) rfl rfl (by decide +kernel) rfl rfl (by decide) (by decide) rfl (Nat.le_of_ble_eq_true rfl) (by simp [cE, up]) hd kk
theorem gf_X9_165 (C : Gd X G cc RX9 nL d ret mc ms) {j : Nat} (hj : j < 7) {l : Nat} (hl : l < 10) (hd : decode cc pc = .ok (.getfield 165, 3)) (kk : V X G mc ms Q σ (pc + 3) lc (.int (σ.1 69 j l) :: st)) : V X G mc ms Q σ pc lc (.ref (ad G 4 j l) :: st) := v_geti C 4 j l 5 69 (ok4 hj hl) rfl inA4 (by decide) (wA 80 (by decide +kernel) rfl) rfl rfl rfl hd kk
theorem pf_X9_178 (C : Gd X G cc RX9 nL d ret mc ms) {j : Nat} (hj : j < 7) {v : Int32} (hd : decode cc pc = .ok (.putfield 178, 3)) (kk : V X G mc ms Q (up σ 88 j 0 v) (pc + 3) lc st) : V X G mc ms Q σ pc lc (.int v :: .ref (ad G 5 j 0) :: st) := v_puti C 5 j 0 8 88 (ty := .int) tyX5 (ok5 hj) rfl inA5 tyX5_ok nmX5 (by decide) (wA 187 (by decide +kernel) rfl) rfl rfl (by decide +kernel) rfl rfl (by decide) (by decide) rfl (Nat.le_of_ble_eq_true rfl) (by simp [cE, up]) hd kk
theorem gf_X9_187 (C : Gd X G cc RX9 nL d ret mc ms) {j : Nat} (hj : j < 7) {l : Nat} (hl : l < 10) (hd : decode cc pc = .ok (.getfield 187, 3)) (kk : V X G mc ms Q σ (pc + 3) lc (.int (σ.1 74 j l) :: st)) : V X G mc ms Q σ pc lc (.ref (ad G 4 j l) :: st) := v_geti C 4 j l 10 74 (ok4 hj hl) rfl inA4 (by decide) (wA 95 (by decide +kernel) rfl) rfl rfl rfl hd kk
theorem gf_X9_190 (C : Gd X G cc RX9 nL d ret mc ms) {j : Nat} (hj : j < 7) {l : Nat} (hl : l < 10) (hd : decode cc pc = .ok (.getfield 190, 3)) (kk : V X G mc ms Q σ (pc + 3) lc (.int (σ.1 73 j l) :: st)) : V X G mc ms Q σ pc lc (.ref (ad G 4 j l) :: st) := v_geti C 4 j l 9 73 (ok4 hj hl) rfl inA4 (by decide) (wA 93 (by decide +kernel) rfl) rfl rfl rfl hd kk
theorem pf_X9_187 (C : Gd X G cc RX9 nL d ret mc ms) {j : Nat} (hj : j < 7) {l : Nat} (hl : l < 10) {v : Int32} (hd : decode cc pc = .ok (.putfield 187, 3)) (kk : V X G mc ms Q (up σ 74 j l v) (pc + 3) lc st) : V X G mc ms Q σ pc lc (.int v :: .ref (ad G 4 j l) :: st) := v_puti C 4 j l 10 74 (ty := .int) tyX4 (ok4 hj hl) rfl inA4 tyX4_ok nmX4 (by decide) (wA 95 (by decide +kernel) rfl) rfl rfl (by decide +kernel) rfl rfl (by decide) (by decide) rfl (Nat.le_of_ble_eq_true rfl) (by simp [cE, up]) hd kk
theorem gf_X9_196 (C : Gd X G cc RX9 nL d ret mc ms) {j : Nat} (hj : j < 7) (hd : decode cc pc = .ok (.getfield 196, 3)) (kk : V X G mc ms Q σ (pc + 3) lc (.ref (ad G 13 j 0) :: st)) : V X G mc ms Q σ pc lc (.ref (ad G 5 j 0) :: st) := v_getr C 5 j 0 2 (ad G 13 j 0) (ok5 hj) rfl inA5 (by decide) (wA 172 (by decide +kernel) rfl) rfl rfl rfl hd kk
theorem gf_X9_200 (C : Gd X G cc RX9 nL d ret mc ms) {j : Nat} (hj : j < 7) {l : Nat} (hl : l < 60) (hd : decode cc pc = .ok (.getfield 200, 3)) (kk : V X G mc ms Q σ (pc + 3) lc (.int (σ.1 96 j l) :: st)) : V X G mc ms Q σ pc lc (.ref (ad G 6 j l) :: st) := v_geti C 6 j l 0 96 (ok6 hj hl) rfl inA6 (by decide) (wA 127 (by decide +kernel) rfl) rfl rfl rfl hd kk
theorem gf_X9_205 (C : Gd X G cc RX9 nL d ret mc ms) {j : Nat} (hj : j < 7) {l : Nat} (hl : l < 60) (hd : decode cc pc = .ok (.getfield 205, 3)) (kk : V X G mc ms Q σ (pc + 3) lc (.int (σ.1 97 j l) :: st)) : V X G mc ms Q σ pc lc (.ref (ad G 6 j l) :: st) := v_geti C 6 j l 1 97 (ok6 hj hl) rfl inA6 (by decide) (wA 132 (by decide +kernel) rfl) rfl rfl rfl hd kk
theorem pf_X9_200 (C : Gd X G cc RX9 nL d ret mc ms) {j : Nat} (hj : j < 7) {l : Nat} (hl : l < 60) {v : Int32} (hd : decode cc pc = .ok (.putfield 200, 3)) (kk : V X G mc ms Q (up σ 96 j l v) (pc + 3) lc st) : V X G mc ms Q σ pc lc (.int v :: .ref (ad G 6 j l) :: st) := v_puti C 6 j l 0 96 (ty := .int) tyX6 (ok6 hj hl) rfl inA6 tyX6_ok nmX6 (by decide) (wA 127 (by decide +kernel) rfl) rfl rfl (by decide +kernel) rfl rfl (by decide) (by decide) rfl (Nat.le_of_ble_eq_true rfl) (by simp [cE, up]) hd kk
theorem gf_X9_215 (C : Gd X G cc RX9 nL d ret mc ms) {j : Nat} (hj : j < 7) {l : Nat} (hl : l < 60) (hd : decode cc pc = .ok (.getfield 215, 3)) (kk : V X G mc ms Q σ (pc + 3) lc (.int (σ.1 99 j l) :: st)) : V X G mc ms Q σ pc lc (.ref (ad G 6 j l) :: st) := v_geti C 6 j l 3 99 (ok6 hj hl) rfl inA6 (by decide) (wA 140 (by decide +kernel) rfl) rfl rfl rfl hd kk
theorem gf_X9_216 (C : Gd X G cc RX9 nL d ret mc ms) {j : Nat} (hj : j < 7) (hd : decode cc pc = .ok (.getfield 216, 3)) (kk : V X G mc ms Q σ (pc + 3) lc (.int (σ.1 87 j 0) :: st)) : V X G mc ms Q σ pc lc (.ref (ad G 5 j 0) :: st) := v_geti C 5 j 0 7 87 (ok5 hj) rfl inA5 (by decide) (wA 184 (by decide +kernel) rfl) rfl rfl rfl hd kk
theorem gf_X9_274 (C : Gd X G cc RX9 nL d ret mc ms) {j : Nat} (hj : j < 7) {l : Nat} (hl : l < 8) (hd : decode cc pc = .ok (.getfield 274, 3)) (kk : V X G mc ms Q σ (pc + 3) lc (.int (σ.1 49 j l) :: st)) : V X G mc ms Q σ pc lc (.ref (ad G 3 j l) :: st) := v_geti C 3 j l 1 49 (ok3 hj hl) rfl inA3 (by decide) (wA 50 (by decide +kernel) rfl) rfl rfl rfl hd kk
theorem gf_X9_277 (C : Gd X G cc RX9 nL d ret mc ms) {j : Nat} (hj : j < 7) {l : Nat} (hl : l < 8) (hd : decode cc pc = .ok (.getfield 277, 3)) (kk : V X G mc ms Q σ (pc + 3) lc (.int (σ.1 50 j l) :: st)) : V X G mc ms Q σ pc lc (.ref (ad G 3 j l) :: st) := v_geti C 3 j l 2 50 (ok3 hj hl) rfl inA3 (by decide) (wA 53 (by decide +kernel) rfl) rfl rfl rfl hd kk
theorem gf_X9_280 (C : Gd X G cc RX9 nL d ret mc ms) {j : Nat} (hj : j < 7) {l : Nat} (hl : l < 10) (hd : decode cc pc = .ok (.getfield 280, 3)) (kk : V X G mc ms Q σ (pc + 3) lc (.int (σ.1 65 j l) :: st)) : V X G mc ms Q σ pc lc (.ref (ad G 4 j l) :: st) := v_geti C 4 j l 1 65 (ok4 hj hl) rfl inA4 (by decide) (wA 72 (by decide +kernel) rfl) rfl rfl rfl hd kk
theorem gf_X9_159 (C : Gd X G cc RX9 nL d ret mc ms) {j : Nat} (hj : j < 7) {l : Nat} (hl : l < 10) (hd : decode cc pc = .ok (.getfield 159, 3)) (kk : V X G mc ms Q σ (pc + 3) lc (.int (σ.1 71 j l) :: st)) : V X G mc ms Q σ pc lc (.ref (ad G 4 j l) :: st) := v_geti C 4 j l 7 71 (ok4 hj hl) rfl inA4 (by decide) (wA 86 (by decide +kernel) rfl) rfl rfl rfl hd kk
theorem gf_X9_286 (C : Gd X G cc RX9 nL d ret mc ms) {j : Nat} (hj : j < 7) {l : Nat} (hl : l < 60) (hd : decode cc pc = .ok (.getfield 286, 3)) (kk : V X G mc ms Q σ (pc + 3) lc (.int (σ.1 98 j l) :: st)) : V X G mc ms Q σ pc lc (.ref (ad G 6 j l) :: st) := v_geti C 6 j l 2 98 (ok6 hj hl) rfl inA6 (by decide) (wA 136 (by decide +kernel) rfl) rfl rfl rfl hd kk
theorem gf_X9_287 (C : Gd X G cc RX9 nL d ret mc ms) {j : Nat} (hj : j < 7) {l : Nat} (hl : l < 60) (hd : decode cc pc = .ok (.getfield 287, 3)) (kk : V X G mc ms Q σ (pc + 3) lc (.int (σ.1 100 j l) :: st)) : V X G mc ms Q σ pc lc (.ref (ad G 6 j l) :: st) := v_geti C 6 j l 4 100 (ok6 hj hl) rfl inA6 (by decide) (wA 142 (by decide +kernel) rfl) rfl rfl rfl hd kk
theorem gf_X9_290 (C : Gd X G cc RX9 nL d ret mc ms) {j : Nat} (hj : j < 7) {l : Nat} (hl : l < 60) (hd : decode cc pc = .ok (.getfield 290, 3)) (kk : V X G mc ms Q σ (pc + 3) lc (.int (σ.1 101 j l) :: st)) : V X G mc ms Q σ pc lc (.ref (ad G 6 j l) :: st) := v_geti C 6 j l 5 101 (ok6 hj hl) rfl inA6 (by decide) (wA 145 (by decide +kernel) rfl) rfl rfl rfl hd kk
theorem gf_X9_291 (C : Gd X G cc RX9 nL d ret mc ms) {j : Nat} (hj : j < 7) {l : Nat} (hl : l < 60) (hd : decode cc pc = .ok (.getfield 291, 3)) (kk : V X G mc ms Q σ (pc + 3) lc (.int (σ.1 102 j l) :: st)) : V X G mc ms Q σ pc lc (.ref (ad G 6 j l) :: st) := v_geti C 6 j l 6 102 (ok6 hj hl) rfl inA6 (by decide) (wA 148 (by decide +kernel) rfl) rfl rfl rfl hd kk
theorem gf_X9_294 (C : Gd X G cc RX9 nL d ret mc ms) (hd : decode cc pc = .ok (.getfield 294, 3)) (kk : V X G mc ms Q σ (pc + 3) lc (.int (σ.1 112 0 0) :: st)) : V X G mc ms Q σ pc lc (.ref (ad G 7 0 0) :: st) := v_geti C 7 0 0 0 112 (ok7) rfl inA7 (by decide) (wA 274 (by decide +kernel) rfl) rfl rfl rfl hd kk
theorem gf_X9_297 (C : Gd X G cc RX9 nL d ret mc ms) (hd : decode cc pc = .ok (.getfield 297, 3)) (kk : V X G mc ms Q σ (pc + 3) lc (.int (σ.1 113 0 0) :: st)) : V X G mc ms Q σ pc lc (.ref (ad G 7 0 0) :: st) := v_geti C 7 0 0 1 113 (ok7) rfl inA7 (by decide) (wA 278 (by decide +kernel) rfl) rfl rfl rfl hd kk
theorem gf_X9_298 (C : Gd X G cc RX9 nL d ret mc ms) (hd : decode cc pc = .ok (.getfield 298, 3)) (kk : V X G mc ms Q σ (pc + 3) lc (.int (σ.1 114 0 0) :: st)) : V X G mc ms Q σ pc lc (.ref (ad G 7 0 0) :: st) := v_geti C 7 0 0 2 114 (ok7) rfl inA7 (by decide) (wA 282 (by decide +kernel) rfl) rfl rfl rfl hd kk
theorem gf_X9_301 (C : Gd X G cc RX9 nL d ret mc ms) (hd : decode cc pc = .ok (.getfield 301, 3)) (kk : V X G mc ms Q σ (pc + 3) lc (.int (σ.1 115 0 0) :: st)) : V X G mc ms Q σ pc lc (.ref (ad G 7 0 0) :: st) := v_geti C 7 0 0 3 115 (ok7) rfl inA7 (by decide) (wA 285 (by decide +kernel) rfl) rfl rfl rfl hd kk
theorem gf_X9_302 (C : Gd X G cc RX9 nL d ret mc ms) (hd : decode cc pc = .ok (.getfield 302, 3)) (kk : V X G mc ms Q σ (pc + 3) lc (.int (σ.1 116 0 0) :: st)) : V X G mc ms Q σ pc lc (.ref (ad G 7 0 0) :: st) := v_geti C 7 0 0 4 116 (ok7) rfl inA7 (by decide) (wA 288 (by decide +kernel) rfl) rfl rfl rfl hd kk
theorem gf_X9_305 (C : Gd X G cc RX9 nL d ret mc ms) (hd : decode cc pc = .ok (.getfield 305, 3)) (kk : V X G mc ms Q σ (pc + 3) lc (.int (σ.1 117 0 0) :: st)) : V X G mc ms Q σ pc lc (.ref (ad G 7 0 0) :: st) := v_geti C 7 0 0 5 117 (ok7) rfl inA7 (by decide) (wA 291 (by decide +kernel) rfl) rfl rfl rfl hd kk
theorem gf_X9_317 (C : Gd X G cc RX9 nL d ret mc ms) {j : Nat} (hj : j < 7) (hd : decode cc pc = .ok (.getfield 317, 3)) (kk : V X G mc ms Q σ (pc + 3) lc (.ref (ad G 14 j 0) :: st)) : V X G mc ms Q σ pc lc (.ref (ad G 5 j 0) :: st) := v_getr C 5 j 0 3 (ad G 14 j 0) (ok5 hj) rfl inA5 (by decide) (wA 174 (by decide +kernel) rfl) rfl rfl rfl hd kk
theorem gf_X9_262 (C : Gd X G cc RX9 nL d ret mc ms) {j : Nat} (hj : j < 7) (hd : decode cc pc = .ok (.getfield 262, 3)) (kk : V X G mc ms Q σ (pc + 3) lc (.int (σ.1 86 j 0) :: st)) : V X G mc ms Q σ pc lc (.ref (ad G 5 j 0) :: st) := v_geti C 5 j 0 6 86 (ok5 hj) rfl inA5 (by decide) (wA 182 (by decide +kernel) rfl) rfl rfl rfl hd kk
theorem gf_X9_178 (C : Gd X G cc RX9 nL d ret mc ms) {j : Nat} (hj : j < 7) (hd : decode cc pc = .ok (.getfield 178, 3)) (kk : V X G mc ms Q σ (pc + 3) lc (.int (σ.1 88 j 0) :: st)) : V X G mc ms Q σ pc lc (.ref (ad G 5 j 0) :: st) := v_geti C 5 j 0 8 88 (ok5 hj) rfl inA5 (by decide) (wA 187 (by decide +kernel) rfl) rfl rfl rfl hd kk
theorem gf_X9_256 (C : Gd X G cc RX9 nL d ret mc ms) (hd : decode cc pc = .ok (.getfield 256, 3)) (kk : V X G mc ms Q σ (pc + 3) lc (.int (σ.1 33 0 0) :: st)) : V X G mc ms Q σ pc lc (.ref (ad G 2 0 0) :: st) := v_geti C 2 0 0 1 33 (ok2) rfl inA2 (by decide) (wA 223 (by decide +kernel) rfl) rfl rfl rfl hd kk
theorem gf_X9_36 (C : Gd X G cc RX9 nL d ret mc ms) (hd : decode cc pc = .ok (.getfield 36, 3)) (kk : V X G mc ms Q σ (pc + 3) lc (.ref (ad G 1 0 0) :: st)) : V X G mc ms Q σ pc lc (.ref (ad G 9 0 0) :: st) := v_getr C 9 0 0 5 (ad G 1 0 0) (ok9) rfl inA9 (by decide) (wA 326 (by decide +kernel) rfl) rfl rfl rfl hd kk
theorem gf_X9_226 (C : Gd X G cc RX9 nL d ret mc ms) (hd : decode cc pc = .ok (.getfield 226, 3)) (kk : V X G mc ms Q σ (pc + 3) lc (.int (σ.1 17 0 0) :: st)) : V X G mc ms Q σ pc lc (.ref (ad G 1 0 0) :: st) := v_geti C 1 0 0 1 17 (ok1) rfl inA1 (by decide) (wA 254 (by decide +kernel) rfl) rfl rfl rfl hd kk
theorem ld_14 {own : String} (C : Gd X G cc own nL d ret mc ms) {j : Nat} (hj : j < 7) {R : Type} {A : Option R} {res : R} {i : Int32} (hd : decode cc pc = .ok (.iaload, 1)) (h : (if inb i 4 then A else none) = some res) (kk : A = some res → V X G mc ms Q σ (pc + 1) lc (.int (σ.1 224 j i.toNatClampNeg) :: st)) : V X G mc ms Q σ pc lc (.int i :: .ref (ad G 14 j 0) :: st) := v_iald C 14 j 224 4 (ok14 hj) rfl hd h kk
theorem as_14 {own : String} (C : Gd X G cc own nL d ret mc ms) {j : Nat} (hj : j < 7) {R : Type} {A : Option R} {res : R} {i v : Int32} (hd : decode cc pc = .ok (.iastore, 1)) (h : (if inb i 4 then A else none) = some res) (kk : A = some res → V X G mc ms Q (up σ 224 j i.toNatClampNeg v) (pc + 1) lc st) : V X G mc ms Q σ pc lc (.int v :: .int i :: .ref (ad G 14 j 0) :: st) := v_iast C 14 j 224 4 (ok14 hj) (by decide) rfl (fun _ => rfl) hd h kk
theorem ld_18 {own : String} (C : Gd X G cc own nL d ret mc ms) {j : Nat} (hj : j < 3) {R : Type} {A : Option R} {res : R} {i : Int32} (hd : decode cc pc = .ok (.iaload, 1)) (h : (if inb i 60 then A else none) = some res) (kk : A = some res → V X G mc ms Q σ (pc + 1) lc (.int (σ.1 288 j i.toNatClampNeg) :: st)) : V X G mc ms Q σ pc lc (.int i :: .ref (ad G 18 j 0) :: st) := v_iald C 18 j 288 60 (ok18 hj) rfl hd h kk
theorem as_18 {own : String} (C : Gd X G cc own nL d ret mc ms) {j : Nat} (hj : j < 3) {R : Type} {A : Option R} {res : R} {i v : Int32} (hd : decode cc pc = .ok (.iastore, 1)) (h : (if inb i 60 then A else none) = some res) (kk : A = some res → V X G mc ms Q (up σ 288 j i.toNatClampNeg v) (pc + 1) lc st) : V X G mc ms Q σ pc lc (.int v :: .int i :: .ref (ad G 18 j 0) :: st) := v_iast C 18 j 288 60 (ok18 hj) (by decide) rfl (fun _ => rfl) hd h kk
theorem ld_19 {own : String} (C : Gd X G cc own nL d ret mc ms) {R : Type} {A : Option R} {res : R} {i : Int32} (hd : decode cc pc = .ok (.iaload, 1)) (h : (if inb i 9 then A else none) = some res) (kk : A = some res → V X G mc ms Q σ (pc + 1) lc (.int (σ.1 304 0 i.toNatClampNeg) :: st)) : V X G mc ms Q σ pc lc (.int i :: .ref (ad G 19 0 0) :: st) := v_iald C 19 0 304 9 ok19 rfl hd h kk
theorem as_19 {own : String} (C : Gd X G cc own nL d ret mc ms) {R : Type} {A : Option R} {res : R} {i v : Int32} (hd : decode cc pc = .ok (.iastore, 1)) (h : (if inb i 9 then A else none) = some res) (kk : A = some res → V X G mc ms Q (up σ 304 0 i.toNatClampNeg v) (pc + 1) lc st) : V X G mc ms Q σ pc lc (.int v :: .int i :: .ref (ad G 19 0 0) :: st) := v_iast C 19 0 304 9 ok19 (by decide) rfl (fun _ => rfl) hd h kk
theorem ld_20 {own : String} (C : Gd X G cc own nL d ret mc ms) {R : Type} {A : Option R} {res : R} {i : Int32} (hd : decode cc pc = .ok (.iaload, 1)) (h : (if inb i 9 then A else none) = some res) (kk : A = some res → V X G mc ms Q σ (pc + 1) lc (.int (σ.1 320 0 i.toNatClampNeg) :: st)) : V X G mc ms Q σ pc lc (.int i :: .ref (ad G 20 0 0) :: st) := v_iald C 20 0 320 9 ok20 rfl hd h kk
theorem as_20 {own : String} (C : Gd X G cc own nL d ret mc ms) {R : Type} {A : Option R} {res : R} {i v : Int32} (hd : decode cc pc = .ok (.iastore, 1)) (h : (if inb i 9 then A else none) = some res) (kk : A = some res → V X G mc ms Q (up σ 320 0 i.toNatClampNeg v) (pc + 1) lc st) : V X G mc ms Q σ pc lc (.int v :: .int i :: .ref (ad G 20 0 0) :: st) := v_iast C 20 0 320 9 ok20 (by decide) rfl (fun _ => rfl) hd h kk
theorem ld_21 {own : String} (C : Gd X G cc own nL d ret mc ms) {R : Type} {A : Option R} {res : R} {i : Int32} (hd : decode cc pc = .ok (.iaload, 1)) (h : (if inb i 44 then A else none) = some res) (kk : A = some res → V X G mc ms Q σ (pc + 1) lc (.int (σ.1 336 0 i.toNatClampNeg) :: st)) : V X G mc ms Q σ pc lc (.int i :: .ref (ad G 21 0 0) :: st) := v_iald C 21 0 336 44 ok21 rfl hd h kk
theorem as_21 {own : String} (C : Gd X G cc own nL d ret mc ms) {R : Type} {A : Option R} {res : R} {i v : Int32} (hd : decode cc pc = .ok (.iastore, 1)) (h : (if inb i 44 then A else none) = some res) (kk : A = some res → V X G mc ms Q (up σ 336 0 i.toNatClampNeg v) (pc + 1) lc st) : V X G mc ms Q σ pc lc (.int v :: .int i :: .ref (ad G 21 0 0) :: st) := v_iast C 21 0 336 44 ok21 (by decide) rfl (fun _ => rfl) hd h kk
theorem ld_22 {own : String} (C : Gd X G cc own nL d ret mc ms) {R : Type} {A : Option R} {res : R} {i : Int32} (hd : decode cc pc = .ok (.iaload, 1)) (h : (if inb i 60 then A else none) = some res) (kk : A = some res → V X G mc ms Q σ (pc + 1) lc (.int (σ.1 352 0 i.toNatClampNeg) :: st)) : V X G mc ms Q σ pc lc (.int i :: .ref (ad G 22 0 0) :: st) := v_iald C 22 0 352 60 ok22 rfl hd h kk
theorem as_22 {own : String} (C : Gd X G cc own nL d ret mc ms) {R : Type} {A : Option R} {res : R} {i v : Int32} (hd : decode cc pc = .ok (.iastore, 1)) (h : (if inb i 60 then A else none) = some res) (kk : A = some res → V X G mc ms Q (up σ 352 0 i.toNatClampNeg v) (pc + 1) lc st) : V X G mc ms Q σ pc lc (.int v :: .int i :: .ref (ad G 22 0 0) :: st) := v_iast C 22 0 352 60 ok22 (by decide) rfl (fun _ => rfl) hd h kk
theorem ld_23 {own : String} (C : Gd X G cc own nL d ret mc ms) {R : Type} {A : Option R} {res : R} {i : Int32} (hd : decode cc pc = .ok (.iaload, 1)) (h : (if inb i 10 then A else none) = some res) (kk : A = some res → V X G mc ms Q σ (pc + 1) lc (.int (σ.1 368 0 i.toNatClampNeg) :: st)) : V X G mc ms Q σ pc lc (.int i :: .ref (ad G 23 0 0) :: st) := v_iald C 23 0 368 10 ok23 rfl hd h kk
theorem as_23 {own : String} (C : Gd X G cc own nL d ret mc ms) {R : Type} {A : Option R} {res : R} {i v : Int32} (hd : decode cc pc = .ok (.iastore, 1)) (h : (if inb i 10 then A else none) = some res) (kk : A = some res → V X G mc ms Q (up σ 368 0 i.toNatClampNeg v) (pc + 1) lc st) : V X G mc ms Q σ pc lc (.int v :: .int i :: .ref (ad G 23 0 0) :: st) := v_iast C 23 0 368 10 ok23 (by decide) rfl (fun _ => rfl) hd h kk
theorem ld_24 {own : String} (C : Gd X G cc own nL d ret mc ms) {R : Type} {A : Option R} {res : R} {i : Int32} (hd : decode cc pc = .ok (.iaload, 1)) (h : (if inb i 10 then A else none) = some res) (kk : A = some res → V X G mc ms Q σ (pc + 1) lc (.int (σ.1 384 0 i.toNatClampNeg) :: st)) : V X G mc ms Q σ pc lc (.int i :: .ref (ad G 24 0 0) :: st) := v_iald C 24 0 384 10 ok24 rfl hd h kk
theorem as_24 {own : String} (C : Gd X G cc own nL d ret mc ms) {R : Type} {A : Option R} {res : R} {i v : Int32} (hd : decode cc pc = .ok (.iastore, 1)) (h : (if inb i 10 then A else none) = some res) (kk : A = some res → V X G mc ms Q (up σ 384 0 i.toNatClampNeg v) (pc + 1) lc st) : V X G mc ms Q σ pc lc (.int v :: .int i :: .ref (ad G 24 0 0) :: st) := v_iast C 24 0 384 10 ok24 (by decide) rfl (fun _ => rfl) hd h kk
theorem lq_11 {own : String} (C : Gd X G cc own nL d ret mc ms) {j : Nat} (hj : j < 7) {R : Type} {A : Option R} {res : R} {i : Int32} (hd : decode cc pc = .ok (.aaload, 1)) (h : (if inb i 8 then A else none) = some res) (kk : A = some res → i.toNatClampNeg < 8 → V X G mc ms Q σ (pc + 1) lc (.ref (ad G 3 j i.toNatClampNeg) :: st)) : V X G mc ms Q σ pc lc (.int i :: .ref (ad G 11 j 0) :: st) := v_aald C 11 j 8 2 2 (fun i => ad G 3 j i) (ok11 hj) rfl rfl hd h (fun h2 => kk h2 (Nat.not_le.mp fun q => (vp_in_iff.mpr (if_some h).1) (Or.inr q)))
theorem lq_12 {own : String} (C : Gd X G cc own nL d ret mc ms) {j : Nat} (hj : j < 7) {R : Type} {A : Option R} {res : R} {i : Int32} (hd : decode cc pc = .ok (.aaload, 1)) (h : (if inb i 10 then A else none) = some res) (kk : A = some res → i.toNatClampNeg < 10 → V X G mc ms Q σ (pc + 1) lc (.ref (ad G 4 j i.toNatClampNeg) :: st)) : V X G mc ms Q σ pc lc (.int i :: .ref (ad G 12 j 0) :: st) := v_aald C 12 j 10 3 3 (fun i => ad G 4 j i) (ok12 hj) rfl rfl hd h (fun h2 => kk h2 (Nat.not_le.mp fun q => (vp_in_iff.mpr (if_some h).1) (Or.inr q)))
theorem lq_13 {own : String} (C : Gd X G cc own nL d ret mc ms) {j : Nat} (hj : j < 7) {R : Type} {A : Option R} {res : R} {i : Int32} (hd : decode cc pc = .ok (.aaload, 1)) (h : (if inb i 60 then A else none) = some res) (kk : A = some res → i.toNatClampNeg < 60 → V X G mc ms Q σ (pc + 1) lc (.ref (ad G 6 j i.toNatClampNeg) :: st)) : V X G mc ms Q σ pc lc (.int i :: .ref (ad G 13 j 0) :: st) := v_aald C 13 j 60 4 4 (fun i => ad G 6 j i) (ok13 hj) rfl rfl hd h (fun h2 => kk h2 (Nat.not_le.mp fun q => (vp_in_iff.mpr (if_some h).1) (Or.inr q)))
theorem lq_15 {own : String} (C : Gd X G cc own nL d ret mc ms) {R : Type} {A : Option R} {res : R} {i : Int32} (hd : decode cc pc = .ok (.aaload, 1)) (h : (if inb i 4 then A else none) = some res) (kk : A = some res → σ.2 i.toNatClampNeg < 7 → V X G mc ms Q σ (pc + 1) lc (.ref (ad G 5 (σ.2 i.toNatClampNeg) 0) :: st)) : V X G mc ms Q σ pc lc (.int i :: .ref (ad G 15 0 0) :: st) := fun H locs ls hR hS hl => v_aald C 15 0 4 5 5 (fun i => ad G 5 (σ.2 i) 0) ok15 rfl rfl hd h (fun h => kk h (hR.2 _)) H locs ls hR hS hl
theorem lq_17 {own : String} (C : Gd X G cc own nL d ret mc ms) {R : Type} {A : Option R} {res : R} {i : Int32} (hd : decode cc pc = .ok (.aaload, 1)) (h : (if inb i 10 then A else none) = some res) (kk : A = some res → i.toNatClampNeg < 10 → V X G mc ms Q σ (pc + 1) lc (.ref (ad G 0 0 i.toNatClampNeg) :: st)) : V X G mc ms Q σ pc lc (.int i :: .ref (ad G 17 0 0) :: st) := v_aald C 17 0 10 6 6 (fun i => ad G 0 0 i) ok17 rfl rfl hd h (fun h2 => kk h2 (Nat.not_le.mp fun q => (vp_in_iff.mpr (if_some h).1) (Or.inr q)))
theorem al_11 {own : String} (C : Gd X G cc own nL d ret mc ms) {j : Nat} (hj : j < 7) (hd : decode cc pc = .ok (.arraylength, 1)) (kk : V X G mc ms Q σ (pc + 1) lc (.int 8 :: st)) : V X G mc ms Q σ pc lc (.ref (ad G 11 j 0) :: st) := v_alen C 11 j 8 2 2 (ok11 hj) rfl rfl rfl hd kk
theorem al_12 {own : String} (C : Gd X G cc own nL d ret mc ms) {j : Nat} (hj : j < 7) (hd : decode cc pc = .ok (.arraylength, 1)) (kk : V X G mc ms Q σ (pc + 1) lc (.int 10 :: st)) : V X G mc ms Q σ pc lc (.ref (ad G 12 j 0) :: st) := v_alen C 12 j 10 3 3 (ok12 hj) rfl rfl rfl hd kk
theorem al_13 {own : String} (C : Gd X G cc own nL d ret mc ms) {j : Nat} (hj : j < 7) (hd : decode cc pc = .ok (.arraylength, 1)) (kk : V X G mc ms Q σ (pc + 1) lc (.int 60 :: st)) : V X G mc ms Q σ pc lc (.ref (ad G 13 j 0) :: st) := v_alen C 13 j 60 4 4 (ok13 hj) rfl rfl rfl hd kk
theorem al_14 {own : String} (C : Gd X G cc own nL d ret mc ms) {j : Nat} (hj : j < 7) (hd : decode cc pc = .ok (.arraylength, 1)) (kk : V X G mc ms Q σ (pc + 1) lc (.int 4 :: st)) : V X G mc ms Q σ pc lc (.ref (ad G 14 j 0) :: st) := v_alen C 14 j 4 0 0 (ok14 hj) rfl rfl rfl hd kk
theorem al_15 {own : String} (C : Gd X G cc own nL d ret mc ms) (hd : decode cc pc = .ok (.arraylength, 1)) (kk : V X G mc ms Q σ (pc + 1) lc (.int 4 :: st)) : V X G mc ms Q σ pc lc (.ref (ad G 15 0 0) :: st) := v_alen C 15 0 4 5 5 ok15 rfl rfl rfl hd kk
theorem al_16 {own : String} (C : Gd X G cc own nL d ret mc ms) (hd : decode cc pc = .ok (.arraylength, 1)) (kk : V X G mc ms Q σ (pc + 1) lc (.int 60 :: st)) : V X G mc ms Q σ pc lc (.ref (ad G 16 0 0) :: st) := v_alen C 16 0 60 1 1 ok16 rfl rfl rfl hd kk
theorem al_17 {own : String} (C : Gd X G cc own nL d ret mc ms) (hd : decode cc pc = .ok (.arraylength, 1)) (kk : V X G mc ms Q σ (pc + 1) lc (.int 10 :: st)) : V X G mc ms Q σ pc lc (.ref (ad G 17 0 0) :: st) := v_alen C 17 0 10 6 6 ok17 rfl rfl rfl hd kk
theorem al_18 {own : String} (C : Gd X G cc own nL d ret mc ms) {j : Nat} (hj : j < 3) (hd : decode cc pc = .ok (.arraylength, 1)) (kk : V X G mc ms Q σ (pc + 1) lc (.int 60 :: st)) : V X G mc ms Q σ pc lc (.ref (ad G 18 j 0) :: st) := v_alen C 18 j 60 0 0 (ok18 hj) rfl rfl rfl hd kk
theorem al_19 {own : String} (C : Gd X G cc own nL d ret mc ms) (hd : decode cc pc = .ok (.arraylength, 1)) (kk : V X G mc ms Q σ (pc + 1) lc (.int 9 :: st)) : V X G mc ms Q σ pc lc (.ref (ad G 19 0 0) :: st) := v_alen C 19 0 9 0 0 ok19 rfl rfl rfl hd kk
theorem al_20 {own : String} (C : Gd X G cc own nL d ret mc ms) (hd : decode cc pc = .ok (.arraylength, 1)) (kk : V X G mc ms Q σ (pc + 1) lc (.int 9 :: st)) : V X G mc ms Q σ pc lc (.ref (ad G 20 0 0) :: st) := v_alen C 20 0 9 0 0 ok20 rfl rfl rfl hd kk
theorem al_21 {own : String} (C : Gd X G cc own nL d ret mc ms) (hd : decode cc pc = .ok (.arraylength, 1)) (kk : V X G mc ms Q σ (pc + 1) lc (.int 44 :: st)) : V X G mc ms Q σ pc lc (.ref (ad G 21 0 0) :: st) := v_alen C 21 0 44 0 0 ok21 rfl rfl rfl hd kk
theorem al_22 {own : String} (C : Gd X G cc own nL d ret mc ms) (hd : decode cc pc = .ok (.arraylength, 1)) (kk : V X G mc ms Q σ (pc + 1) lc (.int 60 :: st)) : V X G mc ms Q σ pc lc (.ref (ad G 22 0 0) :: st) := v_alen C 22 0 60 0 0 ok22 rfl rfl rfl hd kk
theorem al_23 {own : String} (C : Gd X G cc own nL d ret mc ms) (hd : decode cc pc = .ok (.arraylength, 1)) (kk : V X G mc ms Q σ (pc + 1) lc (.int 10 :: st)) : V X G mc ms Q σ pc lc (.ref (ad G 23 0 0) :: st) := v_alen C 23 0 10 0 0 ok23 rfl rfl rfl hd kk
theorem al_24 {own : String} (C : Gd X G cc own nL d ret mc ms) (hd : decode cc pc = .ok (.arraylength, 1)) (kk : V X G mc ms Q σ (pc + 1) lc (.int 10 :: st)) : V X G mc ms Q σ pc lc (.ref (ad G 24 0 0) :: st) := v_alen C 24 0 10 0 0 ok24 rfl rfl rfl hd kk
theorem cVi {own : String} (C : Gd X G cc own nL (d + 1) ret mc ms) (κ j l : Nat) {R : Type} {y : Ym} {n index : Nat} {av fs st0 : List Value} {T : u_T} {N : Nat} {f : Option (Int32 × Sto)} {k : Int32 → Sto → Option R} {res : R} (hs : SiV y n) (hlk : Cond.methodLink own index y.1 ∈ wsA) (hk : okt κ j l) (hc : clz[κ]? = some (y.1.cls, T, N)) (he : cE G σ κ j l = .inr (κ, fs)) (hn : av.length = n) (hlc : lc.length = nL) (hst : st0 = av.reverse ++ .ref (ad G κ j l) :: st) (hcat : (st.map fun v => v.category).sum ≤ 8) (hd : decode cc pc = .ok (.invokevirtual index, 3)) (h : bd f k = some res) (hcl : ∀ r τ, f = some (r, τ) → Cl G d y (.ref (ad G κ j l) :: av) σ (some (.int r)) τ) (kk : ∀ r τ, k r τ = some res → V X G mc ms Q τ (pc + 3) lc (.int r :: st)) : V X G mc ms Q σ pc lc st0 := vb_i h fun r τ h1 h2 => v_callV C κ j l hs hlk hk hc he hn hlc hst hcat hd (hcl r τ h1) (kk r τ h2)
theorem cSi {own : String} (C : Gd X G cc own nL (d + 1) ret mc ms) {R : Type} {y : Ym} {n index : Nat} {av st0 : List Value} {f : Option (Int32 × Sto)} {k : Int32 → Sto → Option R} {res : R} (hs : SiS y n) (hlk : Cond.methodLink own index y.1 ∈ wsA) (hn : av.length = n) (hlc : lc.length = nL) (hst : st0 = av.reverse ++ st) (hcat : (st.map fun v => v.category).sum ≤ 8) (hd : decode cc pc = .ok (.invokestatic index, 3)) (h : bd f k = some res) (hcl : ∀ r τ, f = some (r, τ) → Cl G d y (av) σ (some (.int r)) τ) (kk : ∀ r τ, k r τ = some res → V X G mc ms Q τ (pc + 3) lc (.int r :: st)) : V X G mc ms Q σ pc lc st0 := vb_i h fun r τ h1 h2 => v_callS C hs hlk hn hlc hst hcat hd (hcl r τ h1) (kk r τ h2)
theorem cSNi {own : String} (C : Gd X G cc own nL (d + 1) ret mc ms) {R : Type} {y : Ym} {n index : Nat} {av st0 : List Value} {f : Option (Int32 × Sto)} {k : Int32 → Sto → Option R} {res : R} (hs : SiS y n) (hlk : (own, index, y.1, "PeerNotes") ∈ nsM) (hn : av.length = n) (hlc : lc.length = nL) (hst : st0 = av.reverse ++ st) (hcat : (st.map fun v => v.category).sum ≤ 8) (hd : decode cc pc = .ok (.invokestatic index, 3)) (h : bd f k = some res) (hcl : ∀ r τ, f = some (r, τ) → Cl G d y (av) σ (some (.int r)) τ) (kk : ∀ r τ, k r τ = some res → V X G mc ms Q τ (pc + 3) lc (.int r :: st)) : V X G mc ms Q σ pc lc st0 := vb_i h fun r τ h1 h2 => v_callSN C hs hlk hn hlc hst hcat hd (hcl r τ h1) (kk r τ h2)
theorem cVv {own : String} (C : Gd X G cc own nL (d + 1) ret mc ms) (κ j l : Nat) {R : Type} {y : Ym} {n index : Nat} {av fs st0 : List Value} {T : u_T} {N : Nat} {f : Option Sto} {k : Sto → Option R} {res : R} (hs : SiV y n) (hlk : Cond.methodLink own index y.1 ∈ wsA) (hk : okt κ j l) (hc : clz[κ]? = some (y.1.cls, T, N)) (he : cE G σ κ j l = .inr (κ, fs)) (hn : av.length = n) (hlc : lc.length = nL) (hst : st0 = av.reverse ++ .ref (ad G κ j l) :: st) (hcat : (st.map fun v => v.category).sum ≤ 8) (hd : decode cc pc = .ok (.invokevirtual index, 3)) (h : bv f k = some res) (hcl : ∀ τ, f = some τ → Cl G d y (.ref (ad G κ j l) :: av) σ none τ) (kk : ∀ τ, k τ = some res → V X G mc ms Q τ (pc + 3) lc st) : V X G mc ms Q σ pc lc st0 := vb_v h fun τ h1 h2 => v_callV C κ j l hs hlk hk hc he hn hlc hst hcat hd (hcl τ h1) (kk τ h2)
theorem cSv {own : String} (C : Gd X G cc own nL (d + 1) ret mc ms) {R : Type} {y : Ym} {n index : Nat} {av st0 : List Value} {f : Option Sto} {k : Sto → Option R} {res : R} (hs : SiS y n) (hlk : Cond.methodLink own index y.1 ∈ wsA) (hn : av.length = n) (hlc : lc.length = nL) (hst : st0 = av.reverse ++ st) (hcat : (st.map fun v => v.category).sum ≤ 8) (hd : decode cc pc = .ok (.invokestatic index, 3)) (h : bv f k = some res) (hcl : ∀ τ, f = some τ → Cl G d y (av) σ none τ) (kk : ∀ τ, k τ = some res → V X G mc ms Q τ (pc + 3) lc st) : V X G mc ms Q σ pc lc st0 := vb_v h fun τ h1 h2 => v_callS C hs hlk hn hlc hst hcat hd (hcl τ h1) (kk τ h2)
theorem cSNv {own : String} (C : Gd X G cc own nL (d + 1) ret mc ms) {R : Type} {y : Ym} {n index : Nat} {av st0 : List Value} {f : Option Sto} {k : Sto → Option R} {res : R} (hs : SiS y n) (hlk : (own, index, y.1, "PeerNotes") ∈ nsM) (hn : av.length = n) (hlc : lc.length = nL) (hst : st0 = av.reverse ++ st) (hcat : (st.map fun v => v.category).sum ≤ 8) (hd : decode cc pc = .ok (.invokestatic index, 3)) (h : bv f k = some res) (hcl : ∀ τ, f = some τ → Cl G d y (av) σ none τ) (kk : ∀ τ, k τ = some res → V X G mc ms Q τ (pc + 3) lc st) : V X G mc ms Q σ pc lc st0 := vb_v h fun τ h1 h2 => v_callSN C hs hlk hn hlc hst hcat hd (hcl τ h1) (kk τ h2)
def FU : Nat := 100000
def wh0 {R : Type} (b : (Sto → Option R) → Sto → Option R) : Nat → Sto → Option R
  | 0, _ => none
  | n + 1, σ => b (wh0 b n) σ
def wh1 {A R : Type} (b : (A → Sto → Option R) → A → Sto → Option R) : Nat → A → Sto → Option R
  | 0, _, _ => none
  | n + 1, x, σ => b (wh1 b n) x σ
def wh2 {A B R : Type} (b : (A → B → Sto → Option R) → A → B → Sto → Option R) : Nat → A → B → Sto → Option R
  | 0, _, _, _ => none
  | n + 1, x, y, σ => b (wh2 b n) x y σ
def wh3 {A B C R : Type} (b : (A → B → C → Sto → Option R) → A → B → C → Sto → Option R) : Nat → A → B → C → Sto → Option R
  | 0, _, _, _, _ => none
  | n + 1, x, y, z, σ => b (wh3 b n) x y z σ
theorem v_loop0 {R : Type} {b : (Sto → Option R) → Sto → Option R} {res : R} (P : Sto → Prop) (hb : ∀ rec : Sto → Option R, (∀ σ, rec σ = some res → P σ) → ∀ σ, b rec σ = some res → P σ) : ∀ {n : Nat} {σ : Sto}, wh0 b n σ = some res → P σ
  | 0, _, h => by cases h
  | n + 1, σ, h => hb (wh0 b n) (fun σ h => v_loop0 P hb h) σ h
theorem v_loop1 {A R : Type} {b : (A → Sto → Option R) → A → Sto → Option R} {res : R} (P : A → Sto → Prop) (hb : ∀ rec : A → Sto → Option R, (∀ x σ, rec x σ = some res → P x σ) → ∀ x σ, b rec x σ = some res → P x σ) : ∀ {n : Nat} {x : A} {σ : Sto}, wh1 b n x σ = some res → P x σ
  | 0, _, _, h => by cases h
  | n + 1, x, σ, h => hb (wh1 b n) (fun x σ h => v_loop1 P hb h) x σ h
theorem v_loop2 {A B R : Type} {b : (A → B → Sto → Option R) → A → B → Sto → Option R} {res : R} (P : A → B → Sto → Prop) (hb : ∀ rec : A → B → Sto → Option R, (∀ x y σ, rec x y σ = some res → P x y σ) → ∀ x y σ, b rec x y σ = some res → P x y σ) : ∀ {n : Nat} {x : A} {y : B} {σ : Sto}, wh2 b n x y σ = some res → P x y σ
  | 0, _, _, _, h => by cases h
  | n + 1, x, y, σ, h => hb (wh2 b n) (fun x y σ h => v_loop2 P hb h) x y σ h
theorem v_loop3 {A B C R : Type} {b : (A → B → C → Sto → Option R) → A → B → C → Sto → Option R} {res : R} (P : A → B → C → Sto → Prop) (hb : ∀ rec : A → B → C → Sto → Option R, (∀ x y z σ, rec x y z σ = some res → P x y z σ) → ∀ x y z σ, b rec x y z σ = some res → P x y z σ) : ∀ {n : Nat} {x : A} {y : B} {z : C} {σ : Sto}, wh3 b n x y z σ = some res → P x y z σ
  | 0, _, _, _, _, h => by cases h
  | n + 1, x, y, z, σ, h => hb (wh3 b n) (fun x y z σ h => v_loop3 P hb h) x y z σ h
def wh4 {A B C D R : Type} (b : (A → B → C → D → Sto → Option R) → A → B → C → D → Sto → Option R) : Nat → A → B → C → D → Sto → Option R
  | 0, _, _, _, _, _ => none
  | n + 1, x, y, z, w, σ => b (wh4 b n) x y z w σ
theorem v_loop4 {A B C D R : Type} {b : (A → B → C → D → Sto → Option R) → A → B → C → D → Sto → Option R} {res : R} (P : A → B → C → D → Sto → Prop) (hb : ∀ rec : A → B → C → D → Sto → Option R, (∀ x y z w σ, rec x y z w σ = some res → P x y z w σ) → ∀ x y z w σ, b rec x y z w σ = some res → P x y z w σ) : ∀ {n : Nat} {x : A} {y : B} {z : C} {w : D} {σ : Sto}, wh4 b n x y z w σ = some res → P x y z w σ
  | 0, _, _, _, _, _, h => by cases h
  | n + 1, x, y, z, w, σ, h => hb (wh4 b n) (fun x y z w σ h => v_loop4 P hb h) x y z w σ h
def wh5 {A B C D E R : Type} (b : (A → B → C → D → E → Sto → Option R) → A → B → C → D → E → Sto → Option R) : Nat → A → B → C → D → E → Sto → Option R
  | 0, _, _, _, _, _, _ => none
  | n + 1, x, y, z, w, u, σ => b (wh5 b n) x y z w u σ
theorem v_loop5 {A B C D E R : Type} {b : (A → B → C → D → E → Sto → Option R) → A → B → C → D → E → Sto → Option R} {res : R} (P : A → B → C → D → E → Sto → Prop) (hb : ∀ rec : A → B → C → D → E → Sto → Option R, (∀ x y z w u σ, rec x y z w u σ = some res → P x y z w u σ) → ∀ x y z w u σ, b rec x y z w u σ = some res → P x y z w u σ) : ∀ {n : Nat} {x : A} {y : B} {z : C} {w : D} {u : E} {σ : Sto}, wh5 b n x y z w u σ = some res → P x y z w u σ
  | 0, _, _, _, _, _, _, h => by cases h
  | n + 1, x, y, z, w, u, σ, h => hb (wh5 b n) (fun x y z w u σ h => v_loop5 P hb h) x y z w u σ h
end SI
abbrev m_X2_record : Ym := (yX2_record, cX2_record, 2, none)
theorem si_X2_record : SiV m_X2_record 1 := ⟨⟨(wA 11 (by decide +kernel) rfl), (wA 353 (by decide +kernel) rfl), ⟨by decide +kernel, by decide +kernel, by decide +kernel⟩, by decide⟩, (wA 351 (by decide +kernel) rfl), (wA 352 (by decide +kernel) rfl)⟩
abbrev m_X2_dropOldest : Ym := (yX2_dropOldest, cX2_dropOldest, 3, none)
theorem si_X2_dropOldest : SiV m_X2_dropOldest 0 := ⟨⟨(wA 11 (by decide +kernel) rfl), (wA 357 (by decide +kernel) rfl), ⟨by decide +kernel, by decide +kernel, by decide +kernel⟩, by decide⟩, (wA 356 (by decide +kernel) rfl), (wA 0 (by decide +kernel) rfl)⟩
abbrev m_X3_open : Ym := (yX3_open, cX3_open, 2, none)
theorem si_X3_open : SiV m_X3_open 1 := ⟨⟨(wA 8 (by decide +kernel) rfl), (wA 377 (by decide +kernel) rfl), ⟨by decide +kernel, by decide +kernel, by decide +kernel⟩, by decide⟩, (wA 375 (by decide +kernel) rfl), (wA 376 (by decide +kernel) rfl)⟩
abbrev m_X3_copyFrom : Ym := (yX3_copyFrom, cX3_copyFrom, 2, none)
theorem si_X3_copyFrom : SiV m_X3_copyFrom 1 := ⟨⟨(wA 8 (by decide +kernel) rfl), (wA 365 (by decide +kernel) rfl), ⟨by decide +kernel, by decide +kernel, by decide +kernel⟩, by decide⟩, (wA 363 (by decide +kernel) rfl), (wA 364 (by decide +kernel) rfl)⟩
abbrev m_X4_open : Ym := (yX4_open, cX4_open, 4, none)
theorem si_X4_open : SiV m_X4_open 3 := ⟨⟨(wA 9 (by decide +kernel) rfl), (wA 389 (by decide +kernel) rfl), ⟨by decide +kernel, by decide +kernel, by decide +kernel⟩, by decide⟩, (wA 387 (by decide +kernel) rfl), (wA 388 (by decide +kernel) rfl)⟩
abbrev m_X4_start : Ym := (yX4_start, cX4_start, 1, none)
theorem si_X4_start : SiV m_X4_start 0 := ⟨⟨(wA 9 (by decide +kernel) rfl), (wA 534 (by decide +kernel) rfl), ⟨by decide +kernel, by decide +kernel, by decide +kernel⟩, by decide⟩, (wA 532 (by decide +kernel) rfl), (wA 533 (by decide +kernel) rfl)⟩
abbrev m_X4_end : Ym := (yX4_end, cX4_end, 2, none)
theorem si_X4_end : SiV m_X4_end 1 := ⟨⟨(wA 9 (by decide +kernel) rfl), (wA 616 (by decide +kernel) rfl), ⟨by decide +kernel, by decide +kernel, by decide +kernel⟩, by decide⟩, (wA 614 (by decide +kernel) rfl), (wA 615 (by decide +kernel) rfl)⟩
abbrev m_X4_passMonth : Ym := (yX4_passMonth, cX4_passMonth, 1, none)
theorem si_X4_passMonth : SiV m_X4_passMonth 0 := ⟨⟨(wA 9 (by decide +kernel) rfl), (wA 706 (by decide +kernel) rfl), ⟨by decide +kernel, by decide +kernel, by decide +kernel⟩, by decide⟩, (wA 704 (by decide +kernel) rfl), (wA 705 (by decide +kernel) rfl)⟩
abbrev m_X4_takePayment : Ym := (yX4_takePayment, cX4_takePayment, 3, none)
theorem si_X4_takePayment : SiV m_X4_takePayment 2 := ⟨⟨(wA 9 (by decide +kernel) rfl), (wA 609 (by decide +kernel) rfl), ⟨by decide +kernel, by decide +kernel, by decide +kernel⟩, by decide⟩, (wA 607 (by decide +kernel) rfl), (wA 608 (by decide +kernel) rfl)⟩
abbrev m_X4_copyFrom : Ym := (yX4_copyFrom, cX4_copyFrom, 2, none)
theorem si_X4_copyFrom : SiV m_X4_copyFrom 1 := ⟨⟨(wA 9 (by decide +kernel) rfl), (wA 369 (by decide +kernel) rfl), ⟨by decide +kernel, by decide +kernel, by decide +kernel⟩, by decide⟩, (wA 367 (by decide +kernel) rfl), (wA 368 (by decide +kernel) rfl)⟩
abbrev m_X5_copyFrom : Ym := (yX5_copyFrom, cX5_copyFrom, 3, none)
theorem si_X5_copyFrom : SiV m_X5_copyFrom 1 := ⟨⟨(wA 7 (by decide +kernel) rfl), (wA 361 (by decide +kernel) rfl), ⟨by decide +kernel, by decide +kernel, by decide +kernel⟩, by decide⟩, (wA 359 (by decide +kernel) rfl), (wA 360 (by decide +kernel) rfl)⟩
abbrev m_X5_hasInvestor : Ym := (yX5_hasInvestor, cX5_hasInvestor, 2, (some .boolean))
theorem si_X5_hasInvestor : SiV m_X5_hasInvestor 1 := ⟨⟨(wA 7 (by decide +kernel) rfl), (wA 472 (by decide +kernel) rfl), ⟨by decide +kernel, by decide +kernel, by decide +kernel⟩, by decide⟩, (wA 470 (by decide +kernel) rfl), (wA 471 (by decide +kernel) rfl)⟩
abbrev m_X5_hasLoan : Ym := (yX5_hasLoan, cX5_hasLoan, 2, (some .boolean))
theorem si_X5_hasLoan : SiV m_X5_hasLoan 1 := ⟨⟨(wA 7 (by decide +kernel) rfl), (wA 411 (by decide +kernel) rfl), ⟨by decide +kernel, by decide +kernel, by decide +kernel⟩, by decide⟩, (wA 409 (by decide +kernel) rfl), (wA 410 (by decide +kernel) rfl)⟩
abbrev m_X5_hasNote : Ym := (yX5_hasNote, cX5_hasNote, 2, (some .boolean))
theorem si_X5_hasNote : SiV m_X5_hasNote 1 := ⟨⟨(wA 7 (by decide +kernel) rfl), (wA 464 (by decide +kernel) rfl), ⟨by decide +kernel, by decide +kernel, by decide +kernel⟩, by decide⟩, (wA 462 (by decide +kernel) rfl), (wA 463 (by decide +kernel) rfl)⟩
abbrev m_X5_runs : Ym := (yX5_runs, cX5_runs, 2, (some .boolean))
theorem si_X5_runs : SiV m_X5_runs 1 := ⟨⟨(wA 7 (by decide +kernel) rfl), (wA 500 (by decide +kernel) rfl), ⟨by decide +kernel, by decide +kernel, by decide +kernel⟩, by decide⟩, (wA 498 (by decide +kernel) rfl), (wA 499 (by decide +kernel) rfl)⟩
abbrev m_X5_cashOf : Ym := (yX5_cashOf, cX5_cashOf, 2, (some .int))
theorem si_X5_cashOf : SiV m_X5_cashOf 1 := ⟨⟨(wA 7 (by decide +kernel) rfl), (wA 670 (by decide +kernel) rfl), ⟨by decide +kernel, by decide +kernel, by decide +kernel⟩, by decide⟩, (wA 668 (by decide +kernel) rfl), (wA 669 (by decide +kernel) rfl)⟩
abbrev m_X5_give : Ym := (yX5_give, cX5_give, 3, none)
theorem si_X5_give : SiV m_X5_give 2 := ⟨⟨(wA 7 (by decide +kernel) rfl), (wA 530 (by decide +kernel) rfl), ⟨by decide +kernel, by decide +kernel, by decide +kernel⟩, by decide⟩, (wA 528 (by decide +kernel) rfl), (wA 529 (by decide +kernel) rfl)⟩
abbrev m_X5_fundingError : Ym := (yX5_fundingError, cX5_fundingError, 4, (some .int))
theorem si_X5_fundingError : SiV m_X5_fundingError 3 := ⟨⟨(wA 7 (by decide +kernel) rfl), (wA 514 (by decide +kernel) rfl), ⟨by decide +kernel, by decide +kernel, by decide +kernel⟩, by decide⟩, (wA 512 (by decide +kernel) rfl), (wA 513 (by decide +kernel) rfl)⟩
abbrev m_X5_addNote : Ym := (yX5_addNote, cX5_addNote, 5, none)
theorem si_X5_addNote : SiV m_X5_addNote 4 := ⟨⟨(wA 7 (by decide +kernel) rfl), (wA 521 (by decide +kernel) rfl), ⟨by decide +kernel, by decide +kernel, by decide +kernel⟩, by decide⟩, (wA 519 (by decide +kernel) rfl), (wA 520 (by decide +kernel) rfl)⟩
abbrev m_X5_takePayment : Ym := (yX5_takePayment, cX5_takePayment, 4, none)
theorem si_X5_takePayment : SiV m_X5_takePayment 2 := ⟨⟨(wA 7 (by decide +kernel) rfl), (wA 604 (by decide +kernel) rfl), ⟨by decide +kernel, by decide +kernel, by decide +kernel⟩, by decide⟩, (wA 602 (by decide +kernel) rfl), (wA 603 (by decide +kernel) rfl)⟩
abbrev m_X5_writeOff : Ym := (yX5_writeOff, cX5_writeOff, 5, (some .int))
theorem si_X5_writeOff : SiV m_X5_writeOff 1 := ⟨⟨(wA 7 (by decide +kernel) rfl), (wA 654 (by decide +kernel) rfl), ⟨by decide +kernel, by decide +kernel, by decide +kernel⟩, by decide⟩, (wA 652 (by decide +kernel) rfl), (wA 653 (by decide +kernel) rfl)⟩
abbrev m_X5_passMonth : Ym := (yX5_passMonth, cX5_passMonth, 2, none)
theorem si_X5_passMonth : SiV m_X5_passMonth 0 := ⟨⟨(wA 7 (by decide +kernel) rfl), (wA 702 (by decide +kernel) rfl), ⟨by decide +kernel, by decide +kernel, by decide +kernel⟩, by decide⟩, (wA 700 (by decide +kernel) rfl), (wA 701 (by decide +kernel) rfl)⟩
abbrev m_X5_missing : Ym := (yX5_missing, cX5_missing, 2, (some .int))
theorem si_X5_missing : SiV m_X5_missing 1 := ⟨⟨(wA 7 (by decide +kernel) rfl), (wA 415 (by decide +kernel) rfl), ⟨by decide +kernel, by decide +kernel, by decide +kernel⟩, by decide⟩, (wA 413 (by decide +kernel) rfl), (wA 414 (by decide +kernel) rfl)⟩
abbrev m_X5_principals : Ym := (yX5_principals, cX5_principals, 5, (some .int))
theorem si_X5_principals : SiV m_X5_principals 2 := ⟨⟨(wA 7 (by decide +kernel) rfl), (wA 420 (by decide +kernel) rfl), ⟨by decide +kernel, by decide +kernel, by decide +kernel⟩, by decide⟩, (wA 418 (by decide +kernel) rfl), (wA 419 (by decide +kernel) rfl)⟩
abbrev m_X5_notesFor : Ym := (yX5_notesFor, cX5_notesFor, 4, (some .int))
theorem si_X5_notesFor : SiV m_X5_notesFor 1 := ⟨⟨(wA 7 (by decide +kernel) rfl), (wA 424 (by decide +kernel) rfl), ⟨by decide +kernel, by decide +kernel, by decide +kernel⟩, by decide⟩, (wA 422 (by decide +kernel) rfl), (wA 423 (by decide +kernel) rfl)⟩
abbrev m_X5_principalsOf : Ym := (yX5_principalsOf, cX5_principalsOf, 4, (some .int))
theorem si_X5_principalsOf : SiV m_X5_principalsOf 1 := ⟨⟨(wA 7 (by decide +kernel) rfl), (wA 476 (by decide +kernel) rfl), ⟨by decide +kernel, by decide +kernel, by decide +kernel⟩, by decide⟩, (wA 474 (by decide +kernel) rfl), (wA 475 (by decide +kernel) rfl)⟩
abbrev m_X5_liveNotesOf : Ym := (yX5_liveNotesOf, cX5_liveNotesOf, 4, (some .int))
theorem si_X5_liveNotesOf : SiV m_X5_liveNotesOf 1 := ⟨⟨(wA 7 (by decide +kernel) rfl), (wA 480 (by decide +kernel) rfl), ⟨by decide +kernel, by decide +kernel, by decide +kernel⟩, by decide⟩, (wA 478 (by decide +kernel) rfl), (wA 479 (by decide +kernel) rfl)⟩
abbrev m_X5_loansOf : Ym := (yX5_loansOf, cX5_loansOf, 4, (some .int))
theorem si_X5_loansOf : SiV m_X5_loansOf 1 := ⟨⟨(wA 7 (by decide +kernel) rfl), (wA 484 (by decide +kernel) rfl), ⟨by decide +kernel, by decide +kernel, by decide +kernel⟩, by decide⟩, (wA 482 (by decide +kernel) rfl), (wA 483 (by decide +kernel) rfl)⟩
abbrev m_X5_loansInState : Ym := (yX5_loansInState, cX5_loansInState, 4, (some .int))
theorem si_X5_loansInState : SiV m_X5_loansInState 1 := ⟨⟨(wA 7 (by decide +kernel) rfl), (wA 433 (by decide +kernel) rfl), ⟨by decide +kernel, by decide +kernel, by decide +kernel⟩, by decide⟩, (wA 431 (by decide +kernel) rfl), (wA 432 (by decide +kernel) rfl)⟩
abbrev m_X5_loansServedBy : Ym := (yX5_loansServedBy, cX5_loansServedBy, 4, (some .int))
theorem si_X5_loansServedBy : SiV m_X5_loansServedBy 1 := ⟨⟨(wA 7 (by decide +kernel) rfl), (wA 496 (by decide +kernel) rfl), ⟨by decide +kernel, by decide +kernel, by decide +kernel⟩, by decide⟩, (wA 494 (by decide +kernel) rfl), (wA 495 (by decide +kernel) rfl)⟩
abbrev m_X5_loansInArrears : Ym := (yX5_loansInArrears, cX5_loansInArrears, 3, (some .int))
theorem si_X5_loansInArrears : SiV m_X5_loansInArrears 0 := ⟨⟨(wA 7 (by decide +kernel) rfl), (wA 449 (by decide +kernel) rfl), ⟨by decide +kernel, by decide +kernel, by decide +kernel⟩, by decide⟩, (wA 447 (by decide +kernel) rfl), (wA 448 (by decide +kernel) rfl)⟩
abbrev m_X5_ordersOfSwitches : Ym := (yX5_ordersOfSwitches, cX5_ordersOfSwitches, 3, (some .int))
theorem si_X5_ordersOfSwitches : SiV m_X5_ordersOfSwitches 0 := ⟨⟨(wA 7 (by decide +kernel) rfl), (wA 453 (by decide +kernel) rfl), ⟨by decide +kernel, by decide +kernel, by decide +kernel⟩, by decide⟩, (wA 451 (by decide +kernel) rfl), (wA 452 (by decide +kernel) rfl)⟩
abbrev m_X5_allPrincipals : Ym := (yX5_allPrincipals, cX5_allPrincipals, 3, (some .int))
theorem si_X5_allPrincipals : SiV m_X5_allPrincipals 0 := ⟨⟨(wA 7 (by decide +kernel) rfl), (wA 437 (by decide +kernel) rfl), ⟨by decide +kernel, by decide +kernel, by decide +kernel⟩, by decide⟩, (wA 435 (by decide +kernel) rfl), (wA 436 (by decide +kernel) rfl)⟩
abbrev m_X5_allInterestDue : Ym := (yX5_allInterestDue, cX5_allInterestDue, 3, (some .int))
theorem si_X5_allInterestDue : SiV m_X5_allInterestDue 0 := ⟨⟨(wA 7 (by decide +kernel) rfl), (wA 441 (by decide +kernel) rfl), ⟨by decide +kernel, by decide +kernel, by decide +kernel⟩, by decide⟩, (wA 439 (by decide +kernel) rfl), (wA 440 (by decide +kernel) rfl)⟩
abbrev m_X5_allLosses : Ym := (yX5_allLosses, cX5_allLosses, 3, (some .int))
theorem si_X5_allLosses : SiV m_X5_allLosses 0 := ⟨⟨(wA 7 (by decide +kernel) rfl), (wA 445 (by decide +kernel) rfl), ⟨by decide +kernel, by decide +kernel, by decide +kernel⟩, by decide⟩, (wA 443 (by decide +kernel) rfl), (wA 444 (by decide +kernel) rfl)⟩
abbrev m_X6_open : Ym := (yX6_open, cX6_open, 5, none)
theorem si_X6_open : SiV m_X6_open 4 := ⟨⟨(wA 10 (by decide +kernel) rfl), (wA 526 (by decide +kernel) rfl), ⟨by decide +kernel, by decide +kernel, by decide +kernel⟩, by decide⟩, (wA 524 (by decide +kernel) rfl), (wA 525 (by decide +kernel) rfl)⟩
abbrev m_X6_copyFrom : Ym := (yX6_copyFrom, cX6_copyFrom, 2, none)
theorem si_X6_copyFrom : SiV m_X6_copyFrom 1 := ⟨⟨(wA 10 (by decide +kernel) rfl), (wA 373 (by decide +kernel) rfl), ⟨by decide +kernel, by decide +kernel, by decide +kernel⟩, by decide⟩, (wA 371 (by decide +kernel) rfl), (wA 372 (by decide +kernel) rfl)⟩
abbrev m_X7_areOf : Ym := (yX7_areOf, cX7_areOf, 6, (some .boolean))
theorem si_X7_areOf : SiV m_X7_areOf 3 := ⟨⟨(wA 14 (by decide +kernel) rfl), (wA 563 (by decide +kernel) rfl), ⟨by decide +kernel, by decide +kernel, by decide +kernel⟩, by decide⟩, (wA 561 (by decide +kernel) rfl), (wA 562 (by decide +kernel) rfl)⟩
abbrev m_X8_ofGivingUp : Ym := (yX8_ofGivingUp, cX8_ofGivingUp, 4, none)
theorem si_X8_ofGivingUp : SiV m_X8_ofGivingUp 2 := ⟨⟨(wA 15 (by decide +kernel) rfl), (wA 691 (by decide +kernel) rfl), ⟨by decide +kernel, by decide +kernel, by decide +kernel⟩, by decide⟩, (wA 689 (by decide +kernel) rfl), (wA 690 (by decide +kernel) rfl)⟩
abbrev m_X8_ofPayment : Ym := (yX8_ofPayment, cX8_ofPayment, 4, none)
theorem si_X8_ofPayment : SiV m_X8_ofPayment 3 := ⟨⟨(wA 15 (by decide +kernel) rfl), (wA 573 (by decide +kernel) rfl), ⟨by decide +kernel, by decide +kernel, by decide +kernel⟩, by decide⟩, (wA 571 (by decide +kernel) rfl), (wA 572 (by decide +kernel) rfl)⟩
abbrev m_X8_ofSale : Ym := (yX8_ofSale, cX8_ofSale, 10, (some .int))
theorem si_X8_ofSale : SiV m_X8_ofSale 3 := ⟨⟨(wA 15 (by decide +kernel) rfl), (wA 646 (by decide +kernel) rfl), ⟨by decide +kernel, by decide +kernel, by decide +kernel⟩, by decide⟩, (wA 644 (by decide +kernel) rfl), (wA 645 (by decide +kernel) rfl)⟩
abbrev m_X8_fits : Ym := (yX8_fits, cX8_fits, 6, (some .boolean))
theorem si_X8_fits : SiV m_X8_fits 1 := ⟨⟨(wA 15 (by decide +kernel) rfl), (wA 593 (by decide +kernel) rfl), ⟨by decide +kernel, by decide +kernel, by decide +kernel⟩, by decide⟩, (wA 591 (by decide +kernel) rfl), (wA 592 (by decide +kernel) rfl)⟩
abbrev m_X8_carryOut : Ym := (yX8_carryOut, cX8_carryOut, 4, none)
theorem si_X8_carryOut : SiV m_X8_carryOut 1 := ⟨⟨(wA 15 (by decide +kernel) rfl), (wA 598 (by decide +kernel) rfl), ⟨by decide +kernel, by decide +kernel, by decide +kernel⟩, by decide⟩, (wA 596 (by decide +kernel) rfl), (wA 597 (by decide +kernel) rfl)⟩
abbrev m_X8_clear : Ym := (yX8_clear, cX8_clear, 2, none)
theorem si_X8_clear : SiV m_X8_clear 0 := ⟨⟨(wA 15 (by decide +kernel) rfl), (wA 577 (by decide +kernel) rfl), ⟨by decide +kernel, by decide +kernel, by decide +kernel⟩, by decide⟩, (wA 576 (by decide +kernel) rfl), (wA 1 (by decide +kernel) rfl)⟩
abbrev m_X8_shareByClass : Ym := (yX8_shareByClass, cX8_shareByClass, 5, none)
theorem si_X8_shareByClass : SiV m_X8_shareByClass 4 := ⟨⟨(wA 15 (by decide +kernel) rfl), (wA 589 (by decide +kernel) rfl), ⟨by decide +kernel, by decide +kernel, by decide +kernel⟩, by decide⟩, (wA 588 (by decide +kernel) rfl), (wA 4 (by decide +kernel) rfl)⟩
abbrev m_X8_weighPrincipals : Ym := (yX8_weighPrincipals, cX8_weighPrincipals, 8, none)
theorem si_X8_weighPrincipals : SiV m_X8_weighPrincipals 4 := ⟨⟨(wA 15 (by decide +kernel) rfl), (wA 581 (by decide +kernel) rfl), ⟨by decide +kernel, by decide +kernel, by decide +kernel⟩, by decide⟩, (wA 580 (by decide +kernel) rfl), (wA 2 (by decide +kernel) rfl)⟩
abbrev m_X8_shareOut : Ym := (yX8_shareOut, cX8_shareOut, 8, none)
theorem si_X8_shareOut : SiV m_X8_shareOut 2 := ⟨⟨(wA 15 (by decide +kernel) rfl), (wA 585 (by decide +kernel) rfl), ⟨by decide +kernel, by decide +kernel, by decide +kernel⟩, by decide⟩, (wA 584 (by decide +kernel) rfl), (wA 3 (by decide +kernel) rfl)⟩
abbrev m_X9_addInvestor : Ym := (yX9_addInvestor, cX9_addInvestor, 3, (some .int))
theorem si_X9_addInvestor : SiV m_X9_addInvestor 1 := ⟨⟨(wA 6 (by decide +kernel) rfl), (wA 349 (by decide +kernel) rfl), ⟨by decide +kernel, by decide +kernel, by decide +kernel⟩, by decide⟩, (wA 347 (by decide +kernel) rfl), (wA 348 (by decide +kernel) rfl)⟩
abbrev m_X9_deposit : Ym := (yX9_deposit, cX9_deposit, 3, (some .int))
theorem si_X9_deposit : SiV m_X9_deposit 2 := ⟨⟨(wA 6 (by decide +kernel) rfl), (wA 683 (by decide +kernel) rfl), ⟨by decide +kernel, by decide +kernel, by decide +kernel⟩, by decide⟩, (wA 681 (by decide +kernel) rfl), (wA 682 (by decide +kernel) rfl)⟩
abbrev m_X9_setPoolShare : Ym := (yX9_setPoolShare, cX9_setPoolShare, 3, (some .int))
theorem si_X9_setPoolShare : SiV m_X9_setPoolShare 1 := ⟨⟨(wA 6 (by decide +kernel) rfl), (wA 679 (by decide +kernel) rfl), ⟨by decide +kernel, by decide +kernel, by decide +kernel⟩, by decide⟩, (wA 677 (by decide +kernel) rfl), (wA 678 (by decide +kernel) rfl)⟩
abbrev m_X9_openLoan : Ym := (yX9_openLoan, cX9_openLoan, 5, (some .int))
theorem si_X9_openLoan : SiV m_X9_openLoan 3 := ⟨⟨(wA 6 (by decide +kernel) rfl), (wA 381 (by decide +kernel) rfl), ⟨by decide +kernel, by decide +kernel, by decide +kernel⟩, by decide⟩, (wA 379 (by decide +kernel) rfl), (wA 380 (by decide +kernel) rfl)⟩
abbrev m_X9_fund : Ym := (yX9_fund, cX9_fund, 6, (some .int))
theorem si_X9_fund : SiV m_X9_fund 4 := ⟨⟨(wA 6 (by decide +kernel) rfl), (wA 510 (by decide +kernel) rfl), ⟨by decide +kernel, by decide +kernel, by decide +kernel⟩, by decide⟩, (wA 508 (by decide +kernel) rfl), (wA 509 (by decide +kernel) rfl)⟩
abbrev m_X9_giveUp : Ym := (yX9_giveUp, cX9_giveUp, 3, (some .int))
theorem si_X9_giveUp : SiV m_X9_giveUp 1 := ⟨⟨(wA 6 (by decide +kernel) rfl), (wA 687 (by decide +kernel) rfl), ⟨by decide +kernel, by decide +kernel, by decide +kernel⟩, by decide⟩, (wA 685 (by decide +kernel) rfl), (wA 686 (by decide +kernel) rfl)⟩
abbrev m_X9_pay : Ym := (yX9_pay, cX9_pay, 3, (some .int))
theorem si_X9_pay : SiV m_X9_pay 2 := ⟨⟨(wA 6 (by decide +kernel) rfl), (wA 555 (by decide +kernel) rfl), ⟨by decide +kernel, by decide +kernel, by decide +kernel⟩, by decide⟩, (wA 553 (by decide +kernel) rfl), (wA 554 (by decide +kernel) rfl)⟩
abbrev m_X9_cure : Ym := (yX9_cure, cX9_cure, 4, (some .int))
theorem si_X9_cure : SiV m_X9_cure 2 := ⟨⟨(wA 6 (by decide +kernel) rfl), (wA 634 (by decide +kernel) rfl), ⟨by decide +kernel, by decide +kernel, by decide +kernel⟩, by decide⟩, (wA 632 (by decide +kernel) rfl), (wA 633 (by decide +kernel) rfl)⟩
abbrev m_X9_sell : Ym := (yX9_sell, cX9_sell, 4, (some .int))
theorem si_X9_sell : SiV m_X9_sell 2 := ⟨⟨(wA 6 (by decide +kernel) rfl), (wA 639 (by decide +kernel) rfl), ⟨by decide +kernel, by decide +kernel, by decide +kernel⟩, by decide⟩, (wA 637 (by decide +kernel) rfl), (wA 638 (by decide +kernel) rfl)⟩
abbrev m_X9_switchServicer : Ym := (yX9_switchServicer, cX9_switchServicer, 5, (some .int))
theorem si_X9_switchServicer : SiV m_X9_switchServicer 2 := ⟨⟨(wA 6 (by decide +kernel) rfl), (wA 662 (by decide +kernel) rfl), ⟨by decide +kernel, by decide +kernel, by decide +kernel⟩, by decide⟩, (wA 660 (by decide +kernel) rfl), (wA 661 (by decide +kernel) rfl)⟩
abbrev m_X9_sellNote : Ym := (yX9_sellNote, cX9_sellNote, 6, (some .int))
theorem si_X9_sellNote : SiV m_X9_sellNote 3 := ⟨⟨(wA 6 (by decide +kernel) rfl), (wA 666 (by decide +kernel) rfl), ⟨by decide +kernel, by decide +kernel, by decide +kernel⟩, by decide⟩, (wA 664 (by decide +kernel) rfl), (wA 665 (by decide +kernel) rfl)⟩
abbrev m_X9_pass : Ym := (yX9_pass, cX9_pass, 3, (some .int))
theorem si_X9_pass : SiV m_X9_pass 1 := ⟨⟨(wA 6 (by decide +kernel) rfl), (wA 698 (by decide +kernel) rfl), ⟨by decide +kernel, by decide +kernel, by decide +kernel⟩, by decide⟩, (wA 696 (by decide +kernel) rfl), (wA 697 (by decide +kernel) rfl)⟩
abbrev m_X9_investor : Ym := (yX9_investor, cX9_investor, 4, (some .int))
theorem si_X9_investor : SiV m_X9_investor 2 := ⟨⟨(wA 6 (by decide +kernel) rfl), (wA 468 (by decide +kernel) rfl), ⟨by decide +kernel, by decide +kernel, by decide +kernel⟩, by decide⟩, (wA 466 (by decide +kernel) rfl), (wA 467 (by decide +kernel) rfl)⟩
abbrev m_X9_loan : Ym := (yX9_loan, cX9_loan, 4, (some .int))
theorem si_X9_loan : SiV m_X9_loan 2 := ⟨⟨(wA 6 (by decide +kernel) rfl), (wA 407 (by decide +kernel) rfl), ⟨by decide +kernel, by decide +kernel, by decide +kernel⟩, by decide⟩, (wA 405 (by decide +kernel) rfl), (wA 406 (by decide +kernel) rfl)⟩
abbrev m_X9_note : Ym := (yX9_note, cX9_note, 4, (some .int))
theorem si_X9_note : SiV m_X9_note 2 := ⟨⟨(wA 6 (by decide +kernel) rfl), (wA 460 (by decide +kernel) rfl), ⟨by decide +kernel, by decide +kernel, by decide +kernel⟩, by decide⟩, (wA 458 (by decide +kernel) rfl), (wA 459 (by decide +kernel) rfl)⟩
abbrev m_X9_split : Ym := (yX9_split, cX9_split, 4, (some .int))
theorem si_X9_split : SiV m_X9_split 3 := ⟨⟨(wA 6 (by decide +kernel) rfl), (wA 620 (by decide +kernel) rfl), ⟨by decide +kernel, by decide +kernel, by decide +kernel⟩, by decide⟩, (wA 618 (by decide +kernel) rfl), (wA 619 (by decide +kernel) rfl)⟩
abbrev m_X9_toRepay : Ym := (yX9_toRepay, cX9_toRepay, 6, (some .int))
theorem si_X9_toRepay : SiV m_X9_toRepay 1 := ⟨⟨(wA 6 (by decide +kernel) rfl), (wA 544 (by decide +kernel) rfl), ⟨by decide +kernel, by decide +kernel, by decide +kernel⟩, by decide⟩, (wA 542 (by decide +kernel) rfl), (wA 543 (by decide +kernel) rfl)⟩
abbrev m_X9_servicer : Ym := (yX9_servicer, cX9_servicer, 3, (some .int))
theorem si_X9_servicer : SiV m_X9_servicer 2 := ⟨⟨(wA 6 (by decide +kernel) rfl), (wA 488 (by decide +kernel) rfl), ⟨by decide +kernel, by decide +kernel, by decide +kernel⟩, by decide⟩, (wA 486 (by decide +kernel) rfl), (wA 487 (by decide +kernel) rfl)⟩
abbrev m_X9_count : Ym := (yX9_count, cX9_count, 2, (some .int))
theorem si_X9_count : SiV m_X9_count 1 := ⟨⟨(wA 6 (by decide +kernel) rfl), (wA 429 (by decide +kernel) rfl), ⟨by decide +kernel, by decide +kernel, by decide +kernel⟩, by decide⟩, (wA 427 (by decide +kernel) rfl), (wA 428 (by decide +kernel) rfl)⟩
abbrev m_X9_isServicer : Ym := (yX9_isServicer, cX9_isServicer, 1, (some .boolean))
theorem si_X9_isServicer : SiS m_X9_isServicer 1 := ⟨⟨(wA 6 (by decide +kernel) rfl), (wA 491 (by decide +kernel) rfl), ⟨by decide +kernel, by decide +kernel, by decide +kernel⟩, by decide⟩, (wA 490 (by decide +kernel) rfl)⟩
abbrev m_X9_isLoanMonths : Ym := (yX9_isLoanMonths, cX9_isLoanMonths, 1, (some .boolean))
theorem si_X9_isLoanMonths : SiS m_X9_isLoanMonths 1 := ⟨⟨(wA 6 (by decide +kernel) rfl), (wA 385 (by decide +kernel) rfl), ⟨by decide +kernel, by decide +kernel, by decide +kernel⟩, by decide⟩, (wA 384 (by decide +kernel) rfl)⟩
abbrev m_X9_isPayment : Ym := (yX9_isPayment, cX9_isPayment, 1, (some .boolean))
theorem si_X9_isPayment : SiS m_X9_isPayment 1 := ⟨⟨(wA 6 (by decide +kernel) rfl), (wA 558 (by decide +kernel) rfl), ⟨by decide +kernel, by decide +kernel, by decide +kernel⟩, by decide⟩, (wA 557 (by decide +kernel) rfl)⟩
abbrev m_X9_isPrice : Ym := (yX9_isPrice, cX9_isPrice, 1, (some .boolean))
theorem si_X9_isPrice : SiS m_X9_isPrice 1 := ⟨⟨(wA 6 (by decide +kernel) rfl), (wA 642 (by decide +kernel) rfl), ⟨by decide +kernel, by decide +kernel, by decide +kernel⟩, by decide⟩, (wA 641 (by decide +kernel) rfl)⟩
abbrev m_X9_feeOf : Ym := (yX9_feeOf, cX9_feeOf, 1, (some .int))
theorem si_X9_feeOf : SiS m_X9_feeOf 1 := ⟨⟨(wA 6 (by decide +kernel) rfl), (wA 548 (by decide +kernel) rfl), ⟨by decide +kernel, by decide +kernel, by decide +kernel⟩, by decide⟩, (wA 547 (by decide +kernel) rfl)⟩
abbrev m_X9_dividedUp : Ym := (yX9_dividedUp, cX9_dividedUp, 2, (some .int))
theorem si_X9_dividedUp : SiS m_X9_dividedUp 2 := ⟨⟨(wA 6 (by decide +kernel) rfl), (wA 537 (by decide +kernel) rfl), ⟨by decide +kernel, by decide +kernel, by decide +kernel⟩, by decide⟩, (wA 536 (by decide +kernel) rfl)⟩
abbrev m_L_cell : Ym := (yL_cell, cL_cell, 2, (some .int))
set_option maxRecDepth 100000 in
theorem si_L_cell : SiS m_L_cell 2 := ⟨⟨(wA 5 (by decide +kernel) rfl), (wA 392 rfl rfl), ⟨by decide +kernel, by decide +kernel, by decide +kernel⟩, by decide⟩, (wA 391 (by decide +kernel) rfl)⟩
abbrev m_L_low : Ym := (yL_low, cL_low, 2, (some .int))
set_option maxRecDepth 100000 in
theorem si_L_low : SiS m_L_low 2 := ⟨⟨(wA 5 (by decide +kernel) rfl), (wA 396 rfl rfl), ⟨by decide +kernel, by decide +kernel, by decide +kernel⟩, by decide⟩, (wA 395 (by decide +kernel) rfl)⟩
abbrev m_L_fee : Ym := (yL_fee, cL_fee, 1, (some .int))
set_option maxRecDepth 100000 in
theorem si_L_fee : SiS m_L_fee 1 := ⟨⟨(wA 5 (by decide +kernel) rfl), (wA 503 rfl rfl), ⟨by decide +kernel, by decide +kernel, by decide +kernel⟩, by decide⟩, (wA 502 (by decide +kernel) rfl)⟩
abbrev m_L_principals : Ym := (yL_principals, cL_principals, 6, (some .int))
set_option maxRecDepth 100000 in
theorem si_L_principals : SiS m_L_principals 4 := ⟨⟨(wA 5 (by decide +kernel) rfl), (wA 403 rfl rfl), ⟨by decide +kernel, by decide +kernel, by decide +kernel⟩, by decide⟩, (wA 402 (by decide +kernel) rfl)⟩
abbrev m_L_share : Ym := (yL_share, cL_share, 10, none)
set_option maxRecDepth 100000 in
theorem si_L_share : SiS m_L_share 6 := ⟨⟨(wA 5 (by decide +kernel) rfl), (wA 624 rfl rfl), ⟨by decide +kernel, by decide +kernel, by decide +kernel⟩, by decide⟩, (wA 623 (by decide +kernel) rfl)⟩
abbrev m_L_repays : Ym := (yL_repays, cL_repays, 10, (some .int))
set_option maxRecDepth 100000 in
theorem si_L_repays : SiS m_L_repays 7 := ⟨⟨(wA 5 (by decide +kernel) rfl), (wA 627 rfl rfl), ⟨by decide +kernel, by decide +kernel, by decide +kernel⟩, by decide⟩, (wA 626 (by decide +kernel) rfl)⟩
abbrev m_L_areLoans : Ym := (yL_areLoans, cL_areLoans, 13, (some .boolean))
set_option maxRecDepth 100000 in
theorem si_L_areLoans : SiS m_L_areLoans 4 := ⟨⟨(wA 5 (by decide +kernel) rfl), (wA 400 rfl rfl), ⟨by decide +kernel, by decide +kernel, by decide +kernel⟩, by decide⟩, (wA 399 (by decide +kernel) rfl)⟩
abbrev m_L_areNotes : Ym := (yL_areNotes, cL_areNotes, 12, (some .boolean))
set_option maxRecDepth 100000 in
theorem si_L_areNotes : SiS m_L_areNotes 5 := ⟨⟨(wA 5 (by decide +kernel) rfl), (wA 456 rfl rfl), ⟨by decide +kernel, by decide +kernel, by decide +kernel⟩, by decide⟩, (wA 455 (by decide +kernel) rfl)⟩
abbrev m_L_isFunded : Ym := (yL_isFunded, cL_isFunded, 13, (some .boolean))
set_option maxRecDepth 100000 in
theorem si_L_isFunded : SiS m_L_isFunded 7 := ⟨⟨(wA 5 (by decide +kernel) rfl), (wA 506 rfl rfl), ⟨by decide +kernel, by decide +kernel, by decide +kernel⟩, by decide⟩, (wA 505 (by decide +kernel) rfl)⟩
abbrev m_L_isPaid : Ym := (yL_isPaid, cL_isPaid, 19, (some .boolean))
set_option maxRecDepth 100000 in
theorem si_L_isPaid : SiS m_L_isPaid 7 := ⟨⟨(wA 5 (by decide +kernel) rfl), (wA 540 rfl rfl), ⟨by decide +kernel, by decide +kernel, by decide +kernel⟩, by decide⟩, (wA 539 (by decide +kernel) rfl)⟩
abbrev m_L_isSold : Ym := (yL_isSold, cL_isSold, 12, (some .boolean))
set_option maxRecDepth 100000 in
theorem si_L_isSold : SiS m_L_isSold 7 := ⟨⟨(wA 5 (by decide +kernel) rfl), (wA 630 rfl rfl), ⟨by decide +kernel, by decide +kernel, by decide +kernel⟩, by decide⟩, (wA 629 (by decide +kernel) rfl)⟩
abbrev m_L_isMoved : Ym := (yL_isMoved, cL_isMoved, 10, (some .boolean))
set_option maxRecDepth 100000 in
theorem si_L_isMoved : SiS m_L_isMoved 6 := ⟨⟨(wA 5 (by decide +kernel) rfl), (wA 658 rfl rfl), ⟨by decide +kernel, by decide +kernel, by decide +kernel⟩, by decide⟩, (wA 657 (by decide +kernel) rfl)⟩
abbrev m_L_isGiven : Ym := (yL_isGiven, cL_isGiven, 10, (some .boolean))
set_option maxRecDepth 100000 in
theorem si_L_isGiven : SiS m_L_isGiven 6 := ⟨⟨(wA 5 (by decide +kernel) rfl), (wA 675 rfl rfl), ⟨by decide +kernel, by decide +kernel, by decide +kernel⟩, by decide⟩, (wA 674 (by decide +kernel) rfl)⟩
abbrev m_L_isPassed : Ym := (yL_isPassed, cL_isPassed, 7, (some .boolean))
set_option maxRecDepth 100000 in
theorem si_L_isPassed : SiS m_L_isPassed 4 := ⟨⟨(wA 5 (by decide +kernel) rfl), (wA 694 rfl rfl), ⟨by decide +kernel, by decide +kernel, by decide +kernel⟩, by decide⟩, (wA 693 (by decide +kernel) rfl)⟩
theorem lk_X2_22 : Cond.methodLink RX2 22 yX2_dropOldest ∈ wsA := (wA 354 (by decide +kernel) rfl)
theorem lk_X2_25 : Cond.methodLink RX2 25 yX5_copyFrom ∈ wsA := (wA 358 (by decide +kernel) rfl)
theorem lk_X4_45 : (RX4, 45, yX9_dividedUp, "PeerNotes") ∈ nsM := by decide +kernel
theorem lk_X4_49 : Cond.methodLink RX4 49 Lib.Math.min.name ∈ wsA := (wA 707 (by decide +kernel) rfl)
theorem lk_X4_54 : Cond.methodLink RX4 54 Lib.Math.max.name ∈ wsA := (wA 610 (by decide +kernel) rfl)
theorem lk_X4_57 : Cond.methodLink RX4 57 yX4_end ∈ wsA := (wA 613 (by decide +kernel) rfl)
theorem lk_X5_58 : Cond.methodLink RX5 58 yX3_copyFrom ∈ wsA := (wA 362 (by decide +kernel) rfl)
theorem lk_X5_62 : Cond.methodLink RX5 62 yX4_copyFrom ∈ wsA := (wA 366 (by decide +kernel) rfl)
theorem lk_X5_65 : Cond.methodLink RX5 65 yX6_copyFrom ∈ wsA := (wA 370 (by decide +kernel) rfl)
theorem lk_X5_68 : Cond.methodLink RX5 68 yX5_hasLoan ∈ wsA := (wA 416 (by decide +kernel) rfl)
theorem lk_X5_75 : Cond.methodLink RX5 75 yX5_hasInvestor ∈ wsA := (wA 515 (by decide +kernel) rfl)
theorem lk_X5_81 : Cond.constant RX5 81 (99999) ∈ wsA := (wA 516 (by decide +kernel) rfl)
theorem lk_X5_82 : Cond.methodLink RX5 82 yX5_missing ∈ wsA := (wA 517 (by decide +kernel) rfl)
theorem lk_X5_86 : Cond.methodLink RX5 86 yX5_fundingError ∈ wsA := (wA 522 (by decide +kernel) rfl)
theorem lk_X5_90 : Cond.methodLink RX5 90 yX6_open ∈ wsA := (wA 523 (by decide +kernel) rfl)
theorem lk_X5_94 : Cond.methodLink RX5 94 yX5_give ∈ wsA := (wA 527 (by decide +kernel) rfl)
theorem lk_X5_98 : Cond.methodLink RX5 98 yX4_start ∈ wsA := (wA 531 (by decide +kernel) rfl)
theorem lk_X5_104 : (RX5, 104, yX9_isServicer, "PeerNotes") ∈ nsM := by decide +kernel
theorem lk_X5_121 : Cond.methodLink RX5 121 yX4_takePayment ∈ wsA := (wA 606 (by decide +kernel) rfl)
theorem lk_X5_137 : Cond.methodLink RX5 137 yX5_runs ∈ wsA := (wA 497 (by decide +kernel) rfl)
theorem lk_X5_140 : Cond.methodLink RX5 140 yX4_passMonth ∈ wsA := (wA 703 (by decide +kernel) rfl)
theorem lk_X5_146 : Cond.methodLink RX5 146 yX5_principals ∈ wsA := (wA 417 (by decide +kernel) rfl)
theorem lk_X7_9 : Cond.methodLink RX7 9 yX5_runs ∈ wsA := (wA 564 (by decide +kernel) rfl)
theorem lk_X7_25 : (RX7, 25, yX9_feeOf, "PeerNotes") ∈ nsM := by decide +kernel
theorem lk_X7_40 : Cond.methodLink RX7 40 Lib.Math.min.name ∈ wsA := (wA 566 (by decide +kernel) rfl)
theorem lk_X7_56 : Cond.methodLink RX7 56 yX5_principals ∈ wsA := (wA 569 (by decide +kernel) rfl)
theorem lk_X8_21 : Cond.methodLink RX8 21 yX8_clear ∈ wsA := (wA 574 (by decide +kernel) rfl)
theorem lk_X8_24 : Cond.methodLink RX8 24 yX8_weighPrincipals ∈ wsA := (wA 578 (by decide +kernel) rfl)
theorem lk_X8_36 : Cond.methodLink RX8 36 yX8_shareOut ∈ wsA := (wA 582 (by decide +kernel) rfl)
theorem lk_X8_46 : Cond.methodLink RX8 46 yX8_shareByClass ∈ wsA := (wA 586 (by decide +kernel) rfl)
theorem lk_X8_50 : Cond.methodLink RX8 50 yX5_principals ∈ wsA := (wA 647 (by decide +kernel) rfl)
theorem lk_X8_56 : Cond.methodLink RX8 56 Lib.Math.min.name ∈ wsA := (wA 648 (by decide +kernel) rfl)
theorem lk_X8_64 : Cond.methodLink RX8 64 Lib.Math.max.name ∈ wsA := (wA 649 (by decide +kernel) rfl)
theorem lk_X8_91 : Cond.constantLong RX8 91 (2147483647) ∈ wsA := (wA 594 (by decide +kernel) rfl)
theorem lk_X8_96 : Cond.methodLink RX8 96 yX5_hasInvestor ∈ wsA := (wA 599 (by decide +kernel) rfl)
theorem lk_X8_101 : Cond.methodLink RX8 101 yX5_give ∈ wsA := (wA 600 (by decide +kernel) rfl)
theorem lk_X9_58 : Cond.methodLink RX9 58 yX2_record ∈ wsA := (wA 350 (by decide +kernel) rfl)
theorem lk_X9_66 : Cond.methodLink RX9 66 yX3_open ∈ wsA := (wA 374 (by decide +kernel) rfl)
theorem lk_X9_72 : Cond.methodLink RX9 72 yX5_hasInvestor ∈ wsA := (wA 469 (by decide +kernel) rfl)
theorem lk_X9_76 : Cond.constant RX9 76 (2147483647) ∈ wsA := (wA 671 (by decide +kernel) rfl)
theorem lk_X9_83 : Cond.constant RX9 83 (99999) ∈ wsA := (wA 382 (by decide +kernel) rfl)
theorem lk_X9_84 : Cond.methodLink RX9 84 yX9_isLoanMonths ∈ wsA := (wA 383 (by decide +kernel) rfl)
theorem lk_X9_94 : Cond.methodLink RX9 94 yX4_open ∈ wsA := (wA 386 (by decide +kernel) rfl)
theorem lk_X9_99 : Cond.methodLink RX9 99 yX5_fundingError ∈ wsA := (wA 511 (by decide +kernel) rfl)
theorem lk_X9_103 : Cond.methodLink RX9 103 yX5_addNote ∈ wsA := (wA 518 (by decide +kernel) rfl)
theorem lk_X9_107 : Cond.methodLink RX9 107 yX5_missing ∈ wsA := (wA 412 (by decide +kernel) rfl)
theorem lk_X9_111 : Cond.methodLink RX9 111 yX5_hasLoan ∈ wsA := (wA 408 (by decide +kernel) rfl)
theorem lk_X9_117 : Cond.methodLink RX9 117 yX5_principals ∈ wsA := (wA 425 (by decide +kernel) rfl)
theorem lk_X9_121 : Cond.methodLink RX9 121 yX8_ofGivingUp ∈ wsA := (wA 688 (by decide +kernel) rfl)
theorem lk_X9_125 : Cond.methodLink RX9 125 yX8_fits ∈ wsA := (wA 590 (by decide +kernel) rfl)
theorem lk_X9_129 : Cond.methodLink RX9 129 yX8_carryOut ∈ wsA := (wA 595 (by decide +kernel) rfl)
theorem lk_X9_132 : Cond.methodLink RX9 132 yX4_end ∈ wsA := (wA 650 (by decide +kernel) rfl)
theorem lk_X9_135 : Cond.methodLink RX9 135 yX9_isPayment ∈ wsA := (wA 556 (by decide +kernel) rfl)
theorem lk_X9_138 : Cond.methodLink RX9 138 yX7_areOf ∈ wsA := (wA 560 (by decide +kernel) rfl)
theorem lk_X9_142 : Cond.methodLink RX9 142 yX8_ofPayment ∈ wsA := (wA 570 (by decide +kernel) rfl)
theorem lk_X9_146 : Cond.methodLink RX9 146 yX5_takePayment ∈ wsA := (wA 601 (by decide +kernel) rfl)
theorem lk_X9_162 : Cond.methodLink RX9 162 yX9_dividedUp ∈ wsA := (wA 635 (by decide +kernel) rfl)
theorem lk_X9_168 : Cond.methodLink RX9 168 yX9_isPrice ∈ wsA := (wA 640 (by decide +kernel) rfl)
theorem lk_X9_171 : Cond.methodLink RX9 171 yX5_runs ∈ wsA := (wA 545 (by decide +kernel) rfl)
theorem lk_X9_174 : Cond.methodLink RX9 174 yX8_ofSale ∈ wsA := (wA 643 (by decide +kernel) rfl)
theorem lk_X9_181 : Cond.methodLink RX9 181 yX5_writeOff ∈ wsA := (wA 651 (by decide +kernel) rfl)
theorem lk_X9_184 : Cond.methodLink RX9 184 yX9_isServicer ∈ wsA := (wA 489 (by decide +kernel) rfl)
theorem lk_X9_193 : Cond.methodLink RX9 193 yX5_hasNote ∈ wsA := (wA 461 (by decide +kernel) rfl)
theorem lk_X9_208 : Cond.methodLink RX9 208 yX5_cashOf ∈ wsA := (wA 667 (by decide +kernel) rfl)
theorem lk_X9_211 : Cond.methodLink RX9 211 yX5_give ∈ wsA := (wA 672 (by decide +kernel) rfl)
theorem lk_X9_219 : Cond.methodLink RX9 219 yX5_passMonth ∈ wsA := (wA 699 (by decide +kernel) rfl)
theorem lk_X9_222 : Cond.methodLink RX9 222 yX5_loansInArrears ∈ wsA := (wA 446 (by decide +kernel) rfl)
theorem lk_X9_265 : Cond.methodLink RX9 265 yX5_principalsOf ∈ wsA := (wA 473 (by decide +kernel) rfl)
theorem lk_X9_268 : Cond.methodLink RX9 268 yX5_liveNotesOf ∈ wsA := (wA 477 (by decide +kernel) rfl)
theorem lk_X9_271 : Cond.methodLink RX9 271 yX5_loansOf ∈ wsA := (wA 481 (by decide +kernel) rfl)
theorem lk_X9_283 : Cond.methodLink RX9 283 yX5_notesFor ∈ wsA := (wA 421 (by decide +kernel) rfl)
theorem lk_X9_308 : Cond.methodLink RX9 308 yX9_feeOf ∈ wsA := (wA 546 (by decide +kernel) rfl)
theorem lk_X9_311 : Cond.constantLong RX9 311 (1000) ∈ wsA := (wA 549 (by decide +kernel) rfl)
theorem lk_X9_313 : Cond.fieldLink RX9 313 "PeerNotes" "FEES" "[I" ∈ wsA := (wA 492 (by decide +kernel) rfl)
theorem lk_X9_320 : Cond.methodLink RX9 320 yX5_loansServedBy ∈ wsA := (wA 493 (by decide +kernel) rfl)
theorem lk_X9_323 : Cond.methodLink RX9 323 yX5_loansInState ∈ wsA := (wA 430 (by decide +kernel) rfl)
theorem lk_X9_326 : Cond.methodLink RX9 326 yX5_allPrincipals ∈ wsA := (wA 434 (by decide +kernel) rfl)
theorem lk_X9_329 : Cond.methodLink RX9 329 yX5_allInterestDue ∈ wsA := (wA 438 (by decide +kernel) rfl)
theorem lk_X9_332 : Cond.methodLink RX9 332 yX5_allLosses ∈ wsA := (wA 442 (by decide +kernel) rfl)
theorem lk_X9_335 : Cond.methodLink RX9 335 yX5_ordersOfSwitches ∈ wsA := (wA 450 (by decide +kernel) rfl)
theorem lk_X9_338 : Cond.constant RX9 338 (199999) ∈ wsA := (wA 559 (by decide +kernel) rfl)
theorem lk_L_7 : Cond.constant RL 7 (1013904223) ∈ wsA := (wA 393 (by decide +kernel) rfl)
theorem lk_L_8 : Cond.constant RL 8 (2147483647) ∈ wsA := (wA 397 (by decide +kernel) rfl)
theorem lk_L_9 : Cond.methodLink RL 9 yL_principals ∈ wsA := (wA 401 (by decide +kernel) rfl)
theorem lk_L_15 : Cond.methodLink RL 15 yL_share ∈ wsA := (wA 622 (by decide +kernel) rfl)
theorem lk_L_19 : Cond.methodLink RL 19 yX9_loan ∈ wsA := (wA 404 (by decide +kernel) rfl)
theorem lk_L_25 : Cond.methodLink RL 25 yX9_count ∈ wsA := (wA 426 (by decide +kernel) rfl)
theorem lk_L_29 : Cond.methodLink RL 29 yX9_note ∈ wsA := (wA 457 (by decide +kernel) rfl)
theorem lk_L_32 : Cond.methodLink RL 32 yX9_investor ∈ wsA := (wA 465 (by decide +kernel) rfl)
theorem lk_L_35 : Cond.methodLink RL 35 yX9_servicer ∈ wsA := (wA 485 (by decide +kernel) rfl)
theorem lk_L_38 : Cond.methodLink RL 38 yL_fee ∈ wsA := (wA 501 (by decide +kernel) rfl)
theorem lk_L_41 : Cond.methodLink RL 41 yL_low ∈ wsA := (wA 394 (by decide +kernel) rfl)
theorem lk_L_44 : Cond.methodLink RL 44 yX9_fund ∈ wsA := (wA 507 (by decide +kernel) rfl)
theorem lk_L_48 : Cond.methodLink RL 48 yX9_toRepay ∈ wsA := (wA 541 (by decide +kernel) rfl)
theorem lk_L_51 : Cond.constantLong RL 51 (1000) ∈ wsA := (wA 550 (by decide +kernel) rfl)
theorem lk_L_53 : Cond.constant RL 53 (199999) ∈ wsA := (wA 551 (by decide +kernel) rfl)
theorem lk_L_54 : Cond.methodLink RL 54 yX9_pay ∈ wsA := (wA 552 (by decide +kernel) rfl)
theorem lk_L_57 : Cond.methodLink RL 57 yX9_split ∈ wsA := (wA 617 (by decide +kernel) rfl)
theorem lk_L_61 : Cond.constantLong RL 61 (100) ∈ wsA := (wA 621 (by decide +kernel) rfl)
theorem lk_L_63 : Cond.methodLink RL 63 yL_repays ∈ wsA := (wA 625 (by decide +kernel) rfl)
theorem lk_L_67 : Cond.methodLink RL 67 yX9_cure ∈ wsA := (wA 631 (by decide +kernel) rfl)
theorem lk_L_70 : Cond.methodLink RL 70 yX9_sell ∈ wsA := (wA 636 (by decide +kernel) rfl)
theorem lk_L_73 : Cond.constant RL 73 (100000) ∈ wsA := (wA 655 (by decide +kernel) rfl)
theorem lk_L_74 : Cond.methodLink RL 74 yX9_switchServicer ∈ wsA := (wA 659 (by decide +kernel) rfl)
theorem lk_L_77 : Cond.methodLink RL 77 yX9_sellNote ∈ wsA := (wA 663 (by decide +kernel) rfl)
theorem lk_L_80 : Cond.methodLink RL 80 yX9_setPoolShare ∈ wsA := (wA 676 (by decide +kernel) rfl)
theorem lk_L_83 : Cond.methodLink RL 83 yX9_deposit ∈ wsA := (wA 680 (by decide +kernel) rfl)
theorem lk_L_86 : Cond.methodLink RL 86 yX9_giveUp ∈ wsA := (wA 684 (by decide +kernel) rfl)
theorem lk_L_89 : Cond.methodLink RL 89 yX9_pass ∈ wsA := (wA 695 (by decide +kernel) rfl)
theorem lk_L_93 : Cond.methodLink RL 93 yL_cell ∈ wsA := (wA 390 (by decide +kernel) rfl)
theorem lk_L_97 : Cond.methodLink RL 97 yX9_addInvestor ∈ wsA := (wA 346 (by decide +kernel) rfl)
theorem lk_L_100 : Cond.methodLink RL 100 yX9_openLoan ∈ wsA := (wA 378 (by decide +kernel) rfl)
theorem lk_L_103 : Cond.methodLink RL 103 yL_isFunded ∈ wsA := (wA 504 (by decide +kernel) rfl)
theorem lk_L_107 : Cond.methodLink RL 107 yL_isPaid ∈ wsA := (wA 538 (by decide +kernel) rfl)
theorem lk_L_110 : Cond.methodLink RL 110 yL_isSold ∈ wsA := (wA 628 (by decide +kernel) rfl)
theorem lk_L_113 : Cond.methodLink RL 113 yL_isMoved ∈ wsA := (wA 656 (by decide +kernel) rfl)
theorem lk_L_117 : Cond.methodLink RL 117 yL_isGiven ∈ wsA := (wA 673 (by decide +kernel) rfl)
theorem lk_L_120 : Cond.methodLink RL 120 yL_isPassed ∈ wsA := (wA 692 (by decide +kernel) rfl)
theorem lk_L_124 : Cond.methodLink RL 124 yL_areLoans ∈ wsA := (wA 398 (by decide +kernel) rfl)
theorem lk_L_128 : Cond.methodLink RL 128 yL_areNotes ∈ wsA := (wA 454 (by decide +kernel) rfl)
theorem mm_min1 : Cond.static Lib.Math.min.name ∈ wsA := (wA 567 (by decide +kernel) rfl)
theorem mm_min3 : Cond.code Lib.Math.min.name Lib.Math.min.code 2 (some .int) ∈ wsA := (wA 568 (by decide +kernel) rfl)
theorem mm_max1 : Cond.static Lib.Math.max.name ∈ wsA := (wA 611 (by decide +kernel) rfl)
theorem mm_max3 : Cond.code Lib.Math.max.name Lib.Math.max.code 2 (some .int) ∈ wsA := (wA 612 (by decide +kernel) rfl)
theorem mm_2 : Cond.initialized "java/lang/Math" ∈ wsA := (wA 16 (by decide +kernel) rfl)
end
section
theorem v_tcase {R : Type} {p : Prop} [Decidable p] {A B : Option R} {res : R} {T : Prop} (h : (if p then A else B) = some res) (ht : p → A = some res → T) (hf : ¬ p → B = some res → T) : T := by
  by_cases hp : p
  · rw [if_pos hp] at h
    exact ht hp h
  · rw [if_neg hp] at h
    exact hf hp h
/-- a store gets a name -/
def lt {α : Type} (x : Sto) (k : Sto → Option α) : Option α := k x
theorem v_lt {X : Cx} {G : Gm} {mc ms : Nat} {Q : State → Prop} {pc : Nat} {lc : List (Option Value)} {st : List Value} {R : Type} {x : Sto} {k : Sto → Option R} {res : R} (h : lt x k = some res) (kk : ∀ s : Sto, k s = some res → V X G mc ms Q s pc lc st) : V X G mc ms Q x pc lc st := kk x h
end
